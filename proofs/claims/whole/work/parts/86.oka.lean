set_option maxRecDepth 100000 in
theorem zok_0 : zokM 0 = true := by decide +kernel
set_option maxRecDepth 100000 in
theorem zok_1 : zokM 1 = true := by decide +kernel
set_option maxRecDepth 100000 in
theorem zok_2 : zokM 2 = true := by decide +kernel
set_option maxRecDepth 100000 in
theorem zok_3 : zokM 3 = true := by decide +kernel
set_option maxRecDepth 100000 in
theorem zok_4 : zokM 4 = true := by decide +kernel
set_option maxRecDepth 100000 in
theorem zok_5 : zokM 5 = true := by decide +kernel
set_option maxRecDepth 100000 in
theorem zok_6 : zokM 6 = true := by decide +kernel
set_option maxRecDepth 100000 in
theorem zok_7 : zokM 7 = true := by decide +kernel
set_option maxRecDepth 100000 in
theorem zok_8 : zokM 8 = true := by decide +kernel
set_option maxRecDepth 100000 in
theorem zok_9 : zokM 9 = true := by decide +kernel
set_option maxRecDepth 100000 in
theorem zok_10 : zokM 10 = true := by decide +kernel
set_option maxRecDepth 100000 in
theorem zok_11 : zokM 11 = true := by decide +kernel
set_option maxRecDepth 100000 in
theorem zok_12 : zokM 12 = true := by decide +kernel
set_option maxRecDepth 100000 in
theorem zok_13 : zokM 13 = true := by decide +kernel
set_option maxRecDepth 100000 in
theorem zok_14 : zokM 14 = true := by decide +kernel
set_option maxRecDepth 100000 in
theorem zok_15 : zokM 15 = true := by decide +kernel
set_option maxRecDepth 100000 in
theorem zok_16 : zokM 16 = true := by decide +kernel
set_option maxRecDepth 100000 in
theorem zok_17 : zokM 17 = true := by decide +kernel
set_option maxRecDepth 100000 in
theorem zok_18 : zokM 18 = true := by decide +kernel
set_option maxRecDepth 100000 in
theorem zok_19 : zokM 19 = true := by decide +kernel
set_option maxRecDepth 100000 in
theorem zok_20 : zokM 20 = true := by decide +kernel
set_option maxRecDepth 100000 in
theorem zok_21 : zokM 21 = true := by decide +kernel
set_option maxRecDepth 100000 in
theorem zok_22 : zokM 22 = true := by decide +kernel
set_option maxRecDepth 100000 in
theorem zok_23 : zokM 23 = true := by decide +kernel
set_option maxRecDepth 100000 in
theorem zok_24 : zokM 24 = true := by decide +kernel
set_option maxRecDepth 100000 in
theorem zok_25 : zokM 25 = true := by decide +kernel
set_option maxRecDepth 100000 in
theorem zok_26 : zokM 26 = true := by decide +kernel
set_option maxRecDepth 100000 in
theorem zok_27 : zokM 27 = true := by decide +kernel
set_option maxRecDepth 100000 in
theorem zok_28 : zokM 28 = true := by decide +kernel
set_option maxRecDepth 100000 in
theorem zok_29 : zokM 29 = true := by decide +kernel
set_option maxRecDepth 100000 in
theorem zok_30 : zokM 30 = true := by decide +kernel
set_option maxRecDepth 100000 in
theorem zok_31 : zokM 31 = true := by decide +kernel
set_option maxRecDepth 100000 in
theorem zok_32 : zokM 32 = true := by decide +kernel
set_option maxRecDepth 100000 in
theorem zok_33 : zokM 33 = true := by decide +kernel
set_option maxRecDepth 100000 in
theorem zok_34 : zokM 34 = true := by decide +kernel
set_option maxRecDepth 100000 in
theorem zok_35 : zokM 35 = true := by decide +kernel
set_option maxRecDepth 100000 in
theorem zok_36 : zokM 36 = true := by decide +kernel
set_option maxRecDepth 100000 in
theorem zok_37 : zokM 37 = true := by decide +kernel
set_option maxRecDepth 100000 in
theorem zok_38 : zokM 38 = true := by decide +kernel
set_option maxRecDepth 100000 in
theorem zok_39 : zokM 39 = true := by decide +kernel
set_option maxRecDepth 100000 in
theorem zok_40 : zokM 40 = true := by decide +kernel
