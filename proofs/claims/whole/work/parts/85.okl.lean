set_option maxRecDepth 100000 in
theorem zokl_0 : zokC 205 0 50 = true := by decide +kernel
set_option maxRecDepth 100000 in
theorem zokl_1 : zokC 205 50 50 = true := by decide +kernel
set_option maxRecDepth 100000 in
theorem zokl_2 : zokC 205 100 50 = true := by decide +kernel
set_option maxRecDepth 100000 in
theorem zokl_3 : zokC 205 150 50 = true := by decide +kernel
set_option maxRecDepth 100000 in
theorem zokl_4 : zokC 205 200 50 = true := by decide +kernel
set_option maxRecDepth 100000 in
theorem zokl_5 : zokC 205 250 50 = true := by decide +kernel
set_option maxRecDepth 100000 in
theorem zokl_6 : zokC 205 300 50 = true := by decide +kernel
set_option maxRecDepth 100000 in
theorem zokl_7 : zokC 205 350 50 = true := by decide +kernel
set_option maxRecDepth 100000 in
theorem zokl_8 : zokC 205 400 50 = true := by decide +kernel
set_option maxRecDepth 100000 in
theorem zokl_9 : zokC 205 450 50 = true := by decide +kernel
set_option maxRecDepth 100000 in
theorem zokl_10 : zokC 205 500 50 = true := by decide +kernel
set_option maxRecDepth 100000 in
theorem zokl_11 : zokC 205 550 50 = true := by decide +kernel
set_option maxRecDepth 100000 in
theorem zokl_12 : zokC 205 600 50 = true := by decide +kernel
set_option maxRecDepth 100000 in
theorem zokl_13 : zokC 205 650 50 = true := by decide +kernel
set_option maxRecDepth 100000 in
theorem zokl_14 : zokC 205 700 50 = true := by decide +kernel
set_option maxRecDepth 100000 in
theorem zokl_15 : zokC 205 750 50 = true := by decide +kernel
set_option maxRecDepth 100000 in
theorem zokl_16 : zokC 205 800 50 = true := by decide +kernel
set_option maxRecDepth 100000 in
theorem zokl_17 : zokC 205 850 50 = true := by decide +kernel
set_option maxRecDepth 100000 in
theorem zokl_18 : zokC 205 900 50 = true := by decide +kernel
set_option maxRecDepth 100000 in
theorem zokl_19 : zokC 205 950 50 = true := by decide +kernel
set_option maxRecDepth 100000 in
theorem zokl_20 : zokC 205 1000 50 = true := by decide +kernel
set_option maxRecDepth 100000 in
theorem zokl_n : plainName "BankStoreLaw" = true ∧ ((zT 205).length ≤ 1050 ∧ (zT 205).length = (zHs.getD 205 []).length) ∧ znx (zT 205) 0 0 = true := by decide +kernel
