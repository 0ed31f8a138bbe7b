set_option maxRecDepth 100000 in
theorem zok_41 : zokM 41 = true := by decide +kernel
set_option maxRecDepth 100000 in
theorem zok_42 : zokM 42 = true := by decide +kernel
set_option maxRecDepth 100000 in
theorem zok_43 : zokM 43 = true := by decide +kernel
set_option maxRecDepth 100000 in
theorem zok_44 : zokM 44 = true := by decide +kernel
set_option maxRecDepth 100000 in
theorem zok_45 : zokM 45 = true := by decide +kernel
set_option maxRecDepth 100000 in
theorem zok_46 : zokM 46 = true := by decide +kernel
set_option maxRecDepth 100000 in
theorem zok_47 : zokM 47 = true := by decide +kernel
set_option maxRecDepth 100000 in
theorem zok_48 : zokM 48 = true := by decide +kernel
set_option maxRecDepth 100000 in
theorem zok_49 : zokM 49 = true := by decide +kernel
set_option maxRecDepth 100000 in
theorem zok_50 : zokM 50 = true := by decide +kernel
set_option maxRecDepth 100000 in
theorem zok_51 : zokM 51 = true := by decide +kernel
set_option maxRecDepth 100000 in
theorem zok_52 : zokM 52 = true := by decide +kernel
set_option maxRecDepth 100000 in
theorem zok_53 : zokM 53 = true := by decide +kernel
set_option maxRecDepth 100000 in
theorem zok_54 : zokM 54 = true := by decide +kernel
set_option maxRecDepth 100000 in
theorem zok_55 : zokM 55 = true := by decide +kernel
set_option maxRecDepth 100000 in
theorem zok_56 : zokM 56 = true := by decide +kernel
set_option maxRecDepth 100000 in
theorem zok_57 : zokM 57 = true := by decide +kernel
set_option maxRecDepth 100000 in
theorem zok_58 : zokM 58 = true := by decide +kernel
set_option maxRecDepth 100000 in
theorem zok_59 : zokM 59 = true := by decide +kernel
set_option maxRecDepth 100000 in
theorem zok_60 : zokM 60 = true := by decide +kernel
set_option maxRecDepth 100000 in
theorem zok_61 : zokM 61 = true := by decide +kernel
set_option maxRecDepth 100000 in
theorem zok_62 : zokM 62 = true := by decide +kernel
set_option maxRecDepth 100000 in
theorem zok_63 : zokM 63 = true := by decide +kernel
set_option maxRecDepth 100000 in
theorem zok_64 : zokM 64 = true := by decide +kernel
set_option maxRecDepth 100000 in
theorem zok_65 : zokM 65 = true := by decide +kernel
set_option maxRecDepth 100000 in
theorem zok_66 : zokM 66 = true := by decide +kernel
set_option maxRecDepth 100000 in
theorem zok_67 : zokM 67 = true := by decide +kernel
set_option maxRecDepth 100000 in
theorem zok_68 : zokM 68 = true := by decide +kernel
set_option maxRecDepth 100000 in
theorem zok_69 : zokM 69 = true := by decide +kernel
set_option maxRecDepth 100000 in
theorem zok_70 : zokM 70 = true := by decide +kernel
set_option maxRecDepth 100000 in
theorem zok_71 : zokM 71 = true := by decide +kernel
set_option maxRecDepth 100000 in
theorem zok_72 : zokM 72 = true := by decide +kernel
set_option maxRecDepth 100000 in
theorem zok_73 : zokM 73 = true := by decide +kernel
set_option maxRecDepth 100000 in
theorem zok_74 : zokM 74 = true := by decide +kernel
set_option maxRecDepth 100000 in
theorem zok_75 : zokM 75 = true := by decide +kernel
set_option maxRecDepth 100000 in
theorem zok_76 : zokM 76 = true := by decide +kernel
set_option maxRecDepth 100000 in
theorem zok_77 : zokM 77 = true := by decide +kernel
set_option maxRecDepth 100000 in
theorem zok_78 : zokM 78 = true := by decide +kernel
set_option maxRecDepth 100000 in
theorem zok_79 : zokM 79 = true := by decide +kernel
set_option maxRecDepth 100000 in
theorem zok_80 : zokM 80 = true := by decide +kernel
set_option maxRecDepth 100000 in
theorem zok_81 : zokM 81 = true := by decide +kernel
