section INI
variable {XL : Nat} {xs : Nat → Int32}
set_option maxRecDepth 100000
theorem in_c3 (n d : Nat) : mm_run XL xs (n + 300) (d + 2) 76 (in_mI2, in_mL2, in_mR2, 2, 2, 23) 0 [(0, .ref 1)] [] = some (none, (in_mI3, in_mL3, in_mR3, 3, 3, 263)) := rfl
theorem in_c5 (n d : Nat) : mm_run XL xs (n + 300) (d + 2) 2 (in_mI4, in_mL4, in_mR4, 4, 4, 273) 0 [(0, .ref 3)] [] = some (none, (in_mI5, in_mL5, in_mR5, 14, 14, 333)) := rfl
theorem in_c7 (n d : Nat) : mm_run XL xs (n + 300) (d + 2) 2 (in_mI6, in_mL6, in_mR6, 15, 15, 343) 0 [(0, .ref 14)] [] = some (none, (in_mI7, in_mL7, in_mR7, 25, 25, 403)) := rfl
theorem in_c9 (n d : Nat) : mm_run XL xs (n + 300) (d + 2) 16 (in_mI8, in_mL8, in_mR8, 26, 26, 407) 0 [(0, .ref 25)] [] = some (none, (in_mI9, in_mL9, in_mR9, 28, 28, 711)) := rfl
theorem in_c11 (n d : Nat) : mm_run XL xs (n + 300) (d + 2) 67 (in_mI10, in_mL10, in_mR10, 30, 30, 723) 0 [(0, .ref 29)] [] = some (none, (in_mI11, in_mL11, in_mR11, 42, 42, 959)) := rfl
theorem in_c13 (n d : Nat) : mm_run XL xs (n + 300) (d + 2) 67 (in_mI12, in_mL12, in_mR12, 43, 43, 967) 0 [(0, .ref 42)] [] = some (none, (in_mI13, in_mL13, in_mR13, 55, 55, 1203)) := rfl
theorem in_h15_55_0 : in_mR15 55 0 = some 56 := rfl
theorem in_c17 (n d : Nat) : mm_run XL xs (n + 300) (d + 2) 67 (in_mI16, in_mL16, in_mR16, 58, 58, 1254) 0 [(0, .ref 57)] [] = some (none, (in_mI17, in_mL17, in_mR17, 70, 70, 1490)) := rfl
theorem in_h16_55_0 : in_mR16 55 0 = some 56 := in_sk (l := in_r16) in_h15_55_0 (by decide)
theorem in_h17_55_0 : in_mR17 55 0 = some 56 := in_sk (l := in_r17) in_h16_55_0 (by decide)
theorem in_h18_55_0 : in_mR18 55 0 = some 56 := in_sk (l := in_r18) in_h17_55_0 (by decide)
end INI
