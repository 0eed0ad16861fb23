section INI
variable {XL : Nat} {xs : Nat → Int32}
set_option maxRecDepth 100000
theorem in_c62 (n d : Nat) : mm_run XL xs (n + 300) (d + 2) 67 (in_mI61, in_mL61, in_mR61, 253, 253, 4914) 0 [(0, .ref 252)] [] = some (none, (in_mI62, in_mL62, in_mR62, 265, 265, 5150)) := rfl
theorem in_h61_55_0 : in_mR61 55 0 = some 56 := in_sk (l := in_r61) in_h60_55_0 (by decide)
theorem in_h62_55_0 : in_mR62 55 0 = some 56 := in_sk (l := in_r62) in_h61_55_0 (by decide)
theorem in_h63_55_0 : in_mR63 55 0 = some 56 := in_sk (l := in_r63) in_h62_55_0 (by decide)
theorem in_c65 (n d : Nat) : mm_run XL xs (n + 300) (d + 2) 67 (in_mI64, in_mL64, in_mR64, 266, 266, 5158) 0 [(0, .ref 265)] [] = some (none, (in_mI65, in_mL65, in_mR65, 278, 278, 5394)) := rfl
theorem in_h64_55_0 : in_mR64 55 0 = some 56 := in_sk (l := in_r64) in_h63_55_0 (by decide)
theorem in_h65_55_0 : in_mR65 55 0 = some 56 := in_sk (l := in_r65) in_h64_55_0 (by decide)
theorem in_h66_55_0 : in_mR66 55 0 = some 56 := in_sk (l := in_r66) in_h65_55_0 (by decide)
theorem in_c68 (n d : Nat) : mm_run XL xs (n + 300) (d + 2) 67 (in_mI67, in_mL67, in_mR67, 279, 279, 5402) 0 [(0, .ref 278)] [] = some (none, (in_mI68, in_mL68, in_mR68, 291, 291, 5638)) := rfl
theorem in_h67_55_0 : in_mR67 55 0 = some 56 := in_sk (l := in_r67) in_h66_55_0 (by decide)
theorem in_h68_55_0 : in_mR68 55 0 = some 56 := in_sk (l := in_r68) in_h67_55_0 (by decide)
theorem in_h69_55_0 : in_mR69 55 0 = some 56 := in_sk (l := in_r69) in_h68_55_0 (by decide)
theorem in_c71 (n d : Nat) : mm_run XL xs (n + 300) (d + 2) 67 (in_mI70, in_mL70, in_mR70, 292, 292, 5646) 0 [(0, .ref 291)] [] = some (none, (in_mI71, in_mL71, in_mR71, 304, 304, 5882)) := rfl
theorem in_h70_55_0 : in_mR70 55 0 = some 56 := in_sk (l := in_r70) in_h69_55_0 (by decide)
theorem in_h71_55_0 : in_mR71 55 0 = some 56 := in_sk (l := in_r71) in_h70_55_0 (by decide)
theorem in_h72_55_0 : in_mR72 55 0 = some 56 := in_sk (l := in_r72) in_h71_55_0 (by decide)
theorem in_c74 (n d : Nat) : mm_run XL xs (n + 300) (d + 2) 67 (in_mI73, in_mL73, in_mR73, 305, 305, 5890) 0 [(0, .ref 304)] [] = some (none, (in_mI74, in_mL74, in_mR74, 317, 317, 6126)) := rfl
theorem in_h73_55_0 : in_mR73 55 0 = some 56 := in_sk (l := in_r73) in_h72_55_0 (by decide)
theorem in_h74_55_0 : in_mR74 55 0 = some 56 := in_sk (l := in_r74) in_h73_55_0 (by decide)
theorem in_h75_55_0 : in_mR75 55 0 = some 56 := in_sk (l := in_r75) in_h74_55_0 (by decide)
theorem in_c77 (n d : Nat) : mm_run XL xs (n + 300) (d + 2) 67 (in_mI76, in_mL76, in_mR76, 318, 318, 6134) 0 [(0, .ref 317)] [] = some (none, (in_mI77, in_mL77, in_mR77, 330, 330, 6370)) := rfl
theorem in_h76_55_0 : in_mR76 55 0 = some 56 := in_sk (l := in_r76) in_h75_55_0 (by decide)
theorem in_h77_55_0 : in_mR77 55 0 = some 56 := in_sk (l := in_r77) in_h76_55_0 (by decide)
theorem in_h78_55_0 : in_mR78 55 0 = some 56 := in_sk (l := in_r78) in_h77_55_0 (by decide)
theorem in_c80 (n d : Nat) : mm_run XL xs (n + 300) (d + 2) 67 (in_mI79, in_mL79, in_mR79, 331, 331, 6378) 0 [(0, .ref 330)] [] = some (none, (in_mI80, in_mL80, in_mR80, 343, 343, 6614)) := rfl
theorem in_h79_55_0 : in_mR79 55 0 = some 56 := in_sk (l := in_r79) in_h78_55_0 (by decide)
theorem in_h80_55_0 : in_mR80 55 0 = some 56 := in_sk (l := in_r80) in_h79_55_0 (by decide)
theorem in_h81_55_0 : in_mR81 55 0 = some 56 := in_sk (l := in_r81) in_h80_55_0 (by decide)
end INI
