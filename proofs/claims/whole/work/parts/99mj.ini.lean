section INI
variable {XL : Nat} {xs : Nat → Int32}
set_option maxRecDepth 100000
theorem in_c155 (n d : Nat) : mm_run XL xs (n + 300) (d + 2) 16 (in_mI154, in_mL154, in_mR154, 604, 604, 16488) 0 [(0, .ref 603)] [] = some (none, (in_mI155, in_mL155, in_mR155, 606, 606, 16792)) := rfl
theorem in_h154_0_4 : in_mR154 0 4 = some 28 := in_sk2 (l := in_r154) in_h153_0_4 (by decide)
theorem in_h155_0_4 : in_mR155 0 4 = some 28 := in_sk2 (l := in_r155) in_h154_0_4 (by decide)
theorem in_h156_0_4 : in_mR156 0 4 = some 28 := in_sk2 (l := in_r156) in_h155_0_4 (by decide)
end INI
