section INI
variable {XL : Nat} {xs : Nat → Int32}
set_option maxRecDepth 100000
theorem in_c41 (n d : Nat) : mm_run XL xs (n + 300) (d + 2) 67 (in_mI40, in_mL40, in_mR40, 162, 162, 3206) 0 [(0, .ref 161)] [] = some (none, (in_mI41, in_mL41, in_mR41, 174, 174, 3442)) := rfl
theorem in_h40_55_0 : in_mR40 55 0 = some 56 := in_sk (l := in_r40) in_h39_55_0 (by decide)
theorem in_h41_55_0 : in_mR41 55 0 = some 56 := in_sk (l := in_r41) in_h40_55_0 (by decide)
theorem in_h42_55_0 : in_mR42 55 0 = some 56 := in_sk (l := in_r42) in_h41_55_0 (by decide)
theorem in_c44 (n d : Nat) : mm_run XL xs (n + 300) (d + 2) 67 (in_mI43, in_mL43, in_mR43, 175, 175, 3450) 0 [(0, .ref 174)] [] = some (none, (in_mI44, in_mL44, in_mR44, 187, 187, 3686)) := rfl
theorem in_h43_55_0 : in_mR43 55 0 = some 56 := in_sk (l := in_r43) in_h42_55_0 (by decide)
theorem in_h44_55_0 : in_mR44 55 0 = some 56 := in_sk (l := in_r44) in_h43_55_0 (by decide)
theorem in_h45_55_0 : in_mR45 55 0 = some 56 := in_sk (l := in_r45) in_h44_55_0 (by decide)
theorem in_c47 (n d : Nat) : mm_run XL xs (n + 300) (d + 2) 67 (in_mI46, in_mL46, in_mR46, 188, 188, 3694) 0 [(0, .ref 187)] [] = some (none, (in_mI47, in_mL47, in_mR47, 200, 200, 3930)) := rfl
theorem in_h46_55_0 : in_mR46 55 0 = some 56 := in_sk (l := in_r46) in_h45_55_0 (by decide)
theorem in_h47_55_0 : in_mR47 55 0 = some 56 := in_sk (l := in_r47) in_h46_55_0 (by decide)
theorem in_h48_55_0 : in_mR48 55 0 = some 56 := in_sk (l := in_r48) in_h47_55_0 (by decide)
theorem in_c50 (n d : Nat) : mm_run XL xs (n + 300) (d + 2) 67 (in_mI49, in_mL49, in_mR49, 201, 201, 3938) 0 [(0, .ref 200)] [] = some (none, (in_mI50, in_mL50, in_mR50, 213, 213, 4174)) := rfl
theorem in_h49_55_0 : in_mR49 55 0 = some 56 := in_sk (l := in_r49) in_h48_55_0 (by decide)
theorem in_h50_55_0 : in_mR50 55 0 = some 56 := in_sk (l := in_r50) in_h49_55_0 (by decide)
theorem in_h51_55_0 : in_mR51 55 0 = some 56 := in_sk (l := in_r51) in_h50_55_0 (by decide)
theorem in_c53 (n d : Nat) : mm_run XL xs (n + 300) (d + 2) 67 (in_mI52, in_mL52, in_mR52, 214, 214, 4182) 0 [(0, .ref 213)] [] = some (none, (in_mI53, in_mL53, in_mR53, 226, 226, 4418)) := rfl
theorem in_h52_55_0 : in_mR52 55 0 = some 56 := in_sk (l := in_r52) in_h51_55_0 (by decide)
theorem in_h53_55_0 : in_mR53 55 0 = some 56 := in_sk (l := in_r53) in_h52_55_0 (by decide)
theorem in_h54_55_0 : in_mR54 55 0 = some 56 := in_sk (l := in_r54) in_h53_55_0 (by decide)
theorem in_c56 (n d : Nat) : mm_run XL xs (n + 300) (d + 2) 67 (in_mI55, in_mL55, in_mR55, 227, 227, 4426) 0 [(0, .ref 226)] [] = some (none, (in_mI56, in_mL56, in_mR56, 239, 239, 4662)) := rfl
theorem in_h55_55_0 : in_mR55 55 0 = some 56 := in_sk (l := in_r55) in_h54_55_0 (by decide)
theorem in_h56_55_0 : in_mR56 55 0 = some 56 := in_sk (l := in_r56) in_h55_55_0 (by decide)
theorem in_h57_55_0 : in_mR57 55 0 = some 56 := in_sk (l := in_r57) in_h56_55_0 (by decide)
theorem in_c59 (n d : Nat) : mm_run XL xs (n + 300) (d + 2) 67 (in_mI58, in_mL58, in_mR58, 240, 240, 4670) 0 [(0, .ref 239)] [] = some (none, (in_mI59, in_mL59, in_mR59, 252, 252, 4906)) := rfl
theorem in_h58_55_0 : in_mR58 55 0 = some 56 := in_sk (l := in_r58) in_h57_55_0 (by decide)
theorem in_h59_55_0 : in_mR59 55 0 = some 56 := in_sk (l := in_r59) in_h58_55_0 (by decide)
theorem in_h60_55_0 : in_mR60 55 0 = some 56 := in_sk (l := in_r60) in_h59_55_0 (by decide)
end INI
