section INI
variable {XL : Nat} {xs : Nat → Int32}
set_option maxRecDepth 100000
theorem in_c125 (n d : Nat) : mm_run XL xs (n + 300) (d + 2) 67 (in_mI124, in_mL124, in_mR124, 526, 526, 10038) 0 [(0, .ref 525)] [] = some (none, (in_mI125, in_mL125, in_mR125, 538, 538, 10274)) := rfl
theorem in_h124_55_0 : in_mR124 55 0 = some 56 := in_sk (l := in_r124) in_h123_55_0 (by decide)
theorem in_h125_55_0 : in_mR125 55 0 = some 56 := in_sk (l := in_r125) in_h124_55_0 (by decide)
theorem in_h126_55_0 : in_mR126 55 0 = some 56 := in_sk (l := in_r126) in_h125_55_0 (by decide)
theorem in_c128 (n d : Nat) : mm_run XL xs (n + 300) (d + 2) 67 (in_mI127, in_mL127, in_mR127, 539, 539, 10282) 0 [(0, .ref 538)] [] = some (none, (in_mI128, in_mL128, in_mR128, 551, 551, 10518)) := rfl
theorem in_h127_55_0 : in_mR127 55 0 = some 56 := in_sk (l := in_r127) in_h126_55_0 (by decide)
theorem in_h128_55_0 : in_mR128 55 0 = some 56 := in_sk (l := in_r128) in_h127_55_0 (by decide)
theorem in_h129_55_0 : in_mR129 55 0 = some 56 := in_sk (l := in_r129) in_h128_55_0 (by decide)
theorem in_c131 (n d : Nat) : mm_run XL xs (n + 300) (d + 2) 67 (in_mI130, in_mL130, in_mR130, 552, 552, 10526) 0 [(0, .ref 551)] [] = some (none, (in_mI131, in_mL131, in_mR131, 564, 564, 10762)) := rfl
theorem in_h130_55_0 : in_mR130 55 0 = some 56 := in_sk (l := in_r130) in_h129_55_0 (by decide)
theorem in_h131_55_0 : in_mR131 55 0 = some 56 := in_sk (l := in_r131) in_h130_55_0 (by decide)
theorem in_h132_55_0 : in_mR132 55 0 = some 56 := in_sk (l := in_r132) in_h131_55_0 (by decide)
theorem in_c134 (n d : Nat) : mm_run XL xs (n + 300) (d + 2) 67 (in_mI133, in_mL133, in_mR133, 565, 565, 10770) 0 [(0, .ref 564)] [] = some (none, (in_mI134, in_mL134, in_mR134, 577, 577, 11006)) := rfl
theorem in_h133_55_0 : in_mR133 55 0 = some 56 := in_sk (l := in_r133) in_h132_55_0 (by decide)
theorem in_h134_55_0 : in_mR134 55 0 = some 56 := in_sk (l := in_r134) in_h133_55_0 (by decide)
theorem in_h135_55_0 : in_mR135 55 0 = some 56 := in_sk (l := in_r135) in_h134_55_0 (by decide)
end INI
