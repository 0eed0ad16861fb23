section INI
variable {XL : Nat} {xs : Nat → Int32}
set_option maxRecDepth 100000
theorem in_c83 (n d : Nat) : mm_run XL xs (n + 300) (d + 2) 67 (in_mI82, in_mL82, in_mR82, 344, 344, 6622) 0 [(0, .ref 343)] [] = some (none, (in_mI83, in_mL83, in_mR83, 356, 356, 6858)) := rfl
theorem in_h82_55_0 : in_mR82 55 0 = some 56 := in_sk (l := in_r82) in_h81_55_0 (by decide)
theorem in_h83_55_0 : in_mR83 55 0 = some 56 := in_sk (l := in_r83) in_h82_55_0 (by decide)
theorem in_h84_55_0 : in_mR84 55 0 = some 56 := in_sk (l := in_r84) in_h83_55_0 (by decide)
theorem in_c86 (n d : Nat) : mm_run XL xs (n + 300) (d + 2) 67 (in_mI85, in_mL85, in_mR85, 357, 357, 6866) 0 [(0, .ref 356)] [] = some (none, (in_mI86, in_mL86, in_mR86, 369, 369, 7102)) := rfl
theorem in_h85_55_0 : in_mR85 55 0 = some 56 := in_sk (l := in_r85) in_h84_55_0 (by decide)
theorem in_h86_55_0 : in_mR86 55 0 = some 56 := in_sk (l := in_r86) in_h85_55_0 (by decide)
theorem in_h87_55_0 : in_mR87 55 0 = some 56 := in_sk (l := in_r87) in_h86_55_0 (by decide)
theorem in_c89 (n d : Nat) : mm_run XL xs (n + 300) (d + 2) 67 (in_mI88, in_mL88, in_mR88, 370, 370, 7110) 0 [(0, .ref 369)] [] = some (none, (in_mI89, in_mL89, in_mR89, 382, 382, 7346)) := rfl
theorem in_h88_55_0 : in_mR88 55 0 = some 56 := in_sk (l := in_r88) in_h87_55_0 (by decide)
theorem in_h89_55_0 : in_mR89 55 0 = some 56 := in_sk (l := in_r89) in_h88_55_0 (by decide)
theorem in_h90_55_0 : in_mR90 55 0 = some 56 := in_sk (l := in_r90) in_h89_55_0 (by decide)
theorem in_c92 (n d : Nat) : mm_run XL xs (n + 300) (d + 2) 67 (in_mI91, in_mL91, in_mR91, 383, 383, 7354) 0 [(0, .ref 382)] [] = some (none, (in_mI92, in_mL92, in_mR92, 395, 395, 7590)) := rfl
theorem in_h91_55_0 : in_mR91 55 0 = some 56 := in_sk (l := in_r91) in_h90_55_0 (by decide)
theorem in_h92_55_0 : in_mR92 55 0 = some 56 := in_sk (l := in_r92) in_h91_55_0 (by decide)
theorem in_h93_55_0 : in_mR93 55 0 = some 56 := in_sk (l := in_r93) in_h92_55_0 (by decide)
theorem in_c95 (n d : Nat) : mm_run XL xs (n + 300) (d + 2) 67 (in_mI94, in_mL94, in_mR94, 396, 396, 7598) 0 [(0, .ref 395)] [] = some (none, (in_mI95, in_mL95, in_mR95, 408, 408, 7834)) := rfl
theorem in_h94_55_0 : in_mR94 55 0 = some 56 := in_sk (l := in_r94) in_h93_55_0 (by decide)
theorem in_h95_55_0 : in_mR95 55 0 = some 56 := in_sk (l := in_r95) in_h94_55_0 (by decide)
theorem in_h96_55_0 : in_mR96 55 0 = some 56 := in_sk (l := in_r96) in_h95_55_0 (by decide)
theorem in_c98 (n d : Nat) : mm_run XL xs (n + 300) (d + 2) 67 (in_mI97, in_mL97, in_mR97, 409, 409, 7842) 0 [(0, .ref 408)] [] = some (none, (in_mI98, in_mL98, in_mR98, 421, 421, 8078)) := rfl
theorem in_h97_55_0 : in_mR97 55 0 = some 56 := in_sk (l := in_r97) in_h96_55_0 (by decide)
theorem in_h98_55_0 : in_mR98 55 0 = some 56 := in_sk (l := in_r98) in_h97_55_0 (by decide)
theorem in_h99_55_0 : in_mR99 55 0 = some 56 := in_sk (l := in_r99) in_h98_55_0 (by decide)
theorem in_c101 (n d : Nat) : mm_run XL xs (n + 300) (d + 2) 67 (in_mI100, in_mL100, in_mR100, 422, 422, 8086) 0 [(0, .ref 421)] [] = some (none, (in_mI101, in_mL101, in_mR101, 434, 434, 8322)) := rfl
theorem in_h100_55_0 : in_mR100 55 0 = some 56 := in_sk (l := in_r100) in_h99_55_0 (by decide)
theorem in_h101_55_0 : in_mR101 55 0 = some 56 := in_sk (l := in_r101) in_h100_55_0 (by decide)
theorem in_h102_55_0 : in_mR102 55 0 = some 56 := in_sk (l := in_r102) in_h101_55_0 (by decide)
end INI
