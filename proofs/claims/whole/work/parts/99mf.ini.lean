section INI
variable {XL : Nat} {xs : Nat → Int32}
set_option maxRecDepth 100000
theorem in_c104 (n d : Nat) : mm_run XL xs (n + 300) (d + 2) 67 (in_mI103, in_mL103, in_mR103, 435, 435, 8330) 0 [(0, .ref 434)] [] = some (none, (in_mI104, in_mL104, in_mR104, 447, 447, 8566)) := rfl
theorem in_h103_55_0 : in_mR103 55 0 = some 56 := in_sk (l := in_r103) in_h102_55_0 (by decide)
theorem in_h104_55_0 : in_mR104 55 0 = some 56 := in_sk (l := in_r104) in_h103_55_0 (by decide)
theorem in_h105_55_0 : in_mR105 55 0 = some 56 := in_sk (l := in_r105) in_h104_55_0 (by decide)
theorem in_c107 (n d : Nat) : mm_run XL xs (n + 300) (d + 2) 67 (in_mI106, in_mL106, in_mR106, 448, 448, 8574) 0 [(0, .ref 447)] [] = some (none, (in_mI107, in_mL107, in_mR107, 460, 460, 8810)) := rfl
theorem in_h106_55_0 : in_mR106 55 0 = some 56 := in_sk (l := in_r106) in_h105_55_0 (by decide)
theorem in_h107_55_0 : in_mR107 55 0 = some 56 := in_sk (l := in_r107) in_h106_55_0 (by decide)
theorem in_h108_55_0 : in_mR108 55 0 = some 56 := in_sk (l := in_r108) in_h107_55_0 (by decide)
theorem in_c110 (n d : Nat) : mm_run XL xs (n + 300) (d + 2) 67 (in_mI109, in_mL109, in_mR109, 461, 461, 8818) 0 [(0, .ref 460)] [] = some (none, (in_mI110, in_mL110, in_mR110, 473, 473, 9054)) := rfl
theorem in_h109_55_0 : in_mR109 55 0 = some 56 := in_sk (l := in_r109) in_h108_55_0 (by decide)
theorem in_h110_55_0 : in_mR110 55 0 = some 56 := in_sk (l := in_r110) in_h109_55_0 (by decide)
theorem in_h111_55_0 : in_mR111 55 0 = some 56 := in_sk (l := in_r111) in_h110_55_0 (by decide)
theorem in_c113 (n d : Nat) : mm_run XL xs (n + 300) (d + 2) 67 (in_mI112, in_mL112, in_mR112, 474, 474, 9062) 0 [(0, .ref 473)] [] = some (none, (in_mI113, in_mL113, in_mR113, 486, 486, 9298)) := rfl
theorem in_h112_55_0 : in_mR112 55 0 = some 56 := in_sk (l := in_r112) in_h111_55_0 (by decide)
theorem in_h113_55_0 : in_mR113 55 0 = some 56 := in_sk (l := in_r113) in_h112_55_0 (by decide)
theorem in_h114_55_0 : in_mR114 55 0 = some 56 := in_sk (l := in_r114) in_h113_55_0 (by decide)
theorem in_c116 (n d : Nat) : mm_run XL xs (n + 300) (d + 2) 67 (in_mI115, in_mL115, in_mR115, 487, 487, 9306) 0 [(0, .ref 486)] [] = some (none, (in_mI116, in_mL116, in_mR116, 499, 499, 9542)) := rfl
theorem in_h115_55_0 : in_mR115 55 0 = some 56 := in_sk (l := in_r115) in_h114_55_0 (by decide)
theorem in_h116_55_0 : in_mR116 55 0 = some 56 := in_sk (l := in_r116) in_h115_55_0 (by decide)
theorem in_h117_55_0 : in_mR117 55 0 = some 56 := in_sk (l := in_r117) in_h116_55_0 (by decide)
theorem in_c119 (n d : Nat) : mm_run XL xs (n + 300) (d + 2) 67 (in_mI118, in_mL118, in_mR118, 500, 500, 9550) 0 [(0, .ref 499)] [] = some (none, (in_mI119, in_mL119, in_mR119, 512, 512, 9786)) := rfl
theorem in_h118_55_0 : in_mR118 55 0 = some 56 := in_sk (l := in_r118) in_h117_55_0 (by decide)
theorem in_h119_55_0 : in_mR119 55 0 = some 56 := in_sk (l := in_r119) in_h118_55_0 (by decide)
theorem in_h120_55_0 : in_mR120 55 0 = some 56 := in_sk (l := in_r120) in_h119_55_0 (by decide)
theorem in_c122 (n d : Nat) : mm_run XL xs (n + 300) (d + 2) 67 (in_mI121, in_mL121, in_mR121, 513, 513, 9794) 0 [(0, .ref 512)] [] = some (none, (in_mI122, in_mL122, in_mR122, 525, 525, 10030)) := rfl
theorem in_h121_55_0 : in_mR121 55 0 = some 56 := in_sk (l := in_r121) in_h120_55_0 (by decide)
theorem in_h122_55_0 : in_mR122 55 0 = some 56 := in_sk (l := in_r122) in_h121_55_0 (by decide)
theorem in_h123_55_0 : in_mR123 55 0 = some 56 := in_sk (l := in_r123) in_h122_55_0 (by decide)
end INI
