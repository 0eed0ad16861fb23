section INI
variable {XL : Nat} {xs : Nat → Int32}
set_option maxRecDepth 100000
theorem in_c20 (n d : Nat) : mm_run XL xs (n + 300) (d + 2) 67 (in_mI19, in_mL19, in_mR19, 71, 71, 1498) 0 [(0, .ref 70)] [] = some (none, (in_mI20, in_mL20, in_mR20, 83, 83, 1734)) := rfl
theorem in_h19_55_0 : in_mR19 55 0 = some 56 := in_sk (l := in_r19) in_h18_55_0 (by decide)
theorem in_h20_55_0 : in_mR20 55 0 = some 56 := in_sk (l := in_r20) in_h19_55_0 (by decide)
theorem in_h21_55_0 : in_mR21 55 0 = some 56 := in_sk (l := in_r21) in_h20_55_0 (by decide)
theorem in_c23 (n d : Nat) : mm_run XL xs (n + 300) (d + 2) 67 (in_mI22, in_mL22, in_mR22, 84, 84, 1742) 0 [(0, .ref 83)] [] = some (none, (in_mI23, in_mL23, in_mR23, 96, 96, 1978)) := rfl
theorem in_h22_55_0 : in_mR22 55 0 = some 56 := in_sk (l := in_r22) in_h21_55_0 (by decide)
theorem in_h23_55_0 : in_mR23 55 0 = some 56 := in_sk (l := in_r23) in_h22_55_0 (by decide)
theorem in_h24_55_0 : in_mR24 55 0 = some 56 := in_sk (l := in_r24) in_h23_55_0 (by decide)
theorem in_c26 (n d : Nat) : mm_run XL xs (n + 300) (d + 2) 67 (in_mI25, in_mL25, in_mR25, 97, 97, 1986) 0 [(0, .ref 96)] [] = some (none, (in_mI26, in_mL26, in_mR26, 109, 109, 2222)) := rfl
theorem in_h25_55_0 : in_mR25 55 0 = some 56 := in_sk (l := in_r25) in_h24_55_0 (by decide)
theorem in_h26_55_0 : in_mR26 55 0 = some 56 := in_sk (l := in_r26) in_h25_55_0 (by decide)
theorem in_h27_55_0 : in_mR27 55 0 = some 56 := in_sk (l := in_r27) in_h26_55_0 (by decide)
theorem in_c29 (n d : Nat) : mm_run XL xs (n + 300) (d + 2) 67 (in_mI28, in_mL28, in_mR28, 110, 110, 2230) 0 [(0, .ref 109)] [] = some (none, (in_mI29, in_mL29, in_mR29, 122, 122, 2466)) := rfl
theorem in_h28_55_0 : in_mR28 55 0 = some 56 := in_sk (l := in_r28) in_h27_55_0 (by decide)
theorem in_h29_55_0 : in_mR29 55 0 = some 56 := in_sk (l := in_r29) in_h28_55_0 (by decide)
theorem in_h30_55_0 : in_mR30 55 0 = some 56 := in_sk (l := in_r30) in_h29_55_0 (by decide)
theorem in_c32 (n d : Nat) : mm_run XL xs (n + 300) (d + 2) 67 (in_mI31, in_mL31, in_mR31, 123, 123, 2474) 0 [(0, .ref 122)] [] = some (none, (in_mI32, in_mL32, in_mR32, 135, 135, 2710)) := rfl
theorem in_h31_55_0 : in_mR31 55 0 = some 56 := in_sk (l := in_r31) in_h30_55_0 (by decide)
theorem in_h32_55_0 : in_mR32 55 0 = some 56 := in_sk (l := in_r32) in_h31_55_0 (by decide)
theorem in_h33_55_0 : in_mR33 55 0 = some 56 := in_sk (l := in_r33) in_h32_55_0 (by decide)
theorem in_c35 (n d : Nat) : mm_run XL xs (n + 300) (d + 2) 67 (in_mI34, in_mL34, in_mR34, 136, 136, 2718) 0 [(0, .ref 135)] [] = some (none, (in_mI35, in_mL35, in_mR35, 148, 148, 2954)) := rfl
theorem in_h34_55_0 : in_mR34 55 0 = some 56 := in_sk (l := in_r34) in_h33_55_0 (by decide)
theorem in_h35_55_0 : in_mR35 55 0 = some 56 := in_sk (l := in_r35) in_h34_55_0 (by decide)
theorem in_h36_55_0 : in_mR36 55 0 = some 56 := in_sk (l := in_r36) in_h35_55_0 (by decide)
theorem in_c38 (n d : Nat) : mm_run XL xs (n + 300) (d + 2) 67 (in_mI37, in_mL37, in_mR37, 149, 149, 2962) 0 [(0, .ref 148)] [] = some (none, (in_mI38, in_mL38, in_mR38, 161, 161, 3198)) := rfl
theorem in_h37_55_0 : in_mR37 55 0 = some 56 := in_sk (l := in_r37) in_h36_55_0 (by decide)
theorem in_h38_55_0 : in_mR38 55 0 = some 56 := in_sk (l := in_r38) in_h37_55_0 (by decide)
theorem in_h39_55_0 : in_mR39 55 0 = some 56 := in_sk (l := in_r39) in_h38_55_0 (by decide)
end INI
