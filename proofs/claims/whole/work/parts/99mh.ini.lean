section INI
variable {XL : Nat} {xs : Nat → Int32}
set_option maxRecDepth 100000
theorem in_past {d : Nat} : Ev XL xs (d + 8) 38 (in_mI14, in_mL14, in_mR14, 56, 56, 1206) 0 [(0, .ref 55)] [] (none, (in_mI135, in_mL135, in_mR135, 577, 577, 11006)) := by
  refine ev_s 16 (M' := (in_mI15, in_mL15, in_mR15, 57, 57, 1246)) (pc' := 27) (lv' := [(1, .int 0), (0, .ref 55)]) (st' := [.ref 55, .int 0]) (fun n => rfl) ?_
  refine ev_s 1 (M' := (in_mI15, in_mL15, in_mR15, 57, 57, 1246)) (pc' := 30) (lv' := [(1, .int 0), (0, .ref 55)]) (st' := va_rf (in_mR15 55 0) :: [.int 0]) (fun n => rfl) ?_
  rw [in_h15_55_0]
  show Ev XL xs _ 38 (in_mI15, in_mL15, in_mR15, 57, 57, 1246) 30 [(1, .int 0), (0, .ref 55)] (.ref 56 :: [.int 0]) _
  refine ev_s 3 (M' := (in_mI15, in_mL15, in_mR15, 57, 57, 1246)) (pc' := 35) (lv' := [(1, .int 0), (0, .ref 55)]) (st' := [.ref 55]) (fun n => rfl) ?_
  refine ev_s 1 (M' := (in_mI15, in_mL15, in_mR15, 57, 57, 1246)) (pc' := 38) (lv' := [(1, .int 0), (0, .ref 55)]) (st' := va_rf (in_mR15 55 0) :: []) (fun n => rfl) ?_
  rw [in_h15_55_0]
  show Ev XL xs _ 38 (in_mI15, in_mL15, in_mR15, 57, 57, 1246) 38 [(1, .int 0), (0, .ref 55)] (.ref 56 :: []) _
  refine ev_s 3 (M' := (in_mI16, in_mL16, in_mR16, 58, 58, 1254)) (pc' := 43) (lv' := [(1, .int 0), (0, .ref 55)]) (st' := [.ref 57, .ref 57, .int 0, .ref 56]) (fun n => rfl) ?_
  refine ev_c 1 (y' := 67) (M1 := (in_mI16, in_mL16, in_mR16, 58, 58, 1254)) (la := [(0, .ref 57)]) (rest := [.ref 57, .int 0, .ref 56]) (pc' := 46) (lv' := [(1, .int 0), (0, .ref 55)]) (fun n => rfl) (ev_r 300 (fun n => in_c17 n _)) ?_
  show Ev XL xs _ 38 (in_mI17, in_mL17, in_mR17, 70, 70, 1490) 46 [(1, .int 0), (0, .ref 55)] [.ref 57, .int 0, .ref 56] _
  refine ev_s 5 (M' := (in_mI18, in_mL18, in_mR18, 70, 70, 1490)) (pc' := 27) (lv' := [(1, .int 1), (0, .ref 55)]) (st' := [.ref 55, .int 1]) (fun n => rfl) ?_
  refine ev_s 1 (M' := (in_mI18, in_mL18, in_mR18, 70, 70, 1490)) (pc' := 30) (lv' := [(1, .int 1), (0, .ref 55)]) (st' := va_rf (in_mR18 55 0) :: [.int 1]) (fun n => rfl) ?_
  rw [in_h18_55_0]
  show Ev XL xs _ 38 (in_mI18, in_mL18, in_mR18, 70, 70, 1490) 30 [(1, .int 1), (0, .ref 55)] (.ref 56 :: [.int 1]) _
  refine ev_s 3 (M' := (in_mI18, in_mL18, in_mR18, 70, 70, 1490)) (pc' := 35) (lv' := [(1, .int 1), (0, .ref 55)]) (st' := [.ref 55]) (fun n => rfl) ?_
  refine ev_s 1 (M' := (in_mI18, in_mL18, in_mR18, 70, 70, 1490)) (pc' := 38) (lv' := [(1, .int 1), (0, .ref 55)]) (st' := va_rf (in_mR18 55 0) :: []) (fun n => rfl) ?_
  rw [in_h18_55_0]
  show Ev XL xs _ 38 (in_mI18, in_mL18, in_mR18, 70, 70, 1490) 38 [(1, .int 1), (0, .ref 55)] (.ref 56 :: []) _
  refine ev_s 3 (M' := (in_mI19, in_mL19, in_mR19, 71, 71, 1498)) (pc' := 43) (lv' := [(1, .int 1), (0, .ref 55)]) (st' := [.ref 70, .ref 70, .int 1, .ref 56]) (fun n => rfl) ?_
  refine ev_c 1 (y' := 67) (M1 := (in_mI19, in_mL19, in_mR19, 71, 71, 1498)) (la := [(0, .ref 70)]) (rest := [.ref 70, .int 1, .ref 56]) (pc' := 46) (lv' := [(1, .int 1), (0, .ref 55)]) (fun n => rfl) (ev_r 300 (fun n => in_c20 n _)) ?_
  show Ev XL xs _ 38 (in_mI20, in_mL20, in_mR20, 83, 83, 1734) 46 [(1, .int 1), (0, .ref 55)] [.ref 70, .int 1, .ref 56] _
  refine ev_s 5 (M' := (in_mI21, in_mL21, in_mR21, 83, 83, 1734)) (pc' := 27) (lv' := [(1, .int 2), (0, .ref 55)]) (st' := [.ref 55, .int 2]) (fun n => rfl) ?_
  refine ev_s 1 (M' := (in_mI21, in_mL21, in_mR21, 83, 83, 1734)) (pc' := 30) (lv' := [(1, .int 2), (0, .ref 55)]) (st' := va_rf (in_mR21 55 0) :: [.int 2]) (fun n => rfl) ?_
  rw [in_h21_55_0]
  show Ev XL xs _ 38 (in_mI21, in_mL21, in_mR21, 83, 83, 1734) 30 [(1, .int 2), (0, .ref 55)] (.ref 56 :: [.int 2]) _
  refine ev_s 3 (M' := (in_mI21, in_mL21, in_mR21, 83, 83, 1734)) (pc' := 35) (lv' := [(1, .int 2), (0, .ref 55)]) (st' := [.ref 55]) (fun n => rfl) ?_
  refine ev_s 1 (M' := (in_mI21, in_mL21, in_mR21, 83, 83, 1734)) (pc' := 38) (lv' := [(1, .int 2), (0, .ref 55)]) (st' := va_rf (in_mR21 55 0) :: []) (fun n => rfl) ?_
  rw [in_h21_55_0]
  show Ev XL xs _ 38 (in_mI21, in_mL21, in_mR21, 83, 83, 1734) 38 [(1, .int 2), (0, .ref 55)] (.ref 56 :: []) _
  refine ev_s 3 (M' := (in_mI22, in_mL22, in_mR22, 84, 84, 1742)) (pc' := 43) (lv' := [(1, .int 2), (0, .ref 55)]) (st' := [.ref 83, .ref 83, .int 2, .ref 56]) (fun n => rfl) ?_
  refine ev_c 1 (y' := 67) (M1 := (in_mI22, in_mL22, in_mR22, 84, 84, 1742)) (la := [(0, .ref 83)]) (rest := [.ref 83, .int 2, .ref 56]) (pc' := 46) (lv' := [(1, .int 2), (0, .ref 55)]) (fun n => rfl) (ev_r 300 (fun n => in_c23 n _)) ?_
  show Ev XL xs _ 38 (in_mI23, in_mL23, in_mR23, 96, 96, 1978) 46 [(1, .int 2), (0, .ref 55)] [.ref 83, .int 2, .ref 56] _
  refine ev_s 5 (M' := (in_mI24, in_mL24, in_mR24, 96, 96, 1978)) (pc' := 27) (lv' := [(1, .int 3), (0, .ref 55)]) (st' := [.ref 55, .int 3]) (fun n => rfl) ?_
  refine ev_s 1 (M' := (in_mI24, in_mL24, in_mR24, 96, 96, 1978)) (pc' := 30) (lv' := [(1, .int 3), (0, .ref 55)]) (st' := va_rf (in_mR24 55 0) :: [.int 3]) (fun n => rfl) ?_
  rw [in_h24_55_0]
  show Ev XL xs _ 38 (in_mI24, in_mL24, in_mR24, 96, 96, 1978) 30 [(1, .int 3), (0, .ref 55)] (.ref 56 :: [.int 3]) _
  refine ev_s 3 (M' := (in_mI24, in_mL24, in_mR24, 96, 96, 1978)) (pc' := 35) (lv' := [(1, .int 3), (0, .ref 55)]) (st' := [.ref 55]) (fun n => rfl) ?_
  refine ev_s 1 (M' := (in_mI24, in_mL24, in_mR24, 96, 96, 1978)) (pc' := 38) (lv' := [(1, .int 3), (0, .ref 55)]) (st' := va_rf (in_mR24 55 0) :: []) (fun n => rfl) ?_
  rw [in_h24_55_0]
  show Ev XL xs _ 38 (in_mI24, in_mL24, in_mR24, 96, 96, 1978) 38 [(1, .int 3), (0, .ref 55)] (.ref 56 :: []) _
  refine ev_s 3 (M' := (in_mI25, in_mL25, in_mR25, 97, 97, 1986)) (pc' := 43) (lv' := [(1, .int 3), (0, .ref 55)]) (st' := [.ref 96, .ref 96, .int 3, .ref 56]) (fun n => rfl) ?_
  refine ev_c 1 (y' := 67) (M1 := (in_mI25, in_mL25, in_mR25, 97, 97, 1986)) (la := [(0, .ref 96)]) (rest := [.ref 96, .int 3, .ref 56]) (pc' := 46) (lv' := [(1, .int 3), (0, .ref 55)]) (fun n => rfl) (ev_r 300 (fun n => in_c26 n _)) ?_
  show Ev XL xs _ 38 (in_mI26, in_mL26, in_mR26, 109, 109, 2222) 46 [(1, .int 3), (0, .ref 55)] [.ref 96, .int 3, .ref 56] _
  refine ev_s 5 (M' := (in_mI27, in_mL27, in_mR27, 109, 109, 2222)) (pc' := 27) (lv' := [(1, .int 4), (0, .ref 55)]) (st' := [.ref 55, .int 4]) (fun n => rfl) ?_
  refine ev_s 1 (M' := (in_mI27, in_mL27, in_mR27, 109, 109, 2222)) (pc' := 30) (lv' := [(1, .int 4), (0, .ref 55)]) (st' := va_rf (in_mR27 55 0) :: [.int 4]) (fun n => rfl) ?_
  rw [in_h27_55_0]
  show Ev XL xs _ 38 (in_mI27, in_mL27, in_mR27, 109, 109, 2222) 30 [(1, .int 4), (0, .ref 55)] (.ref 56 :: [.int 4]) _
  refine ev_s 3 (M' := (in_mI27, in_mL27, in_mR27, 109, 109, 2222)) (pc' := 35) (lv' := [(1, .int 4), (0, .ref 55)]) (st' := [.ref 55]) (fun n => rfl) ?_
  refine ev_s 1 (M' := (in_mI27, in_mL27, in_mR27, 109, 109, 2222)) (pc' := 38) (lv' := [(1, .int 4), (0, .ref 55)]) (st' := va_rf (in_mR27 55 0) :: []) (fun n => rfl) ?_
  rw [in_h27_55_0]
  show Ev XL xs _ 38 (in_mI27, in_mL27, in_mR27, 109, 109, 2222) 38 [(1, .int 4), (0, .ref 55)] (.ref 56 :: []) _
  refine ev_s 3 (M' := (in_mI28, in_mL28, in_mR28, 110, 110, 2230)) (pc' := 43) (lv' := [(1, .int 4), (0, .ref 55)]) (st' := [.ref 109, .ref 109, .int 4, .ref 56]) (fun n => rfl) ?_
  refine ev_c 1 (y' := 67) (M1 := (in_mI28, in_mL28, in_mR28, 110, 110, 2230)) (la := [(0, .ref 109)]) (rest := [.ref 109, .int 4, .ref 56]) (pc' := 46) (lv' := [(1, .int 4), (0, .ref 55)]) (fun n => rfl) (ev_r 300 (fun n => in_c29 n _)) ?_
  show Ev XL xs _ 38 (in_mI29, in_mL29, in_mR29, 122, 122, 2466) 46 [(1, .int 4), (0, .ref 55)] [.ref 109, .int 4, .ref 56] _
  refine ev_s 5 (M' := (in_mI30, in_mL30, in_mR30, 122, 122, 2466)) (pc' := 27) (lv' := [(1, .int 5), (0, .ref 55)]) (st' := [.ref 55, .int 5]) (fun n => rfl) ?_
  refine ev_s 1 (M' := (in_mI30, in_mL30, in_mR30, 122, 122, 2466)) (pc' := 30) (lv' := [(1, .int 5), (0, .ref 55)]) (st' := va_rf (in_mR30 55 0) :: [.int 5]) (fun n => rfl) ?_
  rw [in_h30_55_0]
  show Ev XL xs _ 38 (in_mI30, in_mL30, in_mR30, 122, 122, 2466) 30 [(1, .int 5), (0, .ref 55)] (.ref 56 :: [.int 5]) _
  refine ev_s 3 (M' := (in_mI30, in_mL30, in_mR30, 122, 122, 2466)) (pc' := 35) (lv' := [(1, .int 5), (0, .ref 55)]) (st' := [.ref 55]) (fun n => rfl) ?_
  refine ev_s 1 (M' := (in_mI30, in_mL30, in_mR30, 122, 122, 2466)) (pc' := 38) (lv' := [(1, .int 5), (0, .ref 55)]) (st' := va_rf (in_mR30 55 0) :: []) (fun n => rfl) ?_
  rw [in_h30_55_0]
  show Ev XL xs _ 38 (in_mI30, in_mL30, in_mR30, 122, 122, 2466) 38 [(1, .int 5), (0, .ref 55)] (.ref 56 :: []) _
  refine ev_s 3 (M' := (in_mI31, in_mL31, in_mR31, 123, 123, 2474)) (pc' := 43) (lv' := [(1, .int 5), (0, .ref 55)]) (st' := [.ref 122, .ref 122, .int 5, .ref 56]) (fun n => rfl) ?_
  refine ev_c 1 (y' := 67) (M1 := (in_mI31, in_mL31, in_mR31, 123, 123, 2474)) (la := [(0, .ref 122)]) (rest := [.ref 122, .int 5, .ref 56]) (pc' := 46) (lv' := [(1, .int 5), (0, .ref 55)]) (fun n => rfl) (ev_r 300 (fun n => in_c32 n _)) ?_
  show Ev XL xs _ 38 (in_mI32, in_mL32, in_mR32, 135, 135, 2710) 46 [(1, .int 5), (0, .ref 55)] [.ref 122, .int 5, .ref 56] _
  refine ev_s 5 (M' := (in_mI33, in_mL33, in_mR33, 135, 135, 2710)) (pc' := 27) (lv' := [(1, .int 6), (0, .ref 55)]) (st' := [.ref 55, .int 6]) (fun n => rfl) ?_
  refine ev_s 1 (M' := (in_mI33, in_mL33, in_mR33, 135, 135, 2710)) (pc' := 30) (lv' := [(1, .int 6), (0, .ref 55)]) (st' := va_rf (in_mR33 55 0) :: [.int 6]) (fun n => rfl) ?_
  rw [in_h33_55_0]
  show Ev XL xs _ 38 (in_mI33, in_mL33, in_mR33, 135, 135, 2710) 30 [(1, .int 6), (0, .ref 55)] (.ref 56 :: [.int 6]) _
  refine ev_s 3 (M' := (in_mI33, in_mL33, in_mR33, 135, 135, 2710)) (pc' := 35) (lv' := [(1, .int 6), (0, .ref 55)]) (st' := [.ref 55]) (fun n => rfl) ?_
  refine ev_s 1 (M' := (in_mI33, in_mL33, in_mR33, 135, 135, 2710)) (pc' := 38) (lv' := [(1, .int 6), (0, .ref 55)]) (st' := va_rf (in_mR33 55 0) :: []) (fun n => rfl) ?_
  rw [in_h33_55_0]
  show Ev XL xs _ 38 (in_mI33, in_mL33, in_mR33, 135, 135, 2710) 38 [(1, .int 6), (0, .ref 55)] (.ref 56 :: []) _
  refine ev_s 3 (M' := (in_mI34, in_mL34, in_mR34, 136, 136, 2718)) (pc' := 43) (lv' := [(1, .int 6), (0, .ref 55)]) (st' := [.ref 135, .ref 135, .int 6, .ref 56]) (fun n => rfl) ?_
  refine ev_c 1 (y' := 67) (M1 := (in_mI34, in_mL34, in_mR34, 136, 136, 2718)) (la := [(0, .ref 135)]) (rest := [.ref 135, .int 6, .ref 56]) (pc' := 46) (lv' := [(1, .int 6), (0, .ref 55)]) (fun n => rfl) (ev_r 300 (fun n => in_c35 n _)) ?_
  show Ev XL xs _ 38 (in_mI35, in_mL35, in_mR35, 148, 148, 2954) 46 [(1, .int 6), (0, .ref 55)] [.ref 135, .int 6, .ref 56] _
  refine ev_s 5 (M' := (in_mI36, in_mL36, in_mR36, 148, 148, 2954)) (pc' := 27) (lv' := [(1, .int 7), (0, .ref 55)]) (st' := [.ref 55, .int 7]) (fun n => rfl) ?_
  refine ev_s 1 (M' := (in_mI36, in_mL36, in_mR36, 148, 148, 2954)) (pc' := 30) (lv' := [(1, .int 7), (0, .ref 55)]) (st' := va_rf (in_mR36 55 0) :: [.int 7]) (fun n => rfl) ?_
  rw [in_h36_55_0]
  show Ev XL xs _ 38 (in_mI36, in_mL36, in_mR36, 148, 148, 2954) 30 [(1, .int 7), (0, .ref 55)] (.ref 56 :: [.int 7]) _
  refine ev_s 3 (M' := (in_mI36, in_mL36, in_mR36, 148, 148, 2954)) (pc' := 35) (lv' := [(1, .int 7), (0, .ref 55)]) (st' := [.ref 55]) (fun n => rfl) ?_
  refine ev_s 1 (M' := (in_mI36, in_mL36, in_mR36, 148, 148, 2954)) (pc' := 38) (lv' := [(1, .int 7), (0, .ref 55)]) (st' := va_rf (in_mR36 55 0) :: []) (fun n => rfl) ?_
  rw [in_h36_55_0]
  show Ev XL xs _ 38 (in_mI36, in_mL36, in_mR36, 148, 148, 2954) 38 [(1, .int 7), (0, .ref 55)] (.ref 56 :: []) _
  refine ev_s 3 (M' := (in_mI37, in_mL37, in_mR37, 149, 149, 2962)) (pc' := 43) (lv' := [(1, .int 7), (0, .ref 55)]) (st' := [.ref 148, .ref 148, .int 7, .ref 56]) (fun n => rfl) ?_
  refine ev_c 1 (y' := 67) (M1 := (in_mI37, in_mL37, in_mR37, 149, 149, 2962)) (la := [(0, .ref 148)]) (rest := [.ref 148, .int 7, .ref 56]) (pc' := 46) (lv' := [(1, .int 7), (0, .ref 55)]) (fun n => rfl) (ev_r 300 (fun n => in_c38 n _)) ?_
  show Ev XL xs _ 38 (in_mI38, in_mL38, in_mR38, 161, 161, 3198) 46 [(1, .int 7), (0, .ref 55)] [.ref 148, .int 7, .ref 56] _
  refine ev_s 5 (M' := (in_mI39, in_mL39, in_mR39, 161, 161, 3198)) (pc' := 27) (lv' := [(1, .int 8), (0, .ref 55)]) (st' := [.ref 55, .int 8]) (fun n => rfl) ?_
  refine ev_s 1 (M' := (in_mI39, in_mL39, in_mR39, 161, 161, 3198)) (pc' := 30) (lv' := [(1, .int 8), (0, .ref 55)]) (st' := va_rf (in_mR39 55 0) :: [.int 8]) (fun n => rfl) ?_
  rw [in_h39_55_0]
  show Ev XL xs _ 38 (in_mI39, in_mL39, in_mR39, 161, 161, 3198) 30 [(1, .int 8), (0, .ref 55)] (.ref 56 :: [.int 8]) _
  refine ev_s 3 (M' := (in_mI39, in_mL39, in_mR39, 161, 161, 3198)) (pc' := 35) (lv' := [(1, .int 8), (0, .ref 55)]) (st' := [.ref 55]) (fun n => rfl) ?_
  refine ev_s 1 (M' := (in_mI39, in_mL39, in_mR39, 161, 161, 3198)) (pc' := 38) (lv' := [(1, .int 8), (0, .ref 55)]) (st' := va_rf (in_mR39 55 0) :: []) (fun n => rfl) ?_
  rw [in_h39_55_0]
  show Ev XL xs _ 38 (in_mI39, in_mL39, in_mR39, 161, 161, 3198) 38 [(1, .int 8), (0, .ref 55)] (.ref 56 :: []) _
  refine ev_s 3 (M' := (in_mI40, in_mL40, in_mR40, 162, 162, 3206)) (pc' := 43) (lv' := [(1, .int 8), (0, .ref 55)]) (st' := [.ref 161, .ref 161, .int 8, .ref 56]) (fun n => rfl) ?_
  refine ev_c 1 (y' := 67) (M1 := (in_mI40, in_mL40, in_mR40, 162, 162, 3206)) (la := [(0, .ref 161)]) (rest := [.ref 161, .int 8, .ref 56]) (pc' := 46) (lv' := [(1, .int 8), (0, .ref 55)]) (fun n => rfl) (ev_r 300 (fun n => in_c41 n _)) ?_
  show Ev XL xs _ 38 (in_mI41, in_mL41, in_mR41, 174, 174, 3442) 46 [(1, .int 8), (0, .ref 55)] [.ref 161, .int 8, .ref 56] _
  refine ev_s 5 (M' := (in_mI42, in_mL42, in_mR42, 174, 174, 3442)) (pc' := 27) (lv' := [(1, .int 9), (0, .ref 55)]) (st' := [.ref 55, .int 9]) (fun n => rfl) ?_
  refine ev_s 1 (M' := (in_mI42, in_mL42, in_mR42, 174, 174, 3442)) (pc' := 30) (lv' := [(1, .int 9), (0, .ref 55)]) (st' := va_rf (in_mR42 55 0) :: [.int 9]) (fun n => rfl) ?_
  rw [in_h42_55_0]
  show Ev XL xs _ 38 (in_mI42, in_mL42, in_mR42, 174, 174, 3442) 30 [(1, .int 9), (0, .ref 55)] (.ref 56 :: [.int 9]) _
  refine ev_s 3 (M' := (in_mI42, in_mL42, in_mR42, 174, 174, 3442)) (pc' := 35) (lv' := [(1, .int 9), (0, .ref 55)]) (st' := [.ref 55]) (fun n => rfl) ?_
  refine ev_s 1 (M' := (in_mI42, in_mL42, in_mR42, 174, 174, 3442)) (pc' := 38) (lv' := [(1, .int 9), (0, .ref 55)]) (st' := va_rf (in_mR42 55 0) :: []) (fun n => rfl) ?_
  rw [in_h42_55_0]
  show Ev XL xs _ 38 (in_mI42, in_mL42, in_mR42, 174, 174, 3442) 38 [(1, .int 9), (0, .ref 55)] (.ref 56 :: []) _
  refine ev_s 3 (M' := (in_mI43, in_mL43, in_mR43, 175, 175, 3450)) (pc' := 43) (lv' := [(1, .int 9), (0, .ref 55)]) (st' := [.ref 174, .ref 174, .int 9, .ref 56]) (fun n => rfl) ?_
  refine ev_c 1 (y' := 67) (M1 := (in_mI43, in_mL43, in_mR43, 175, 175, 3450)) (la := [(0, .ref 174)]) (rest := [.ref 174, .int 9, .ref 56]) (pc' := 46) (lv' := [(1, .int 9), (0, .ref 55)]) (fun n => rfl) (ev_r 300 (fun n => in_c44 n _)) ?_
  show Ev XL xs _ 38 (in_mI44, in_mL44, in_mR44, 187, 187, 3686) 46 [(1, .int 9), (0, .ref 55)] [.ref 174, .int 9, .ref 56] _
  refine ev_s 5 (M' := (in_mI45, in_mL45, in_mR45, 187, 187, 3686)) (pc' := 27) (lv' := [(1, .int 10), (0, .ref 55)]) (st' := [.ref 55, .int 10]) (fun n => rfl) ?_
  refine ev_s 1 (M' := (in_mI45, in_mL45, in_mR45, 187, 187, 3686)) (pc' := 30) (lv' := [(1, .int 10), (0, .ref 55)]) (st' := va_rf (in_mR45 55 0) :: [.int 10]) (fun n => rfl) ?_
  rw [in_h45_55_0]
  show Ev XL xs _ 38 (in_mI45, in_mL45, in_mR45, 187, 187, 3686) 30 [(1, .int 10), (0, .ref 55)] (.ref 56 :: [.int 10]) _
  refine ev_s 3 (M' := (in_mI45, in_mL45, in_mR45, 187, 187, 3686)) (pc' := 35) (lv' := [(1, .int 10), (0, .ref 55)]) (st' := [.ref 55]) (fun n => rfl) ?_
  refine ev_s 1 (M' := (in_mI45, in_mL45, in_mR45, 187, 187, 3686)) (pc' := 38) (lv' := [(1, .int 10), (0, .ref 55)]) (st' := va_rf (in_mR45 55 0) :: []) (fun n => rfl) ?_
  rw [in_h45_55_0]
  show Ev XL xs _ 38 (in_mI45, in_mL45, in_mR45, 187, 187, 3686) 38 [(1, .int 10), (0, .ref 55)] (.ref 56 :: []) _
  refine ev_s 3 (M' := (in_mI46, in_mL46, in_mR46, 188, 188, 3694)) (pc' := 43) (lv' := [(1, .int 10), (0, .ref 55)]) (st' := [.ref 187, .ref 187, .int 10, .ref 56]) (fun n => rfl) ?_
  refine ev_c 1 (y' := 67) (M1 := (in_mI46, in_mL46, in_mR46, 188, 188, 3694)) (la := [(0, .ref 187)]) (rest := [.ref 187, .int 10, .ref 56]) (pc' := 46) (lv' := [(1, .int 10), (0, .ref 55)]) (fun n => rfl) (ev_r 300 (fun n => in_c47 n _)) ?_
  show Ev XL xs _ 38 (in_mI47, in_mL47, in_mR47, 200, 200, 3930) 46 [(1, .int 10), (0, .ref 55)] [.ref 187, .int 10, .ref 56] _
  refine ev_s 5 (M' := (in_mI48, in_mL48, in_mR48, 200, 200, 3930)) (pc' := 27) (lv' := [(1, .int 11), (0, .ref 55)]) (st' := [.ref 55, .int 11]) (fun n => rfl) ?_
  refine ev_s 1 (M' := (in_mI48, in_mL48, in_mR48, 200, 200, 3930)) (pc' := 30) (lv' := [(1, .int 11), (0, .ref 55)]) (st' := va_rf (in_mR48 55 0) :: [.int 11]) (fun n => rfl) ?_
  rw [in_h48_55_0]
  show Ev XL xs _ 38 (in_mI48, in_mL48, in_mR48, 200, 200, 3930) 30 [(1, .int 11), (0, .ref 55)] (.ref 56 :: [.int 11]) _
  refine ev_s 3 (M' := (in_mI48, in_mL48, in_mR48, 200, 200, 3930)) (pc' := 35) (lv' := [(1, .int 11), (0, .ref 55)]) (st' := [.ref 55]) (fun n => rfl) ?_
  refine ev_s 1 (M' := (in_mI48, in_mL48, in_mR48, 200, 200, 3930)) (pc' := 38) (lv' := [(1, .int 11), (0, .ref 55)]) (st' := va_rf (in_mR48 55 0) :: []) (fun n => rfl) ?_
  rw [in_h48_55_0]
  show Ev XL xs _ 38 (in_mI48, in_mL48, in_mR48, 200, 200, 3930) 38 [(1, .int 11), (0, .ref 55)] (.ref 56 :: []) _
  refine ev_s 3 (M' := (in_mI49, in_mL49, in_mR49, 201, 201, 3938)) (pc' := 43) (lv' := [(1, .int 11), (0, .ref 55)]) (st' := [.ref 200, .ref 200, .int 11, .ref 56]) (fun n => rfl) ?_
  refine ev_c 1 (y' := 67) (M1 := (in_mI49, in_mL49, in_mR49, 201, 201, 3938)) (la := [(0, .ref 200)]) (rest := [.ref 200, .int 11, .ref 56]) (pc' := 46) (lv' := [(1, .int 11), (0, .ref 55)]) (fun n => rfl) (ev_r 300 (fun n => in_c50 n _)) ?_
  show Ev XL xs _ 38 (in_mI50, in_mL50, in_mR50, 213, 213, 4174) 46 [(1, .int 11), (0, .ref 55)] [.ref 200, .int 11, .ref 56] _
  refine ev_s 5 (M' := (in_mI51, in_mL51, in_mR51, 213, 213, 4174)) (pc' := 27) (lv' := [(1, .int 12), (0, .ref 55)]) (st' := [.ref 55, .int 12]) (fun n => rfl) ?_
  refine ev_s 1 (M' := (in_mI51, in_mL51, in_mR51, 213, 213, 4174)) (pc' := 30) (lv' := [(1, .int 12), (0, .ref 55)]) (st' := va_rf (in_mR51 55 0) :: [.int 12]) (fun n => rfl) ?_
  rw [in_h51_55_0]
  show Ev XL xs _ 38 (in_mI51, in_mL51, in_mR51, 213, 213, 4174) 30 [(1, .int 12), (0, .ref 55)] (.ref 56 :: [.int 12]) _
  refine ev_s 3 (M' := (in_mI51, in_mL51, in_mR51, 213, 213, 4174)) (pc' := 35) (lv' := [(1, .int 12), (0, .ref 55)]) (st' := [.ref 55]) (fun n => rfl) ?_
  refine ev_s 1 (M' := (in_mI51, in_mL51, in_mR51, 213, 213, 4174)) (pc' := 38) (lv' := [(1, .int 12), (0, .ref 55)]) (st' := va_rf (in_mR51 55 0) :: []) (fun n => rfl) ?_
  rw [in_h51_55_0]
  show Ev XL xs _ 38 (in_mI51, in_mL51, in_mR51, 213, 213, 4174) 38 [(1, .int 12), (0, .ref 55)] (.ref 56 :: []) _
  refine ev_s 3 (M' := (in_mI52, in_mL52, in_mR52, 214, 214, 4182)) (pc' := 43) (lv' := [(1, .int 12), (0, .ref 55)]) (st' := [.ref 213, .ref 213, .int 12, .ref 56]) (fun n => rfl) ?_
  refine ev_c 1 (y' := 67) (M1 := (in_mI52, in_mL52, in_mR52, 214, 214, 4182)) (la := [(0, .ref 213)]) (rest := [.ref 213, .int 12, .ref 56]) (pc' := 46) (lv' := [(1, .int 12), (0, .ref 55)]) (fun n => rfl) (ev_r 300 (fun n => in_c53 n _)) ?_
  show Ev XL xs _ 38 (in_mI53, in_mL53, in_mR53, 226, 226, 4418) 46 [(1, .int 12), (0, .ref 55)] [.ref 213, .int 12, .ref 56] _
  refine ev_s 5 (M' := (in_mI54, in_mL54, in_mR54, 226, 226, 4418)) (pc' := 27) (lv' := [(1, .int 13), (0, .ref 55)]) (st' := [.ref 55, .int 13]) (fun n => rfl) ?_
  refine ev_s 1 (M' := (in_mI54, in_mL54, in_mR54, 226, 226, 4418)) (pc' := 30) (lv' := [(1, .int 13), (0, .ref 55)]) (st' := va_rf (in_mR54 55 0) :: [.int 13]) (fun n => rfl) ?_
  rw [in_h54_55_0]
  show Ev XL xs _ 38 (in_mI54, in_mL54, in_mR54, 226, 226, 4418) 30 [(1, .int 13), (0, .ref 55)] (.ref 56 :: [.int 13]) _
  refine ev_s 3 (M' := (in_mI54, in_mL54, in_mR54, 226, 226, 4418)) (pc' := 35) (lv' := [(1, .int 13), (0, .ref 55)]) (st' := [.ref 55]) (fun n => rfl) ?_
  refine ev_s 1 (M' := (in_mI54, in_mL54, in_mR54, 226, 226, 4418)) (pc' := 38) (lv' := [(1, .int 13), (0, .ref 55)]) (st' := va_rf (in_mR54 55 0) :: []) (fun n => rfl) ?_
  rw [in_h54_55_0]
  show Ev XL xs _ 38 (in_mI54, in_mL54, in_mR54, 226, 226, 4418) 38 [(1, .int 13), (0, .ref 55)] (.ref 56 :: []) _
  refine ev_s 3 (M' := (in_mI55, in_mL55, in_mR55, 227, 227, 4426)) (pc' := 43) (lv' := [(1, .int 13), (0, .ref 55)]) (st' := [.ref 226, .ref 226, .int 13, .ref 56]) (fun n => rfl) ?_
  refine ev_c 1 (y' := 67) (M1 := (in_mI55, in_mL55, in_mR55, 227, 227, 4426)) (la := [(0, .ref 226)]) (rest := [.ref 226, .int 13, .ref 56]) (pc' := 46) (lv' := [(1, .int 13), (0, .ref 55)]) (fun n => rfl) (ev_r 300 (fun n => in_c56 n _)) ?_
  show Ev XL xs _ 38 (in_mI56, in_mL56, in_mR56, 239, 239, 4662) 46 [(1, .int 13), (0, .ref 55)] [.ref 226, .int 13, .ref 56] _
  refine ev_s 5 (M' := (in_mI57, in_mL57, in_mR57, 239, 239, 4662)) (pc' := 27) (lv' := [(1, .int 14), (0, .ref 55)]) (st' := [.ref 55, .int 14]) (fun n => rfl) ?_
  refine ev_s 1 (M' := (in_mI57, in_mL57, in_mR57, 239, 239, 4662)) (pc' := 30) (lv' := [(1, .int 14), (0, .ref 55)]) (st' := va_rf (in_mR57 55 0) :: [.int 14]) (fun n => rfl) ?_
  rw [in_h57_55_0]
  show Ev XL xs _ 38 (in_mI57, in_mL57, in_mR57, 239, 239, 4662) 30 [(1, .int 14), (0, .ref 55)] (.ref 56 :: [.int 14]) _
  refine ev_s 3 (M' := (in_mI57, in_mL57, in_mR57, 239, 239, 4662)) (pc' := 35) (lv' := [(1, .int 14), (0, .ref 55)]) (st' := [.ref 55]) (fun n => rfl) ?_
  refine ev_s 1 (M' := (in_mI57, in_mL57, in_mR57, 239, 239, 4662)) (pc' := 38) (lv' := [(1, .int 14), (0, .ref 55)]) (st' := va_rf (in_mR57 55 0) :: []) (fun n => rfl) ?_
  rw [in_h57_55_0]
  show Ev XL xs _ 38 (in_mI57, in_mL57, in_mR57, 239, 239, 4662) 38 [(1, .int 14), (0, .ref 55)] (.ref 56 :: []) _
  refine ev_s 3 (M' := (in_mI58, in_mL58, in_mR58, 240, 240, 4670)) (pc' := 43) (lv' := [(1, .int 14), (0, .ref 55)]) (st' := [.ref 239, .ref 239, .int 14, .ref 56]) (fun n => rfl) ?_
  refine ev_c 1 (y' := 67) (M1 := (in_mI58, in_mL58, in_mR58, 240, 240, 4670)) (la := [(0, .ref 239)]) (rest := [.ref 239, .int 14, .ref 56]) (pc' := 46) (lv' := [(1, .int 14), (0, .ref 55)]) (fun n => rfl) (ev_r 300 (fun n => in_c59 n _)) ?_
  show Ev XL xs _ 38 (in_mI59, in_mL59, in_mR59, 252, 252, 4906) 46 [(1, .int 14), (0, .ref 55)] [.ref 239, .int 14, .ref 56] _
  refine ev_s 5 (M' := (in_mI60, in_mL60, in_mR60, 252, 252, 4906)) (pc' := 27) (lv' := [(1, .int 15), (0, .ref 55)]) (st' := [.ref 55, .int 15]) (fun n => rfl) ?_
  refine ev_s 1 (M' := (in_mI60, in_mL60, in_mR60, 252, 252, 4906)) (pc' := 30) (lv' := [(1, .int 15), (0, .ref 55)]) (st' := va_rf (in_mR60 55 0) :: [.int 15]) (fun n => rfl) ?_
  rw [in_h60_55_0]
  show Ev XL xs _ 38 (in_mI60, in_mL60, in_mR60, 252, 252, 4906) 30 [(1, .int 15), (0, .ref 55)] (.ref 56 :: [.int 15]) _
  refine ev_s 3 (M' := (in_mI60, in_mL60, in_mR60, 252, 252, 4906)) (pc' := 35) (lv' := [(1, .int 15), (0, .ref 55)]) (st' := [.ref 55]) (fun n => rfl) ?_
  refine ev_s 1 (M' := (in_mI60, in_mL60, in_mR60, 252, 252, 4906)) (pc' := 38) (lv' := [(1, .int 15), (0, .ref 55)]) (st' := va_rf (in_mR60 55 0) :: []) (fun n => rfl) ?_
  rw [in_h60_55_0]
  show Ev XL xs _ 38 (in_mI60, in_mL60, in_mR60, 252, 252, 4906) 38 [(1, .int 15), (0, .ref 55)] (.ref 56 :: []) _
  refine ev_s 3 (M' := (in_mI61, in_mL61, in_mR61, 253, 253, 4914)) (pc' := 43) (lv' := [(1, .int 15), (0, .ref 55)]) (st' := [.ref 252, .ref 252, .int 15, .ref 56]) (fun n => rfl) ?_
  refine ev_c 1 (y' := 67) (M1 := (in_mI61, in_mL61, in_mR61, 253, 253, 4914)) (la := [(0, .ref 252)]) (rest := [.ref 252, .int 15, .ref 56]) (pc' := 46) (lv' := [(1, .int 15), (0, .ref 55)]) (fun n => rfl) (ev_r 300 (fun n => in_c62 n _)) ?_
  show Ev XL xs _ 38 (in_mI62, in_mL62, in_mR62, 265, 265, 5150) 46 [(1, .int 15), (0, .ref 55)] [.ref 252, .int 15, .ref 56] _
  refine ev_s 5 (M' := (in_mI63, in_mL63, in_mR63, 265, 265, 5150)) (pc' := 27) (lv' := [(1, .int 16), (0, .ref 55)]) (st' := [.ref 55, .int 16]) (fun n => rfl) ?_
  refine ev_s 1 (M' := (in_mI63, in_mL63, in_mR63, 265, 265, 5150)) (pc' := 30) (lv' := [(1, .int 16), (0, .ref 55)]) (st' := va_rf (in_mR63 55 0) :: [.int 16]) (fun n => rfl) ?_
  rw [in_h63_55_0]
  show Ev XL xs _ 38 (in_mI63, in_mL63, in_mR63, 265, 265, 5150) 30 [(1, .int 16), (0, .ref 55)] (.ref 56 :: [.int 16]) _
  refine ev_s 3 (M' := (in_mI63, in_mL63, in_mR63, 265, 265, 5150)) (pc' := 35) (lv' := [(1, .int 16), (0, .ref 55)]) (st' := [.ref 55]) (fun n => rfl) ?_
  refine ev_s 1 (M' := (in_mI63, in_mL63, in_mR63, 265, 265, 5150)) (pc' := 38) (lv' := [(1, .int 16), (0, .ref 55)]) (st' := va_rf (in_mR63 55 0) :: []) (fun n => rfl) ?_
  rw [in_h63_55_0]
  show Ev XL xs _ 38 (in_mI63, in_mL63, in_mR63, 265, 265, 5150) 38 [(1, .int 16), (0, .ref 55)] (.ref 56 :: []) _
  refine ev_s 3 (M' := (in_mI64, in_mL64, in_mR64, 266, 266, 5158)) (pc' := 43) (lv' := [(1, .int 16), (0, .ref 55)]) (st' := [.ref 265, .ref 265, .int 16, .ref 56]) (fun n => rfl) ?_
  refine ev_c 1 (y' := 67) (M1 := (in_mI64, in_mL64, in_mR64, 266, 266, 5158)) (la := [(0, .ref 265)]) (rest := [.ref 265, .int 16, .ref 56]) (pc' := 46) (lv' := [(1, .int 16), (0, .ref 55)]) (fun n => rfl) (ev_r 300 (fun n => in_c65 n _)) ?_
  show Ev XL xs _ 38 (in_mI65, in_mL65, in_mR65, 278, 278, 5394) 46 [(1, .int 16), (0, .ref 55)] [.ref 265, .int 16, .ref 56] _
  refine ev_s 5 (M' := (in_mI66, in_mL66, in_mR66, 278, 278, 5394)) (pc' := 27) (lv' := [(1, .int 17), (0, .ref 55)]) (st' := [.ref 55, .int 17]) (fun n => rfl) ?_
  refine ev_s 1 (M' := (in_mI66, in_mL66, in_mR66, 278, 278, 5394)) (pc' := 30) (lv' := [(1, .int 17), (0, .ref 55)]) (st' := va_rf (in_mR66 55 0) :: [.int 17]) (fun n => rfl) ?_
  rw [in_h66_55_0]
  show Ev XL xs _ 38 (in_mI66, in_mL66, in_mR66, 278, 278, 5394) 30 [(1, .int 17), (0, .ref 55)] (.ref 56 :: [.int 17]) _
  refine ev_s 3 (M' := (in_mI66, in_mL66, in_mR66, 278, 278, 5394)) (pc' := 35) (lv' := [(1, .int 17), (0, .ref 55)]) (st' := [.ref 55]) (fun n => rfl) ?_
  refine ev_s 1 (M' := (in_mI66, in_mL66, in_mR66, 278, 278, 5394)) (pc' := 38) (lv' := [(1, .int 17), (0, .ref 55)]) (st' := va_rf (in_mR66 55 0) :: []) (fun n => rfl) ?_
  rw [in_h66_55_0]
  show Ev XL xs _ 38 (in_mI66, in_mL66, in_mR66, 278, 278, 5394) 38 [(1, .int 17), (0, .ref 55)] (.ref 56 :: []) _
  refine ev_s 3 (M' := (in_mI67, in_mL67, in_mR67, 279, 279, 5402)) (pc' := 43) (lv' := [(1, .int 17), (0, .ref 55)]) (st' := [.ref 278, .ref 278, .int 17, .ref 56]) (fun n => rfl) ?_
  refine ev_c 1 (y' := 67) (M1 := (in_mI67, in_mL67, in_mR67, 279, 279, 5402)) (la := [(0, .ref 278)]) (rest := [.ref 278, .int 17, .ref 56]) (pc' := 46) (lv' := [(1, .int 17), (0, .ref 55)]) (fun n => rfl) (ev_r 300 (fun n => in_c68 n _)) ?_
  show Ev XL xs _ 38 (in_mI68, in_mL68, in_mR68, 291, 291, 5638) 46 [(1, .int 17), (0, .ref 55)] [.ref 278, .int 17, .ref 56] _
  refine ev_s 5 (M' := (in_mI69, in_mL69, in_mR69, 291, 291, 5638)) (pc' := 27) (lv' := [(1, .int 18), (0, .ref 55)]) (st' := [.ref 55, .int 18]) (fun n => rfl) ?_
  refine ev_s 1 (M' := (in_mI69, in_mL69, in_mR69, 291, 291, 5638)) (pc' := 30) (lv' := [(1, .int 18), (0, .ref 55)]) (st' := va_rf (in_mR69 55 0) :: [.int 18]) (fun n => rfl) ?_
  rw [in_h69_55_0]
  show Ev XL xs _ 38 (in_mI69, in_mL69, in_mR69, 291, 291, 5638) 30 [(1, .int 18), (0, .ref 55)] (.ref 56 :: [.int 18]) _
  refine ev_s 3 (M' := (in_mI69, in_mL69, in_mR69, 291, 291, 5638)) (pc' := 35) (lv' := [(1, .int 18), (0, .ref 55)]) (st' := [.ref 55]) (fun n => rfl) ?_
  refine ev_s 1 (M' := (in_mI69, in_mL69, in_mR69, 291, 291, 5638)) (pc' := 38) (lv' := [(1, .int 18), (0, .ref 55)]) (st' := va_rf (in_mR69 55 0) :: []) (fun n => rfl) ?_
  rw [in_h69_55_0]
  show Ev XL xs _ 38 (in_mI69, in_mL69, in_mR69, 291, 291, 5638) 38 [(1, .int 18), (0, .ref 55)] (.ref 56 :: []) _
  refine ev_s 3 (M' := (in_mI70, in_mL70, in_mR70, 292, 292, 5646)) (pc' := 43) (lv' := [(1, .int 18), (0, .ref 55)]) (st' := [.ref 291, .ref 291, .int 18, .ref 56]) (fun n => rfl) ?_
  refine ev_c 1 (y' := 67) (M1 := (in_mI70, in_mL70, in_mR70, 292, 292, 5646)) (la := [(0, .ref 291)]) (rest := [.ref 291, .int 18, .ref 56]) (pc' := 46) (lv' := [(1, .int 18), (0, .ref 55)]) (fun n => rfl) (ev_r 300 (fun n => in_c71 n _)) ?_
  show Ev XL xs _ 38 (in_mI71, in_mL71, in_mR71, 304, 304, 5882) 46 [(1, .int 18), (0, .ref 55)] [.ref 291, .int 18, .ref 56] _
  refine ev_s 5 (M' := (in_mI72, in_mL72, in_mR72, 304, 304, 5882)) (pc' := 27) (lv' := [(1, .int 19), (0, .ref 55)]) (st' := [.ref 55, .int 19]) (fun n => rfl) ?_
  refine ev_s 1 (M' := (in_mI72, in_mL72, in_mR72, 304, 304, 5882)) (pc' := 30) (lv' := [(1, .int 19), (0, .ref 55)]) (st' := va_rf (in_mR72 55 0) :: [.int 19]) (fun n => rfl) ?_
  rw [in_h72_55_0]
  show Ev XL xs _ 38 (in_mI72, in_mL72, in_mR72, 304, 304, 5882) 30 [(1, .int 19), (0, .ref 55)] (.ref 56 :: [.int 19]) _
  refine ev_s 3 (M' := (in_mI72, in_mL72, in_mR72, 304, 304, 5882)) (pc' := 35) (lv' := [(1, .int 19), (0, .ref 55)]) (st' := [.ref 55]) (fun n => rfl) ?_
  refine ev_s 1 (M' := (in_mI72, in_mL72, in_mR72, 304, 304, 5882)) (pc' := 38) (lv' := [(1, .int 19), (0, .ref 55)]) (st' := va_rf (in_mR72 55 0) :: []) (fun n => rfl) ?_
  rw [in_h72_55_0]
  show Ev XL xs _ 38 (in_mI72, in_mL72, in_mR72, 304, 304, 5882) 38 [(1, .int 19), (0, .ref 55)] (.ref 56 :: []) _
  refine ev_s 3 (M' := (in_mI73, in_mL73, in_mR73, 305, 305, 5890)) (pc' := 43) (lv' := [(1, .int 19), (0, .ref 55)]) (st' := [.ref 304, .ref 304, .int 19, .ref 56]) (fun n => rfl) ?_
  refine ev_c 1 (y' := 67) (M1 := (in_mI73, in_mL73, in_mR73, 305, 305, 5890)) (la := [(0, .ref 304)]) (rest := [.ref 304, .int 19, .ref 56]) (pc' := 46) (lv' := [(1, .int 19), (0, .ref 55)]) (fun n => rfl) (ev_r 300 (fun n => in_c74 n _)) ?_
  show Ev XL xs _ 38 (in_mI74, in_mL74, in_mR74, 317, 317, 6126) 46 [(1, .int 19), (0, .ref 55)] [.ref 304, .int 19, .ref 56] _
  refine ev_s 5 (M' := (in_mI75, in_mL75, in_mR75, 317, 317, 6126)) (pc' := 27) (lv' := [(1, .int 20), (0, .ref 55)]) (st' := [.ref 55, .int 20]) (fun n => rfl) ?_
  refine ev_s 1 (M' := (in_mI75, in_mL75, in_mR75, 317, 317, 6126)) (pc' := 30) (lv' := [(1, .int 20), (0, .ref 55)]) (st' := va_rf (in_mR75 55 0) :: [.int 20]) (fun n => rfl) ?_
  rw [in_h75_55_0]
  show Ev XL xs _ 38 (in_mI75, in_mL75, in_mR75, 317, 317, 6126) 30 [(1, .int 20), (0, .ref 55)] (.ref 56 :: [.int 20]) _
  refine ev_s 3 (M' := (in_mI75, in_mL75, in_mR75, 317, 317, 6126)) (pc' := 35) (lv' := [(1, .int 20), (0, .ref 55)]) (st' := [.ref 55]) (fun n => rfl) ?_
  refine ev_s 1 (M' := (in_mI75, in_mL75, in_mR75, 317, 317, 6126)) (pc' := 38) (lv' := [(1, .int 20), (0, .ref 55)]) (st' := va_rf (in_mR75 55 0) :: []) (fun n => rfl) ?_
  rw [in_h75_55_0]
  show Ev XL xs _ 38 (in_mI75, in_mL75, in_mR75, 317, 317, 6126) 38 [(1, .int 20), (0, .ref 55)] (.ref 56 :: []) _
  refine ev_s 3 (M' := (in_mI76, in_mL76, in_mR76, 318, 318, 6134)) (pc' := 43) (lv' := [(1, .int 20), (0, .ref 55)]) (st' := [.ref 317, .ref 317, .int 20, .ref 56]) (fun n => rfl) ?_
  refine ev_c 1 (y' := 67) (M1 := (in_mI76, in_mL76, in_mR76, 318, 318, 6134)) (la := [(0, .ref 317)]) (rest := [.ref 317, .int 20, .ref 56]) (pc' := 46) (lv' := [(1, .int 20), (0, .ref 55)]) (fun n => rfl) (ev_r 300 (fun n => in_c77 n _)) ?_
  show Ev XL xs _ 38 (in_mI77, in_mL77, in_mR77, 330, 330, 6370) 46 [(1, .int 20), (0, .ref 55)] [.ref 317, .int 20, .ref 56] _
  refine ev_s 5 (M' := (in_mI78, in_mL78, in_mR78, 330, 330, 6370)) (pc' := 27) (lv' := [(1, .int 21), (0, .ref 55)]) (st' := [.ref 55, .int 21]) (fun n => rfl) ?_
  refine ev_s 1 (M' := (in_mI78, in_mL78, in_mR78, 330, 330, 6370)) (pc' := 30) (lv' := [(1, .int 21), (0, .ref 55)]) (st' := va_rf (in_mR78 55 0) :: [.int 21]) (fun n => rfl) ?_
  rw [in_h78_55_0]
  show Ev XL xs _ 38 (in_mI78, in_mL78, in_mR78, 330, 330, 6370) 30 [(1, .int 21), (0, .ref 55)] (.ref 56 :: [.int 21]) _
  refine ev_s 3 (M' := (in_mI78, in_mL78, in_mR78, 330, 330, 6370)) (pc' := 35) (lv' := [(1, .int 21), (0, .ref 55)]) (st' := [.ref 55]) (fun n => rfl) ?_
  refine ev_s 1 (M' := (in_mI78, in_mL78, in_mR78, 330, 330, 6370)) (pc' := 38) (lv' := [(1, .int 21), (0, .ref 55)]) (st' := va_rf (in_mR78 55 0) :: []) (fun n => rfl) ?_
  rw [in_h78_55_0]
  show Ev XL xs _ 38 (in_mI78, in_mL78, in_mR78, 330, 330, 6370) 38 [(1, .int 21), (0, .ref 55)] (.ref 56 :: []) _
  refine ev_s 3 (M' := (in_mI79, in_mL79, in_mR79, 331, 331, 6378)) (pc' := 43) (lv' := [(1, .int 21), (0, .ref 55)]) (st' := [.ref 330, .ref 330, .int 21, .ref 56]) (fun n => rfl) ?_
  refine ev_c 1 (y' := 67) (M1 := (in_mI79, in_mL79, in_mR79, 331, 331, 6378)) (la := [(0, .ref 330)]) (rest := [.ref 330, .int 21, .ref 56]) (pc' := 46) (lv' := [(1, .int 21), (0, .ref 55)]) (fun n => rfl) (ev_r 300 (fun n => in_c80 n _)) ?_
  show Ev XL xs _ 38 (in_mI80, in_mL80, in_mR80, 343, 343, 6614) 46 [(1, .int 21), (0, .ref 55)] [.ref 330, .int 21, .ref 56] _
  refine ev_s 5 (M' := (in_mI81, in_mL81, in_mR81, 343, 343, 6614)) (pc' := 27) (lv' := [(1, .int 22), (0, .ref 55)]) (st' := [.ref 55, .int 22]) (fun n => rfl) ?_
  refine ev_s 1 (M' := (in_mI81, in_mL81, in_mR81, 343, 343, 6614)) (pc' := 30) (lv' := [(1, .int 22), (0, .ref 55)]) (st' := va_rf (in_mR81 55 0) :: [.int 22]) (fun n => rfl) ?_
  rw [in_h81_55_0]
  show Ev XL xs _ 38 (in_mI81, in_mL81, in_mR81, 343, 343, 6614) 30 [(1, .int 22), (0, .ref 55)] (.ref 56 :: [.int 22]) _
  refine ev_s 3 (M' := (in_mI81, in_mL81, in_mR81, 343, 343, 6614)) (pc' := 35) (lv' := [(1, .int 22), (0, .ref 55)]) (st' := [.ref 55]) (fun n => rfl) ?_
  refine ev_s 1 (M' := (in_mI81, in_mL81, in_mR81, 343, 343, 6614)) (pc' := 38) (lv' := [(1, .int 22), (0, .ref 55)]) (st' := va_rf (in_mR81 55 0) :: []) (fun n => rfl) ?_
  rw [in_h81_55_0]
  show Ev XL xs _ 38 (in_mI81, in_mL81, in_mR81, 343, 343, 6614) 38 [(1, .int 22), (0, .ref 55)] (.ref 56 :: []) _
  refine ev_s 3 (M' := (in_mI82, in_mL82, in_mR82, 344, 344, 6622)) (pc' := 43) (lv' := [(1, .int 22), (0, .ref 55)]) (st' := [.ref 343, .ref 343, .int 22, .ref 56]) (fun n => rfl) ?_
  refine ev_c 1 (y' := 67) (M1 := (in_mI82, in_mL82, in_mR82, 344, 344, 6622)) (la := [(0, .ref 343)]) (rest := [.ref 343, .int 22, .ref 56]) (pc' := 46) (lv' := [(1, .int 22), (0, .ref 55)]) (fun n => rfl) (ev_r 300 (fun n => in_c83 n _)) ?_
  show Ev XL xs _ 38 (in_mI83, in_mL83, in_mR83, 356, 356, 6858) 46 [(1, .int 22), (0, .ref 55)] [.ref 343, .int 22, .ref 56] _
  refine ev_s 5 (M' := (in_mI84, in_mL84, in_mR84, 356, 356, 6858)) (pc' := 27) (lv' := [(1, .int 23), (0, .ref 55)]) (st' := [.ref 55, .int 23]) (fun n => rfl) ?_
  refine ev_s 1 (M' := (in_mI84, in_mL84, in_mR84, 356, 356, 6858)) (pc' := 30) (lv' := [(1, .int 23), (0, .ref 55)]) (st' := va_rf (in_mR84 55 0) :: [.int 23]) (fun n => rfl) ?_
  rw [in_h84_55_0]
  show Ev XL xs _ 38 (in_mI84, in_mL84, in_mR84, 356, 356, 6858) 30 [(1, .int 23), (0, .ref 55)] (.ref 56 :: [.int 23]) _
  refine ev_s 3 (M' := (in_mI84, in_mL84, in_mR84, 356, 356, 6858)) (pc' := 35) (lv' := [(1, .int 23), (0, .ref 55)]) (st' := [.ref 55]) (fun n => rfl) ?_
  refine ev_s 1 (M' := (in_mI84, in_mL84, in_mR84, 356, 356, 6858)) (pc' := 38) (lv' := [(1, .int 23), (0, .ref 55)]) (st' := va_rf (in_mR84 55 0) :: []) (fun n => rfl) ?_
  rw [in_h84_55_0]
  show Ev XL xs _ 38 (in_mI84, in_mL84, in_mR84, 356, 356, 6858) 38 [(1, .int 23), (0, .ref 55)] (.ref 56 :: []) _
  refine ev_s 3 (M' := (in_mI85, in_mL85, in_mR85, 357, 357, 6866)) (pc' := 43) (lv' := [(1, .int 23), (0, .ref 55)]) (st' := [.ref 356, .ref 356, .int 23, .ref 56]) (fun n => rfl) ?_
  refine ev_c 1 (y' := 67) (M1 := (in_mI85, in_mL85, in_mR85, 357, 357, 6866)) (la := [(0, .ref 356)]) (rest := [.ref 356, .int 23, .ref 56]) (pc' := 46) (lv' := [(1, .int 23), (0, .ref 55)]) (fun n => rfl) (ev_r 300 (fun n => in_c86 n _)) ?_
  show Ev XL xs _ 38 (in_mI86, in_mL86, in_mR86, 369, 369, 7102) 46 [(1, .int 23), (0, .ref 55)] [.ref 356, .int 23, .ref 56] _
  refine ev_s 5 (M' := (in_mI87, in_mL87, in_mR87, 369, 369, 7102)) (pc' := 27) (lv' := [(1, .int 24), (0, .ref 55)]) (st' := [.ref 55, .int 24]) (fun n => rfl) ?_
  refine ev_s 1 (M' := (in_mI87, in_mL87, in_mR87, 369, 369, 7102)) (pc' := 30) (lv' := [(1, .int 24), (0, .ref 55)]) (st' := va_rf (in_mR87 55 0) :: [.int 24]) (fun n => rfl) ?_
  rw [in_h87_55_0]
  show Ev XL xs _ 38 (in_mI87, in_mL87, in_mR87, 369, 369, 7102) 30 [(1, .int 24), (0, .ref 55)] (.ref 56 :: [.int 24]) _
  refine ev_s 3 (M' := (in_mI87, in_mL87, in_mR87, 369, 369, 7102)) (pc' := 35) (lv' := [(1, .int 24), (0, .ref 55)]) (st' := [.ref 55]) (fun n => rfl) ?_
  refine ev_s 1 (M' := (in_mI87, in_mL87, in_mR87, 369, 369, 7102)) (pc' := 38) (lv' := [(1, .int 24), (0, .ref 55)]) (st' := va_rf (in_mR87 55 0) :: []) (fun n => rfl) ?_
  rw [in_h87_55_0]
  show Ev XL xs _ 38 (in_mI87, in_mL87, in_mR87, 369, 369, 7102) 38 [(1, .int 24), (0, .ref 55)] (.ref 56 :: []) _
  refine ev_s 3 (M' := (in_mI88, in_mL88, in_mR88, 370, 370, 7110)) (pc' := 43) (lv' := [(1, .int 24), (0, .ref 55)]) (st' := [.ref 369, .ref 369, .int 24, .ref 56]) (fun n => rfl) ?_
  refine ev_c 1 (y' := 67) (M1 := (in_mI88, in_mL88, in_mR88, 370, 370, 7110)) (la := [(0, .ref 369)]) (rest := [.ref 369, .int 24, .ref 56]) (pc' := 46) (lv' := [(1, .int 24), (0, .ref 55)]) (fun n => rfl) (ev_r 300 (fun n => in_c89 n _)) ?_
  show Ev XL xs _ 38 (in_mI89, in_mL89, in_mR89, 382, 382, 7346) 46 [(1, .int 24), (0, .ref 55)] [.ref 369, .int 24, .ref 56] _
  refine ev_s 5 (M' := (in_mI90, in_mL90, in_mR90, 382, 382, 7346)) (pc' := 27) (lv' := [(1, .int 25), (0, .ref 55)]) (st' := [.ref 55, .int 25]) (fun n => rfl) ?_
  refine ev_s 1 (M' := (in_mI90, in_mL90, in_mR90, 382, 382, 7346)) (pc' := 30) (lv' := [(1, .int 25), (0, .ref 55)]) (st' := va_rf (in_mR90 55 0) :: [.int 25]) (fun n => rfl) ?_
  rw [in_h90_55_0]
  show Ev XL xs _ 38 (in_mI90, in_mL90, in_mR90, 382, 382, 7346) 30 [(1, .int 25), (0, .ref 55)] (.ref 56 :: [.int 25]) _
  refine ev_s 3 (M' := (in_mI90, in_mL90, in_mR90, 382, 382, 7346)) (pc' := 35) (lv' := [(1, .int 25), (0, .ref 55)]) (st' := [.ref 55]) (fun n => rfl) ?_
  refine ev_s 1 (M' := (in_mI90, in_mL90, in_mR90, 382, 382, 7346)) (pc' := 38) (lv' := [(1, .int 25), (0, .ref 55)]) (st' := va_rf (in_mR90 55 0) :: []) (fun n => rfl) ?_
  rw [in_h90_55_0]
  show Ev XL xs _ 38 (in_mI90, in_mL90, in_mR90, 382, 382, 7346) 38 [(1, .int 25), (0, .ref 55)] (.ref 56 :: []) _
  refine ev_s 3 (M' := (in_mI91, in_mL91, in_mR91, 383, 383, 7354)) (pc' := 43) (lv' := [(1, .int 25), (0, .ref 55)]) (st' := [.ref 382, .ref 382, .int 25, .ref 56]) (fun n => rfl) ?_
  refine ev_c 1 (y' := 67) (M1 := (in_mI91, in_mL91, in_mR91, 383, 383, 7354)) (la := [(0, .ref 382)]) (rest := [.ref 382, .int 25, .ref 56]) (pc' := 46) (lv' := [(1, .int 25), (0, .ref 55)]) (fun n => rfl) (ev_r 300 (fun n => in_c92 n _)) ?_
  show Ev XL xs _ 38 (in_mI92, in_mL92, in_mR92, 395, 395, 7590) 46 [(1, .int 25), (0, .ref 55)] [.ref 382, .int 25, .ref 56] _
  refine ev_s 5 (M' := (in_mI93, in_mL93, in_mR93, 395, 395, 7590)) (pc' := 27) (lv' := [(1, .int 26), (0, .ref 55)]) (st' := [.ref 55, .int 26]) (fun n => rfl) ?_
  refine ev_s 1 (M' := (in_mI93, in_mL93, in_mR93, 395, 395, 7590)) (pc' := 30) (lv' := [(1, .int 26), (0, .ref 55)]) (st' := va_rf (in_mR93 55 0) :: [.int 26]) (fun n => rfl) ?_
  rw [in_h93_55_0]
  show Ev XL xs _ 38 (in_mI93, in_mL93, in_mR93, 395, 395, 7590) 30 [(1, .int 26), (0, .ref 55)] (.ref 56 :: [.int 26]) _
  refine ev_s 3 (M' := (in_mI93, in_mL93, in_mR93, 395, 395, 7590)) (pc' := 35) (lv' := [(1, .int 26), (0, .ref 55)]) (st' := [.ref 55]) (fun n => rfl) ?_
  refine ev_s 1 (M' := (in_mI93, in_mL93, in_mR93, 395, 395, 7590)) (pc' := 38) (lv' := [(1, .int 26), (0, .ref 55)]) (st' := va_rf (in_mR93 55 0) :: []) (fun n => rfl) ?_
  rw [in_h93_55_0]
  show Ev XL xs _ 38 (in_mI93, in_mL93, in_mR93, 395, 395, 7590) 38 [(1, .int 26), (0, .ref 55)] (.ref 56 :: []) _
  refine ev_s 3 (M' := (in_mI94, in_mL94, in_mR94, 396, 396, 7598)) (pc' := 43) (lv' := [(1, .int 26), (0, .ref 55)]) (st' := [.ref 395, .ref 395, .int 26, .ref 56]) (fun n => rfl) ?_
  refine ev_c 1 (y' := 67) (M1 := (in_mI94, in_mL94, in_mR94, 396, 396, 7598)) (la := [(0, .ref 395)]) (rest := [.ref 395, .int 26, .ref 56]) (pc' := 46) (lv' := [(1, .int 26), (0, .ref 55)]) (fun n => rfl) (ev_r 300 (fun n => in_c95 n _)) ?_
  show Ev XL xs _ 38 (in_mI95, in_mL95, in_mR95, 408, 408, 7834) 46 [(1, .int 26), (0, .ref 55)] [.ref 395, .int 26, .ref 56] _
  refine ev_s 5 (M' := (in_mI96, in_mL96, in_mR96, 408, 408, 7834)) (pc' := 27) (lv' := [(1, .int 27), (0, .ref 55)]) (st' := [.ref 55, .int 27]) (fun n => rfl) ?_
  refine ev_s 1 (M' := (in_mI96, in_mL96, in_mR96, 408, 408, 7834)) (pc' := 30) (lv' := [(1, .int 27), (0, .ref 55)]) (st' := va_rf (in_mR96 55 0) :: [.int 27]) (fun n => rfl) ?_
  rw [in_h96_55_0]
  show Ev XL xs _ 38 (in_mI96, in_mL96, in_mR96, 408, 408, 7834) 30 [(1, .int 27), (0, .ref 55)] (.ref 56 :: [.int 27]) _
  refine ev_s 3 (M' := (in_mI96, in_mL96, in_mR96, 408, 408, 7834)) (pc' := 35) (lv' := [(1, .int 27), (0, .ref 55)]) (st' := [.ref 55]) (fun n => rfl) ?_
  refine ev_s 1 (M' := (in_mI96, in_mL96, in_mR96, 408, 408, 7834)) (pc' := 38) (lv' := [(1, .int 27), (0, .ref 55)]) (st' := va_rf (in_mR96 55 0) :: []) (fun n => rfl) ?_
  rw [in_h96_55_0]
  show Ev XL xs _ 38 (in_mI96, in_mL96, in_mR96, 408, 408, 7834) 38 [(1, .int 27), (0, .ref 55)] (.ref 56 :: []) _
  refine ev_s 3 (M' := (in_mI97, in_mL97, in_mR97, 409, 409, 7842)) (pc' := 43) (lv' := [(1, .int 27), (0, .ref 55)]) (st' := [.ref 408, .ref 408, .int 27, .ref 56]) (fun n => rfl) ?_
  refine ev_c 1 (y' := 67) (M1 := (in_mI97, in_mL97, in_mR97, 409, 409, 7842)) (la := [(0, .ref 408)]) (rest := [.ref 408, .int 27, .ref 56]) (pc' := 46) (lv' := [(1, .int 27), (0, .ref 55)]) (fun n => rfl) (ev_r 300 (fun n => in_c98 n _)) ?_
  show Ev XL xs _ 38 (in_mI98, in_mL98, in_mR98, 421, 421, 8078) 46 [(1, .int 27), (0, .ref 55)] [.ref 408, .int 27, .ref 56] _
  refine ev_s 5 (M' := (in_mI99, in_mL99, in_mR99, 421, 421, 8078)) (pc' := 27) (lv' := [(1, .int 28), (0, .ref 55)]) (st' := [.ref 55, .int 28]) (fun n => rfl) ?_
  refine ev_s 1 (M' := (in_mI99, in_mL99, in_mR99, 421, 421, 8078)) (pc' := 30) (lv' := [(1, .int 28), (0, .ref 55)]) (st' := va_rf (in_mR99 55 0) :: [.int 28]) (fun n => rfl) ?_
  rw [in_h99_55_0]
  show Ev XL xs _ 38 (in_mI99, in_mL99, in_mR99, 421, 421, 8078) 30 [(1, .int 28), (0, .ref 55)] (.ref 56 :: [.int 28]) _
  refine ev_s 3 (M' := (in_mI99, in_mL99, in_mR99, 421, 421, 8078)) (pc' := 35) (lv' := [(1, .int 28), (0, .ref 55)]) (st' := [.ref 55]) (fun n => rfl) ?_
  refine ev_s 1 (M' := (in_mI99, in_mL99, in_mR99, 421, 421, 8078)) (pc' := 38) (lv' := [(1, .int 28), (0, .ref 55)]) (st' := va_rf (in_mR99 55 0) :: []) (fun n => rfl) ?_
  rw [in_h99_55_0]
  show Ev XL xs _ 38 (in_mI99, in_mL99, in_mR99, 421, 421, 8078) 38 [(1, .int 28), (0, .ref 55)] (.ref 56 :: []) _
  refine ev_s 3 (M' := (in_mI100, in_mL100, in_mR100, 422, 422, 8086)) (pc' := 43) (lv' := [(1, .int 28), (0, .ref 55)]) (st' := [.ref 421, .ref 421, .int 28, .ref 56]) (fun n => rfl) ?_
  refine ev_c 1 (y' := 67) (M1 := (in_mI100, in_mL100, in_mR100, 422, 422, 8086)) (la := [(0, .ref 421)]) (rest := [.ref 421, .int 28, .ref 56]) (pc' := 46) (lv' := [(1, .int 28), (0, .ref 55)]) (fun n => rfl) (ev_r 300 (fun n => in_c101 n _)) ?_
  show Ev XL xs _ 38 (in_mI101, in_mL101, in_mR101, 434, 434, 8322) 46 [(1, .int 28), (0, .ref 55)] [.ref 421, .int 28, .ref 56] _
  refine ev_s 5 (M' := (in_mI102, in_mL102, in_mR102, 434, 434, 8322)) (pc' := 27) (lv' := [(1, .int 29), (0, .ref 55)]) (st' := [.ref 55, .int 29]) (fun n => rfl) ?_
  refine ev_s 1 (M' := (in_mI102, in_mL102, in_mR102, 434, 434, 8322)) (pc' := 30) (lv' := [(1, .int 29), (0, .ref 55)]) (st' := va_rf (in_mR102 55 0) :: [.int 29]) (fun n => rfl) ?_
  rw [in_h102_55_0]
  show Ev XL xs _ 38 (in_mI102, in_mL102, in_mR102, 434, 434, 8322) 30 [(1, .int 29), (0, .ref 55)] (.ref 56 :: [.int 29]) _
  refine ev_s 3 (M' := (in_mI102, in_mL102, in_mR102, 434, 434, 8322)) (pc' := 35) (lv' := [(1, .int 29), (0, .ref 55)]) (st' := [.ref 55]) (fun n => rfl) ?_
  refine ev_s 1 (M' := (in_mI102, in_mL102, in_mR102, 434, 434, 8322)) (pc' := 38) (lv' := [(1, .int 29), (0, .ref 55)]) (st' := va_rf (in_mR102 55 0) :: []) (fun n => rfl) ?_
  rw [in_h102_55_0]
  show Ev XL xs _ 38 (in_mI102, in_mL102, in_mR102, 434, 434, 8322) 38 [(1, .int 29), (0, .ref 55)] (.ref 56 :: []) _
  refine ev_s 3 (M' := (in_mI103, in_mL103, in_mR103, 435, 435, 8330)) (pc' := 43) (lv' := [(1, .int 29), (0, .ref 55)]) (st' := [.ref 434, .ref 434, .int 29, .ref 56]) (fun n => rfl) ?_
  refine ev_c 1 (y' := 67) (M1 := (in_mI103, in_mL103, in_mR103, 435, 435, 8330)) (la := [(0, .ref 434)]) (rest := [.ref 434, .int 29, .ref 56]) (pc' := 46) (lv' := [(1, .int 29), (0, .ref 55)]) (fun n => rfl) (ev_r 300 (fun n => in_c104 n _)) ?_
  show Ev XL xs _ 38 (in_mI104, in_mL104, in_mR104, 447, 447, 8566) 46 [(1, .int 29), (0, .ref 55)] [.ref 434, .int 29, .ref 56] _
  refine ev_s 5 (M' := (in_mI105, in_mL105, in_mR105, 447, 447, 8566)) (pc' := 27) (lv' := [(1, .int 30), (0, .ref 55)]) (st' := [.ref 55, .int 30]) (fun n => rfl) ?_
  refine ev_s 1 (M' := (in_mI105, in_mL105, in_mR105, 447, 447, 8566)) (pc' := 30) (lv' := [(1, .int 30), (0, .ref 55)]) (st' := va_rf (in_mR105 55 0) :: [.int 30]) (fun n => rfl) ?_
  rw [in_h105_55_0]
  show Ev XL xs _ 38 (in_mI105, in_mL105, in_mR105, 447, 447, 8566) 30 [(1, .int 30), (0, .ref 55)] (.ref 56 :: [.int 30]) _
  refine ev_s 3 (M' := (in_mI105, in_mL105, in_mR105, 447, 447, 8566)) (pc' := 35) (lv' := [(1, .int 30), (0, .ref 55)]) (st' := [.ref 55]) (fun n => rfl) ?_
  refine ev_s 1 (M' := (in_mI105, in_mL105, in_mR105, 447, 447, 8566)) (pc' := 38) (lv' := [(1, .int 30), (0, .ref 55)]) (st' := va_rf (in_mR105 55 0) :: []) (fun n => rfl) ?_
  rw [in_h105_55_0]
  show Ev XL xs _ 38 (in_mI105, in_mL105, in_mR105, 447, 447, 8566) 38 [(1, .int 30), (0, .ref 55)] (.ref 56 :: []) _
  refine ev_s 3 (M' := (in_mI106, in_mL106, in_mR106, 448, 448, 8574)) (pc' := 43) (lv' := [(1, .int 30), (0, .ref 55)]) (st' := [.ref 447, .ref 447, .int 30, .ref 56]) (fun n => rfl) ?_
  refine ev_c 1 (y' := 67) (M1 := (in_mI106, in_mL106, in_mR106, 448, 448, 8574)) (la := [(0, .ref 447)]) (rest := [.ref 447, .int 30, .ref 56]) (pc' := 46) (lv' := [(1, .int 30), (0, .ref 55)]) (fun n => rfl) (ev_r 300 (fun n => in_c107 n _)) ?_
  show Ev XL xs _ 38 (in_mI107, in_mL107, in_mR107, 460, 460, 8810) 46 [(1, .int 30), (0, .ref 55)] [.ref 447, .int 30, .ref 56] _
  refine ev_s 5 (M' := (in_mI108, in_mL108, in_mR108, 460, 460, 8810)) (pc' := 27) (lv' := [(1, .int 31), (0, .ref 55)]) (st' := [.ref 55, .int 31]) (fun n => rfl) ?_
  refine ev_s 1 (M' := (in_mI108, in_mL108, in_mR108, 460, 460, 8810)) (pc' := 30) (lv' := [(1, .int 31), (0, .ref 55)]) (st' := va_rf (in_mR108 55 0) :: [.int 31]) (fun n => rfl) ?_
  rw [in_h108_55_0]
  show Ev XL xs _ 38 (in_mI108, in_mL108, in_mR108, 460, 460, 8810) 30 [(1, .int 31), (0, .ref 55)] (.ref 56 :: [.int 31]) _
  refine ev_s 3 (M' := (in_mI108, in_mL108, in_mR108, 460, 460, 8810)) (pc' := 35) (lv' := [(1, .int 31), (0, .ref 55)]) (st' := [.ref 55]) (fun n => rfl) ?_
  refine ev_s 1 (M' := (in_mI108, in_mL108, in_mR108, 460, 460, 8810)) (pc' := 38) (lv' := [(1, .int 31), (0, .ref 55)]) (st' := va_rf (in_mR108 55 0) :: []) (fun n => rfl) ?_
  rw [in_h108_55_0]
  show Ev XL xs _ 38 (in_mI108, in_mL108, in_mR108, 460, 460, 8810) 38 [(1, .int 31), (0, .ref 55)] (.ref 56 :: []) _
  refine ev_s 3 (M' := (in_mI109, in_mL109, in_mR109, 461, 461, 8818)) (pc' := 43) (lv' := [(1, .int 31), (0, .ref 55)]) (st' := [.ref 460, .ref 460, .int 31, .ref 56]) (fun n => rfl) ?_
  refine ev_c 1 (y' := 67) (M1 := (in_mI109, in_mL109, in_mR109, 461, 461, 8818)) (la := [(0, .ref 460)]) (rest := [.ref 460, .int 31, .ref 56]) (pc' := 46) (lv' := [(1, .int 31), (0, .ref 55)]) (fun n => rfl) (ev_r 300 (fun n => in_c110 n _)) ?_
  show Ev XL xs _ 38 (in_mI110, in_mL110, in_mR110, 473, 473, 9054) 46 [(1, .int 31), (0, .ref 55)] [.ref 460, .int 31, .ref 56] _
  refine ev_s 5 (M' := (in_mI111, in_mL111, in_mR111, 473, 473, 9054)) (pc' := 27) (lv' := [(1, .int 32), (0, .ref 55)]) (st' := [.ref 55, .int 32]) (fun n => rfl) ?_
  refine ev_s 1 (M' := (in_mI111, in_mL111, in_mR111, 473, 473, 9054)) (pc' := 30) (lv' := [(1, .int 32), (0, .ref 55)]) (st' := va_rf (in_mR111 55 0) :: [.int 32]) (fun n => rfl) ?_
  rw [in_h111_55_0]
  show Ev XL xs _ 38 (in_mI111, in_mL111, in_mR111, 473, 473, 9054) 30 [(1, .int 32), (0, .ref 55)] (.ref 56 :: [.int 32]) _
  refine ev_s 3 (M' := (in_mI111, in_mL111, in_mR111, 473, 473, 9054)) (pc' := 35) (lv' := [(1, .int 32), (0, .ref 55)]) (st' := [.ref 55]) (fun n => rfl) ?_
  refine ev_s 1 (M' := (in_mI111, in_mL111, in_mR111, 473, 473, 9054)) (pc' := 38) (lv' := [(1, .int 32), (0, .ref 55)]) (st' := va_rf (in_mR111 55 0) :: []) (fun n => rfl) ?_
  rw [in_h111_55_0]
  show Ev XL xs _ 38 (in_mI111, in_mL111, in_mR111, 473, 473, 9054) 38 [(1, .int 32), (0, .ref 55)] (.ref 56 :: []) _
  refine ev_s 3 (M' := (in_mI112, in_mL112, in_mR112, 474, 474, 9062)) (pc' := 43) (lv' := [(1, .int 32), (0, .ref 55)]) (st' := [.ref 473, .ref 473, .int 32, .ref 56]) (fun n => rfl) ?_
  refine ev_c 1 (y' := 67) (M1 := (in_mI112, in_mL112, in_mR112, 474, 474, 9062)) (la := [(0, .ref 473)]) (rest := [.ref 473, .int 32, .ref 56]) (pc' := 46) (lv' := [(1, .int 32), (0, .ref 55)]) (fun n => rfl) (ev_r 300 (fun n => in_c113 n _)) ?_
  show Ev XL xs _ 38 (in_mI113, in_mL113, in_mR113, 486, 486, 9298) 46 [(1, .int 32), (0, .ref 55)] [.ref 473, .int 32, .ref 56] _
  refine ev_s 5 (M' := (in_mI114, in_mL114, in_mR114, 486, 486, 9298)) (pc' := 27) (lv' := [(1, .int 33), (0, .ref 55)]) (st' := [.ref 55, .int 33]) (fun n => rfl) ?_
  refine ev_s 1 (M' := (in_mI114, in_mL114, in_mR114, 486, 486, 9298)) (pc' := 30) (lv' := [(1, .int 33), (0, .ref 55)]) (st' := va_rf (in_mR114 55 0) :: [.int 33]) (fun n => rfl) ?_
  rw [in_h114_55_0]
  show Ev XL xs _ 38 (in_mI114, in_mL114, in_mR114, 486, 486, 9298) 30 [(1, .int 33), (0, .ref 55)] (.ref 56 :: [.int 33]) _
  refine ev_s 3 (M' := (in_mI114, in_mL114, in_mR114, 486, 486, 9298)) (pc' := 35) (lv' := [(1, .int 33), (0, .ref 55)]) (st' := [.ref 55]) (fun n => rfl) ?_
  refine ev_s 1 (M' := (in_mI114, in_mL114, in_mR114, 486, 486, 9298)) (pc' := 38) (lv' := [(1, .int 33), (0, .ref 55)]) (st' := va_rf (in_mR114 55 0) :: []) (fun n => rfl) ?_
  rw [in_h114_55_0]
  show Ev XL xs _ 38 (in_mI114, in_mL114, in_mR114, 486, 486, 9298) 38 [(1, .int 33), (0, .ref 55)] (.ref 56 :: []) _
  refine ev_s 3 (M' := (in_mI115, in_mL115, in_mR115, 487, 487, 9306)) (pc' := 43) (lv' := [(1, .int 33), (0, .ref 55)]) (st' := [.ref 486, .ref 486, .int 33, .ref 56]) (fun n => rfl) ?_
  refine ev_c 1 (y' := 67) (M1 := (in_mI115, in_mL115, in_mR115, 487, 487, 9306)) (la := [(0, .ref 486)]) (rest := [.ref 486, .int 33, .ref 56]) (pc' := 46) (lv' := [(1, .int 33), (0, .ref 55)]) (fun n => rfl) (ev_r 300 (fun n => in_c116 n _)) ?_
  show Ev XL xs _ 38 (in_mI116, in_mL116, in_mR116, 499, 499, 9542) 46 [(1, .int 33), (0, .ref 55)] [.ref 486, .int 33, .ref 56] _
  refine ev_s 5 (M' := (in_mI117, in_mL117, in_mR117, 499, 499, 9542)) (pc' := 27) (lv' := [(1, .int 34), (0, .ref 55)]) (st' := [.ref 55, .int 34]) (fun n => rfl) ?_
  refine ev_s 1 (M' := (in_mI117, in_mL117, in_mR117, 499, 499, 9542)) (pc' := 30) (lv' := [(1, .int 34), (0, .ref 55)]) (st' := va_rf (in_mR117 55 0) :: [.int 34]) (fun n => rfl) ?_
  rw [in_h117_55_0]
  show Ev XL xs _ 38 (in_mI117, in_mL117, in_mR117, 499, 499, 9542) 30 [(1, .int 34), (0, .ref 55)] (.ref 56 :: [.int 34]) _
  refine ev_s 3 (M' := (in_mI117, in_mL117, in_mR117, 499, 499, 9542)) (pc' := 35) (lv' := [(1, .int 34), (0, .ref 55)]) (st' := [.ref 55]) (fun n => rfl) ?_
  refine ev_s 1 (M' := (in_mI117, in_mL117, in_mR117, 499, 499, 9542)) (pc' := 38) (lv' := [(1, .int 34), (0, .ref 55)]) (st' := va_rf (in_mR117 55 0) :: []) (fun n => rfl) ?_
  rw [in_h117_55_0]
  show Ev XL xs _ 38 (in_mI117, in_mL117, in_mR117, 499, 499, 9542) 38 [(1, .int 34), (0, .ref 55)] (.ref 56 :: []) _
  refine ev_s 3 (M' := (in_mI118, in_mL118, in_mR118, 500, 500, 9550)) (pc' := 43) (lv' := [(1, .int 34), (0, .ref 55)]) (st' := [.ref 499, .ref 499, .int 34, .ref 56]) (fun n => rfl) ?_
  refine ev_c 1 (y' := 67) (M1 := (in_mI118, in_mL118, in_mR118, 500, 500, 9550)) (la := [(0, .ref 499)]) (rest := [.ref 499, .int 34, .ref 56]) (pc' := 46) (lv' := [(1, .int 34), (0, .ref 55)]) (fun n => rfl) (ev_r 300 (fun n => in_c119 n _)) ?_
  show Ev XL xs _ 38 (in_mI119, in_mL119, in_mR119, 512, 512, 9786) 46 [(1, .int 34), (0, .ref 55)] [.ref 499, .int 34, .ref 56] _
  refine ev_s 5 (M' := (in_mI120, in_mL120, in_mR120, 512, 512, 9786)) (pc' := 27) (lv' := [(1, .int 35), (0, .ref 55)]) (st' := [.ref 55, .int 35]) (fun n => rfl) ?_
  refine ev_s 1 (M' := (in_mI120, in_mL120, in_mR120, 512, 512, 9786)) (pc' := 30) (lv' := [(1, .int 35), (0, .ref 55)]) (st' := va_rf (in_mR120 55 0) :: [.int 35]) (fun n => rfl) ?_
  rw [in_h120_55_0]
  show Ev XL xs _ 38 (in_mI120, in_mL120, in_mR120, 512, 512, 9786) 30 [(1, .int 35), (0, .ref 55)] (.ref 56 :: [.int 35]) _
  refine ev_s 3 (M' := (in_mI120, in_mL120, in_mR120, 512, 512, 9786)) (pc' := 35) (lv' := [(1, .int 35), (0, .ref 55)]) (st' := [.ref 55]) (fun n => rfl) ?_
  refine ev_s 1 (M' := (in_mI120, in_mL120, in_mR120, 512, 512, 9786)) (pc' := 38) (lv' := [(1, .int 35), (0, .ref 55)]) (st' := va_rf (in_mR120 55 0) :: []) (fun n => rfl) ?_
  rw [in_h120_55_0]
  show Ev XL xs _ 38 (in_mI120, in_mL120, in_mR120, 512, 512, 9786) 38 [(1, .int 35), (0, .ref 55)] (.ref 56 :: []) _
  refine ev_s 3 (M' := (in_mI121, in_mL121, in_mR121, 513, 513, 9794)) (pc' := 43) (lv' := [(1, .int 35), (0, .ref 55)]) (st' := [.ref 512, .ref 512, .int 35, .ref 56]) (fun n => rfl) ?_
  refine ev_c 1 (y' := 67) (M1 := (in_mI121, in_mL121, in_mR121, 513, 513, 9794)) (la := [(0, .ref 512)]) (rest := [.ref 512, .int 35, .ref 56]) (pc' := 46) (lv' := [(1, .int 35), (0, .ref 55)]) (fun n => rfl) (ev_r 300 (fun n => in_c122 n _)) ?_
  show Ev XL xs _ 38 (in_mI122, in_mL122, in_mR122, 525, 525, 10030) 46 [(1, .int 35), (0, .ref 55)] [.ref 512, .int 35, .ref 56] _
  refine ev_s 5 (M' := (in_mI123, in_mL123, in_mR123, 525, 525, 10030)) (pc' := 27) (lv' := [(1, .int 36), (0, .ref 55)]) (st' := [.ref 55, .int 36]) (fun n => rfl) ?_
  refine ev_s 1 (M' := (in_mI123, in_mL123, in_mR123, 525, 525, 10030)) (pc' := 30) (lv' := [(1, .int 36), (0, .ref 55)]) (st' := va_rf (in_mR123 55 0) :: [.int 36]) (fun n => rfl) ?_
  rw [in_h123_55_0]
  show Ev XL xs _ 38 (in_mI123, in_mL123, in_mR123, 525, 525, 10030) 30 [(1, .int 36), (0, .ref 55)] (.ref 56 :: [.int 36]) _
  refine ev_s 3 (M' := (in_mI123, in_mL123, in_mR123, 525, 525, 10030)) (pc' := 35) (lv' := [(1, .int 36), (0, .ref 55)]) (st' := [.ref 55]) (fun n => rfl) ?_
  refine ev_s 1 (M' := (in_mI123, in_mL123, in_mR123, 525, 525, 10030)) (pc' := 38) (lv' := [(1, .int 36), (0, .ref 55)]) (st' := va_rf (in_mR123 55 0) :: []) (fun n => rfl) ?_
  rw [in_h123_55_0]
  show Ev XL xs _ 38 (in_mI123, in_mL123, in_mR123, 525, 525, 10030) 38 [(1, .int 36), (0, .ref 55)] (.ref 56 :: []) _
  refine ev_s 3 (M' := (in_mI124, in_mL124, in_mR124, 526, 526, 10038)) (pc' := 43) (lv' := [(1, .int 36), (0, .ref 55)]) (st' := [.ref 525, .ref 525, .int 36, .ref 56]) (fun n => rfl) ?_
  refine ev_c 1 (y' := 67) (M1 := (in_mI124, in_mL124, in_mR124, 526, 526, 10038)) (la := [(0, .ref 525)]) (rest := [.ref 525, .int 36, .ref 56]) (pc' := 46) (lv' := [(1, .int 36), (0, .ref 55)]) (fun n => rfl) (ev_r 300 (fun n => in_c125 n _)) ?_
  show Ev XL xs _ 38 (in_mI125, in_mL125, in_mR125, 538, 538, 10274) 46 [(1, .int 36), (0, .ref 55)] [.ref 525, .int 36, .ref 56] _
  refine ev_s 5 (M' := (in_mI126, in_mL126, in_mR126, 538, 538, 10274)) (pc' := 27) (lv' := [(1, .int 37), (0, .ref 55)]) (st' := [.ref 55, .int 37]) (fun n => rfl) ?_
  refine ev_s 1 (M' := (in_mI126, in_mL126, in_mR126, 538, 538, 10274)) (pc' := 30) (lv' := [(1, .int 37), (0, .ref 55)]) (st' := va_rf (in_mR126 55 0) :: [.int 37]) (fun n => rfl) ?_
  rw [in_h126_55_0]
  show Ev XL xs _ 38 (in_mI126, in_mL126, in_mR126, 538, 538, 10274) 30 [(1, .int 37), (0, .ref 55)] (.ref 56 :: [.int 37]) _
  refine ev_s 3 (M' := (in_mI126, in_mL126, in_mR126, 538, 538, 10274)) (pc' := 35) (lv' := [(1, .int 37), (0, .ref 55)]) (st' := [.ref 55]) (fun n => rfl) ?_
  refine ev_s 1 (M' := (in_mI126, in_mL126, in_mR126, 538, 538, 10274)) (pc' := 38) (lv' := [(1, .int 37), (0, .ref 55)]) (st' := va_rf (in_mR126 55 0) :: []) (fun n => rfl) ?_
  rw [in_h126_55_0]
  show Ev XL xs _ 38 (in_mI126, in_mL126, in_mR126, 538, 538, 10274) 38 [(1, .int 37), (0, .ref 55)] (.ref 56 :: []) _
  refine ev_s 3 (M' := (in_mI127, in_mL127, in_mR127, 539, 539, 10282)) (pc' := 43) (lv' := [(1, .int 37), (0, .ref 55)]) (st' := [.ref 538, .ref 538, .int 37, .ref 56]) (fun n => rfl) ?_
  refine ev_c 1 (y' := 67) (M1 := (in_mI127, in_mL127, in_mR127, 539, 539, 10282)) (la := [(0, .ref 538)]) (rest := [.ref 538, .int 37, .ref 56]) (pc' := 46) (lv' := [(1, .int 37), (0, .ref 55)]) (fun n => rfl) (ev_r 300 (fun n => in_c128 n _)) ?_
  show Ev XL xs _ 38 (in_mI128, in_mL128, in_mR128, 551, 551, 10518) 46 [(1, .int 37), (0, .ref 55)] [.ref 538, .int 37, .ref 56] _
  refine ev_s 5 (M' := (in_mI129, in_mL129, in_mR129, 551, 551, 10518)) (pc' := 27) (lv' := [(1, .int 38), (0, .ref 55)]) (st' := [.ref 55, .int 38]) (fun n => rfl) ?_
  refine ev_s 1 (M' := (in_mI129, in_mL129, in_mR129, 551, 551, 10518)) (pc' := 30) (lv' := [(1, .int 38), (0, .ref 55)]) (st' := va_rf (in_mR129 55 0) :: [.int 38]) (fun n => rfl) ?_
  rw [in_h129_55_0]
  show Ev XL xs _ 38 (in_mI129, in_mL129, in_mR129, 551, 551, 10518) 30 [(1, .int 38), (0, .ref 55)] (.ref 56 :: [.int 38]) _
  refine ev_s 3 (M' := (in_mI129, in_mL129, in_mR129, 551, 551, 10518)) (pc' := 35) (lv' := [(1, .int 38), (0, .ref 55)]) (st' := [.ref 55]) (fun n => rfl) ?_
  refine ev_s 1 (M' := (in_mI129, in_mL129, in_mR129, 551, 551, 10518)) (pc' := 38) (lv' := [(1, .int 38), (0, .ref 55)]) (st' := va_rf (in_mR129 55 0) :: []) (fun n => rfl) ?_
  rw [in_h129_55_0]
  show Ev XL xs _ 38 (in_mI129, in_mL129, in_mR129, 551, 551, 10518) 38 [(1, .int 38), (0, .ref 55)] (.ref 56 :: []) _
  refine ev_s 3 (M' := (in_mI130, in_mL130, in_mR130, 552, 552, 10526)) (pc' := 43) (lv' := [(1, .int 38), (0, .ref 55)]) (st' := [.ref 551, .ref 551, .int 38, .ref 56]) (fun n => rfl) ?_
  refine ev_c 1 (y' := 67) (M1 := (in_mI130, in_mL130, in_mR130, 552, 552, 10526)) (la := [(0, .ref 551)]) (rest := [.ref 551, .int 38, .ref 56]) (pc' := 46) (lv' := [(1, .int 38), (0, .ref 55)]) (fun n => rfl) (ev_r 300 (fun n => in_c131 n _)) ?_
  show Ev XL xs _ 38 (in_mI131, in_mL131, in_mR131, 564, 564, 10762) 46 [(1, .int 38), (0, .ref 55)] [.ref 551, .int 38, .ref 56] _
  refine ev_s 5 (M' := (in_mI132, in_mL132, in_mR132, 564, 564, 10762)) (pc' := 27) (lv' := [(1, .int 39), (0, .ref 55)]) (st' := [.ref 55, .int 39]) (fun n => rfl) ?_
  refine ev_s 1 (M' := (in_mI132, in_mL132, in_mR132, 564, 564, 10762)) (pc' := 30) (lv' := [(1, .int 39), (0, .ref 55)]) (st' := va_rf (in_mR132 55 0) :: [.int 39]) (fun n => rfl) ?_
  rw [in_h132_55_0]
  show Ev XL xs _ 38 (in_mI132, in_mL132, in_mR132, 564, 564, 10762) 30 [(1, .int 39), (0, .ref 55)] (.ref 56 :: [.int 39]) _
  refine ev_s 3 (M' := (in_mI132, in_mL132, in_mR132, 564, 564, 10762)) (pc' := 35) (lv' := [(1, .int 39), (0, .ref 55)]) (st' := [.ref 55]) (fun n => rfl) ?_
  refine ev_s 1 (M' := (in_mI132, in_mL132, in_mR132, 564, 564, 10762)) (pc' := 38) (lv' := [(1, .int 39), (0, .ref 55)]) (st' := va_rf (in_mR132 55 0) :: []) (fun n => rfl) ?_
  rw [in_h132_55_0]
  show Ev XL xs _ 38 (in_mI132, in_mL132, in_mR132, 564, 564, 10762) 38 [(1, .int 39), (0, .ref 55)] (.ref 56 :: []) _
  refine ev_s 3 (M' := (in_mI133, in_mL133, in_mR133, 565, 565, 10770)) (pc' := 43) (lv' := [(1, .int 39), (0, .ref 55)]) (st' := [.ref 564, .ref 564, .int 39, .ref 56]) (fun n => rfl) ?_
  refine ev_c 1 (y' := 67) (M1 := (in_mI133, in_mL133, in_mR133, 565, 565, 10770)) (la := [(0, .ref 564)]) (rest := [.ref 564, .int 39, .ref 56]) (pc' := 46) (lv' := [(1, .int 39), (0, .ref 55)]) (fun n => rfl) (ev_r 300 (fun n => in_c134 n _)) ?_
  show Ev XL xs _ 38 (in_mI134, in_mL134, in_mR134, 577, 577, 11006) 46 [(1, .int 39), (0, .ref 55)] [.ref 564, .int 39, .ref 56] _
  refine ev_s 5 (M' := (in_mI135, in_mL135, in_mR135, 577, 577, 11006)) (pc' := 27) (lv' := [(1, .int 40), (0, .ref 55)]) (st' := [.ref 55, .int 40]) (fun n => rfl) ?_
  refine ev_s 1 (M' := (in_mI135, in_mL135, in_mR135, 577, 577, 11006)) (pc' := 30) (lv' := [(1, .int 40), (0, .ref 55)]) (st' := va_rf (in_mR135 55 0) :: [.int 40]) (fun n => rfl) ?_
  rw [in_h135_55_0]
  show Ev XL xs _ 38 (in_mI135, in_mL135, in_mR135, 577, 577, 11006) 30 [(1, .int 40), (0, .ref 55)] (.ref 56 :: [.int 40]) _
  exact ev_r 3 (fun n => rfl)
end INI
