section INI
variable {XL : Nat} {xs : Nat → Int32}
set_option maxRecDepth 100000
theorem in_past_s30 {d : Nat} {q : mm_R} (h : Ev XL xs (d + 8) 38 (in_mI107, in_mL107, in_mR107, 460, 460, 8810) 46 [(1, .int 30), (0, .ref 55)] [.ref 447, .int 30, .ref 56] q) : Ev XL xs (d + 8) 38 (in_mI104, in_mL104, in_mR104, 447, 447, 8566) 46 [(1, .int 29), (0, .ref 55)] [.ref 434, .int 29, .ref 56] q := by
  refine ev_s 5 (M' := (in_mI104, in_mL104, in_mR105, 447, 447, 8566)) (pc' := 27) (lv' := [(1, .int 30), (0, .ref 55)]) (st' := [.ref 55, .int 30]) (fun n => rfl) ?_
  rw [← in_eI105, ← in_eL105]
  refine ev_s 1 (M' := (in_mI105, in_mL105, in_mR105, 447, 447, 8566)) (pc' := 30) (lv' := [(1, .int 30), (0, .ref 55)]) (st' := va_rf (in_mR105 55 0) :: [.int 30]) (fun n => rfl) ?_
  rw [in_h105_55_0]
  show Ev XL xs _ 38 (in_mI105, in_mL105, in_mR105, 447, 447, 8566) 30 [(1, .int 30), (0, .ref 55)] (.ref 56 :: [.int 30]) _
  refine ev_s 3 (M' := (in_mI105, in_mL105, in_mR105, 447, 447, 8566)) (pc' := 35) (lv' := [(1, .int 30), (0, .ref 55)]) (st' := [.ref 55]) (fun n => rfl) ?_
  refine ev_s 1 (M' := (in_mI105, in_mL105, in_mR105, 447, 447, 8566)) (pc' := 38) (lv' := [(1, .int 30), (0, .ref 55)]) (st' := va_rf (in_mR105 55 0) :: []) (fun n => rfl) ?_
  rw [in_h105_55_0]
  show Ev XL xs _ 38 (in_mI105, in_mL105, in_mR105, 447, 447, 8566) 38 [(1, .int 30), (0, .ref 55)] (.ref 56 :: []) _
  refine ev_s 3 (M' := (in_mI106, in_mL106, in_mR106, 448, 448, 8574)) (pc' := 43) (lv' := [(1, .int 30), (0, .ref 55)]) (st' := [.ref 447, .ref 447, .int 30, .ref 56]) (fun n => rfl) ?_
  refine ev_c 1 (y' := 67) (M1 := (in_mI106, in_mL106, in_mR106, 448, 448, 8574)) (la := [(0, .ref 447)]) (rest := [.ref 447, .int 30, .ref 56]) (pc' := 46) (lv' := [(1, .int 30), (0, .ref 55)]) (fun n => rfl) (ev_r 300 (fun n => in_c107 n _)) ?_
  show Ev XL xs _ 38 (in_mI107, in_mL107, in_mR107, 460, 460, 8810) 46 [(1, .int 30), (0, .ref 55)] [.ref 447, .int 30, .ref 56] _
  exact h
theorem in_past_s31 {d : Nat} {q : mm_R} (h : Ev XL xs (d + 8) 38 (in_mI110, in_mL110, in_mR110, 473, 473, 9054) 46 [(1, .int 31), (0, .ref 55)] [.ref 460, .int 31, .ref 56] q) : Ev XL xs (d + 8) 38 (in_mI107, in_mL107, in_mR107, 460, 460, 8810) 46 [(1, .int 30), (0, .ref 55)] [.ref 447, .int 30, .ref 56] q := by
  refine ev_s 5 (M' := (in_mI107, in_mL107, in_mR108, 460, 460, 8810)) (pc' := 27) (lv' := [(1, .int 31), (0, .ref 55)]) (st' := [.ref 55, .int 31]) (fun n => rfl) ?_
  rw [← in_eI108, ← in_eL108]
  refine ev_s 1 (M' := (in_mI108, in_mL108, in_mR108, 460, 460, 8810)) (pc' := 30) (lv' := [(1, .int 31), (0, .ref 55)]) (st' := va_rf (in_mR108 55 0) :: [.int 31]) (fun n => rfl) ?_
  rw [in_h108_55_0]
  show Ev XL xs _ 38 (in_mI108, in_mL108, in_mR108, 460, 460, 8810) 30 [(1, .int 31), (0, .ref 55)] (.ref 56 :: [.int 31]) _
  refine ev_s 3 (M' := (in_mI108, in_mL108, in_mR108, 460, 460, 8810)) (pc' := 35) (lv' := [(1, .int 31), (0, .ref 55)]) (st' := [.ref 55]) (fun n => rfl) ?_
  refine ev_s 1 (M' := (in_mI108, in_mL108, in_mR108, 460, 460, 8810)) (pc' := 38) (lv' := [(1, .int 31), (0, .ref 55)]) (st' := va_rf (in_mR108 55 0) :: []) (fun n => rfl) ?_
  rw [in_h108_55_0]
  show Ev XL xs _ 38 (in_mI108, in_mL108, in_mR108, 460, 460, 8810) 38 [(1, .int 31), (0, .ref 55)] (.ref 56 :: []) _
  refine ev_s 3 (M' := (in_mI109, in_mL109, in_mR109, 461, 461, 8818)) (pc' := 43) (lv' := [(1, .int 31), (0, .ref 55)]) (st' := [.ref 460, .ref 460, .int 31, .ref 56]) (fun n => rfl) ?_
  refine ev_c 1 (y' := 67) (M1 := (in_mI109, in_mL109, in_mR109, 461, 461, 8818)) (la := [(0, .ref 460)]) (rest := [.ref 460, .int 31, .ref 56]) (pc' := 46) (lv' := [(1, .int 31), (0, .ref 55)]) (fun n => rfl) (ev_r 300 (fun n => in_c110 n _)) ?_
  show Ev XL xs _ 38 (in_mI110, in_mL110, in_mR110, 473, 473, 9054) 46 [(1, .int 31), (0, .ref 55)] [.ref 460, .int 31, .ref 56] _
  exact h
theorem in_past_s32 {d : Nat} {q : mm_R} (h : Ev XL xs (d + 8) 38 (in_mI113, in_mL113, in_mR113, 486, 486, 9298) 46 [(1, .int 32), (0, .ref 55)] [.ref 473, .int 32, .ref 56] q) : Ev XL xs (d + 8) 38 (in_mI110, in_mL110, in_mR110, 473, 473, 9054) 46 [(1, .int 31), (0, .ref 55)] [.ref 460, .int 31, .ref 56] q := by
  refine ev_s 5 (M' := (in_mI110, in_mL110, in_mR111, 473, 473, 9054)) (pc' := 27) (lv' := [(1, .int 32), (0, .ref 55)]) (st' := [.ref 55, .int 32]) (fun n => rfl) ?_
  rw [← in_eI111, ← in_eL111]
  refine ev_s 1 (M' := (in_mI111, in_mL111, in_mR111, 473, 473, 9054)) (pc' := 30) (lv' := [(1, .int 32), (0, .ref 55)]) (st' := va_rf (in_mR111 55 0) :: [.int 32]) (fun n => rfl) ?_
  rw [in_h111_55_0]
  show Ev XL xs _ 38 (in_mI111, in_mL111, in_mR111, 473, 473, 9054) 30 [(1, .int 32), (0, .ref 55)] (.ref 56 :: [.int 32]) _
  refine ev_s 3 (M' := (in_mI111, in_mL111, in_mR111, 473, 473, 9054)) (pc' := 35) (lv' := [(1, .int 32), (0, .ref 55)]) (st' := [.ref 55]) (fun n => rfl) ?_
  refine ev_s 1 (M' := (in_mI111, in_mL111, in_mR111, 473, 473, 9054)) (pc' := 38) (lv' := [(1, .int 32), (0, .ref 55)]) (st' := va_rf (in_mR111 55 0) :: []) (fun n => rfl) ?_
  rw [in_h111_55_0]
  show Ev XL xs _ 38 (in_mI111, in_mL111, in_mR111, 473, 473, 9054) 38 [(1, .int 32), (0, .ref 55)] (.ref 56 :: []) _
  refine ev_s 3 (M' := (in_mI112, in_mL112, in_mR112, 474, 474, 9062)) (pc' := 43) (lv' := [(1, .int 32), (0, .ref 55)]) (st' := [.ref 473, .ref 473, .int 32, .ref 56]) (fun n => rfl) ?_
  refine ev_c 1 (y' := 67) (M1 := (in_mI112, in_mL112, in_mR112, 474, 474, 9062)) (la := [(0, .ref 473)]) (rest := [.ref 473, .int 32, .ref 56]) (pc' := 46) (lv' := [(1, .int 32), (0, .ref 55)]) (fun n => rfl) (ev_r 300 (fun n => in_c113 n _)) ?_
  show Ev XL xs _ 38 (in_mI113, in_mL113, in_mR113, 486, 486, 9298) 46 [(1, .int 32), (0, .ref 55)] [.ref 473, .int 32, .ref 56] _
  exact h
theorem in_past_s33 {d : Nat} {q : mm_R} (h : Ev XL xs (d + 8) 38 (in_mI116, in_mL116, in_mR116, 499, 499, 9542) 46 [(1, .int 33), (0, .ref 55)] [.ref 486, .int 33, .ref 56] q) : Ev XL xs (d + 8) 38 (in_mI113, in_mL113, in_mR113, 486, 486, 9298) 46 [(1, .int 32), (0, .ref 55)] [.ref 473, .int 32, .ref 56] q := by
  refine ev_s 5 (M' := (in_mI113, in_mL113, in_mR114, 486, 486, 9298)) (pc' := 27) (lv' := [(1, .int 33), (0, .ref 55)]) (st' := [.ref 55, .int 33]) (fun n => rfl) ?_
  rw [← in_eI114, ← in_eL114]
  refine ev_s 1 (M' := (in_mI114, in_mL114, in_mR114, 486, 486, 9298)) (pc' := 30) (lv' := [(1, .int 33), (0, .ref 55)]) (st' := va_rf (in_mR114 55 0) :: [.int 33]) (fun n => rfl) ?_
  rw [in_h114_55_0]
  show Ev XL xs _ 38 (in_mI114, in_mL114, in_mR114, 486, 486, 9298) 30 [(1, .int 33), (0, .ref 55)] (.ref 56 :: [.int 33]) _
  refine ev_s 3 (M' := (in_mI114, in_mL114, in_mR114, 486, 486, 9298)) (pc' := 35) (lv' := [(1, .int 33), (0, .ref 55)]) (st' := [.ref 55]) (fun n => rfl) ?_
  refine ev_s 1 (M' := (in_mI114, in_mL114, in_mR114, 486, 486, 9298)) (pc' := 38) (lv' := [(1, .int 33), (0, .ref 55)]) (st' := va_rf (in_mR114 55 0) :: []) (fun n => rfl) ?_
  rw [in_h114_55_0]
  show Ev XL xs _ 38 (in_mI114, in_mL114, in_mR114, 486, 486, 9298) 38 [(1, .int 33), (0, .ref 55)] (.ref 56 :: []) _
  refine ev_s 3 (M' := (in_mI115, in_mL115, in_mR115, 487, 487, 9306)) (pc' := 43) (lv' := [(1, .int 33), (0, .ref 55)]) (st' := [.ref 486, .ref 486, .int 33, .ref 56]) (fun n => rfl) ?_
  refine ev_c 1 (y' := 67) (M1 := (in_mI115, in_mL115, in_mR115, 487, 487, 9306)) (la := [(0, .ref 486)]) (rest := [.ref 486, .int 33, .ref 56]) (pc' := 46) (lv' := [(1, .int 33), (0, .ref 55)]) (fun n => rfl) (ev_r 300 (fun n => in_c116 n _)) ?_
  show Ev XL xs _ 38 (in_mI116, in_mL116, in_mR116, 499, 499, 9542) 46 [(1, .int 33), (0, .ref 55)] [.ref 486, .int 33, .ref 56] _
  exact h
theorem in_past_s34 {d : Nat} {q : mm_R} (h : Ev XL xs (d + 8) 38 (in_mI119, in_mL119, in_mR119, 512, 512, 9786) 46 [(1, .int 34), (0, .ref 55)] [.ref 499, .int 34, .ref 56] q) : Ev XL xs (d + 8) 38 (in_mI116, in_mL116, in_mR116, 499, 499, 9542) 46 [(1, .int 33), (0, .ref 55)] [.ref 486, .int 33, .ref 56] q := by
  refine ev_s 5 (M' := (in_mI116, in_mL116, in_mR117, 499, 499, 9542)) (pc' := 27) (lv' := [(1, .int 34), (0, .ref 55)]) (st' := [.ref 55, .int 34]) (fun n => rfl) ?_
  rw [← in_eI117, ← in_eL117]
  refine ev_s 1 (M' := (in_mI117, in_mL117, in_mR117, 499, 499, 9542)) (pc' := 30) (lv' := [(1, .int 34), (0, .ref 55)]) (st' := va_rf (in_mR117 55 0) :: [.int 34]) (fun n => rfl) ?_
  rw [in_h117_55_0]
  show Ev XL xs _ 38 (in_mI117, in_mL117, in_mR117, 499, 499, 9542) 30 [(1, .int 34), (0, .ref 55)] (.ref 56 :: [.int 34]) _
  refine ev_s 3 (M' := (in_mI117, in_mL117, in_mR117, 499, 499, 9542)) (pc' := 35) (lv' := [(1, .int 34), (0, .ref 55)]) (st' := [.ref 55]) (fun n => rfl) ?_
  refine ev_s 1 (M' := (in_mI117, in_mL117, in_mR117, 499, 499, 9542)) (pc' := 38) (lv' := [(1, .int 34), (0, .ref 55)]) (st' := va_rf (in_mR117 55 0) :: []) (fun n => rfl) ?_
  rw [in_h117_55_0]
  show Ev XL xs _ 38 (in_mI117, in_mL117, in_mR117, 499, 499, 9542) 38 [(1, .int 34), (0, .ref 55)] (.ref 56 :: []) _
  refine ev_s 3 (M' := (in_mI118, in_mL118, in_mR118, 500, 500, 9550)) (pc' := 43) (lv' := [(1, .int 34), (0, .ref 55)]) (st' := [.ref 499, .ref 499, .int 34, .ref 56]) (fun n => rfl) ?_
  refine ev_c 1 (y' := 67) (M1 := (in_mI118, in_mL118, in_mR118, 500, 500, 9550)) (la := [(0, .ref 499)]) (rest := [.ref 499, .int 34, .ref 56]) (pc' := 46) (lv' := [(1, .int 34), (0, .ref 55)]) (fun n => rfl) (ev_r 300 (fun n => in_c119 n _)) ?_
  show Ev XL xs _ 38 (in_mI119, in_mL119, in_mR119, 512, 512, 9786) 46 [(1, .int 34), (0, .ref 55)] [.ref 499, .int 34, .ref 56] _
  exact h
theorem in_past_s35 {d : Nat} {q : mm_R} (h : Ev XL xs (d + 8) 38 (in_mI122, in_mL122, in_mR122, 525, 525, 10030) 46 [(1, .int 35), (0, .ref 55)] [.ref 512, .int 35, .ref 56] q) : Ev XL xs (d + 8) 38 (in_mI119, in_mL119, in_mR119, 512, 512, 9786) 46 [(1, .int 34), (0, .ref 55)] [.ref 499, .int 34, .ref 56] q := by
  refine ev_s 5 (M' := (in_mI119, in_mL119, in_mR120, 512, 512, 9786)) (pc' := 27) (lv' := [(1, .int 35), (0, .ref 55)]) (st' := [.ref 55, .int 35]) (fun n => rfl) ?_
  rw [← in_eI120, ← in_eL120]
  refine ev_s 1 (M' := (in_mI120, in_mL120, in_mR120, 512, 512, 9786)) (pc' := 30) (lv' := [(1, .int 35), (0, .ref 55)]) (st' := va_rf (in_mR120 55 0) :: [.int 35]) (fun n => rfl) ?_
  rw [in_h120_55_0]
  show Ev XL xs _ 38 (in_mI120, in_mL120, in_mR120, 512, 512, 9786) 30 [(1, .int 35), (0, .ref 55)] (.ref 56 :: [.int 35]) _
  refine ev_s 3 (M' := (in_mI120, in_mL120, in_mR120, 512, 512, 9786)) (pc' := 35) (lv' := [(1, .int 35), (0, .ref 55)]) (st' := [.ref 55]) (fun n => rfl) ?_
  refine ev_s 1 (M' := (in_mI120, in_mL120, in_mR120, 512, 512, 9786)) (pc' := 38) (lv' := [(1, .int 35), (0, .ref 55)]) (st' := va_rf (in_mR120 55 0) :: []) (fun n => rfl) ?_
  rw [in_h120_55_0]
  show Ev XL xs _ 38 (in_mI120, in_mL120, in_mR120, 512, 512, 9786) 38 [(1, .int 35), (0, .ref 55)] (.ref 56 :: []) _
  refine ev_s 3 (M' := (in_mI121, in_mL121, in_mR121, 513, 513, 9794)) (pc' := 43) (lv' := [(1, .int 35), (0, .ref 55)]) (st' := [.ref 512, .ref 512, .int 35, .ref 56]) (fun n => rfl) ?_
  refine ev_c 1 (y' := 67) (M1 := (in_mI121, in_mL121, in_mR121, 513, 513, 9794)) (la := [(0, .ref 512)]) (rest := [.ref 512, .int 35, .ref 56]) (pc' := 46) (lv' := [(1, .int 35), (0, .ref 55)]) (fun n => rfl) (ev_r 300 (fun n => in_c122 n _)) ?_
  show Ev XL xs _ 38 (in_mI122, in_mL122, in_mR122, 525, 525, 10030) 46 [(1, .int 35), (0, .ref 55)] [.ref 512, .int 35, .ref 56] _
  exact h
theorem in_past_s36 {d : Nat} {q : mm_R} (h : Ev XL xs (d + 8) 38 (in_mI125, in_mL125, in_mR125, 538, 538, 10274) 46 [(1, .int 36), (0, .ref 55)] [.ref 525, .int 36, .ref 56] q) : Ev XL xs (d + 8) 38 (in_mI122, in_mL122, in_mR122, 525, 525, 10030) 46 [(1, .int 35), (0, .ref 55)] [.ref 512, .int 35, .ref 56] q := by
  refine ev_s 5 (M' := (in_mI122, in_mL122, in_mR123, 525, 525, 10030)) (pc' := 27) (lv' := [(1, .int 36), (0, .ref 55)]) (st' := [.ref 55, .int 36]) (fun n => rfl) ?_
  rw [← in_eI123, ← in_eL123]
  refine ev_s 1 (M' := (in_mI123, in_mL123, in_mR123, 525, 525, 10030)) (pc' := 30) (lv' := [(1, .int 36), (0, .ref 55)]) (st' := va_rf (in_mR123 55 0) :: [.int 36]) (fun n => rfl) ?_
  rw [in_h123_55_0]
  show Ev XL xs _ 38 (in_mI123, in_mL123, in_mR123, 525, 525, 10030) 30 [(1, .int 36), (0, .ref 55)] (.ref 56 :: [.int 36]) _
  refine ev_s 3 (M' := (in_mI123, in_mL123, in_mR123, 525, 525, 10030)) (pc' := 35) (lv' := [(1, .int 36), (0, .ref 55)]) (st' := [.ref 55]) (fun n => rfl) ?_
  refine ev_s 1 (M' := (in_mI123, in_mL123, in_mR123, 525, 525, 10030)) (pc' := 38) (lv' := [(1, .int 36), (0, .ref 55)]) (st' := va_rf (in_mR123 55 0) :: []) (fun n => rfl) ?_
  rw [in_h123_55_0]
  show Ev XL xs _ 38 (in_mI123, in_mL123, in_mR123, 525, 525, 10030) 38 [(1, .int 36), (0, .ref 55)] (.ref 56 :: []) _
  refine ev_s 3 (M' := (in_mI124, in_mL124, in_mR124, 526, 526, 10038)) (pc' := 43) (lv' := [(1, .int 36), (0, .ref 55)]) (st' := [.ref 525, .ref 525, .int 36, .ref 56]) (fun n => rfl) ?_
  refine ev_c 1 (y' := 67) (M1 := (in_mI124, in_mL124, in_mR124, 526, 526, 10038)) (la := [(0, .ref 525)]) (rest := [.ref 525, .int 36, .ref 56]) (pc' := 46) (lv' := [(1, .int 36), (0, .ref 55)]) (fun n => rfl) (ev_r 300 (fun n => in_c125 n _)) ?_
  show Ev XL xs _ 38 (in_mI125, in_mL125, in_mR125, 538, 538, 10274) 46 [(1, .int 36), (0, .ref 55)] [.ref 525, .int 36, .ref 56] _
  exact h
theorem in_past_s37 {d : Nat} {q : mm_R} (h : Ev XL xs (d + 8) 38 (in_mI128, in_mL128, in_mR128, 551, 551, 10518) 46 [(1, .int 37), (0, .ref 55)] [.ref 538, .int 37, .ref 56] q) : Ev XL xs (d + 8) 38 (in_mI125, in_mL125, in_mR125, 538, 538, 10274) 46 [(1, .int 36), (0, .ref 55)] [.ref 525, .int 36, .ref 56] q := by
  refine ev_s 5 (M' := (in_mI125, in_mL125, in_mR126, 538, 538, 10274)) (pc' := 27) (lv' := [(1, .int 37), (0, .ref 55)]) (st' := [.ref 55, .int 37]) (fun n => rfl) ?_
  rw [← in_eI126, ← in_eL126]
  refine ev_s 1 (M' := (in_mI126, in_mL126, in_mR126, 538, 538, 10274)) (pc' := 30) (lv' := [(1, .int 37), (0, .ref 55)]) (st' := va_rf (in_mR126 55 0) :: [.int 37]) (fun n => rfl) ?_
  rw [in_h126_55_0]
  show Ev XL xs _ 38 (in_mI126, in_mL126, in_mR126, 538, 538, 10274) 30 [(1, .int 37), (0, .ref 55)] (.ref 56 :: [.int 37]) _
  refine ev_s 3 (M' := (in_mI126, in_mL126, in_mR126, 538, 538, 10274)) (pc' := 35) (lv' := [(1, .int 37), (0, .ref 55)]) (st' := [.ref 55]) (fun n => rfl) ?_
  refine ev_s 1 (M' := (in_mI126, in_mL126, in_mR126, 538, 538, 10274)) (pc' := 38) (lv' := [(1, .int 37), (0, .ref 55)]) (st' := va_rf (in_mR126 55 0) :: []) (fun n => rfl) ?_
  rw [in_h126_55_0]
  show Ev XL xs _ 38 (in_mI126, in_mL126, in_mR126, 538, 538, 10274) 38 [(1, .int 37), (0, .ref 55)] (.ref 56 :: []) _
  refine ev_s 3 (M' := (in_mI127, in_mL127, in_mR127, 539, 539, 10282)) (pc' := 43) (lv' := [(1, .int 37), (0, .ref 55)]) (st' := [.ref 538, .ref 538, .int 37, .ref 56]) (fun n => rfl) ?_
  refine ev_c 1 (y' := 67) (M1 := (in_mI127, in_mL127, in_mR127, 539, 539, 10282)) (la := [(0, .ref 538)]) (rest := [.ref 538, .int 37, .ref 56]) (pc' := 46) (lv' := [(1, .int 37), (0, .ref 55)]) (fun n => rfl) (ev_r 300 (fun n => in_c128 n _)) ?_
  show Ev XL xs _ 38 (in_mI128, in_mL128, in_mR128, 551, 551, 10518) 46 [(1, .int 37), (0, .ref 55)] [.ref 538, .int 37, .ref 56] _
  exact h
theorem in_past_s38 {d : Nat} {q : mm_R} (h : Ev XL xs (d + 8) 38 (in_mI131, in_mL131, in_mR131, 564, 564, 10762) 46 [(1, .int 38), (0, .ref 55)] [.ref 551, .int 38, .ref 56] q) : Ev XL xs (d + 8) 38 (in_mI128, in_mL128, in_mR128, 551, 551, 10518) 46 [(1, .int 37), (0, .ref 55)] [.ref 538, .int 37, .ref 56] q := by
  refine ev_s 5 (M' := (in_mI128, in_mL128, in_mR129, 551, 551, 10518)) (pc' := 27) (lv' := [(1, .int 38), (0, .ref 55)]) (st' := [.ref 55, .int 38]) (fun n => rfl) ?_
  rw [← in_eI129, ← in_eL129]
  refine ev_s 1 (M' := (in_mI129, in_mL129, in_mR129, 551, 551, 10518)) (pc' := 30) (lv' := [(1, .int 38), (0, .ref 55)]) (st' := va_rf (in_mR129 55 0) :: [.int 38]) (fun n => rfl) ?_
  rw [in_h129_55_0]
  show Ev XL xs _ 38 (in_mI129, in_mL129, in_mR129, 551, 551, 10518) 30 [(1, .int 38), (0, .ref 55)] (.ref 56 :: [.int 38]) _
  refine ev_s 3 (M' := (in_mI129, in_mL129, in_mR129, 551, 551, 10518)) (pc' := 35) (lv' := [(1, .int 38), (0, .ref 55)]) (st' := [.ref 55]) (fun n => rfl) ?_
  refine ev_s 1 (M' := (in_mI129, in_mL129, in_mR129, 551, 551, 10518)) (pc' := 38) (lv' := [(1, .int 38), (0, .ref 55)]) (st' := va_rf (in_mR129 55 0) :: []) (fun n => rfl) ?_
  rw [in_h129_55_0]
  show Ev XL xs _ 38 (in_mI129, in_mL129, in_mR129, 551, 551, 10518) 38 [(1, .int 38), (0, .ref 55)] (.ref 56 :: []) _
  refine ev_s 3 (M' := (in_mI130, in_mL130, in_mR130, 552, 552, 10526)) (pc' := 43) (lv' := [(1, .int 38), (0, .ref 55)]) (st' := [.ref 551, .ref 551, .int 38, .ref 56]) (fun n => rfl) ?_
  refine ev_c 1 (y' := 67) (M1 := (in_mI130, in_mL130, in_mR130, 552, 552, 10526)) (la := [(0, .ref 551)]) (rest := [.ref 551, .int 38, .ref 56]) (pc' := 46) (lv' := [(1, .int 38), (0, .ref 55)]) (fun n => rfl) (ev_r 300 (fun n => in_c131 n _)) ?_
  show Ev XL xs _ 38 (in_mI131, in_mL131, in_mR131, 564, 564, 10762) 46 [(1, .int 38), (0, .ref 55)] [.ref 551, .int 38, .ref 56] _
  exact h
theorem in_past_s39 {d : Nat} {q : mm_R} (h : Ev XL xs (d + 8) 38 (in_mI134, in_mL134, in_mR134, 577, 577, 11006) 46 [(1, .int 39), (0, .ref 55)] [.ref 564, .int 39, .ref 56] q) : Ev XL xs (d + 8) 38 (in_mI131, in_mL131, in_mR131, 564, 564, 10762) 46 [(1, .int 38), (0, .ref 55)] [.ref 551, .int 38, .ref 56] q := by
  refine ev_s 5 (M' := (in_mI131, in_mL131, in_mR132, 564, 564, 10762)) (pc' := 27) (lv' := [(1, .int 39), (0, .ref 55)]) (st' := [.ref 55, .int 39]) (fun n => rfl) ?_
  rw [← in_eI132, ← in_eL132]
  refine ev_s 1 (M' := (in_mI132, in_mL132, in_mR132, 564, 564, 10762)) (pc' := 30) (lv' := [(1, .int 39), (0, .ref 55)]) (st' := va_rf (in_mR132 55 0) :: [.int 39]) (fun n => rfl) ?_
  rw [in_h132_55_0]
  show Ev XL xs _ 38 (in_mI132, in_mL132, in_mR132, 564, 564, 10762) 30 [(1, .int 39), (0, .ref 55)] (.ref 56 :: [.int 39]) _
  refine ev_s 3 (M' := (in_mI132, in_mL132, in_mR132, 564, 564, 10762)) (pc' := 35) (lv' := [(1, .int 39), (0, .ref 55)]) (st' := [.ref 55]) (fun n => rfl) ?_
  refine ev_s 1 (M' := (in_mI132, in_mL132, in_mR132, 564, 564, 10762)) (pc' := 38) (lv' := [(1, .int 39), (0, .ref 55)]) (st' := va_rf (in_mR132 55 0) :: []) (fun n => rfl) ?_
  rw [in_h132_55_0]
  show Ev XL xs _ 38 (in_mI132, in_mL132, in_mR132, 564, 564, 10762) 38 [(1, .int 39), (0, .ref 55)] (.ref 56 :: []) _
  refine ev_s 3 (M' := (in_mI133, in_mL133, in_mR133, 565, 565, 10770)) (pc' := 43) (lv' := [(1, .int 39), (0, .ref 55)]) (st' := [.ref 564, .ref 564, .int 39, .ref 56]) (fun n => rfl) ?_
  refine ev_c 1 (y' := 67) (M1 := (in_mI133, in_mL133, in_mR133, 565, 565, 10770)) (la := [(0, .ref 564)]) (rest := [.ref 564, .int 39, .ref 56]) (pc' := 46) (lv' := [(1, .int 39), (0, .ref 55)]) (fun n => rfl) (ev_r 300 (fun n => in_c134 n _)) ?_
  show Ev XL xs _ 38 (in_mI134, in_mL134, in_mR134, 577, 577, 11006) 46 [(1, .int 39), (0, .ref 55)] [.ref 564, .int 39, .ref 56] _
  exact h
theorem in_past {d : Nat} : Ev XL xs (d + 8) 38 (in_mI14, in_mL14, in_mR14, 56, 56, 1206) 0 [(0, .ref 55)] [] (none, (in_mI135, in_mL135, in_mR135, 577, 577, 11006)) := by
  refine in_past_s0 ?_
  refine in_past_s1 ?_
  refine in_past_s2 ?_
  refine in_past_s3 ?_
  refine in_past_s4 ?_
  refine in_past_s5 ?_
  refine in_past_s6 ?_
  refine in_past_s7 ?_
  refine in_past_s8 ?_
  refine in_past_s9 ?_
  refine in_past_s10 ?_
  refine in_past_s11 ?_
  refine in_past_s12 ?_
  refine in_past_s13 ?_
  refine in_past_s14 ?_
  refine in_past_s15 ?_
  refine in_past_s16 ?_
  refine in_past_s17 ?_
  refine in_past_s18 ?_
  refine in_past_s19 ?_
  refine in_past_s20 ?_
  refine in_past_s21 ?_
  refine in_past_s22 ?_
  refine in_past_s23 ?_
  refine in_past_s24 ?_
  refine in_past_s25 ?_
  refine in_past_s26 ?_
  refine in_past_s27 ?_
  refine in_past_s28 ?_
  refine in_past_s29 ?_
  refine in_past_s30 ?_
  refine in_past_s31 ?_
  refine in_past_s32 ?_
  refine in_past_s33 ?_
  refine in_past_s34 ?_
  refine in_past_s35 ?_
  refine in_past_s36 ?_
  refine in_past_s37 ?_
  refine in_past_s38 ?_
  refine in_past_s39 ?_
  refine ev_s 5 (M' := (in_mI134, in_mL134, in_mR135, 577, 577, 11006)) (pc' := 27) (lv' := [(1, .int 40), (0, .ref 55)]) (st' := [.ref 55, .int 40]) (fun n => rfl) ?_
  rw [← in_eI135, ← in_eL135]
  refine ev_s 1 (M' := (in_mI135, in_mL135, in_mR135, 577, 577, 11006)) (pc' := 30) (lv' := [(1, .int 40), (0, .ref 55)]) (st' := va_rf (in_mR135 55 0) :: [.int 40]) (fun n => rfl) ?_
  rw [in_h135_55_0]
  show Ev XL xs _ 38 (in_mI135, in_mL135, in_mR135, 577, 577, 11006) 30 [(1, .int 40), (0, .ref 55)] (.ref 56 :: [.int 40]) _
  exact ev_r 3 (fun n => rfl)
end INI
