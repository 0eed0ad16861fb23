section INI
variable {XL : Nat} {xs : Nat → Int32}
set_option maxRecDepth 100000
theorem in_eI147 : in_mI147 = in_mI146 := in_nI (l := in_i147) (f := in_mI146) rfl
theorem in_eL147 : in_mL147 = in_mL146 := in_nL (l := in_l147) (f := in_mL146) rfl
theorem in_eI150 : in_mI150 = in_mI149 := in_nI (l := in_i150) (f := in_mI149) rfl
theorem in_eL150 : in_mL150 = in_mL149 := in_nL (l := in_l150) (f := in_mL149) rfl
theorem in_eI153 : in_mI153 = in_mI152 := in_nI (l := in_i153) (f := in_mI152) rfl
theorem in_eL153 : in_mL153 = in_mL152 := in_nL (l := in_l153) (f := in_mL152) rfl
theorem in_eI156 : in_mI156 = in_mI155 := in_nI (l := in_i156) (f := in_mI155) rfl
theorem in_eL156 : in_mL156 = in_mL155 := in_nL (l := in_l156) (f := in_mL155) rfl
theorem in_bg_s0 {d : Nat} {q : mm_R} (h : Ev XL xs (d + 9) 92 (in_mI7, in_mL7, in_mR7, 25, 25, 403) 34 [(0, .ref 0)] [.ref 14, .ref 0] q) : Ev XL xs (d + 9) 92 (in_mI1, in_mL1, in_mR1, 1, 1, 20) 0 [(0, .ref 0)] [] q := by
  refine ev_s 5 (M' := (in_mI2, in_mL2, in_mR2, 2, 2, 23)) (pc' := 9) (lv' := [(0, .ref 0)]) (st' := [.ref 1, .ref 1, .ref 0]) (fun n => rfl) ?_
  refine ev_c 1 (y' := 76) (M1 := (in_mI2, in_mL2, in_mR2, 2, 2, 23)) (la := [(0, .ref 1)]) (rest := [.ref 1, .ref 0]) (pc' := 12) (lv' := [(0, .ref 0)]) (fun n => rfl) (ev_r 300 (fun n => in_c3 n _)) ?_
  show Ev XL xs _ 92 (in_mI3, in_mL3, in_mR3, 3, 3, 263) 12 [(0, .ref 0)] [.ref 1, .ref 0] _
  refine ev_s 4 (M' := (in_mI4, in_mL4, in_mR4, 4, 4, 273)) (pc' := 20) (lv' := [(0, .ref 0)]) (st' := [.ref 3, .ref 3, .ref 0]) (fun n => rfl) ?_
  refine ev_c 1 (y' := 2) (M1 := (in_mI4, in_mL4, in_mR4, 4, 4, 273)) (la := [(0, .ref 3)]) (rest := [.ref 3, .ref 0]) (pc' := 23) (lv' := [(0, .ref 0)]) (fun n => rfl) (ev_r 300 (fun n => in_c5 n _)) ?_
  show Ev XL xs _ 92 (in_mI5, in_mL5, in_mR5, 14, 14, 333) 23 [(0, .ref 0)] [.ref 3, .ref 0] _
  refine ev_s 4 (M' := (in_mI6, in_mL6, in_mR6, 15, 15, 343)) (pc' := 31) (lv' := [(0, .ref 0)]) (st' := [.ref 14, .ref 14, .ref 0]) (fun n => rfl) ?_
  refine ev_c 1 (y' := 2) (M1 := (in_mI6, in_mL6, in_mR6, 15, 15, 343)) (la := [(0, .ref 14)]) (rest := [.ref 14, .ref 0]) (pc' := 34) (lv' := [(0, .ref 0)]) (fun n => rfl) (ev_r 300 (fun n => in_c7 n _)) ?_
  show Ev XL xs _ 92 (in_mI7, in_mL7, in_mR7, 25, 25, 403) 34 [(0, .ref 0)] [.ref 14, .ref 0] _
  exact h
theorem in_bg_s1 {d : Nat} {q : mm_R} (h : Ev XL xs (d + 9) 92 (in_mI13, in_mL13, in_mR13, 55, 55, 1203) 75 [(0, .ref 0)] [.ref 42, .ref 0] q) : Ev XL xs (d + 9) 92 (in_mI7, in_mL7, in_mR7, 25, 25, 403) 34 [(0, .ref 0)] [.ref 14, .ref 0] q := by
  refine ev_s 4 (M' := (in_mI8, in_mL8, in_mR8, 26, 26, 407)) (pc' := 42) (lv' := [(0, .ref 0)]) (st' := [.ref 25, .ref 25, .ref 0]) (fun n => rfl) ?_
  refine ev_c 1 (y' := 16) (M1 := (in_mI8, in_mL8, in_mR8, 26, 26, 407)) (la := [(0, .ref 25)]) (rest := [.ref 25, .ref 0]) (pc' := 45) (lv' := [(0, .ref 0)]) (fun n => rfl) (ev_r 300 (fun n => in_c9 n _)) ?_
  show Ev XL xs _ 92 (in_mI9, in_mL9, in_mR9, 28, 28, 711) 45 [(0, .ref 0)] [.ref 25, .ref 0] _
  refine ev_s 8 (M' := (in_mI10, in_mL10, in_mR10, 30, 30, 723)) (pc' := 61) (lv' := [(0, .ref 0)]) (st' := [.ref 29, .ref 29, .ref 0]) (fun n => rfl) ?_
  refine ev_c 1 (y' := 67) (M1 := (in_mI10, in_mL10, in_mR10, 30, 30, 723)) (la := [(0, .ref 29)]) (rest := [.ref 29, .ref 0]) (pc' := 64) (lv' := [(0, .ref 0)]) (fun n => rfl) (ev_r 300 (fun n => in_c11 n _)) ?_
  show Ev XL xs _ 92 (in_mI11, in_mL11, in_mR11, 42, 42, 959) 64 [(0, .ref 0)] [.ref 29, .ref 0] _
  refine ev_s 4 (M' := (in_mI12, in_mL12, in_mR12, 43, 43, 967)) (pc' := 72) (lv' := [(0, .ref 0)]) (st' := [.ref 42, .ref 42, .ref 0]) (fun n => rfl) ?_
  refine ev_c 1 (y' := 67) (M1 := (in_mI12, in_mL12, in_mR12, 43, 43, 967)) (la := [(0, .ref 42)]) (rest := [.ref 42, .ref 0]) (pc' := 75) (lv' := [(0, .ref 0)]) (fun n => rfl) (ev_r 300 (fun n => in_c13 n _)) ?_
  show Ev XL xs _ 92 (in_mI13, in_mL13, in_mR13, 55, 55, 1203) 75 [(0, .ref 0)] [.ref 42, .ref 0] _
  exact h
theorem in_bg_s2 {d : Nat} {q : mm_R} (h : Ev XL xs (d + 9) 92 (in_mI139, in_mL139, in_mR139, 584, 584, 11068) 108 [(0, .ref 0)] [.ref 583, .ref 0] q) : Ev XL xs (d + 9) 92 (in_mI13, in_mL13, in_mR13, 55, 55, 1203) 75 [(0, .ref 0)] [.ref 42, .ref 0] q := by
  refine ev_s 4 (M' := (in_mI14, in_mL14, in_mR14, 56, 56, 1206)) (pc' := 83) (lv' := [(0, .ref 0)]) (st' := [.ref 55, .ref 55, .ref 0]) (fun n => rfl) ?_
  refine ev_c 1 (y' := 38) (M1 := (in_mI14, in_mL14, in_mR14, 56, 56, 1206)) (la := [(0, .ref 55)]) (rest := [.ref 55, .ref 0]) (pc' := 86) (lv' := [(0, .ref 0)]) (fun n => rfl) in_past ?_
  show Ev XL xs _ 92 (in_mI135, in_mL135, in_mR135, 577, 577, 11006) 86 [(0, .ref 0)] [.ref 55, .ref 0] _
  refine ev_s 4 (M' := (in_mI136, in_mL136, in_mR136, 578, 578, 11012)) (pc' := 94) (lv' := [(0, .ref 0)]) (st' := [.ref 577, .ref 577, .ref 0]) (fun n => rfl) ?_
  refine ev_c 1 (y' := 58) (M1 := (in_mI136, in_mL136, in_mR136, 578, 578, 11012)) (la := [(0, .ref 577)]) (rest := [.ref 577, .ref 0]) (pc' := 97) (lv' := [(0, .ref 0)]) (fun n => rfl) (ev_r 300 (fun n => in_c137 n _)) ?_
  show Ev XL xs _ 92 (in_mI137, in_mL137, in_mR137, 583, 583, 11062) 97 [(0, .ref 0)] [.ref 577, .ref 0] _
  refine ev_s 4 (M' := (in_mI138, in_mL138, in_mR138, 584, 584, 11068)) (pc' := 105) (lv' := [(0, .ref 0)]) (st' := [.ref 583, .ref 583, .ref 0]) (fun n => rfl) ?_
  refine ev_c 1 (y' := 0) (M1 := (in_mI138, in_mL138, in_mR138, 584, 584, 11068)) (la := [(0, .ref 583)]) (rest := [.ref 583, .ref 0]) (pc' := 108) (lv' := [(0, .ref 0)]) (fun n => rfl) (ev_r 300 (fun n => in_c139 n _)) ?_
  show Ev XL xs _ 92 (in_mI139, in_mL139, in_mR139, 584, 584, 11068) 108 [(0, .ref 0)] [.ref 583, .ref 0] _
  exact h
theorem in_bg_s3 {d : Nat} {q : mm_R} (h : Ev XL xs (d + 9) 92 (in_mI144, in_mL144, in_mR144, 594, 594, 15560) 185 [(1, .int 0), (0, .ref 0)] (.ref 28 :: [.int 0]) q) : Ev XL xs (d + 9) 92 (in_mI139, in_mL139, in_mR139, 584, 584, 11068) 108 [(0, .ref 0)] [.ref 583, .ref 0] q := by
  refine ev_s 4 (M' := (in_mI140, in_mL140, in_mR140, 585, 585, 11073)) (pc' := 116) (lv' := [(0, .ref 0)]) (st' := [.ref 584, .ref 584, .ref 0]) (fun n => rfl) ?_
  refine ev_c 1 (y' := 44) (M1 := (in_mI140, in_mL140, in_mR140, 585, 585, 11073)) (la := [(0, .ref 584)]) (rest := [.ref 584, .ref 0]) (pc' := 119) (lv' := [(0, .ref 0)]) (fun n => rfl) (ev_r 300 (fun n => in_c141 n _)) ?_
  show Ev XL xs _ 92 (in_mI141, in_mL141, in_mR141, 589, 589, 13486) 119 [(0, .ref 0)] [.ref 584, .ref 0] _
  refine ev_s 4 (M' := (in_mI142, in_mL142, in_mR142, 590, 590, 13489)) (pc' := 127) (lv' := [(0, .ref 0)]) (st' := [.ref 589, .ref 589, .ref 0]) (fun n => rfl) ?_
  refine ev_c 1 (y' := 62) (M1 := (in_mI142, in_mL142, in_mR142, 590, 590, 13489)) (la := [(0, .ref 589)]) (rest := [.ref 589, .ref 0]) (pc' := 130) (lv' := [(0, .ref 0)]) (fun n => rfl) (ev_r 300 (fun n => in_c143 n _)) ?_
  show Ev XL xs _ 92 (in_mI143, in_mL143, in_mR143, 592, 592, 15545) 130 [(0, .ref 0)] [.ref 589, .ref 0] _
  refine ev_s 31 (M' := (in_mI144, in_mL144, in_mR144, 594, 594, 15560)) (pc' := 182) (lv' := [(1, .int 0), (0, .ref 0)]) (st' := [.ref 0, .int 0]) (fun n => rfl) ?_
  refine ev_s 1 (M' := (in_mI144, in_mL144, in_mR144, 594, 594, 15560)) (pc' := 185) (lv' := [(1, .int 0), (0, .ref 0)]) (st' := va_rf (in_mR144 0 4) :: [.int 0]) (fun n => rfl) ?_
  rw [in_h144_0_4]
  show Ev XL xs _ 92 (in_mI144, in_mL144, in_mR144, 594, 594, 15560) 185 [(1, .int 0), (0, .ref 0)] (.ref 28 :: [.int 0]) _
  exact h
theorem in_bg_s4 {d : Nat} {q : mm_R} (h : Ev XL xs (d + 9) 92 (in_mI147, in_mL147, in_mR147, 597, 597, 15868) 182 [(1, .int 1), (0, .ref 0)] ([.ref 0, .int 1]) q) : Ev XL xs (d + 9) 92 (in_mI144, in_mL144, in_mR144, 594, 594, 15560) 185 [(1, .int 0), (0, .ref 0)] (.ref 28 :: [.int 0]) q := by
  refine ev_s 3 (M' := (in_mI144, in_mL144, in_mR144, 594, 594, 15560)) (pc' := 190) (lv' := [(1, .int 0), (0, .ref 0)]) (st' := [.ref 0]) (fun n => rfl) ?_
  refine ev_s 1 (M' := (in_mI144, in_mL144, in_mR144, 594, 594, 15560)) (pc' := 193) (lv' := [(1, .int 0), (0, .ref 0)]) (st' := va_rf (in_mR144 0 4) :: []) (fun n => rfl) ?_
  rw [in_h144_0_4]
  show Ev XL xs _ 92 (in_mI144, in_mL144, in_mR144, 594, 594, 15560) 193 [(1, .int 0), (0, .ref 0)] (.ref 28 :: []) _
  refine ev_s 3 (M' := (in_mI145, in_mL145, in_mR145, 595, 595, 15564)) (pc' := 198) (lv' := [(1, .int 0), (0, .ref 0)]) (st' := [.ref 594, .ref 594, .int 0, .ref 28]) (fun n => rfl) ?_
  refine ev_c 1 (y' := 16) (M1 := (in_mI145, in_mL145, in_mR145, 595, 595, 15564)) (la := [(0, .ref 594)]) (rest := [.ref 594, .int 0, .ref 28]) (pc' := 201) (lv' := [(1, .int 0), (0, .ref 0)]) (fun n => rfl) (ev_r 300 (fun n => in_c146 n _)) ?_
  show Ev XL xs _ 92 (in_mI146, in_mL146, in_mR146, 597, 597, 15868) 201 [(1, .int 0), (0, .ref 0)] [.ref 594, .int 0, .ref 28] _
  refine ev_s 5 (M' := (in_mI146, in_mL146, in_mR147, 597, 597, 15868)) (pc' := 182) (lv' := [(1, .int 1), (0, .ref 0)]) (st' := [.ref 0, .int 1]) (fun n => rfl) ?_
  rw [← in_eI147, ← in_eL147]
  exact h
theorem in_bg_s5 {d : Nat} {q : mm_R} (h : Ev XL xs (d + 9) 92 (in_mI149, in_mL149, in_mR149, 600, 600, 16176) 201 [(1, .int 1), (0, .ref 0)] [.ref 597, .int 1, .ref 28] q) : Ev XL xs (d + 9) 92 (in_mI147, in_mL147, in_mR147, 597, 597, 15868) 182 [(1, .int 1), (0, .ref 0)] ([.ref 0, .int 1]) q := by
  refine ev_s 1 (M' := (in_mI147, in_mL147, in_mR147, 597, 597, 15868)) (pc' := 185) (lv' := [(1, .int 1), (0, .ref 0)]) (st' := va_rf (in_mR147 0 4) :: [.int 1]) (fun n => rfl) ?_
  rw [in_h147_0_4]
  show Ev XL xs _ 92 (in_mI147, in_mL147, in_mR147, 597, 597, 15868) 185 [(1, .int 1), (0, .ref 0)] (.ref 28 :: [.int 1]) _
  refine ev_s 3 (M' := (in_mI147, in_mL147, in_mR147, 597, 597, 15868)) (pc' := 190) (lv' := [(1, .int 1), (0, .ref 0)]) (st' := [.ref 0]) (fun n => rfl) ?_
  refine ev_s 1 (M' := (in_mI147, in_mL147, in_mR147, 597, 597, 15868)) (pc' := 193) (lv' := [(1, .int 1), (0, .ref 0)]) (st' := va_rf (in_mR147 0 4) :: []) (fun n => rfl) ?_
  rw [in_h147_0_4]
  show Ev XL xs _ 92 (in_mI147, in_mL147, in_mR147, 597, 597, 15868) 193 [(1, .int 1), (0, .ref 0)] (.ref 28 :: []) _
  refine ev_s 3 (M' := (in_mI148, in_mL148, in_mR148, 598, 598, 15872)) (pc' := 198) (lv' := [(1, .int 1), (0, .ref 0)]) (st' := [.ref 597, .ref 597, .int 1, .ref 28]) (fun n => rfl) ?_
  refine ev_c 1 (y' := 16) (M1 := (in_mI148, in_mL148, in_mR148, 598, 598, 15872)) (la := [(0, .ref 597)]) (rest := [.ref 597, .int 1, .ref 28]) (pc' := 201) (lv' := [(1, .int 1), (0, .ref 0)]) (fun n => rfl) (ev_r 300 (fun n => in_c149 n _)) ?_
  show Ev XL xs _ 92 (in_mI149, in_mL149, in_mR149, 600, 600, 16176) 201 [(1, .int 1), (0, .ref 0)] [.ref 597, .int 1, .ref 28] _
  exact h
theorem in_bg_s6 {d : Nat} {q : mm_R} (h : Ev XL xs (d + 9) 92 (in_mI150, in_mL150, in_mR150, 600, 600, 16176) 193 [(1, .int 2), (0, .ref 0)] (.ref 28 :: []) q) : Ev XL xs (d + 9) 92 (in_mI149, in_mL149, in_mR149, 600, 600, 16176) 201 [(1, .int 1), (0, .ref 0)] [.ref 597, .int 1, .ref 28] q := by
  refine ev_s 5 (M' := (in_mI149, in_mL149, in_mR150, 600, 600, 16176)) (pc' := 182) (lv' := [(1, .int 2), (0, .ref 0)]) (st' := [.ref 0, .int 2]) (fun n => rfl) ?_
  rw [← in_eI150, ← in_eL150]
  refine ev_s 1 (M' := (in_mI150, in_mL150, in_mR150, 600, 600, 16176)) (pc' := 185) (lv' := [(1, .int 2), (0, .ref 0)]) (st' := va_rf (in_mR150 0 4) :: [.int 2]) (fun n => rfl) ?_
  rw [in_h150_0_4]
  show Ev XL xs _ 92 (in_mI150, in_mL150, in_mR150, 600, 600, 16176) 185 [(1, .int 2), (0, .ref 0)] (.ref 28 :: [.int 2]) _
  refine ev_s 3 (M' := (in_mI150, in_mL150, in_mR150, 600, 600, 16176)) (pc' := 190) (lv' := [(1, .int 2), (0, .ref 0)]) (st' := [.ref 0]) (fun n => rfl) ?_
  refine ev_s 1 (M' := (in_mI150, in_mL150, in_mR150, 600, 600, 16176)) (pc' := 193) (lv' := [(1, .int 2), (0, .ref 0)]) (st' := va_rf (in_mR150 0 4) :: []) (fun n => rfl) ?_
  rw [in_h150_0_4]
  show Ev XL xs _ 92 (in_mI150, in_mL150, in_mR150, 600, 600, 16176) 193 [(1, .int 2), (0, .ref 0)] (.ref 28 :: []) _
  exact h
theorem in_bg_s7 {d : Nat} {q : mm_R} (h : Ev XL xs (d + 9) 92 (in_mI153, in_mL153, in_mR153, 603, 603, 16484) 190 [(1, .int 3), (0, .ref 0)] ([.ref 0]) q) : Ev XL xs (d + 9) 92 (in_mI150, in_mL150, in_mR150, 600, 600, 16176) 193 [(1, .int 2), (0, .ref 0)] (.ref 28 :: []) q := by
  refine ev_s 3 (M' := (in_mI151, in_mL151, in_mR151, 601, 601, 16180)) (pc' := 198) (lv' := [(1, .int 2), (0, .ref 0)]) (st' := [.ref 600, .ref 600, .int 2, .ref 28]) (fun n => rfl) ?_
  refine ev_c 1 (y' := 16) (M1 := (in_mI151, in_mL151, in_mR151, 601, 601, 16180)) (la := [(0, .ref 600)]) (rest := [.ref 600, .int 2, .ref 28]) (pc' := 201) (lv' := [(1, .int 2), (0, .ref 0)]) (fun n => rfl) (ev_r 300 (fun n => in_c152 n _)) ?_
  show Ev XL xs _ 92 (in_mI152, in_mL152, in_mR152, 603, 603, 16484) 201 [(1, .int 2), (0, .ref 0)] [.ref 600, .int 2, .ref 28] _
  refine ev_s 5 (M' := (in_mI152, in_mL152, in_mR153, 603, 603, 16484)) (pc' := 182) (lv' := [(1, .int 3), (0, .ref 0)]) (st' := [.ref 0, .int 3]) (fun n => rfl) ?_
  rw [← in_eI153, ← in_eL153]
  refine ev_s 1 (M' := (in_mI153, in_mL153, in_mR153, 603, 603, 16484)) (pc' := 185) (lv' := [(1, .int 3), (0, .ref 0)]) (st' := va_rf (in_mR153 0 4) :: [.int 3]) (fun n => rfl) ?_
  rw [in_h153_0_4]
  show Ev XL xs _ 92 (in_mI153, in_mL153, in_mR153, 603, 603, 16484) 185 [(1, .int 3), (0, .ref 0)] (.ref 28 :: [.int 3]) _
  refine ev_s 3 (M' := (in_mI153, in_mL153, in_mR153, 603, 603, 16484)) (pc' := 190) (lv' := [(1, .int 3), (0, .ref 0)]) (st' := [.ref 0]) (fun n => rfl) ?_
  exact h
theorem in_bg_s8 {d : Nat} {q : mm_R} (h : Ev XL xs (d + 9) 92 (in_mI156, in_mL156, in_mR156, 606, 606, 16792) 185 [(1, .int 4), (0, .ref 0)] (.ref 28 :: [.int 4]) q) : Ev XL xs (d + 9) 92 (in_mI153, in_mL153, in_mR153, 603, 603, 16484) 190 [(1, .int 3), (0, .ref 0)] ([.ref 0]) q := by
  refine ev_s 1 (M' := (in_mI153, in_mL153, in_mR153, 603, 603, 16484)) (pc' := 193) (lv' := [(1, .int 3), (0, .ref 0)]) (st' := va_rf (in_mR153 0 4) :: []) (fun n => rfl) ?_
  rw [in_h153_0_4]
  show Ev XL xs _ 92 (in_mI153, in_mL153, in_mR153, 603, 603, 16484) 193 [(1, .int 3), (0, .ref 0)] (.ref 28 :: []) _
  refine ev_s 3 (M' := (in_mI154, in_mL154, in_mR154, 604, 604, 16488)) (pc' := 198) (lv' := [(1, .int 3), (0, .ref 0)]) (st' := [.ref 603, .ref 603, .int 3, .ref 28]) (fun n => rfl) ?_
  refine ev_c 1 (y' := 16) (M1 := (in_mI154, in_mL154, in_mR154, 604, 604, 16488)) (la := [(0, .ref 603)]) (rest := [.ref 603, .int 3, .ref 28]) (pc' := 201) (lv' := [(1, .int 3), (0, .ref 0)]) (fun n => rfl) (ev_r 300 (fun n => in_c155 n _)) ?_
  show Ev XL xs _ 92 (in_mI155, in_mL155, in_mR155, 606, 606, 16792) 201 [(1, .int 3), (0, .ref 0)] [.ref 603, .int 3, .ref 28] _
  refine ev_s 5 (M' := (in_mI155, in_mL155, in_mR156, 606, 606, 16792)) (pc' := 182) (lv' := [(1, .int 4), (0, .ref 0)]) (st' := [.ref 0, .int 4]) (fun n => rfl) ?_
  rw [← in_eI156, ← in_eL156]
  refine ev_s 1 (M' := (in_mI156, in_mL156, in_mR156, 606, 606, 16792)) (pc' := 185) (lv' := [(1, .int 4), (0, .ref 0)]) (st' := va_rf (in_mR156 0 4) :: [.int 4]) (fun n => rfl) ?_
  rw [in_h156_0_4]
  show Ev XL xs _ 92 (in_mI156, in_mL156, in_mR156, 606, 606, 16792) 185 [(1, .int 4), (0, .ref 0)] (.ref 28 :: [.int 4]) _
  exact h
theorem in_bg {d : Nat} : Ev XL xs (d + 9) 92 (in_mI1, in_mL1, in_mR1, 1, 1, 20) 0 [(0, .ref 0)] [] (none, (in_mI156, in_mL156, in_mR156, 606, 606, 16792)) := by
  refine in_bg_s0 ?_
  refine in_bg_s1 ?_
  refine in_bg_s2 ?_
  refine in_bg_s3 ?_
  refine in_bg_s4 ?_
  refine in_bg_s5 ?_
  refine in_bg_s6 ?_
  refine in_bg_s7 ?_
  refine in_bg_s8 ?_
  exact ev_r 3 (fun n => rfl)
end INI
