section INI
variable {XL : Nat} {xs : Nat → Int32}
set_option maxRecDepth 100000
theorem in_past_s20 {d : Nat} {q : mm_R} (h : Ev XL xs (d + 8) 38 (in_mI77, in_mL77, in_mR77, 330, 330, 6370) 46 [(1, .int 20), (0, .ref 55)] [.ref 317, .int 20, .ref 56] q) : Ev XL xs (d + 8) 38 (in_mI74, in_mL74, in_mR74, 317, 317, 6126) 46 [(1, .int 19), (0, .ref 55)] [.ref 304, .int 19, .ref 56] q := by
  refine ev_s 5 (M' := (in_mI74, in_mL74, in_mR75, 317, 317, 6126)) (pc' := 27) (lv' := [(1, .int 20), (0, .ref 55)]) (st' := [.ref 55, .int 20]) (fun n => rfl) ?_
  rw [← in_eI75, ← in_eL75]
  refine ev_s 1 (M' := (in_mI75, in_mL75, in_mR75, 317, 317, 6126)) (pc' := 30) (lv' := [(1, .int 20), (0, .ref 55)]) (st' := va_rf (in_mR75 55 0) :: [.int 20]) (fun n => rfl) ?_
  rw [in_h75_55_0]
  show Ev XL xs _ 38 (in_mI75, in_mL75, in_mR75, 317, 317, 6126) 30 [(1, .int 20), (0, .ref 55)] (.ref 56 :: [.int 20]) _
  refine ev_s 3 (M' := (in_mI75, in_mL75, in_mR75, 317, 317, 6126)) (pc' := 35) (lv' := [(1, .int 20), (0, .ref 55)]) (st' := [.ref 55]) (fun n => rfl) ?_
  refine ev_s 1 (M' := (in_mI75, in_mL75, in_mR75, 317, 317, 6126)) (pc' := 38) (lv' := [(1, .int 20), (0, .ref 55)]) (st' := va_rf (in_mR75 55 0) :: []) (fun n => rfl) ?_
  rw [in_h75_55_0]
  show Ev XL xs _ 38 (in_mI75, in_mL75, in_mR75, 317, 317, 6126) 38 [(1, .int 20), (0, .ref 55)] (.ref 56 :: []) _
  refine ev_s 3 (M' := (in_mI76, in_mL76, in_mR76, 318, 318, 6134)) (pc' := 43) (lv' := [(1, .int 20), (0, .ref 55)]) (st' := [.ref 317, .ref 317, .int 20, .ref 56]) (fun n => rfl) ?_
  refine ev_c 1 (y' := 67) (M1 := (in_mI76, in_mL76, in_mR76, 318, 318, 6134)) (la := [(0, .ref 317)]) (rest := [.ref 317, .int 20, .ref 56]) (pc' := 46) (lv' := [(1, .int 20), (0, .ref 55)]) (fun n => rfl) (ev_r 300 (fun n => in_c77 n _)) ?_
  show Ev XL xs _ 38 (in_mI77, in_mL77, in_mR77, 330, 330, 6370) 46 [(1, .int 20), (0, .ref 55)] [.ref 317, .int 20, .ref 56] _
  exact h
theorem in_past_s21 {d : Nat} {q : mm_R} (h : Ev XL xs (d + 8) 38 (in_mI80, in_mL80, in_mR80, 343, 343, 6614) 46 [(1, .int 21), (0, .ref 55)] [.ref 330, .int 21, .ref 56] q) : Ev XL xs (d + 8) 38 (in_mI77, in_mL77, in_mR77, 330, 330, 6370) 46 [(1, .int 20), (0, .ref 55)] [.ref 317, .int 20, .ref 56] q := by
  refine ev_s 5 (M' := (in_mI77, in_mL77, in_mR78, 330, 330, 6370)) (pc' := 27) (lv' := [(1, .int 21), (0, .ref 55)]) (st' := [.ref 55, .int 21]) (fun n => rfl) ?_
  rw [← in_eI78, ← in_eL78]
  refine ev_s 1 (M' := (in_mI78, in_mL78, in_mR78, 330, 330, 6370)) (pc' := 30) (lv' := [(1, .int 21), (0, .ref 55)]) (st' := va_rf (in_mR78 55 0) :: [.int 21]) (fun n => rfl) ?_
  rw [in_h78_55_0]
  show Ev XL xs _ 38 (in_mI78, in_mL78, in_mR78, 330, 330, 6370) 30 [(1, .int 21), (0, .ref 55)] (.ref 56 :: [.int 21]) _
  refine ev_s 3 (M' := (in_mI78, in_mL78, in_mR78, 330, 330, 6370)) (pc' := 35) (lv' := [(1, .int 21), (0, .ref 55)]) (st' := [.ref 55]) (fun n => rfl) ?_
  refine ev_s 1 (M' := (in_mI78, in_mL78, in_mR78, 330, 330, 6370)) (pc' := 38) (lv' := [(1, .int 21), (0, .ref 55)]) (st' := va_rf (in_mR78 55 0) :: []) (fun n => rfl) ?_
  rw [in_h78_55_0]
  show Ev XL xs _ 38 (in_mI78, in_mL78, in_mR78, 330, 330, 6370) 38 [(1, .int 21), (0, .ref 55)] (.ref 56 :: []) _
  refine ev_s 3 (M' := (in_mI79, in_mL79, in_mR79, 331, 331, 6378)) (pc' := 43) (lv' := [(1, .int 21), (0, .ref 55)]) (st' := [.ref 330, .ref 330, .int 21, .ref 56]) (fun n => rfl) ?_
  refine ev_c 1 (y' := 67) (M1 := (in_mI79, in_mL79, in_mR79, 331, 331, 6378)) (la := [(0, .ref 330)]) (rest := [.ref 330, .int 21, .ref 56]) (pc' := 46) (lv' := [(1, .int 21), (0, .ref 55)]) (fun n => rfl) (ev_r 300 (fun n => in_c80 n _)) ?_
  show Ev XL xs _ 38 (in_mI80, in_mL80, in_mR80, 343, 343, 6614) 46 [(1, .int 21), (0, .ref 55)] [.ref 330, .int 21, .ref 56] _
  exact h
theorem in_past_s22 {d : Nat} {q : mm_R} (h : Ev XL xs (d + 8) 38 (in_mI83, in_mL83, in_mR83, 356, 356, 6858) 46 [(1, .int 22), (0, .ref 55)] [.ref 343, .int 22, .ref 56] q) : Ev XL xs (d + 8) 38 (in_mI80, in_mL80, in_mR80, 343, 343, 6614) 46 [(1, .int 21), (0, .ref 55)] [.ref 330, .int 21, .ref 56] q := by
  refine ev_s 5 (M' := (in_mI80, in_mL80, in_mR81, 343, 343, 6614)) (pc' := 27) (lv' := [(1, .int 22), (0, .ref 55)]) (st' := [.ref 55, .int 22]) (fun n => rfl) ?_
  rw [← in_eI81, ← in_eL81]
  refine ev_s 1 (M' := (in_mI81, in_mL81, in_mR81, 343, 343, 6614)) (pc' := 30) (lv' := [(1, .int 22), (0, .ref 55)]) (st' := va_rf (in_mR81 55 0) :: [.int 22]) (fun n => rfl) ?_
  rw [in_h81_55_0]
  show Ev XL xs _ 38 (in_mI81, in_mL81, in_mR81, 343, 343, 6614) 30 [(1, .int 22), (0, .ref 55)] (.ref 56 :: [.int 22]) _
  refine ev_s 3 (M' := (in_mI81, in_mL81, in_mR81, 343, 343, 6614)) (pc' := 35) (lv' := [(1, .int 22), (0, .ref 55)]) (st' := [.ref 55]) (fun n => rfl) ?_
  refine ev_s 1 (M' := (in_mI81, in_mL81, in_mR81, 343, 343, 6614)) (pc' := 38) (lv' := [(1, .int 22), (0, .ref 55)]) (st' := va_rf (in_mR81 55 0) :: []) (fun n => rfl) ?_
  rw [in_h81_55_0]
  show Ev XL xs _ 38 (in_mI81, in_mL81, in_mR81, 343, 343, 6614) 38 [(1, .int 22), (0, .ref 55)] (.ref 56 :: []) _
  refine ev_s 3 (M' := (in_mI82, in_mL82, in_mR82, 344, 344, 6622)) (pc' := 43) (lv' := [(1, .int 22), (0, .ref 55)]) (st' := [.ref 343, .ref 343, .int 22, .ref 56]) (fun n => rfl) ?_
  refine ev_c 1 (y' := 67) (M1 := (in_mI82, in_mL82, in_mR82, 344, 344, 6622)) (la := [(0, .ref 343)]) (rest := [.ref 343, .int 22, .ref 56]) (pc' := 46) (lv' := [(1, .int 22), (0, .ref 55)]) (fun n => rfl) (ev_r 300 (fun n => in_c83 n _)) ?_
  show Ev XL xs _ 38 (in_mI83, in_mL83, in_mR83, 356, 356, 6858) 46 [(1, .int 22), (0, .ref 55)] [.ref 343, .int 22, .ref 56] _
  exact h
theorem in_past_s23 {d : Nat} {q : mm_R} (h : Ev XL xs (d + 8) 38 (in_mI86, in_mL86, in_mR86, 369, 369, 7102) 46 [(1, .int 23), (0, .ref 55)] [.ref 356, .int 23, .ref 56] q) : Ev XL xs (d + 8) 38 (in_mI83, in_mL83, in_mR83, 356, 356, 6858) 46 [(1, .int 22), (0, .ref 55)] [.ref 343, .int 22, .ref 56] q := by
  refine ev_s 5 (M' := (in_mI83, in_mL83, in_mR84, 356, 356, 6858)) (pc' := 27) (lv' := [(1, .int 23), (0, .ref 55)]) (st' := [.ref 55, .int 23]) (fun n => rfl) ?_
  rw [← in_eI84, ← in_eL84]
  refine ev_s 1 (M' := (in_mI84, in_mL84, in_mR84, 356, 356, 6858)) (pc' := 30) (lv' := [(1, .int 23), (0, .ref 55)]) (st' := va_rf (in_mR84 55 0) :: [.int 23]) (fun n => rfl) ?_
  rw [in_h84_55_0]
  show Ev XL xs _ 38 (in_mI84, in_mL84, in_mR84, 356, 356, 6858) 30 [(1, .int 23), (0, .ref 55)] (.ref 56 :: [.int 23]) _
  refine ev_s 3 (M' := (in_mI84, in_mL84, in_mR84, 356, 356, 6858)) (pc' := 35) (lv' := [(1, .int 23), (0, .ref 55)]) (st' := [.ref 55]) (fun n => rfl) ?_
  refine ev_s 1 (M' := (in_mI84, in_mL84, in_mR84, 356, 356, 6858)) (pc' := 38) (lv' := [(1, .int 23), (0, .ref 55)]) (st' := va_rf (in_mR84 55 0) :: []) (fun n => rfl) ?_
  rw [in_h84_55_0]
  show Ev XL xs _ 38 (in_mI84, in_mL84, in_mR84, 356, 356, 6858) 38 [(1, .int 23), (0, .ref 55)] (.ref 56 :: []) _
  refine ev_s 3 (M' := (in_mI85, in_mL85, in_mR85, 357, 357, 6866)) (pc' := 43) (lv' := [(1, .int 23), (0, .ref 55)]) (st' := [.ref 356, .ref 356, .int 23, .ref 56]) (fun n => rfl) ?_
  refine ev_c 1 (y' := 67) (M1 := (in_mI85, in_mL85, in_mR85, 357, 357, 6866)) (la := [(0, .ref 356)]) (rest := [.ref 356, .int 23, .ref 56]) (pc' := 46) (lv' := [(1, .int 23), (0, .ref 55)]) (fun n => rfl) (ev_r 300 (fun n => in_c86 n _)) ?_
  show Ev XL xs _ 38 (in_mI86, in_mL86, in_mR86, 369, 369, 7102) 46 [(1, .int 23), (0, .ref 55)] [.ref 356, .int 23, .ref 56] _
  exact h
theorem in_past_s24 {d : Nat} {q : mm_R} (h : Ev XL xs (d + 8) 38 (in_mI89, in_mL89, in_mR89, 382, 382, 7346) 46 [(1, .int 24), (0, .ref 55)] [.ref 369, .int 24, .ref 56] q) : Ev XL xs (d + 8) 38 (in_mI86, in_mL86, in_mR86, 369, 369, 7102) 46 [(1, .int 23), (0, .ref 55)] [.ref 356, .int 23, .ref 56] q := by
  refine ev_s 5 (M' := (in_mI86, in_mL86, in_mR87, 369, 369, 7102)) (pc' := 27) (lv' := [(1, .int 24), (0, .ref 55)]) (st' := [.ref 55, .int 24]) (fun n => rfl) ?_
  rw [← in_eI87, ← in_eL87]
  refine ev_s 1 (M' := (in_mI87, in_mL87, in_mR87, 369, 369, 7102)) (pc' := 30) (lv' := [(1, .int 24), (0, .ref 55)]) (st' := va_rf (in_mR87 55 0) :: [.int 24]) (fun n => rfl) ?_
  rw [in_h87_55_0]
  show Ev XL xs _ 38 (in_mI87, in_mL87, in_mR87, 369, 369, 7102) 30 [(1, .int 24), (0, .ref 55)] (.ref 56 :: [.int 24]) _
  refine ev_s 3 (M' := (in_mI87, in_mL87, in_mR87, 369, 369, 7102)) (pc' := 35) (lv' := [(1, .int 24), (0, .ref 55)]) (st' := [.ref 55]) (fun n => rfl) ?_
  refine ev_s 1 (M' := (in_mI87, in_mL87, in_mR87, 369, 369, 7102)) (pc' := 38) (lv' := [(1, .int 24), (0, .ref 55)]) (st' := va_rf (in_mR87 55 0) :: []) (fun n => rfl) ?_
  rw [in_h87_55_0]
  show Ev XL xs _ 38 (in_mI87, in_mL87, in_mR87, 369, 369, 7102) 38 [(1, .int 24), (0, .ref 55)] (.ref 56 :: []) _
  refine ev_s 3 (M' := (in_mI88, in_mL88, in_mR88, 370, 370, 7110)) (pc' := 43) (lv' := [(1, .int 24), (0, .ref 55)]) (st' := [.ref 369, .ref 369, .int 24, .ref 56]) (fun n => rfl) ?_
  refine ev_c 1 (y' := 67) (M1 := (in_mI88, in_mL88, in_mR88, 370, 370, 7110)) (la := [(0, .ref 369)]) (rest := [.ref 369, .int 24, .ref 56]) (pc' := 46) (lv' := [(1, .int 24), (0, .ref 55)]) (fun n => rfl) (ev_r 300 (fun n => in_c89 n _)) ?_
  show Ev XL xs _ 38 (in_mI89, in_mL89, in_mR89, 382, 382, 7346) 46 [(1, .int 24), (0, .ref 55)] [.ref 369, .int 24, .ref 56] _
  exact h
theorem in_past_s25 {d : Nat} {q : mm_R} (h : Ev XL xs (d + 8) 38 (in_mI92, in_mL92, in_mR92, 395, 395, 7590) 46 [(1, .int 25), (0, .ref 55)] [.ref 382, .int 25, .ref 56] q) : Ev XL xs (d + 8) 38 (in_mI89, in_mL89, in_mR89, 382, 382, 7346) 46 [(1, .int 24), (0, .ref 55)] [.ref 369, .int 24, .ref 56] q := by
  refine ev_s 5 (M' := (in_mI89, in_mL89, in_mR90, 382, 382, 7346)) (pc' := 27) (lv' := [(1, .int 25), (0, .ref 55)]) (st' := [.ref 55, .int 25]) (fun n => rfl) ?_
  rw [← in_eI90, ← in_eL90]
  refine ev_s 1 (M' := (in_mI90, in_mL90, in_mR90, 382, 382, 7346)) (pc' := 30) (lv' := [(1, .int 25), (0, .ref 55)]) (st' := va_rf (in_mR90 55 0) :: [.int 25]) (fun n => rfl) ?_
  rw [in_h90_55_0]
  show Ev XL xs _ 38 (in_mI90, in_mL90, in_mR90, 382, 382, 7346) 30 [(1, .int 25), (0, .ref 55)] (.ref 56 :: [.int 25]) _
  refine ev_s 3 (M' := (in_mI90, in_mL90, in_mR90, 382, 382, 7346)) (pc' := 35) (lv' := [(1, .int 25), (0, .ref 55)]) (st' := [.ref 55]) (fun n => rfl) ?_
  refine ev_s 1 (M' := (in_mI90, in_mL90, in_mR90, 382, 382, 7346)) (pc' := 38) (lv' := [(1, .int 25), (0, .ref 55)]) (st' := va_rf (in_mR90 55 0) :: []) (fun n => rfl) ?_
  rw [in_h90_55_0]
  show Ev XL xs _ 38 (in_mI90, in_mL90, in_mR90, 382, 382, 7346) 38 [(1, .int 25), (0, .ref 55)] (.ref 56 :: []) _
  refine ev_s 3 (M' := (in_mI91, in_mL91, in_mR91, 383, 383, 7354)) (pc' := 43) (lv' := [(1, .int 25), (0, .ref 55)]) (st' := [.ref 382, .ref 382, .int 25, .ref 56]) (fun n => rfl) ?_
  refine ev_c 1 (y' := 67) (M1 := (in_mI91, in_mL91, in_mR91, 383, 383, 7354)) (la := [(0, .ref 382)]) (rest := [.ref 382, .int 25, .ref 56]) (pc' := 46) (lv' := [(1, .int 25), (0, .ref 55)]) (fun n => rfl) (ev_r 300 (fun n => in_c92 n _)) ?_
  show Ev XL xs _ 38 (in_mI92, in_mL92, in_mR92, 395, 395, 7590) 46 [(1, .int 25), (0, .ref 55)] [.ref 382, .int 25, .ref 56] _
  exact h
theorem in_past_s26 {d : Nat} {q : mm_R} (h : Ev XL xs (d + 8) 38 (in_mI95, in_mL95, in_mR95, 408, 408, 7834) 46 [(1, .int 26), (0, .ref 55)] [.ref 395, .int 26, .ref 56] q) : Ev XL xs (d + 8) 38 (in_mI92, in_mL92, in_mR92, 395, 395, 7590) 46 [(1, .int 25), (0, .ref 55)] [.ref 382, .int 25, .ref 56] q := by
  refine ev_s 5 (M' := (in_mI92, in_mL92, in_mR93, 395, 395, 7590)) (pc' := 27) (lv' := [(1, .int 26), (0, .ref 55)]) (st' := [.ref 55, .int 26]) (fun n => rfl) ?_
  rw [← in_eI93, ← in_eL93]
  refine ev_s 1 (M' := (in_mI93, in_mL93, in_mR93, 395, 395, 7590)) (pc' := 30) (lv' := [(1, .int 26), (0, .ref 55)]) (st' := va_rf (in_mR93 55 0) :: [.int 26]) (fun n => rfl) ?_
  rw [in_h93_55_0]
  show Ev XL xs _ 38 (in_mI93, in_mL93, in_mR93, 395, 395, 7590) 30 [(1, .int 26), (0, .ref 55)] (.ref 56 :: [.int 26]) _
  refine ev_s 3 (M' := (in_mI93, in_mL93, in_mR93, 395, 395, 7590)) (pc' := 35) (lv' := [(1, .int 26), (0, .ref 55)]) (st' := [.ref 55]) (fun n => rfl) ?_
  refine ev_s 1 (M' := (in_mI93, in_mL93, in_mR93, 395, 395, 7590)) (pc' := 38) (lv' := [(1, .int 26), (0, .ref 55)]) (st' := va_rf (in_mR93 55 0) :: []) (fun n => rfl) ?_
  rw [in_h93_55_0]
  show Ev XL xs _ 38 (in_mI93, in_mL93, in_mR93, 395, 395, 7590) 38 [(1, .int 26), (0, .ref 55)] (.ref 56 :: []) _
  refine ev_s 3 (M' := (in_mI94, in_mL94, in_mR94, 396, 396, 7598)) (pc' := 43) (lv' := [(1, .int 26), (0, .ref 55)]) (st' := [.ref 395, .ref 395, .int 26, .ref 56]) (fun n => rfl) ?_
  refine ev_c 1 (y' := 67) (M1 := (in_mI94, in_mL94, in_mR94, 396, 396, 7598)) (la := [(0, .ref 395)]) (rest := [.ref 395, .int 26, .ref 56]) (pc' := 46) (lv' := [(1, .int 26), (0, .ref 55)]) (fun n => rfl) (ev_r 300 (fun n => in_c95 n _)) ?_
  show Ev XL xs _ 38 (in_mI95, in_mL95, in_mR95, 408, 408, 7834) 46 [(1, .int 26), (0, .ref 55)] [.ref 395, .int 26, .ref 56] _
  exact h
theorem in_past_s27 {d : Nat} {q : mm_R} (h : Ev XL xs (d + 8) 38 (in_mI98, in_mL98, in_mR98, 421, 421, 8078) 46 [(1, .int 27), (0, .ref 55)] [.ref 408, .int 27, .ref 56] q) : Ev XL xs (d + 8) 38 (in_mI95, in_mL95, in_mR95, 408, 408, 7834) 46 [(1, .int 26), (0, .ref 55)] [.ref 395, .int 26, .ref 56] q := by
  refine ev_s 5 (M' := (in_mI95, in_mL95, in_mR96, 408, 408, 7834)) (pc' := 27) (lv' := [(1, .int 27), (0, .ref 55)]) (st' := [.ref 55, .int 27]) (fun n => rfl) ?_
  rw [← in_eI96, ← in_eL96]
  refine ev_s 1 (M' := (in_mI96, in_mL96, in_mR96, 408, 408, 7834)) (pc' := 30) (lv' := [(1, .int 27), (0, .ref 55)]) (st' := va_rf (in_mR96 55 0) :: [.int 27]) (fun n => rfl) ?_
  rw [in_h96_55_0]
  show Ev XL xs _ 38 (in_mI96, in_mL96, in_mR96, 408, 408, 7834) 30 [(1, .int 27), (0, .ref 55)] (.ref 56 :: [.int 27]) _
  refine ev_s 3 (M' := (in_mI96, in_mL96, in_mR96, 408, 408, 7834)) (pc' := 35) (lv' := [(1, .int 27), (0, .ref 55)]) (st' := [.ref 55]) (fun n => rfl) ?_
  refine ev_s 1 (M' := (in_mI96, in_mL96, in_mR96, 408, 408, 7834)) (pc' := 38) (lv' := [(1, .int 27), (0, .ref 55)]) (st' := va_rf (in_mR96 55 0) :: []) (fun n => rfl) ?_
  rw [in_h96_55_0]
  show Ev XL xs _ 38 (in_mI96, in_mL96, in_mR96, 408, 408, 7834) 38 [(1, .int 27), (0, .ref 55)] (.ref 56 :: []) _
  refine ev_s 3 (M' := (in_mI97, in_mL97, in_mR97, 409, 409, 7842)) (pc' := 43) (lv' := [(1, .int 27), (0, .ref 55)]) (st' := [.ref 408, .ref 408, .int 27, .ref 56]) (fun n => rfl) ?_
  refine ev_c 1 (y' := 67) (M1 := (in_mI97, in_mL97, in_mR97, 409, 409, 7842)) (la := [(0, .ref 408)]) (rest := [.ref 408, .int 27, .ref 56]) (pc' := 46) (lv' := [(1, .int 27), (0, .ref 55)]) (fun n => rfl) (ev_r 300 (fun n => in_c98 n _)) ?_
  show Ev XL xs _ 38 (in_mI98, in_mL98, in_mR98, 421, 421, 8078) 46 [(1, .int 27), (0, .ref 55)] [.ref 408, .int 27, .ref 56] _
  exact h
theorem in_past_s28 {d : Nat} {q : mm_R} (h : Ev XL xs (d + 8) 38 (in_mI101, in_mL101, in_mR101, 434, 434, 8322) 46 [(1, .int 28), (0, .ref 55)] [.ref 421, .int 28, .ref 56] q) : Ev XL xs (d + 8) 38 (in_mI98, in_mL98, in_mR98, 421, 421, 8078) 46 [(1, .int 27), (0, .ref 55)] [.ref 408, .int 27, .ref 56] q := by
  refine ev_s 5 (M' := (in_mI98, in_mL98, in_mR99, 421, 421, 8078)) (pc' := 27) (lv' := [(1, .int 28), (0, .ref 55)]) (st' := [.ref 55, .int 28]) (fun n => rfl) ?_
  rw [← in_eI99, ← in_eL99]
  refine ev_s 1 (M' := (in_mI99, in_mL99, in_mR99, 421, 421, 8078)) (pc' := 30) (lv' := [(1, .int 28), (0, .ref 55)]) (st' := va_rf (in_mR99 55 0) :: [.int 28]) (fun n => rfl) ?_
  rw [in_h99_55_0]
  show Ev XL xs _ 38 (in_mI99, in_mL99, in_mR99, 421, 421, 8078) 30 [(1, .int 28), (0, .ref 55)] (.ref 56 :: [.int 28]) _
  refine ev_s 3 (M' := (in_mI99, in_mL99, in_mR99, 421, 421, 8078)) (pc' := 35) (lv' := [(1, .int 28), (0, .ref 55)]) (st' := [.ref 55]) (fun n => rfl) ?_
  refine ev_s 1 (M' := (in_mI99, in_mL99, in_mR99, 421, 421, 8078)) (pc' := 38) (lv' := [(1, .int 28), (0, .ref 55)]) (st' := va_rf (in_mR99 55 0) :: []) (fun n => rfl) ?_
  rw [in_h99_55_0]
  show Ev XL xs _ 38 (in_mI99, in_mL99, in_mR99, 421, 421, 8078) 38 [(1, .int 28), (0, .ref 55)] (.ref 56 :: []) _
  refine ev_s 3 (M' := (in_mI100, in_mL100, in_mR100, 422, 422, 8086)) (pc' := 43) (lv' := [(1, .int 28), (0, .ref 55)]) (st' := [.ref 421, .ref 421, .int 28, .ref 56]) (fun n => rfl) ?_
  refine ev_c 1 (y' := 67) (M1 := (in_mI100, in_mL100, in_mR100, 422, 422, 8086)) (la := [(0, .ref 421)]) (rest := [.ref 421, .int 28, .ref 56]) (pc' := 46) (lv' := [(1, .int 28), (0, .ref 55)]) (fun n => rfl) (ev_r 300 (fun n => in_c101 n _)) ?_
  show Ev XL xs _ 38 (in_mI101, in_mL101, in_mR101, 434, 434, 8322) 46 [(1, .int 28), (0, .ref 55)] [.ref 421, .int 28, .ref 56] _
  exact h
theorem in_past_s29 {d : Nat} {q : mm_R} (h : Ev XL xs (d + 8) 38 (in_mI104, in_mL104, in_mR104, 447, 447, 8566) 46 [(1, .int 29), (0, .ref 55)] [.ref 434, .int 29, .ref 56] q) : Ev XL xs (d + 8) 38 (in_mI101, in_mL101, in_mR101, 434, 434, 8322) 46 [(1, .int 28), (0, .ref 55)] [.ref 421, .int 28, .ref 56] q := by
  refine ev_s 5 (M' := (in_mI101, in_mL101, in_mR102, 434, 434, 8322)) (pc' := 27) (lv' := [(1, .int 29), (0, .ref 55)]) (st' := [.ref 55, .int 29]) (fun n => rfl) ?_
  rw [← in_eI102, ← in_eL102]
  refine ev_s 1 (M' := (in_mI102, in_mL102, in_mR102, 434, 434, 8322)) (pc' := 30) (lv' := [(1, .int 29), (0, .ref 55)]) (st' := va_rf (in_mR102 55 0) :: [.int 29]) (fun n => rfl) ?_
  rw [in_h102_55_0]
  show Ev XL xs _ 38 (in_mI102, in_mL102, in_mR102, 434, 434, 8322) 30 [(1, .int 29), (0, .ref 55)] (.ref 56 :: [.int 29]) _
  refine ev_s 3 (M' := (in_mI102, in_mL102, in_mR102, 434, 434, 8322)) (pc' := 35) (lv' := [(1, .int 29), (0, .ref 55)]) (st' := [.ref 55]) (fun n => rfl) ?_
  refine ev_s 1 (M' := (in_mI102, in_mL102, in_mR102, 434, 434, 8322)) (pc' := 38) (lv' := [(1, .int 29), (0, .ref 55)]) (st' := va_rf (in_mR102 55 0) :: []) (fun n => rfl) ?_
  rw [in_h102_55_0]
  show Ev XL xs _ 38 (in_mI102, in_mL102, in_mR102, 434, 434, 8322) 38 [(1, .int 29), (0, .ref 55)] (.ref 56 :: []) _
  refine ev_s 3 (M' := (in_mI103, in_mL103, in_mR103, 435, 435, 8330)) (pc' := 43) (lv' := [(1, .int 29), (0, .ref 55)]) (st' := [.ref 434, .ref 434, .int 29, .ref 56]) (fun n => rfl) ?_
  refine ev_c 1 (y' := 67) (M1 := (in_mI103, in_mL103, in_mR103, 435, 435, 8330)) (la := [(0, .ref 434)]) (rest := [.ref 434, .int 29, .ref 56]) (pc' := 46) (lv' := [(1, .int 29), (0, .ref 55)]) (fun n => rfl) (ev_r 300 (fun n => in_c104 n _)) ?_
  show Ev XL xs _ 38 (in_mI104, in_mL104, in_mR104, 447, 447, 8566) 46 [(1, .int 29), (0, .ref 55)] [.ref 434, .int 29, .ref 56] _
  exact h
end INI
