section INI
variable {XL : Nat} {xs : Nat → Int32}
set_option maxRecDepth 100000
theorem in_law {d : Nat} {q : mm_R} (h : Ev XL xs (d + 10) 311 (in_mI159, in_mL159, in_mR159, 640, 640, 36840) 23 [(4, .int 0), (3, .ref 639), (2, .ref 606), (1, .ref 0), (0, .ref 1000000)] [] q) : Ev XL xs (d + 10) 311 (in_mI0, in_mL0, in_mR0, 0, 0, 0) 0 [(0, .ref 1000000)] [] q := by
  refine ev_s 2 (M' := (in_mI1, in_mL1, in_mR1, 1, 1, 20)) (pc' := 4) (lv' := [(0, .ref 1000000)]) (st' := [.ref 0, .ref 0]) (fun n => rfl) ?_
  refine ev_c 1 (y' := 92) (M1 := (in_mI1, in_mL1, in_mR1, 1, 1, 20)) (la := [(0, .ref 0)]) (rest := [.ref 0]) (pc' := 7) (lv' := [(0, .ref 1000000)]) (fun n => rfl) in_bg ?_
  show Ev XL xs _ 311 (in_mI156, in_mL156, in_mR156, 606, 606, 16792) 7 [(0, .ref 1000000)] [.ref 0] _
  refine ev_s 3 (M' := (in_mI157, in_mL157, in_mR157, 607, 607, 16844)) (pc' := 12) (lv' := [(1, .ref 0), (0, .ref 1000000)]) (st' := [.ref 606, .ref 606]) (fun n => rfl) ?_
  refine ev_c 1 (y' := 180) (M1 := (in_mI157, in_mL157, in_mR157, 607, 607, 16844)) (la := [(0, .ref 606)]) (rest := [.ref 606]) (pc' := 15) (lv' := [(1, .ref 0), (0, .ref 1000000)]) (fun n => rfl) (ev_r 300 (fun n => in_c158 n _)) ?_
  show Ev XL xs _ 311 (in_mI158, in_mL158, in_mR158, 639, 639, 36839) 15 [(1, .ref 0), (0, .ref 1000000)] [.ref 606] _
  refine ev_s 6 (M' := (in_mI159, in_mL159, in_mR159, 640, 640, 36840)) (pc' := 23) (lv' := [(4, .int 0), (3, .ref 639), (2, .ref 606), (1, .ref 0), (0, .ref 1000000)]) (st' := []) (fun n => rfl) ?_
  exact h
end INI
