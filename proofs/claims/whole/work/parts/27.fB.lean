section EV
variable {XL : Nat} {xs : Nat → Int32} {d c w : Nat}

def fX10_feed (m : mm_MM) (x1 : Int32) (x2 : Int32) (x3 : Int32) (x4 : Int32) (x5 : Int32) : Option (Int32 × mm_MM) :=
  (fX8_bytesIn m x1).bind fun r1 =>
   (fX8_bytesIn r1.2 x2).bind fun r2 =>
    (fX8_bytesIn r2.2 x3).bind fun r3 =>
     (fX8_bytesIn r3.2 x4).bind fun r4 =>
      (fX8_bytesIn r4.2 x5).bind fun r5 =>
       (fX8_size r5.2).bind fun r6 =>
        (if (r6.1 + ((((r1.1 + r2.1) + r3.1) + r4.1) + r5.1)) ≤ 240 then
          (fX8_append r6.2 x1).bind fun r8 =>
           (fX8_append r8 x2).bind fun r9 =>
            (fX8_append r9 x3).bind fun r10 =>
             (fX8_append r10 x4).bind fun r11 =>
              (fX8_append r11 x5).bind fun r12 =>
               (fX8_size r12).bind fun r13 =>
                some (r13.1, r13.2)
         else
          some (((-1) : Int32), r6.2))
set_option maxRecDepth 20000 in
theorem ok_fX10_feed {m : mm_MM} {x1 : Int32} {x2 : Int32} {x3 : Int32} {x4 : Int32} {x5 : Int32} {q0 : Int32 × mm_MM} (h : fX10_feed m x1 x2 x3 x4 x5 = some q0) : Ev XL xs (d + 2) 93 (ev_M m c w) 0 (lv_args 0 [.ref 0, .int x1, .int x2, .int x3, .int x4, .int x5]) [] (fr_i c w q0) := by
  unfold fX10_feed at h
  obtain ⟨r1, hr1, h⟩ := Option.bind_eq_some_iff.mp h
  refine ev_c 2 (y' := 77) (M1 := ev_M m c w) (la := lv_args 0 [.int x1]) (rest := []) (pc' := 4) (lv' := [(0, .ref 0), (1, .int x1), (2, .int x2), (3, .int x3), (4, .int x4), (5, .int x5)]) (fun n => rfl) (ok_fX8_bytesIn hr1) ?_
  show Ev XL xs _ 93 (ev_M r1.2 c w) 4 [(0, .ref 0), (1, .int x1), (2, .int x2), (3, .int x3), (4, .int x4), (5, .int x5)] [.int r1.1] _
  obtain ⟨r2, hr2, h⟩ := Option.bind_eq_some_iff.mp h
  refine ev_c 2 (y' := 77) (M1 := ev_M r1.2 c w) (la := lv_args 0 [.int x2]) (rest := [.int r1.1]) (pc' := 8) (lv' := [(0, .ref 0), (1, .int x1), (2, .int x2), (3, .int x3), (4, .int x4), (5, .int x5)]) (fun n => rfl) (ok_fX8_bytesIn hr2) ?_
  show Ev XL xs _ 93 (ev_M r2.2 c w) 8 [(0, .ref 0), (1, .int x1), (2, .int x2), (3, .int x3), (4, .int x4), (5, .int x5)] [.int r2.1, .int r1.1] _
  obtain ⟨r3, hr3, h⟩ := Option.bind_eq_some_iff.mp h
  refine ev_c 3 (y' := 77) (M1 := ev_M r2.2 c w) (la := lv_args 0 [.int x3]) (rest := [.int (r1.1 + r2.1)]) (pc' := 13) (lv' := [(0, .ref 0), (1, .int x1), (2, .int x2), (3, .int x3), (4, .int x4), (5, .int x5)]) (fun n => rfl) (ok_fX8_bytesIn hr3) ?_
  show Ev XL xs _ 93 (ev_M r3.2 c w) 13 [(0, .ref 0), (1, .int x1), (2, .int x2), (3, .int x3), (4, .int x4), (5, .int x5)] [.int r3.1, .int (r1.1 + r2.1)] _
  obtain ⟨r4, hr4, h⟩ := Option.bind_eq_some_iff.mp h
  refine ev_c 3 (y' := 77) (M1 := ev_M r3.2 c w) (la := lv_args 0 [.int x4]) (rest := [.int ((r1.1 + r2.1) + r3.1)]) (pc' := 19) (lv' := [(0, .ref 0), (1, .int x1), (2, .int x2), (3, .int x3), (4, .int x4), (5, .int x5)]) (fun n => rfl) (ok_fX8_bytesIn hr4) ?_
  show Ev XL xs _ 93 (ev_M r4.2 c w) 19 [(0, .ref 0), (1, .int x1), (2, .int x2), (3, .int x3), (4, .int x4), (5, .int x5)] [.int r4.1, .int ((r1.1 + r2.1) + r3.1)] _
  obtain ⟨r5, hr5, h⟩ := Option.bind_eq_some_iff.mp h
  refine ev_c 3 (y' := 77) (M1 := ev_M r4.2 c w) (la := lv_args 0 [.int x5]) (rest := [.int (((r1.1 + r2.1) + r3.1) + r4.1)]) (pc' := 25) (lv' := [(0, .ref 0), (1, .int x1), (2, .int x2), (3, .int x3), (4, .int x4), (5, .int x5)]) (fun n => rfl) (ok_fX8_bytesIn hr5) ?_
  show Ev XL xs _ 93 (ev_M r5.2 c w) 25 [(0, .ref 0), (1, .int x1), (2, .int x2), (3, .int x3), (4, .int x4), (5, .int x5)] [.int r5.1, .int (((r1.1 + r2.1) + r3.1) + r4.1)] _
  obtain ⟨r6, hr6, h⟩ := Option.bind_eq_some_iff.mp h
  refine ev_c 5 (y' := 79) (M1 := ev_M r5.2 c w) (la := lv_args 0 [.ref 1]) (rest := []) (pc' := 35) (lv' := [(6, .int ((((r1.1 + r2.1) + r3.1) + r4.1) + r5.1)), (0, .ref 0), (1, .int x1), (2, .int x2), (3, .int x3), (4, .int x4), (5, .int x5)]) (fun n => rfl) (ok_fX8_size hr6) ?_
  show Ev XL xs _ 93 (ev_M r6.2 c w) 35 [(6, .int ((((r1.1 + r2.1) + r3.1) + r4.1) + r5.1)), (0, .ref 0), (1, .int x1), (2, .int x2), (3, .int x3), (4, .int x4), (5, .int x5)] [.int r6.1] _
  refine ev_i 4 (M1 := ev_M r6.2 c w) (pc1 := 46) (lv1 := [(6, .int ((((r1.1 + r2.1) + r3.1) + r4.1) + r5.1)), (0, .ref 0), (1, .int x1), (2, .int x2), (3, .int x3), (4, .int x4), (5, .int x5)]) (st1 := []) (M2 := ev_M r6.2 c w) (pc2 := 44) (lv2 := [(6, .int ((((r1.1 + r2.1) + r3.1) + r4.1) + r5.1)), (0, .ref 0), (1, .int x1), (2, .int x2), (3, .int x3), (4, .int x4), (5, .int x5)]) (st2 := []) (fun n => rfl) h (fun hc7 h => ?_) (fun hc7 h => ?_)
  · obtain ⟨r8, hr8, h⟩ := Option.bind_eq_some_iff.mp h
    refine ev_c 4 (y' := 78) (M1 := ev_M r6.2 c w) (la := lv_args 0 [.ref 1, .int x1]) (rest := []) (pc' := 54) (lv' := [(6, .int ((((r1.1 + r2.1) + r3.1) + r4.1) + r5.1)), (0, .ref 0), (1, .int x1), (2, .int x2), (3, .int x3), (4, .int x4), (5, .int x5)]) (fun n => rfl) (ok_fX8_append hr8) ?_
    show Ev XL xs _ 93 (ev_M r8 c w) 54 [(6, .int ((((r1.1 + r2.1) + r3.1) + r4.1) + r5.1)), (0, .ref 0), (1, .int x1), (2, .int x2), (3, .int x3), (4, .int x4), (5, .int x5)] [] _
    obtain ⟨r9, hr9, h⟩ := Option.bind_eq_some_iff.mp h
    refine ev_c 4 (y' := 78) (M1 := ev_M r8 c w) (la := lv_args 0 [.ref 1, .int x2]) (rest := []) (pc' := 62) (lv' := [(6, .int ((((r1.1 + r2.1) + r3.1) + r4.1) + r5.1)), (0, .ref 0), (1, .int x1), (2, .int x2), (3, .int x3), (4, .int x4), (5, .int x5)]) (fun n => rfl) (ok_fX8_append hr9) ?_
    show Ev XL xs _ 93 (ev_M r9 c w) 62 [(6, .int ((((r1.1 + r2.1) + r3.1) + r4.1) + r5.1)), (0, .ref 0), (1, .int x1), (2, .int x2), (3, .int x3), (4, .int x4), (5, .int x5)] [] _
    obtain ⟨r10, hr10, h⟩ := Option.bind_eq_some_iff.mp h
    refine ev_c 4 (y' := 78) (M1 := ev_M r9 c w) (la := lv_args 0 [.ref 1, .int x3]) (rest := []) (pc' := 70) (lv' := [(6, .int ((((r1.1 + r2.1) + r3.1) + r4.1) + r5.1)), (0, .ref 0), (1, .int x1), (2, .int x2), (3, .int x3), (4, .int x4), (5, .int x5)]) (fun n => rfl) (ok_fX8_append hr10) ?_
    show Ev XL xs _ 93 (ev_M r10 c w) 70 [(6, .int ((((r1.1 + r2.1) + r3.1) + r4.1) + r5.1)), (0, .ref 0), (1, .int x1), (2, .int x2), (3, .int x3), (4, .int x4), (5, .int x5)] [] _
    obtain ⟨r11, hr11, h⟩ := Option.bind_eq_some_iff.mp h
    refine ev_c 4 (y' := 78) (M1 := ev_M r10 c w) (la := lv_args 0 [.ref 1, .int x4]) (rest := []) (pc' := 79) (lv' := [(6, .int ((((r1.1 + r2.1) + r3.1) + r4.1) + r5.1)), (0, .ref 0), (1, .int x1), (2, .int x2), (3, .int x3), (4, .int x4), (5, .int x5)]) (fun n => rfl) (ok_fX8_append hr11) ?_
    show Ev XL xs _ 93 (ev_M r11 c w) 79 [(6, .int ((((r1.1 + r2.1) + r3.1) + r4.1) + r5.1)), (0, .ref 0), (1, .int x1), (2, .int x2), (3, .int x3), (4, .int x4), (5, .int x5)] [] _
    obtain ⟨r12, hr12, h⟩ := Option.bind_eq_some_iff.mp h
    refine ev_c 4 (y' := 78) (M1 := ev_M r11 c w) (la := lv_args 0 [.ref 1, .int x5]) (rest := []) (pc' := 88) (lv' := [(6, .int ((((r1.1 + r2.1) + r3.1) + r4.1) + r5.1)), (0, .ref 0), (1, .int x1), (2, .int x2), (3, .int x3), (4, .int x4), (5, .int x5)]) (fun n => rfl) (ok_fX8_append hr12) ?_
    show Ev XL xs _ 93 (ev_M r12 c w) 88 [(6, .int ((((r1.1 + r2.1) + r3.1) + r4.1) + r5.1)), (0, .ref 0), (1, .int x1), (2, .int x2), (3, .int x3), (4, .int x4), (5, .int x5)] [] _
    obtain ⟨r13, hr13, h⟩ := Option.bind_eq_some_iff.mp h
    refine ev_c 3 (y' := 79) (M1 := ev_M r12 c w) (la := lv_args 0 [.ref 1]) (rest := []) (pc' := 95) (lv' := [(6, .int ((((r1.1 + r2.1) + r3.1) + r4.1) + r5.1)), (0, .ref 0), (1, .int x1), (2, .int x2), (3, .int x3), (4, .int x4), (5, .int x5)]) (fun n => rfl) (ok_fX8_size hr13) ?_
    show Ev XL xs _ 93 (ev_M r13.2 c w) 95 [(6, .int ((((r1.1 + r2.1) + r3.1) + r4.1) + r5.1)), (0, .ref 0), (1, .int x1), (2, .int x2), (3, .int x3), (4, .int x4), (5, .int x5)] [.int r13.1] _
    cases h
    exact ev_r 1 (fun n => rfl)
  · cases h
    exact ev_r 2 (fun n => rfl)
def fX10_end_c15 (m : mm_MM) : Option (Int32 × mm_MM) :=
  some (0, m)
theorem ok_fX10_end_c15 {m : mm_MM} {q0 : Int32 × mm_MM} (h : fX10_end_c15 m = some q0) : Ev XL xs (d + 1) 94 (ev_M m c w) 15 [] [] (fr_i c w q0) := by
  unfold fX10_end_c15 at h
  cases h
  exact ev_r 2 (fun n => rfl)
def fX10_end (m : mm_MM) (x1 : Int32) : Option (Int32 × mm_MM) :=
  (if x1 < 0 then
    fX10_end_c15 m
   else
    (fX8_size m).bind fun r2 =>
     (if x1 ≤ r2.1 then
       (fX8_cut r2.2 x1).bind fun r4 =>
        some (1, r4)
      else
       fX10_end_c15 r2.2))
theorem ok_fX10_end {m : mm_MM} {x1 : Int32} {q0 : Int32 × mm_MM} (h : fX10_end m x1 = some q0) : Ev XL xs (d + 1) 94 (ev_M m c w) 0 (lv_args 0 [.ref 0, .int x1]) [] (fr_i c w q0) := by
  unfold fX10_end at h
  refine ev_i 2 (M1 := ev_M m c w) (pc1 := 15) (lv1 := [(0, .ref 0), (1, .int x1)]) (st1 := []) (M2 := ev_M m c w) (pc2 := 4) (lv2 := [(0, .ref 0), (1, .int x1)]) (st2 := []) (fun n => rfl) h (fun hc1 h => ?_) (fun hc1 h => ?_)
  · refine ev_sub (lv := []) (mn_of rfl (by repeat (first | exact trivial | refine And.intro rfl ?_))) ?_
    exact ok_fX10_end_c15 h
  · obtain ⟨r2, hr2, h⟩ := Option.bind_eq_some_iff.mp h
    refine ev_c 4 (y' := 79) (M1 := ev_M m c w) (la := lv_args 0 [.ref 1]) (rest := [.int x1]) (pc' := 12) (lv' := [(0, .ref 0), (1, .int x1)]) (fun n => rfl) (ok_fX8_size hr2) ?_
    show Ev XL xs _ 94 (ev_M r2.2 c w) 12 [(0, .ref 0), (1, .int x1)] [.int r2.1, .int x1] _
    refine ev_i 1 (M1 := ev_M r2.2 c w) (pc1 := 17) (lv1 := [(0, .ref 0), (1, .int x1)]) (st1 := []) (M2 := ev_M r2.2 c w) (pc2 := 15) (lv2 := [(0, .ref 0), (1, .int x1)]) (st2 := []) (fun n => rfl) h (fun hc3 h => ?_) (fun hc3 h => ?_)
    · obtain ⟨r4, hr4, h⟩ := Option.bind_eq_some_iff.mp h
      refine ev_c 4 (y' := 80) (M1 := ev_M r2.2 c w) (la := lv_args 0 [.ref 1, .int x1]) (rest := []) (pc' := 25) (lv' := [(0, .ref 0), (1, .int x1)]) (fun n => rfl) (ok_fX8_cut hr4) ?_
      show Ev XL xs _ 94 (ev_M r4 c w) 25 [(0, .ref 0), (1, .int x1)] [] _
      cases h
      exact ev_r 2 (fun n => rfl)
    · refine ev_sub (lv := []) (mn_of rfl (by repeat (first | exact trivial | refine And.intro rfl ?_))) ?_
      exact ok_fX10_end_c15 h
def fX10_beginField (m : mm_MM) : Option (mm_MM) :=
  (fX1_copy m 14 3).bind fun r1 =>
   (fX7_begin r1 29 14).bind fun r2 =>
    (fX3_forget r2).bind fun r3 =>
     (fX5_forget r3).bind fun r4 =>
      some (wI (wI r4 0 14 1) 0 15 0)
theorem ok_fX10_beginField {m : mm_MM} {q0 : mm_MM} (h : fX10_beginField m = some q0) : Ev XL xs (d + 2) 97 (ev_M m c w) 0 (lv_args 0 [.ref 0]) [] (fr_v c w q0) := by
  unfold fX10_beginField at h
  obtain ⟨r1, hr1, h⟩ := Option.bind_eq_some_iff.mp h
  refine ev_c 5 (y' := 7) (M1 := ev_M m c w) (la := lv_args 0 [.ref 14, .ref 3]) (rest := []) (pc' := 11) (lv' := [(0, .ref 0)]) (fun n => rfl) (ok_fX1_copy (rfl : mm_kd 14 = (1, 10)) (rfl : mm_kd 3 = (1, 10)) hr1) ?_
  show Ev XL xs _ 97 (ev_M r1 c w) 11 [(0, .ref 0)] [] _
  obtain ⟨r2, hr2, h⟩ := Option.bind_eq_some_iff.mp h
  refine ev_c 5 (y' := 73) (M1 := ev_M r1 c w) (la := lv_args 0 [.ref 29, .ref 14]) (rest := []) (pc' := 22) (lv' := [(0, .ref 0)]) (fun n => rfl) (ok_fX7_begin (rfl : mm_kd 29 = (7, 8)) (rfl : mm_kd 14 = (1, 10)) hr2) ?_
  show Ev XL xs _ 97 (ev_M r2 c w) 22 [(0, .ref 0)] [] _
  obtain ⟨r3, hr3, h⟩ := Option.bind_eq_some_iff.mp h
  refine ev_c 3 (y' := 40) (M1 := ev_M r2 c w) (la := lv_args 0 [.ref 55]) (rest := []) (pc' := 29) (lv' := [(0, .ref 0)]) (fun n => rfl) (ok_fX3_forget hr3) ?_
  show Ev XL xs _ 97 (ev_M r3 c w) 29 [(0, .ref 0)] [] _
  obtain ⟨r4, hr4, h⟩ := Option.bind_eq_some_iff.mp h
  refine ev_c 3 (y' := 60) (M1 := ev_M r3 c w) (la := lv_args 0 [.ref 577]) (rest := []) (pc' := 36) (lv' := [(0, .ref 0)]) (fun n => rfl) (ok_fX5_forget hr4) ?_
  show Ev XL xs _ 97 (ev_M r4 c w) 36 [(0, .ref 0)] [] _
  cases h
  exact ev_r 7 (fun n => rfl)
def fX10_lawAt_c23 (m : mm_MM) (s0 : Option Nat) : Option (Option Nat × mm_MM) :=
  match s0 with
  | none =>
    some (none, m)
  | some u1 =>
    if mm_kd u1 = (2, 4) then
      some (some u1, m)
    else none
theorem ok_fX10_lawAt_c23 {m : mm_MM} {s0 : Option Nat} {q0 : Option Nat × mm_MM} (h : fX10_lawAt_c23 m s0 = some q0) : Ev XL xs d 99 (ev_M m c w) 23 [] [va_rf s0] (fr_r c w q0) := by
  unfold fX10_lawAt_c23 at h
  cases s0 with
  | none =>
    cases h
    exact ev_r 1 (fun n => rfl)
  | some u1 =>
    obtain ⟨hk_u1, h⟩ := sd_ift h
    cases h
    exact ev_r 1 (fun n => rfl)
def fX10_lawAt_c22 (m : mm_MM) : Option (Option Nat × mm_MM) :=
  fX10_lawAt_c23 m none
theorem ok_fX10_lawAt_c22 {m : mm_MM} {q0 : Option Nat × mm_MM} (h : fX10_lawAt_c22 m = some q0) : Ev XL xs d 99 (ev_M m c w) 22 [] [] (fr_r c w q0) := by
  unfold fX10_lawAt_c22 at h
  refine ev_s 1 (M' := ev_M m c w) (pc' := 23) (lv' := []) (st' := [va_rf none]) (fun n => rfl) ?_
  exact ok_fX10_lawAt_c23 h
def fX10_lawAt (m : mm_MM) (x1 : Int32) : Option (Option Nat × mm_MM) :=
  (if x1 < 0 then
    fX10_lawAt_c22 m
   else
    (if x1 < 4 then
      (if x1 < 0 ∨ 4 ≤ x1.toNatClampNeg then none else
       fX10_lawAt_c23 m (some (594 + 3 * x1.toNatClampNeg)))
     else
      fX10_lawAt_c22 m))
theorem ok_fX10_lawAt {m : mm_MM} {x1 : Int32} {q0 : Option Nat × mm_MM} (h : fX10_lawAt m x1 = some q0) : Ev XL xs d 99 (ev_M m c w) 0 (lv_args 0 [.ref 0, .int x1]) [] (fr_r c w q0) := by
  unfold fX10_lawAt at h
  refine ev_i 2 (M1 := ev_M m c w) (pc1 := 22) (lv1 := [(0, .ref 0), (1, .int x1)]) (st1 := []) (M2 := ev_M m c w) (pc2 := 4) (lv2 := [(0, .ref 0), (1, .int x1)]) (st2 := []) (fun n => rfl) h (fun hc1 h => ?_) (fun hc1 h => ?_)
  · refine ev_sub (lv := []) (mn_of rfl (by repeat (first | exact trivial | refine And.intro rfl ?_))) ?_
    exact ok_fX10_lawAt_c22 h
  · refine ev_i 5 (M1 := ev_M m c w) (pc1 := 13) (lv1 := [(0, .ref 0), (1, .int x1)]) (st1 := []) (M2 := ev_M m c w) (pc2 := 22) (lv2 := [(0, .ref 0), (1, .int x1)]) (st2 := []) (fun n => rfl) h (fun hc2 h => ?_) (fun hc2 h => ?_)
    · refine ev_s 3 (M' := ev_M m c w) (pc' := 18) (lv' := [(0, .ref 0), (1, .int x1)]) (st' := [.int x1, .ref 28]) (fun n => rfl) ?_
      refine ev_aa (n := 4) (b := (594 + 3 * x1.toNatClampNeg)) rfl (by rw [(congrArg Prod.fst (rfl : mm_kd 28 = (32, 4)))]; decide) (congrArg Prod.snd (rfl : mm_kd 28 = (32, 4))) h (fun hj => tr_A _ hj |>.1) (fun hx3 h => ?_)
      refine ev_s 1 (M' := ev_M m c w) (pc' := 23) (lv' := [(0, .ref 0), (1, .int x1)]) (st' := [va_rf (some (594 + 3 * x1.toNatClampNeg))]) (fun n => rfl) ?_
      refine ev_sub (lv := []) (mn_of rfl (by repeat (first | exact trivial | refine And.intro rfl ?_))) ?_
      exact ok_fX10_lawAt_c23 h
    · refine ev_sub (lv := []) (mn_of rfl (by repeat (first | exact trivial | refine And.intro rfl ?_))) ?_
      exact ok_fX10_lawAt_c22 h
def fX10_keepLaw (m : mm_MM) : Option (Int32 × mm_MM) :=
  (fX10_lawAt m (m.1 0 16)).bind fun r1 =>
   match r1.1 with
   | none =>
     some (((-1) : Int32), r1.2)
   | some u2 =>
     if mm_kd u2 = (2, 4) then
       (fX2_copy r1.2 u2 25).bind fun r3 =>
        some (((r3.1 0 16 + 1) - 1), (wI r3 0 16 (r3.1 0 16 + 1)))
     else none
theorem ok_fX10_keepLaw {m : mm_MM} {q0 : Int32 × mm_MM} (h : fX10_keepLaw m = some q0) : Ev XL xs (d + 2) 98 (ev_M m c w) 0 (lv_args 0 [.ref 0]) [] (fr_i c w q0) := by
  unfold fX10_keepLaw at h
  obtain ⟨r1, hr1, h⟩ := Option.bind_eq_some_iff.mp h
  refine ev_c 4 (y' := 99) (M1 := ev_M m c w) (la := lv_args 0 [.ref 0, .int (m.1 0 16)]) (rest := []) (pc' := 8) (lv' := [(0, .ref 0)]) (fun n => rfl) (ok_fX10_lawAt hr1) ?_
  show Ev XL xs _ 98 (ev_M r1.2 c w) 8 [(0, .ref 0)] [va_rf r1.1] _
  generalize r1.1 = o4 at h ⊢
  cases o4 with
  | none =>
    cases h
    exact ev_r 5 (fun n => rfl)
  | some u2 =>
    obtain ⟨hk_u2, h⟩ := sd_ift h
    refine ev_s 6 (M' := ev_M r1.2 c w) (pc' := 20) (lv' := [(1, .ref u2), (0, .ref 0)]) (st' := [.ref 25, .ref u2]) (fun n => rfl) ?_
    obtain ⟨r3, hr3, h⟩ := Option.bind_eq_some_iff.mp h
    refine ev_cv (rest := []) rfl rfl (congrArg Prod.fst hk_u2) rfl (ok_fX2_copy hk_u2 (rfl : mm_kd 25 = (2, 4)) hr3) ?_
    show Ev XL xs _ 98 (ev_M r3 c w) 23 [(1, .ref u2), (0, .ref 0)] [] _
    cases h
    exact ev_r 11 (fun n => rfl)
def fX10_rule (m : mm_MM) (x1 : Int32) : Option (Int32 × mm_MM) :=
  (if m.1 0 14 = 0 then
    some (((-1) : Int32), m)
   else
    (if x1 = 0 then
      some (m.1 14 3, m)
     else (if x1 = 1 then
      some (m.1 14 4, m)
     else (if x1 = 2 then
      some (m.1 14 5, m)
     else (if x1 = 3 then
      some (m.1 14 6, m)
     else (if x1 = 4 then
      some (m.1 29 6, m)
     else some (((-1) : Int32), m)))))))
theorem ok_fX10_rule {m : mm_MM} {x1 : Int32} {q0 : Int32 × mm_MM} (h : fX10_rule m x1 = some q0) : Ev XL xs d 100 (ev_M m c w) 0 (lv_args 0 [.ref 0, .int x1]) [] (fr_i c w q0) := by
  unfold fX10_rule at h
  refine ev_i 3 (M1 := ev_M m c w) (pc1 := 7) (lv1 := [(0, .ref 0), (1, .int x1)]) (st1 := []) (M2 := ev_M m c w) (pc2 := 9) (lv2 := [(0, .ref 0), (1, .int x1)]) (st2 := []) (fun n => rfl) h (fun hc1 h => ?_) (fun hc1 h => ?_)
  · cases h
    exact ev_r 2 (fun n => rfl)
  · refine ev_s 1 (M' := ev_M m c w) (pc' := 10) (lv' := [(0, .ref 0), (1, .int x1)]) (st' := [.int x1]) (fun n => rfl) ?_
    refine ev_e 0 h (fun hv2 h => ?_) (fun hv2 h => ?_)
    · refine ev_s 1 (M' := ev_M m c w) (pc' := 44) (lv' := [(0, .ref 0), (1, .int x1)]) (st' := []) (fun n => by rw [hv2]; rfl) ?_
      cases h
      exact ev_r 4 (fun n => rfl)
    refine ev_e 1 h (fun hv3 h => ?_) (fun hv3 h => ?_)
    · refine ev_s 1 (M' := ev_M m c w) (pc' := 52) (lv' := [(0, .ref 0), (1, .int x1)]) (st' := []) (fun n => by rw [hv3]; rfl) ?_
      cases h
      exact ev_r 4 (fun n => rfl)
    refine ev_e 2 h (fun hv4 h => ?_) (fun hv4 h => ?_)
    · refine ev_s 1 (M' := ev_M m c w) (pc' := 60) (lv' := [(0, .ref 0), (1, .int x1)]) (st' := []) (fun n => by rw [hv4]; rfl) ?_
      cases h
      exact ev_r 4 (fun n => rfl)
    refine ev_e 3 h (fun hv5 h => ?_) (fun hv5 h => ?_)
    · refine ev_s 1 (M' := ev_M m c w) (pc' := 68) (lv' := [(0, .ref 0), (1, .int x1)]) (st' := []) (fun n => by rw [hv5]; rfl) ?_
      cases h
      exact ev_r 4 (fun n => rfl)
    refine ev_e 4 h (fun hv6 h => ?_) (fun hv6 h => ?_)
    · refine ev_s 1 (M' := ev_M m c w) (pc' := 76) (lv' := [(0, .ref 0), (1, .int x1)]) (st' := []) (fun n => by rw [hv6]; rfl) ?_
      cases h
      exact ev_r 4 (fun n => rfl)
    have ghv2 : (x1 : Int32).toInt ≠ 0 := fun z => hv2 (Int32.toInt_inj.mp (z.trans rfl))
    have ghv3 : (x1 : Int32).toInt ≠ 1 := fun z => hv3 (Int32.toInt_inj.mp (z.trans rfl))
    have ghv4 : (x1 : Int32).toInt ≠ 2 := fun z => hv4 (Int32.toInt_inj.mp (z.trans rfl))
    have ghv5 : (x1 : Int32).toInt ≠ 3 := fun z => hv5 (Int32.toInt_inj.mp (z.trans rfl))
    have ghv6 : (x1 : Int32).toInt ≠ 4 := fun z => hv6 (Int32.toInt_inj.mp (z.trans rfl))
    refine ev_td (M' := ev_M m c w) (pc' := 84) (lv' := [(0, .ref 0), (1, .int x1)]) (st' := []) rfl (by omega) rfl ?_
    cases h
    exact ev_r 2 (fun n => rfl)
def fX10_isRow_c27 (m : mm_MM) (s0 : Int32) : Option (Int32 × mm_MM) :=
  (if s0 = 0 ∨ s0 = 1 then some (s0, m) else none)
theorem ok_fX10_isRow_c27 {m : mm_MM} {s0 : Int32} {q0 : Int32 × mm_MM} (h : fX10_isRow_c27 m s0 = some q0) : Ev XL xs d 104 (ev_M m c w) 27 [] [.int s0] (fr_i c w q0) := by
  unfold fX10_isRow_c27 at h
  exact ev_rg 1 (f := fr_i c w) (fun n => rfl) h
def fX10_isRow_c26 (m : mm_MM) : Option (Int32 × mm_MM) :=
  fX10_isRow_c27 m 0
theorem ok_fX10_isRow_c26 {m : mm_MM} {q0 : Int32 × mm_MM} (h : fX10_isRow_c26 m = some q0) : Ev XL xs d 104 (ev_M m c w) 26 [] [] (fr_i c w q0) := by
  unfold fX10_isRow_c26 at h
  refine ev_s 1 (M' := ev_M m c w) (pc' := 27) (lv' := []) (st' := [.int 0]) (fun n => rfl) ?_
  exact ok_fX10_isRow_c27 h
def fX10_isRow (m : mm_MM) (x1 : Int32) : Option (Int32 × mm_MM) :=
  (if m.1 0 14 = 0 then
    fX10_isRow_c26 m
   else
    (if x1 < 0 then
      fX10_isRow_c26 m
     else
      (if x1 < m.1 14 4 then
        fX10_isRow_c27 m 1
       else
        fX10_isRow_c26 m)))
theorem ok_fX10_isRow {m : mm_MM} {x1 : Int32} {q0 : Int32 × mm_MM} (h : fX10_isRow m x1 = some q0) : Ev XL xs d 104 (ev_M m c w) 0 (lv_args 0 [.ref 0, .int x1]) [] (fr_i c w q0) := by
  unfold fX10_isRow at h
  refine ev_i 3 (M1 := ev_M m c w) (pc1 := 26) (lv1 := [(0, .ref 0), (1, .int x1)]) (st1 := []) (M2 := ev_M m c w) (pc2 := 7) (lv2 := [(0, .ref 0), (1, .int x1)]) (st2 := []) (fun n => rfl) h (fun hc1 h => ?_) (fun hc1 h => ?_)
  · refine ev_sub (lv := []) (mn_of rfl (by repeat (first | exact trivial | refine And.intro rfl ?_))) ?_
    exact ok_fX10_isRow_c26 h
  · refine ev_i 2 (M1 := ev_M m c w) (pc1 := 26) (lv1 := [(0, .ref 0), (1, .int x1)]) (st1 := []) (M2 := ev_M m c w) (pc2 := 11) (lv2 := [(0, .ref 0), (1, .int x1)]) (st2 := []) (fun n => rfl) h (fun hc2 h => ?_) (fun hc2 h => ?_)
    · refine ev_sub (lv := []) (mn_of rfl (by repeat (first | exact trivial | refine And.intro rfl ?_))) ?_
      exact ok_fX10_isRow_c26 h
    · refine ev_i 5 (M1 := ev_M m c w) (pc1 := 22) (lv1 := [(0, .ref 0), (1, .int x1)]) (st1 := []) (M2 := ev_M m c w) (pc2 := 26) (lv2 := [(0, .ref 0), (1, .int x1)]) (st2 := []) (fun n => rfl) h (fun hc3 h => ?_) (fun hc3 h => ?_)
      · refine ev_s 2 (M' := ev_M m c w) (pc' := 27) (lv' := [(0, .ref 0), (1, .int x1)]) (st' := [.int 1]) (fun n => rfl) ?_
        refine ev_sub (lv := []) (mn_of rfl (by repeat (first | exact trivial | refine And.intro rfl ?_))) ?_
        exact ok_fX10_isRow_c27 h
      · refine ev_sub (lv := []) (mn_of rfl (by repeat (first | exact trivial | refine And.intro rfl ?_))) ?_
        exact ok_fX10_isRow_c26 h
def fX10_damp_c23 (m : mm_MM) (s0 : Int32) : Option (Int32 × mm_MM) :=
  some (s0, m)
theorem ok_fX10_damp_c23 {m : mm_MM} {s0 : Int32} {q0 : Int32 × mm_MM} (h : fX10_damp_c23 m s0 = some q0) : Ev XL xs (d + 1) 101 (ev_M m c w) 23 [] [.int s0] (fr_i c w q0) := by
  unfold fX10_damp_c23 at h
  cases h
  exact ev_r 1 (fun n => rfl)
def fX10_damp (m : mm_MM) (x1 : Int32) : Option (Int32 × mm_MM) :=
  (fX10_isRow m x1).bind fun r1 =>
   (if r1.1 = 0 then
     fX10_damp_c23 r1.2 ((-1) : Int32)
    else
     (fX10_pick r1.2 15 x1).bind fun r3 =>
      fX10_damp_c23 r3.2 r3.1)
theorem ok_fX10_damp {m : mm_MM} {x1 : Int32} {q0 : Int32 × mm_MM} (h : fX10_damp m x1 = some q0) : Ev XL xs (d + 1) 101 (ev_M m c w) 0 (lv_args 0 [.ref 0, .int x1]) [] (fr_i c w q0) := by
  unfold fX10_damp at h
  obtain ⟨r1, hr1, h⟩ := Option.bind_eq_some_iff.mp h
  refine ev_c 3 (y' := 104) (M1 := ev_M m c w) (la := lv_args 0 [.ref 0, .int x1]) (rest := []) (pc' := 5) (lv' := [(0, .ref 0), (1, .int x1)]) (fun n => rfl) (ok_fX10_isRow hr1) ?_
  show Ev XL xs _ 101 (ev_M r1.2 c w) 5 [(0, .ref 0), (1, .int x1)] [.int r1.1] _
  refine ev_i 1 (M1 := ev_M r1.2 c w) (pc1 := 22) (lv1 := [(0, .ref 0), (1, .int x1)]) (st1 := []) (M2 := ev_M r1.2 c w) (pc2 := 8) (lv2 := [(0, .ref 0), (1, .int x1)]) (st2 := []) (fun n => rfl) h (fun hc2 h => ?_) (fun hc2 h => ?_)
  · refine ev_s 1 (M' := ev_M r1.2 c w) (pc' := 23) (lv' := [(0, .ref 0), (1, .int x1)]) (st' := [.int ((-1) : Int32)]) (fun n => rfl) ?_
    refine ev_sub (lv := []) (mn_of rfl (by repeat (first | exact trivial | refine And.intro rfl ?_))) ?_
    exact ok_fX10_damp_c23 h
  · obtain ⟨r3, hr3, h⟩ := Option.bind_eq_some_iff.mp h
    refine ev_c 5 (y' := 175) (M1 := ev_M r1.2 c w) (la := lv_args 0 [.ref 15, .int x1]) (rest := []) (pc' := 19) (lv' := [(0, .ref 0), (1, .int x1)]) (fun n => rfl) (ok_fX10_pick (congrArg Prod.fst (rfl : mm_kd 15 = (20, 4))) hr3) ?_
    show Ev XL xs _ 101 (ev_M r3.2 c w) 19 [(0, .ref 0), (1, .int x1)] [.int r3.1] _
    refine ev_s 1 (M' := ev_M r3.2 c w) (pc' := 23) (lv' := [(0, .ref 0), (1, .int x1)]) (st' := [.int r3.1]) (fun n => rfl) ?_
    refine ev_sub (lv := []) (mn_of rfl (by repeat (first | exact trivial | refine And.intro rfl ?_))) ?_
    exact ok_fX10_damp_c23 h
def fX10_isPlot_c27 (m : mm_MM) (s0 : Int32) : Option (Int32 × mm_MM) :=
  (if s0 = 0 ∨ s0 = 1 then some (s0, m) else none)
theorem ok_fX10_isPlot_c27 {m : mm_MM} {s0 : Int32} {q0 : Int32 × mm_MM} (h : fX10_isPlot_c27 m s0 = some q0) : Ev XL xs (d + 1) 105 (ev_M m c w) 27 [] [.int s0] (fr_i c w q0) := by
  unfold fX10_isPlot_c27 at h
  exact ev_rg 1 (f := fr_i c w) (fun n => rfl) h
def fX10_isPlot_c26 (m : mm_MM) : Option (Int32 × mm_MM) :=
  fX10_isPlot_c27 m 0
theorem ok_fX10_isPlot_c26 {m : mm_MM} {q0 : Int32 × mm_MM} (h : fX10_isPlot_c26 m = some q0) : Ev XL xs (d + 1) 105 (ev_M m c w) 26 [] [] (fr_i c w q0) := by
  unfold fX10_isPlot_c26 at h
  refine ev_s 1 (M' := ev_M m c w) (pc' := 27) (lv' := []) (st' := [.int 0]) (fun n => rfl) ?_
  exact ok_fX10_isPlot_c27 h
def fX10_isPlot (m : mm_MM) (x1 : Int32) : Option (Int32 × mm_MM) :=
  (if m.1 0 14 = 0 then
    fX10_isPlot_c26 m
   else
    (if x1 < 0 then
      fX10_isPlot_c26 m
     else
      (fX1_plots m 14).bind fun r3 =>
       (if x1 < r3.1 then
         fX10_isPlot_c27 r3.2 1
        else
         fX10_isPlot_c26 r3.2)))
theorem ok_fX10_isPlot {m : mm_MM} {x1 : Int32} {q0 : Int32 × mm_MM} (h : fX10_isPlot m x1 = some q0) : Ev XL xs (d + 1) 105 (ev_M m c w) 0 (lv_args 0 [.ref 0, .int x1]) [] (fr_i c w q0) := by
  unfold fX10_isPlot at h
  refine ev_i 3 (M1 := ev_M m c w) (pc1 := 26) (lv1 := [(0, .ref 0), (1, .int x1)]) (st1 := []) (M2 := ev_M m c w) (pc2 := 7) (lv2 := [(0, .ref 0), (1, .int x1)]) (st2 := []) (fun n => rfl) h (fun hc1 h => ?_) (fun hc1 h => ?_)
  · refine ev_sub (lv := []) (mn_of rfl (by repeat (first | exact trivial | refine And.intro rfl ?_))) ?_
    exact ok_fX10_isPlot_c26 h
  · refine ev_i 2 (M1 := ev_M m c w) (pc1 := 26) (lv1 := [(0, .ref 0), (1, .int x1)]) (st1 := []) (M2 := ev_M m c w) (pc2 := 11) (lv2 := [(0, .ref 0), (1, .int x1)]) (st2 := []) (fun n => rfl) h (fun hc2 h => ?_) (fun hc2 h => ?_)
    · refine ev_sub (lv := []) (mn_of rfl (by repeat (first | exact trivial | refine And.intro rfl ?_))) ?_
      exact ok_fX10_isPlot_c26 h
    · obtain ⟨r3, hr3, h⟩ := Option.bind_eq_some_iff.mp h
      refine ev_c 4 (y' := 4) (M1 := ev_M m c w) (la := lv_args 0 [.ref 14]) (rest := [.int x1]) (pc' := 19) (lv' := [(0, .ref 0), (1, .int x1)]) (fun n => rfl) (ok_fX1_plots (rfl : mm_kd 14 = (1, 10)) hr3) ?_
      show Ev XL xs _ 105 (ev_M r3.2 c w) 19 [(0, .ref 0), (1, .int x1)] [.int r3.1, .int x1] _
      refine ev_i 1 (M1 := ev_M r3.2 c w) (pc1 := 22) (lv1 := [(0, .ref 0), (1, .int x1)]) (st1 := []) (M2 := ev_M r3.2 c w) (pc2 := 26) (lv2 := [(0, .ref 0), (1, .int x1)]) (st2 := []) (fun n => rfl) h (fun hc4 h => ?_) (fun hc4 h => ?_)
      · refine ev_s 2 (M' := ev_M r3.2 c w) (pc' := 27) (lv' := [(0, .ref 0), (1, .int x1)]) (st' := [.int 1]) (fun n => rfl) ?_
        refine ev_sub (lv := []) (mn_of rfl (by repeat (first | exact trivial | refine And.intro rfl ?_))) ?_
        exact ok_fX10_isPlot_c27 h
      · refine ev_sub (lv := []) (mn_of rfl (by repeat (first | exact trivial | refine And.intro rfl ?_))) ?_
        exact ok_fX10_isPlot_c26 h
def fX10_lies_c20 (m : mm_MM) (s0 : Int32) : Option (Int32 × mm_MM) :=
  some (s0, m)
theorem ok_fX10_lies_c20 {m : mm_MM} {s0 : Int32} {q0 : Int32 × mm_MM} (h : fX10_lies_c20 m s0 = some q0) : Ev XL xs (d + 4) 103 (ev_M m c w) 20 [] [.int s0] (fr_i c w q0) := by
  unfold fX10_lies_c20 at h
  cases h
  exact ev_r 1 (fun n => rfl)
def fX10_lies (m : mm_MM) (x1 : Int32) : Option (Int32 × mm_MM) :=
  (fX10_isPlot m x1).bind fun r1 =>
   (if r1.1 = 0 then
     fX10_lies_c20 r1.2 ((-1) : Int32)
    else
     (fX7_placeOfPlot r1.2 29 x1).bind fun r3 =>
      fX10_lies_c20 r3.2 r3.1)
theorem ok_fX10_lies {m : mm_MM} {x1 : Int32} {q0 : Int32 × mm_MM} (h : fX10_lies m x1 = some q0) : Ev XL xs (d + 4) 103 (ev_M m c w) 0 (lv_args 0 [.ref 0, .int x1]) [] (fr_i c w q0) := by
  unfold fX10_lies at h
  obtain ⟨r1, hr1, h⟩ := Option.bind_eq_some_iff.mp h
  refine ev_c 3 (y' := 105) (M1 := ev_M m c w) (la := lv_args 0 [.ref 0, .int x1]) (rest := []) (pc' := 5) (lv' := [(0, .ref 0), (1, .int x1)]) (fun n => rfl) (ok_fX10_isPlot hr1) ?_
  show Ev XL xs _ 103 (ev_M r1.2 c w) 5 [(0, .ref 0), (1, .int x1)] [.int r1.1] _
  refine ev_i 1 (M1 := ev_M r1.2 c w) (pc1 := 19) (lv1 := [(0, .ref 0), (1, .int x1)]) (st1 := []) (M2 := ev_M r1.2 c w) (pc2 := 8) (lv2 := [(0, .ref 0), (1, .int x1)]) (st2 := []) (fun n => rfl) h (fun hc2 h => ?_) (fun hc2 h => ?_)
  · refine ev_s 1 (M' := ev_M r1.2 c w) (pc' := 20) (lv' := [(0, .ref 0), (1, .int x1)]) (st' := [.int ((-1) : Int32)]) (fun n => rfl) ?_
    refine ev_sub (lv := []) (mn_of rfl (by repeat (first | exact trivial | refine And.intro rfl ?_))) ?_
    exact ok_fX10_lies_c20 h
  · obtain ⟨r3, hr3, h⟩ := Option.bind_eq_some_iff.mp h
    refine ev_c 4 (y' := 71) (M1 := ev_M r1.2 c w) (la := lv_args 0 [.ref 29, .int x1]) (rest := []) (pc' := 16) (lv' := [(0, .ref 0), (1, .int x1)]) (fun n => rfl) (ok_fX7_placeOfPlot (rfl : mm_kd 29 = (7, 8)) hr3) ?_
    show Ev XL xs _ 103 (ev_M r3.2 c w) 16 [(0, .ref 0), (1, .int x1)] [.int r3.1] _
    refine ev_s 1 (M' := ev_M r3.2 c w) (pc' := 20) (lv' := [(0, .ref 0), (1, .int x1)]) (st' := [.int r3.1]) (fun n => rfl) ?_
    refine ev_sub (lv := []) (mn_of rfl (by repeat (first | exact trivial | refine And.intro rfl ?_))) ?_
    exact ok_fX10_lies_c20 h
def fX10_isRipe_c19 (m : mm_MM) (s0 : Int32) : Option (Int32 × mm_MM) :=
  (if s0 = 0 ∨ s0 = 1 then some (s0, m) else none)
theorem ok_fX10_isRipe_c19 {m : mm_MM} {s0 : Int32} {q0 : Int32 × mm_MM} (h : fX10_isRipe_c19 m s0 = some q0) : Ev XL xs d 106 (ev_M m c w) 19 [] [.int s0] (fr_i c w q0) := by
  unfold fX10_isRipe_c19 at h
  exact ev_rg 1 (f := fr_i c w) (fun n => rfl) h
def fX10_isRipe (m : mm_MM) (t1 : Nat) : Option (Int32 × mm_MM) :=
  (if m.1 t1 4 < m.1 14 5 then
    fX10_isRipe_c19 m 0
   else
    fX10_isRipe_c19 m 1)
theorem ok_fX10_isRipe {m : mm_MM} {t1 : Nat} {q0 : Int32 × mm_MM} (hk_t1 : mm_kd t1 = (9, 6)) (h : fX10_isRipe m t1 = some q0) : Ev XL xs d 106 (ev_M m c w) 0 (lv_args 0 [.ref 0, .ref t1]) [] (fr_i c w q0) := by
  unfold fX10_isRipe at h
  refine ev_s 1 (M' := ev_M m c w) (pc' := 1) (lv' := [(0, .ref 0), (1, .ref t1)]) (st' := [.ref t1]) (fun n => rfl) ?_
  refine ev_gf (x := .int (m.1 t1 4)) rfl (congrArg Prod.fst hk_t1) rfl rfl ?_
  refine ev_i 4 (M1 := ev_M m c w) (pc1 := 18) (lv1 := [(0, .ref 0), (1, .ref t1)]) (st1 := []) (M2 := ev_M m c w) (pc2 := 14) (lv2 := [(0, .ref 0), (1, .ref t1)]) (st2 := []) (fun n => rfl) h (fun hc1 h => ?_) (fun hc1 h => ?_)
  · refine ev_s 1 (M' := ev_M m c w) (pc' := 19) (lv' := [(0, .ref 0), (1, .ref t1)]) (st' := [.int 0]) (fun n => rfl) ?_
    refine ev_sub (lv := []) (mn_of rfl (by repeat (first | exact trivial | refine And.intro rfl ?_))) ?_
    exact ok_fX10_isRipe_c19 h
  · refine ev_s 2 (M' := ev_M m c w) (pc' := 19) (lv' := [(0, .ref 0), (1, .ref t1)]) (st' := [.int 1]) (fun n => rfl) ?_
    refine ev_sub (lv := []) (mn_of rfl (by repeat (first | exact trivial | refine And.intro rfl ?_))) ?_
    exact ok_fX10_isRipe_c19 h
def fX10_law_c13 (m : mm_MM) : Option (Int32 × mm_MM) :=
  some (0, m)
theorem ok_fX10_law_c13 {m : mm_MM} {q0 : Int32 × mm_MM} (h : fX10_law_c13 m = some q0) : Ev XL xs d 107 (ev_M m c w) 13 [] [] (fr_i c w q0) := by
  unfold fX10_law_c13 at h
  cases h
  exact ev_r 2 (fun n => rfl)
def fX10_law (m : mm_MM) (x1 : Int32) : Option (Int32 × mm_MM) :=
  (if x1 < ((-1) : Int32) then
    fX10_law_c13 m
   else
    (if x1 < m.1 0 16 then
      some (1, (wI m 0 17 x1))
     else
      fX10_law_c13 m))
theorem ok_fX10_law {m : mm_MM} {x1 : Int32} {q0 : Int32 × mm_MM} (h : fX10_law m x1 = some q0) : Ev XL xs d 107 (ev_M m c w) 0 (lv_args 0 [.ref 0, .int x1]) [] (fr_i c w q0) := by
  unfold fX10_law at h
  refine ev_i 3 (M1 := ev_M m c w) (pc1 := 13) (lv1 := [(0, .ref 0), (1, .int x1)]) (st1 := []) (M2 := ev_M m c w) (pc2 := 5) (lv2 := [(0, .ref 0), (1, .int x1)]) (st2 := []) (fun n => rfl) h (fun hc1 h => ?_) (fun hc1 h => ?_)
  · refine ev_sub (lv := []) (mn_of rfl (by repeat (first | exact trivial | refine And.intro rfl ?_))) ?_
    exact ok_fX10_law_c13 h
  · refine ev_i 4 (M1 := ev_M m c w) (pc1 := 15) (lv1 := [(0, .ref 0), (1, .int x1)]) (st1 := []) (M2 := ev_M m c w) (pc2 := 13) (lv2 := [(0, .ref 0), (1, .int x1)]) (st2 := []) (fun n => rfl) h (fun hc2 h => ?_) (fun hc2 h => ?_)
    · cases h
      exact ev_r 5 (fun n => rfl)
    · refine ev_sub (lv := []) (mn_of rfl (by repeat (first | exact trivial | refine And.intro rfl ?_))) ?_
      exact ok_fX10_law_c13 h
def fX10_moles_c18 (m : mm_MM) : Option (Int32 × mm_MM) :=
  some (0, m)
theorem ok_fX10_moles_c18 {m : mm_MM} {q0 : Int32 × mm_MM} (h : fX10_moles_c18 m = some q0) : Ev XL xs d 108 (ev_M m c w) 18 [] [] (fr_i c w q0) := by
  unfold fX10_moles_c18 at h
  cases h
  exact ev_r 2 (fun n => rfl)
def fX10_moles (m : mm_MM) (x1 : Int32) : Option (Int32 × mm_MM) :=
  (if x1 < 0 then
    fX10_moles_c18 m
   else
    (if x1 ≤ 9 then
      (if x1 = m.1 0 18 then
        fX10_moles_c18 m
       else
        some (1, (wI m 0 18 x1)))
     else
      fX10_moles_c18 m))
theorem ok_fX10_moles {m : mm_MM} {x1 : Int32} {q0 : Int32 × mm_MM} (h : fX10_moles m x1 = some q0) : Ev XL xs d 108 (ev_M m c w) 0 (lv_args 0 [.ref 0, .int x1]) [] (fr_i c w q0) := by
  unfold fX10_moles at h
  refine ev_i 2 (M1 := ev_M m c w) (pc1 := 18) (lv1 := [(0, .ref 0), (1, .int x1)]) (st1 := []) (M2 := ev_M m c w) (pc2 := 4) (lv2 := [(0, .ref 0), (1, .int x1)]) (st2 := []) (fun n => rfl) h (fun hc1 h => ?_) (fun hc1 h => ?_)
  · refine ev_sub (lv := []) (mn_of rfl (by repeat (first | exact trivial | refine And.intro rfl ?_))) ?_
    exact ok_fX10_moles_c18 h
  · refine ev_i 3 (M1 := ev_M m c w) (pc1 := 10) (lv1 := [(0, .ref 0), (1, .int x1)]) (st1 := []) (M2 := ev_M m c w) (pc2 := 18) (lv2 := [(0, .ref 0), (1, .int x1)]) (st2 := []) (fun n => rfl) h (fun hc2 h => ?_) (fun hc2 h => ?_)
    · refine ev_i 4 (M1 := ev_M m c w) (pc1 := 18) (lv1 := [(0, .ref 0), (1, .int x1)]) (st1 := []) (M2 := ev_M m c w) (pc2 := 20) (lv2 := [(0, .ref 0), (1, .int x1)]) (st2 := []) (fun n => rfl) h (fun hc3 h => ?_) (fun hc3 h => ?_)
      · refine ev_sub (lv := []) (mn_of rfl (by repeat (first | exact trivial | refine And.intro rfl ?_))) ?_
        exact ok_fX10_moles_c18 h
      · cases h
        exact ev_r 5 (fun n => rfl)
    · refine ev_sub (lv := []) (mn_of rfl (by repeat (first | exact trivial | refine And.intro rfl ?_))) ?_
      exact ok_fX10_moles_c18 h
def fX10_refuse (m : mm_MM) (x1 : Int32) : Option (Int32 × mm_MM) :=
  (fX10_pick m 592 x1).bind fun r1 =>
   (fX10_place r1.2 592 x1 (r1.1 + 1)).bind fun r2 =>
    some (((-1) : Int32), r2)
theorem ok_fX10_refuse {m : mm_MM} {x1 : Int32} {q0 : Int32 × mm_MM} (h : fX10_refuse m x1 = some q0) : Ev XL xs (d + 1) 117 (ev_M m c w) 0 (lv_args 0 [.ref 0, .int x1]) [] (fr_i c w q0) := by
  unfold fX10_refuse at h
  obtain ⟨r1, hr1, h⟩ := Option.bind_eq_some_iff.mp h
  refine ev_c 7 (y' := 175) (M1 := ev_M m c w) (la := lv_args 0 [.ref 592, .int x1]) (rest := [.int x1, .ref 592]) (pc' := 13) (lv' := [(0, .ref 0), (1, .int x1)]) (fun n => rfl) (ok_fX10_pick (congrArg Prod.fst (rfl : mm_kd 592 = (20, 5))) hr1) ?_
  show Ev XL xs _ 117 (ev_M r1.2 c w) 13 [(0, .ref 0), (1, .int x1)] [.int r1.1, .int x1, .ref 592] _
  obtain ⟨r2, hr2, h⟩ := Option.bind_eq_some_iff.mp h
  refine ev_c 3 (y' := 176) (M1 := ev_M r1.2 c w) (la := lv_args 0 [.ref 592, .int x1, .int (r1.1 + 1)]) (rest := []) (pc' := 18) (lv' := [(0, .ref 0), (1, .int x1)]) (fun n => rfl) (ok_fX10_place (congrArg Prod.fst (rfl : mm_kd 592 = (20, 5))) hr2) ?_
  show Ev XL xs _ 117 (ev_M r2 c w) 18 [(0, .ref 0), (1, .int x1)] [] _
  cases h
  exact ev_r 2 (fun n => rfl)
def fX10_countBeside_c45 (kr4 : mm_MM → Int32 → Int32 → Int32 → Option (Int32 × mm_MM)) (m : mm_MM) (x1 : Int32) (x2 : Int32) (x3 : Int32) : Option (Int32 × mm_MM) :=
  kr4 m x1 x2 (x3 + 1)
theorem ok_fX10_countBeside_c45 {kr4 : mm_MM → Int32 → Int32 → Int32 → Option (Int32 × mm_MM)} (hkr4 : ∀ (m : mm_MM) (x1 : Int32) (x2 : Int32) (x3 : Int32) (q0 : Int32 × mm_MM), kr4 m x1 x2 x3 = some q0 → Ev XL xs (d + 3) 126 (ev_M m c w) 4 [(0, .ref 0), (1, .int x1), (2, .int x2), (3, .int x3)] [] (fr_i c w q0)) {m : mm_MM} {x1 : Int32} {x2 : Int32} {x3 : Int32} {q0 : Int32 × mm_MM} (h : fX10_countBeside_c45 kr4 m x1 x2 x3 = some q0) : Ev XL xs (d + 3) 126 (ev_M m c w) 45 [(0, .ref 0), (1, .int x1), (2, .int x2), (3, .int x3)] [] (fr_i c w q0) := by
  unfold fX10_countBeside_c45 at h
  refine ev_s 2 (M' := ev_M m c w) (pc' := 4) (lv' := [(3, .int (x3 + 1)), (0, .ref 0), (1, .int x1), (2, .int x2)]) (st' := []) (fun n => rfl) ?_
  refine ev_sub (lv := [(0, .ref 0), (1, .int x1), (2, .int x2), (3, .int (x3 + 1))]) (mn_of rfl (by repeat (first | exact trivial | refine And.intro rfl ?_))) ?_
  exact hkr4 _ _ _ _ _ h
def fX10_countBeside_c4 : Nat → mm_MM → Int32 → Int32 → Int32 → Option (Int32 × mm_MM)
  | 0 => fun _ _ _ _ => none
  | n + 1 => fun m x1 x2 x3 =>
    (if x3 < 8 then
      (fX7_findLying m 29 x3).bind fun r2 =>
       match r2.1 with
       | none =>
         fX10_countBeside_c45 (fX10_countBeside_c4 n) r2.2 x1 x2 x3
       | some u3 =>
         if mm_kd u3 = (9, 6) then
           (fX1_steps r2.2 14 x1 (r2.2.1 u3 3)).bind fun r4 =>
            (if r4.1 = 1 then
              fX10_countBeside_c45 (fX10_countBeside_c4 n) r4.2 x1 (x2 + 1) x3
             else
              fX10_countBeside_c45 (fX10_countBeside_c4 n) r4.2 x1 x2 x3)
         else none
     else
      some (x2, m))
theorem ok_fX10_countBeside_c4 : ∀ (n : Nat) (m : mm_MM) (x1 : Int32) (x2 : Int32) (x3 : Int32) (q0 : Int32 × mm_MM), fX10_countBeside_c4 n m x1 x2 x3 = some q0 → Ev XL xs (d + 3) 126 (ev_M m c w) 4 [(0, .ref 0), (1, .int x1), (2, .int x2), (3, .int x3)] [] (fr_i c w q0) := by
  intro n
  induction n with
  | zero => intro m x1 x2 x3 q0 h; exact absurd (show (none : Option (Int32 × mm_MM)) = some q0 from h) (by simp)
  | succ n ih =>
    intro m x1 x2 x3 q0 h
    unfold fX10_countBeside_c4 at h
    refine ev_i 3 (M1 := ev_M m c w) (pc1 := 10) (lv1 := [(0, .ref 0), (1, .int x1), (2, .int x2), (3, .int x3)]) (st1 := []) (M2 := ev_M m c w) (pc2 := 51) (lv2 := [(0, .ref 0), (1, .int x1), (2, .int x2), (3, .int x3)]) (st2 := []) (fun n => rfl) h (fun hc1 h => ?_) (fun hc1 h => ?_)
    · obtain ⟨r2, hr2, h⟩ := Option.bind_eq_some_iff.mp h
      refine ev_c 4 (y' := 70) (M1 := ev_M m c w) (la := lv_args 0 [.ref 29, .int x3]) (rest := []) (pc' := 18) (lv' := [(0, .ref 0), (1, .int x1), (2, .int x2), (3, .int x3)]) (fun n => rfl) (ok_fX7_findLying (rfl : mm_kd 29 = (7, 8)) hr2) ?_
      show Ev XL xs _ 126 (ev_M r2.2 c w) 18 [(0, .ref 0), (1, .int x1), (2, .int x2), (3, .int x3)] [va_rf r2.1] _
      generalize r2.1 = o6 at h ⊢
      cases o6 with
      | none =>
        refine ev_s 3 (M' := ev_M r2.2 c w) (pc' := 45) (lv' := [(4, .null), (0, .ref 0), (1, .int x1), (2, .int x2), (3, .int x3)]) (st' := []) (fun n => rfl) ?_
        refine ev_sub (lv := [(0, .ref 0), (1, .int x1), (2, .int x2), (3, .int x3)]) (mn_of rfl (by repeat (first | exact trivial | refine And.intro rfl ?_))) ?_
        exact ok_fX10_countBeside_c45 ih h
      | some u3 =>
        obtain ⟨hk_u3, h⟩ := sd_ift h
        refine ev_s 7 (M' := ev_M r2.2 c w) (pc' := 32) (lv' := [(4, .ref u3), (0, .ref 0), (1, .int x1), (2, .int x2), (3, .int x3)]) (st' := [.ref u3, .int x1, .ref 14]) (fun n => rfl) ?_
        refine ev_gf (x := .int (r2.2.1 u3 3)) rfl (congrArg Prod.fst hk_u3) rfl rfl ?_
        obtain ⟨r4, hr4, h⟩ := Option.bind_eq_some_iff.mp h
        refine ev_c 1 (y' := 6) (M1 := ev_M r2.2 c w) (la := lv_args 0 [.ref 14, .int x1, .int (r2.2.1 u3 3)]) (rest := []) (pc' := 38) (lv' := [(4, .ref u3), (0, .ref 0), (1, .int x1), (2, .int x2), (3, .int x3)]) (fun n => rfl) (ok_fX1_steps (rfl : mm_kd 14 = (1, 10)) hr4) ?_
        show Ev XL xs _ 126 (ev_M r4.2 c w) 38 [(4, .ref u3), (0, .ref 0), (1, .int x1), (2, .int x2), (3, .int x3)] [.int r4.1] _
        refine ev_i 2 (M1 := ev_M r4.2 c w) (pc1 := 42) (lv1 := [(4, .ref u3), (0, .ref 0), (1, .int x1), (2, .int x2), (3, .int x3)]) (st1 := []) (M2 := ev_M r4.2 c w) (pc2 := 45) (lv2 := [(4, .ref u3), (0, .ref 0), (1, .int x1), (2, .int x2), (3, .int x3)]) (st2 := []) (fun n => rfl) h (fun hc5 h => ?_) (fun hc5 h => ?_)
        · refine ev_s 1 (M' := ev_M r4.2 c w) (pc' := 45) (lv' := [(2, .int (x2 + 1)), (4, .ref u3), (0, .ref 0), (1, .int x1), (3, .int x3)]) (st' := []) (fun n => rfl) ?_
          refine ev_sub (lv := [(0, .ref 0), (1, .int x1), (2, .int (x2 + 1)), (3, .int x3)]) (mn_of rfl (by repeat (first | exact trivial | refine And.intro rfl ?_))) ?_
          exact ok_fX10_countBeside_c45 ih h
        · refine ev_sub (lv := [(0, .ref 0), (1, .int x1), (2, .int x2), (3, .int x3)]) (mn_of rfl (by repeat (first | exact trivial | refine And.intro rfl ?_))) ?_
          exact ok_fX10_countBeside_c45 ih h
    · cases h
      exact ev_r 2 (fun n => rfl)
def fX10_countBeside (m : mm_MM) (x1 : Int32) : Option (Int32 × mm_MM) :=
  fX10_countBeside_c4 fu m x1 0 0
theorem ok_fX10_countBeside {m : mm_MM} {x1 : Int32} {q0 : Int32 × mm_MM} (h : fX10_countBeside m x1 = some q0) : Ev XL xs (d + 3) 126 (ev_M m c w) 0 (lv_args 0 [.ref 0, .int x1]) [] (fr_i c w q0) := by
  unfold fX10_countBeside at h
  refine ev_s 4 (M' := ev_M m c w) (pc' := 4) (lv' := [(3, .int 0), (2, .int 0), (0, .ref 0), (1, .int x1)]) (st' := []) (fun n => rfl) ?_
  refine ev_sub (lv := [(0, .ref 0), (1, .int x1), (2, .int 0), (3, .int 0)]) (mn_of rfl (by repeat (first | exact trivial | refine And.intro rfl ?_))) ?_
  exact ok_fX10_countBeside_c4 fu _ _ _ _ _ h
def fX10_startFrom (m : mm_MM) (t1 : Nat) : Option (mm_MM) :=
  (fX1_rowOf m 14 (m.1 t1 3)).bind fun r1 =>
   (fX10_pick r1.2 15 r1.1).bind fun r2 =>
    (fX0_begin r2.2 t1 r2.1 (r2.2.1 29 7)).bind fun r3 =>
     (fX10_countBeside r3 (r3.1 t1 3)).bind fun r4 =>
      some (wI r4.2 583 4 r4.1)
theorem ok_fX10_startFrom {m : mm_MM} {t1 : Nat} {q0 : mm_MM} (hk_t1 : mm_kd t1 = (9, 6)) (h : fX10_startFrom m t1 = some q0) : Ev XL xs (d + 4) 120 (ev_M m c w) 0 (lv_args 0 [.ref 0, .ref t1]) [] (fr_v c w q0) := by
  unfold fX10_startFrom at h
  refine ev_s 9 (M' := ev_M m c w) (pc' := 17) (lv' := [(0, .ref 0), (1, .ref t1)]) (st' := [.ref t1, .ref 14, .ref 15, .ref t1, .ref 583]) (fun n => rfl) ?_
  refine ev_gf (x := .int (m.1 t1 3)) rfl (congrArg Prod.fst hk_t1) rfl rfl ?_
  obtain ⟨r1, hr1, h⟩ := Option.bind_eq_some_iff.mp h
  refine ev_c 1 (y' := 5) (M1 := ev_M m c w) (la := lv_args 0 [.ref 14, .int (m.1 t1 3)]) (rest := [.ref 15, .ref t1, .ref 583]) (pc' := 23) (lv' := [(0, .ref 0), (1, .ref t1)]) (fun n => rfl) (ok_fX1_rowOf (rfl : mm_kd 14 = (1, 10)) hr1) ?_
  show Ev XL xs _ 120 (ev_M r1.2 c w) 23 [(0, .ref 0), (1, .ref t1)] [.int r1.1, .ref 15, .ref t1, .ref 583] _
  obtain ⟨r2, hr2, h⟩ := Option.bind_eq_some_iff.mp h
  refine ev_c 1 (y' := 175) (M1 := ev_M r1.2 c w) (la := lv_args 0 [.ref 15, .int r1.1]) (rest := [.ref t1, .ref 583]) (pc' := 26) (lv' := [(0, .ref 0), (1, .ref t1)]) (fun n => rfl) (ok_fX10_pick (congrArg Prod.fst (rfl : mm_kd 15 = (20, 4))) hr2) ?_
  show Ev XL xs _ 120 (ev_M r2.2 c w) 26 [(0, .ref 0), (1, .ref t1)] [.int r2.1, .ref t1, .ref 583] _
  obtain ⟨r3, hr3, h⟩ := Option.bind_eq_some_iff.mp h
  refine ev_c 4 (y' := 1) (M1 := ev_M r2.2 c w) (la := lv_args 0 [.ref 583, .ref t1, .int r2.1, .int (r2.2.1 29 7)]) (rest := []) (pc' := 36) (lv' := [(0, .ref 0), (1, .ref t1)]) (fun n => rfl) (ok_fX0_begin hk_t1 hr3) ?_
  show Ev XL xs _ 120 (ev_M r3 c w) 36 [(0, .ref 0), (1, .ref t1)] [] _
  refine ev_s 4 (M' := ev_M r3 c w) (pc' := 42) (lv' := [(0, .ref 0), (1, .ref t1)]) (st' := [.ref t1, .ref 0, .ref 583]) (fun n => rfl) ?_
  refine ev_gf (x := .int (r3.1 t1 3)) rfl (congrArg Prod.fst hk_t1) rfl rfl ?_
  obtain ⟨r4, hr4, h⟩ := Option.bind_eq_some_iff.mp h
  refine ev_c 1 (y' := 126) (M1 := ev_M r3 c w) (la := lv_args 0 [.ref 0, .int (r3.1 t1 3)]) (rest := [.ref 583]) (pc' := 48) (lv' := [(0, .ref 0), (1, .ref t1)]) (fun n => rfl) (ok_fX10_countBeside hr4) ?_
  show Ev XL xs _ 120 (ev_M r4.2 c w) 48 [(0, .ref 0), (1, .ref t1)] [.int r4.1, .ref 583] _
  cases h
  exact ev_r 2 (fun n => rfl)
def fX10_gainWithoutLaw_c47 (m : mm_MM) (s0 : Int32) : Option (Int32 × mm_MM) :=
  some (s0, m)
theorem ok_fX10_gainWithoutLaw_c47 {m : mm_MM} {s0 : Int32} {q0 : Int32 × mm_MM} (h : fX10_gainWithoutLaw_c47 m s0 = some q0) : Ev XL xs d 123 (ev_M m c w) 47 [] [.int s0] (fr_i c w q0) := by
  unfold fX10_gainWithoutLaw_c47 at h
  cases h
  exact ev_r 1 (fun n => rfl)
def fX10_gainWithoutLaw_c70 (m : mm_MM) (s0 : Int32) : Option (Int32 × mm_MM) :=
  some (s0, m)
theorem ok_fX10_gainWithoutLaw_c70 {m : mm_MM} {s0 : Int32} {q0 : Int32 × mm_MM} (h : fX10_gainWithoutLaw_c70 m s0 = some q0) : Ev XL xs d 123 (ev_M m c w) 70 [] [.int s0] (fr_i c w q0) := by
  unfold fX10_gainWithoutLaw_c70 at h
  cases h
  exact ev_r 1 (fun n => rfl)
def fX10_gainWithoutLaw (m : mm_MM) : Option (Int32 × mm_MM) :=
  (if m.1 583 2 < m.1 14 5 then
    (if m.1 583 3 ≤ m.1 583 1 then
      fX10_gainWithoutLaw_c70 m 1
     else
      fX10_gainWithoutLaw_c70 m 2)
   else
    (if m.1 14 5 ≤ 0 then
      fX10_gainWithoutLaw_c47 m 0
     else
      (if m.1 14 5 = (0 : Int32) then none else
       fX10_gainWithoutLaw_c47 m (-((m.1 583 2 : Int32) / m.1 14 5)))))
theorem ok_fX10_gainWithoutLaw {m : mm_MM} {q0 : Int32 × mm_MM} (h : fX10_gainWithoutLaw m = some q0) : Ev XL xs d 123 (ev_M m c w) 0 (lv_args 0 [.ref 0]) [] (fr_i c w q0) := by
  unfold fX10_gainWithoutLaw at h
  refine ev_i 7 (M1 := ev_M m c w) (pc1 := 48) (lv1 := [(0, .ref 0)]) (st1 := []) (M2 := ev_M m c w) (pc2 := 17) (lv2 := [(0, .ref 0)]) (st2 := []) (fun n => rfl) h (fun hc1 h => ?_) (fun hc1 h => ?_)
  · refine ev_i 7 (M1 := ev_M m c w) (pc1 := 69) (lv1 := [(0, .ref 0)]) (st1 := []) (M2 := ev_M m c w) (pc2 := 65) (lv2 := [(0, .ref 0)]) (st2 := []) (fun n => rfl) h (fun hc2 h => ?_) (fun hc2 h => ?_)
    · refine ev_s 1 (M' := ev_M m c w) (pc' := 70) (lv' := [(0, .ref 0)]) (st' := [.int 1]) (fun n => rfl) ?_
      refine ev_sub (lv := []) (mn_of rfl (by repeat (first | exact trivial | refine And.intro rfl ?_))) ?_
      exact ok_fX10_gainWithoutLaw_c70 h
    · refine ev_s 2 (M' := ev_M m c w) (pc' := 70) (lv' := [(0, .ref 0)]) (st' := [.int 2]) (fun n => rfl) ?_
      refine ev_sub (lv := []) (mn_of rfl (by repeat (first | exact trivial | refine And.intro rfl ?_))) ?_
      exact ok_fX10_gainWithoutLaw_c70 h
  · refine ev_i 4 (M1 := ev_M m c w) (pc1 := 46) (lv1 := [(0, .ref 0)]) (st1 := []) (M2 := ev_M m c w) (pc2 := 27) (lv2 := [(0, .ref 0)]) (st2 := []) (fun n => rfl) h (fun hc3 h => ?_) (fun hc3 h => ?_)
    · refine ev_s 1 (M' := ev_M m c w) (pc' := 47) (lv' := [(0, .ref 0)]) (st' := [.int 0]) (fun n => rfl) ?_
      refine ev_sub (lv := []) (mn_of rfl (by repeat (first | exact trivial | refine And.intro rfl ?_))) ?_
      exact ok_fX10_gainWithoutLaw_c47 h
    · refine ev_g 7 (M1 := ev_M m c w) (pc1 := 42) (lv1 := [(0, .ref 0)]) (st1 := [.int ((m.1 583 2 : Int32) / m.1 14 5)]) (fun n => rfl) h (fun _ h => ?_)
      refine ev_s 2 (M' := ev_M m c w) (pc' := 47) (lv' := [(0, .ref 0)]) (st' := [.int (-((m.1 583 2 : Int32) / m.1 14 5))]) (fun n => rfl) ?_
      refine ev_sub (lv := []) (mn_of rfl (by repeat (first | exact trivial | refine And.intro rfl ?_))) ?_
      exact ok_fX10_gainWithoutLaw_c47 h
def fX10_gainOfGrowth_c28 (m : mm_MM) (s0 : Int32) : Option (Int32 × mm_MM) :=
  (fJ9_min_7cf53 m 9 s0).bind fun r1 =>
   (fJ9_max_7cf53 r1.2 ((-9) : Int32) r1.1).bind fun r2 =>
    some (r2.1, r2.2)
theorem ok_fX10_gainOfGrowth_c28 {m : mm_MM} {s0 : Int32} {q0 : Int32 × mm_MM} (h : fX10_gainOfGrowth_c28 m s0 = some q0) : Ev XL xs (d + 3) 122 (ev_M m c w) 28 [] [.int s0] (fr_i c w q0) := by
  unfold fX10_gainOfGrowth_c28 at h
  obtain ⟨r1, hr1, h⟩ := Option.bind_eq_some_iff.mp h
  refine ev_c 5 (y' := 308) (M1 := ev_M m c w) (la := lv_args 0 [.int 9, .int s0]) (rest := [.int ((-9) : Int32)]) (pc' := 37) (lv' := [(2, .int s0)]) (fun n => rfl) (ok_fJ9_min_7cf53 hr1) ?_
  show Ev XL xs _ 122 (ev_M r1.2 c w) 37 [(2, .int s0)] [.int r1.1, .int ((-9) : Int32)] _
  obtain ⟨r2, hr2, h⟩ := Option.bind_eq_some_iff.mp h
  refine ev_c 1 (y' := 306) (M1 := ev_M r1.2 c w) (la := lv_args 0 [.int ((-9) : Int32), .int r1.1]) (rest := []) (pc' := 40) (lv' := [(2, .int s0)]) (fun n => rfl) (ok_fJ9_max_7cf53 hr2) ?_
  show Ev XL xs _ 122 (ev_M r2.2 c w) 40 [(2, .int s0)] [.int r2.1] _
  cases h
  exact ev_r 1 (fun n => rfl)
def fX10_gainOfGrowth (m : mm_MM) : Option (Int32 × mm_MM) :=
  (fX10_lawAt m (m.1 0 17)).bind fun r1 =>
   match r1.1 with
   | none =>
     (fX10_gainWithoutLaw r1.2).bind fun r3 =>
      fX10_gainOfGrowth_c28 r3.2 r3.1
   | some u2 =>
     if mm_kd u2 = (2, 4) then
       (fX2_worth r1.2 u2).bind fun r4 =>
        fX10_gainOfGrowth_c28 r4.2 r4.1
     else none
theorem ok_fX10_gainOfGrowth {m : mm_MM} {q0 : Int32 × mm_MM} (h : fX10_gainOfGrowth m = some q0) : Ev XL xs (d + 3) 122 (ev_M m c w) 0 (lv_args 0 [.ref 0]) [] (fr_i c w q0) := by
  unfold fX10_gainOfGrowth at h
  obtain ⟨r1, hr1, h⟩ := Option.bind_eq_some_iff.mp h
  refine ev_c 4 (y' := 99) (M1 := ev_M m c w) (la := lv_args 0 [.ref 0, .int (m.1 0 17)]) (rest := []) (pc' := 8) (lv' := [(0, .ref 0)]) (fun n => rfl) (ok_fX10_lawAt hr1) ?_
  show Ev XL xs _ 122 (ev_M r1.2 c w) 8 [(0, .ref 0)] [va_rf r1.1] _
  generalize r1.1 = o5 at h ⊢
  cases o5 with
  | none =>
    obtain ⟨r3, hr3, h⟩ := Option.bind_eq_some_iff.mp h
    refine ev_c 5 (y' := 123) (M1 := ev_M r1.2 c w) (la := lv_args 0 [.ref 0]) (rest := []) (pc' := 28) (lv' := [(1, .null), (0, .ref 0)]) (fun n => rfl) (ok_fX10_gainWithoutLaw hr3) ?_
    show Ev XL xs _ 122 (ev_M r3.2 c w) 28 [(1, .null), (0, .ref 0)] [.int r3.1] _
    refine ev_sub (lv := []) (mn_of rfl (by repeat (first | exact trivial | refine And.intro rfl ?_))) ?_
    exact ok_fX10_gainOfGrowth_c28 h
  | some u2 =>
    obtain ⟨hk_u2, h⟩ := sd_ift h
    refine ev_s 6 (M' := ev_M r1.2 c w) (pc' := 18) (lv' := [(1, .ref u2), (0, .ref 0)]) (st' := [.ref 583, .ref u2]) (fun n => rfl) ?_
    obtain ⟨r4, hr4, h⟩ := Option.bind_eq_some_iff.mp h
    refine ev_cv (rest := []) rfl rfl (congrArg Prod.fst hk_u2) rfl (ok_fX2_worth hk_u2 hr4) ?_
    show Ev XL xs _ 122 (ev_M r4.2 c w) 21 [(1, .ref u2), (0, .ref 0)] [.int r4.1] _
    refine ev_s 1 (M' := ev_M r4.2 c w) (pc' := 28) (lv' := [(1, .ref u2), (0, .ref 0)]) (st' := [.int r4.1]) (fun n => rfl) ?_
    refine ev_sub (lv := []) (mn_of rfl (by repeat (first | exact trivial | refine And.intro rfl ?_))) ?_
    exact ok_fX10_gainOfGrowth_c28 h
def fX10_lainAfter_c32 (m : mm_MM) (s0 : Int32) (s1 : Int32) (s2 : Int32) : Option (Int32 × mm_MM) :=
  (fJ9_min_7cf53 m s0 (s1 + s2)).bind fun r1 =>
   some (r1.1, r1.2)
theorem ok_fX10_lainAfter_c32 {m : mm_MM} {s0 : Int32} {s1 : Int32} {s2 : Int32} {q0 : Int32 × mm_MM} (h : fX10_lainAfter_c32 m s0 s1 s2 = some q0) : Ev XL xs (d + 1) 124 (ev_M m c w) 32 [] [.int s2, .int s1, .int s0] (fr_i c w q0) := by
  unfold fX10_lainAfter_c32 at h
  obtain ⟨r1, hr1, h⟩ := Option.bind_eq_some_iff.mp h
  refine ev_c 2 (y' := 308) (M1 := ev_M m c w) (la := lv_args 0 [.int s0, .int (s1 + s2)]) (rest := []) (pc' := 36) (lv' := []) (fun n => rfl) (ok_fJ9_min_7cf53 hr1) ?_
  show Ev XL xs _ 124 (ev_M r1.2 c w) 36 [] [.int r1.1] _
  cases h
  exact ev_r 1 (fun n => rfl)
def fX10_lainAfter_c19 (m : mm_MM) (x1 : Int32) (s0 : Int32) : Option (Int32 × mm_MM) :=
  (if s0 = 0 then
    fX10_lainAfter_c32 m 99 x1 1
   else
    fX10_lainAfter_c32 m 99 x1 2)
theorem ok_fX10_lainAfter_c19 {m : mm_MM} {x1 : Int32} {s0 : Int32} {q0 : Int32 × mm_MM} (h : fX10_lainAfter_c19 m x1 s0 = some q0) : Ev XL xs (d + 1) 124 (ev_M m c w) 19 [(1, .int x1)] [.int s0] (fr_i c w q0) := by
  unfold fX10_lainAfter_c19 at h
  refine ev_i 5 (M1 := ev_M m c w) (pc1 := 31) (lv1 := [(3, .int s0), (1, .int x1)]) (st1 := [.int x1, .int 99]) (M2 := ev_M m c w) (pc2 := 27) (lv2 := [(3, .int s0), (1, .int x1)]) (st2 := [.int x1, .int 99]) (fun n => rfl) h (fun hc1 h => ?_) (fun hc1 h => ?_)
  · refine ev_s 1 (M' := ev_M m c w) (pc' := 32) (lv' := [(3, .int s0), (1, .int x1)]) (st' := [.int 1, .int x1, .int 99]) (fun n => rfl) ?_
    refine ev_sub (lv := []) (mn_of rfl (by repeat (first | exact trivial | refine And.intro rfl ?_))) ?_
    exact ok_fX10_lainAfter_c32 h
  · refine ev_s 2 (M' := ev_M m c w) (pc' := 32) (lv' := [(3, .int s0), (1, .int x1)]) (st' := [.int 2, .int x1, .int 99]) (fun n => rfl) ?_
    refine ev_sub (lv := []) (mn_of rfl (by repeat (first | exact trivial | refine And.intro rfl ?_))) ?_
    exact ok_fX10_lainAfter_c32 h
def fX10_lainAfter (m : mm_MM) (x1 : Int32) (x2 : Int32) : Option (Int32 × mm_MM) :=
  (if ((x2 : Int32) - x2 / 12 * 12) < m.1 14 6 then
    fX10_lainAfter_c19 m x1 1
   else
    fX10_lainAfter_c19 m x1 0)
theorem ok_fX10_lainAfter {m : mm_MM} {x1 : Int32} {x2 : Int32} {q0 : Int32 × mm_MM} (h : fX10_lainAfter m x1 x2 = some q0) : Ev XL xs (d + 1) 124 (ev_M m c w) 0 (lv_args 0 [.ref 0, .int x1, .int x2]) [] (fr_i c w q0) := by
  unfold fX10_lainAfter at h
  refine ev_i 7 (M1 := ev_M m c w) (pc1 := 14) (lv1 := [(0, .ref 0), (1, .int x1), (2, .int x2)]) (st1 := []) (M2 := ev_M m c w) (pc2 := 18) (lv2 := [(0, .ref 0), (1, .int x1), (2, .int x2)]) (st2 := []) (fun n => rfl) h (fun hc1 h => ?_) (fun hc1 h => ?_)
  · refine ev_s 2 (M' := ev_M m c w) (pc' := 19) (lv' := [(0, .ref 0), (1, .int x1), (2, .int x2)]) (st' := [.int 1]) (fun n => rfl) ?_
    refine ev_sub (lv := [(1, .int x1)]) (mn_of rfl (by repeat (first | exact trivial | refine And.intro rfl ?_))) ?_
    exact ok_fX10_lainAfter_c19 h
  · refine ev_s 1 (M' := ev_M m c w) (pc' := 19) (lv' := [(0, .ref 0), (1, .int x1), (2, .int x2)]) (st' := [.int 0]) (fun n => rfl) ?_
    refine ev_sub (lv := [(1, .int x1)]) (mn_of rfl (by repeat (first | exact trivial | refine And.intro rfl ?_))) ?_
    exact ok_fX10_lainAfter_c19 h
def fX10_grow_c2 : Nat → mm_MM → Int32 → Int32 → Option (mm_MM)
  | 0 => fun _ _ _ => none
  | n + 1 => fun m x1 x2 =>
    (if x2 < x1 then
      (fX10_gainOfGrowth m).bind fun r2 =>
       (fJ9_min_7cf53 r2.2 200 (m.1 583 0 + r2.1)).bind fun r3 =>
        (fJ9_max_7cf53 r3.2 0 r3.1).bind fun r4 =>
         (fX10_lainAfter (wI r4.2 583 0 r4.1) (r4.2.1 583 2) (r4.2.1 583 5)).bind fun r5 =>
          fX10_grow_c2 n (wI (wI r5.2 583 2 r5.1) 583 5 (r5.2.1 583 5 + 1)) x1 (x2 + 1)
     else
      some m)
theorem ok_fX10_grow_c2 : ∀ (n : Nat) (m : mm_MM) (x1 : Int32) (x2 : Int32) (q0 : mm_MM), fX10_grow_c2 n m x1 x2 = some q0 → Ev XL xs (d + 4) 121 (ev_M m c w) 2 [(0, .ref 0), (1, .int x1), (2, .int x2)] [] (fr_v c w q0) := by
  intro n
  induction n with
  | zero => intro m x1 x2 q0 h; exact absurd (show (none : Option (mm_MM)) = some q0 from h) (by simp)
  | succ n ih =>
    intro m x1 x2 q0 h
    unfold fX10_grow_c2 at h
    refine ev_i 3 (M1 := ev_M m c w) (pc1 := 7) (lv1 := [(0, .ref 0), (1, .int x1), (2, .int x2)]) (st1 := []) (M2 := ev_M m c w) (pc2 := 80) (lv2 := [(0, .ref 0), (1, .int x1), (2, .int x2)]) (st2 := []) (fun n => rfl) h (fun hc1 h => ?_) (fun hc1 h => ?_)
    · obtain ⟨r2, hr2, h⟩ := Option.bind_eq_some_iff.mp h
      refine ev_c 9 (y' := 122) (M1 := ev_M m c w) (la := lv_args 0 [.ref 0]) (rest := [.int (m.1 583 0), .int 200, .int 0, .ref 583]) (pc' := 26) (lv' := [(0, .ref 0), (1, .int x1), (2, .int x2)]) (fun n => rfl) (ok_fX10_gainOfGrowth hr2) ?_
      show Ev XL xs _ 121 (ev_M r2.2 c w) 26 [(0, .ref 0), (1, .int x1), (2, .int x2)] [.int r2.1, .int (m.1 583 0), .int 200, .int 0, .ref 583] _
      obtain ⟨r3, hr3, h⟩ := Option.bind_eq_some_iff.mp h
      refine ev_c 2 (y' := 308) (M1 := ev_M r2.2 c w) (la := lv_args 0 [.int 200, .int (m.1 583 0 + r2.1)]) (rest := [.int 0, .ref 583]) (pc' := 30) (lv' := [(0, .ref 0), (1, .int x1), (2, .int x2)]) (fun n => rfl) (ok_fJ9_min_7cf53 hr3) ?_
      show Ev XL xs _ 121 (ev_M r3.2 c w) 30 [(0, .ref 0), (1, .int x1), (2, .int x2)] [.int r3.1, .int 0, .ref 583] _
      obtain ⟨r4, hr4, h⟩ := Option.bind_eq_some_iff.mp h
      refine ev_c 1 (y' := 306) (M1 := ev_M r3.2 c w) (la := lv_args 0 [.int 0, .int r3.1]) (rest := [.ref 583]) (pc' := 33) (lv' := [(0, .ref 0), (1, .int x1), (2, .int x2)]) (fun n => rfl) (ok_fJ9_max_7cf53 hr4) ?_
      show Ev XL xs _ 121 (ev_M r4.2 c w) 33 [(0, .ref 0), (1, .int x1), (2, .int x2)] [.int r4.1, .ref 583] _
      obtain ⟨r5, hr5, h⟩ := Option.bind_eq_some_iff.mp h
      refine ev_c 11 (y' := 124) (M1 := ev_M (wI r4.2 583 0 r4.1) c w) (la := lv_args 0 [.ref 0, .int (r4.2.1 583 2), .int (r4.2.1 583 5)]) (rest := [.ref 583]) (pc' := 58) (lv' := [(0, .ref 0), (1, .int x1), (2, .int x2)]) (fun n => rfl) (ok_fX10_lainAfter hr5) ?_
      show Ev XL xs _ 121 (ev_M r5.2 c w) 58 [(0, .ref 0), (1, .int x1), (2, .int x2)] [.int r5.1, .ref 583] _
      refine ev_s 10 (M' := ev_M (wI (wI r5.2 583 2 r5.1) 583 5 (r5.2.1 583 5 + 1)) c w) (pc' := 2) (lv' := [(2, .int (x2 + 1)), (0, .ref 0), (1, .int x1)]) (st' := []) (fun n => rfl) ?_
      refine ev_sub (lv := [(0, .ref 0), (1, .int x1), (2, .int (x2 + 1))]) (mn_of rfl (by repeat (first | exact trivial | refine And.intro rfl ?_))) ?_
      exact ih _ _ _ _ h
    · cases h
      exact ev_r 1 (fun n => rfl)
def fX10_grow (m : mm_MM) (x1 : Int32) : Option (mm_MM) :=
  fX10_grow_c2 fu m x1 0
theorem ok_fX10_grow {m : mm_MM} {x1 : Int32} {q0 : mm_MM} (h : fX10_grow m x1 = some q0) : Ev XL xs (d + 4) 121 (ev_M m c w) 0 (lv_args 0 [.ref 0, .int x1]) [] (fr_v c w q0) := by
  unfold fX10_grow at h
  refine ev_s 2 (M' := ev_M m c w) (pc' := 2) (lv' := [(2, .int 0), (0, .ref 0), (1, .int x1)]) (st' := []) (fun n => rfl) ?_
  refine ev_sub (lv := [(0, .ref 0), (1, .int x1), (2, .int 0)]) (mn_of rfl (by repeat (first | exact trivial | refine And.intro rfl ?_))) ?_
  exact ok_fX10_grow_c2 fu _ _ _ _ h
def fX10_passMonth_c119 (kr9 : mm_MM → Int32 → Int32 → Int32 → Int32 → Option (mm_MM)) (m : mm_MM) (x1 : Int32) (x2 : Int32) (x3 : Int32) (x4 : Int32) : Option (mm_MM) :=
  kr9 m x1 x2 x3 (x4 + 1)
set_option maxRecDepth 20000 in
theorem ok_fX10_passMonth_c119 {kr9 : mm_MM → Int32 → Int32 → Int32 → Int32 → Option (mm_MM)} (hkr9 : ∀ (m : mm_MM) (x1 : Int32) (x2 : Int32) (x3 : Int32) (x4 : Int32) (q0 : mm_MM), kr9 m x1 x2 x3 x4 = some q0 → Ev XL xs (d + 5) 119 (ev_M m c w) 9 [(0, .ref 0), (1, .int x1), (2, .int x2), (3, .int x3), (4, .int x4)] [] (fr_v c w q0)) {m : mm_MM} {x1 : Int32} {x2 : Int32} {x3 : Int32} {x4 : Int32} {q0 : mm_MM} (h : fX10_passMonth_c119 kr9 m x1 x2 x3 x4 = some q0) : Ev XL xs (d + 5) 119 (ev_M m c w) 119 [(0, .ref 0), (1, .int x1), (2, .int x2), (3, .int x3), (4, .int x4)] [] (fr_v c w q0) := by
  unfold fX10_passMonth_c119 at h
  refine ev_s 2 (M' := ev_M m c w) (pc' := 9) (lv' := [(4, .int (x4 + 1)), (0, .ref 0), (1, .int x1), (2, .int x2), (3, .int x3)]) (st' := []) (fun n => rfl) ?_
  refine ev_sub (lv := [(0, .ref 0), (1, .int x1), (2, .int x2), (3, .int x3), (4, .int (x4 + 1))]) (mn_of rfl (by repeat (first | exact trivial | refine And.intro rfl ?_))) ?_
  exact hkr9 _ _ _ _ _ _ h
def fX10_passMonth_c117 (kr9 : mm_MM → Int32 → Int32 → Int32 → Int32 → Option (mm_MM)) (m : mm_MM) (x1 : Int32) (x2 : Int32) (x4 : Int32) (s0 : Int32) (s1 : Int32) : Option (mm_MM) :=
  fX10_passMonth_c119 kr9 m x1 x2 (s0 ||| s1) x4
set_option maxRecDepth 20000 in
theorem ok_fX10_passMonth_c117 {kr9 : mm_MM → Int32 → Int32 → Int32 → Int32 → Option (mm_MM)} (hkr9 : ∀ (m : mm_MM) (x1 : Int32) (x2 : Int32) (x3 : Int32) (x4 : Int32) (q0 : mm_MM), kr9 m x1 x2 x3 x4 = some q0 → Ev XL xs (d + 5) 119 (ev_M m c w) 9 [(0, .ref 0), (1, .int x1), (2, .int x2), (3, .int x3), (4, .int x4)] [] (fr_v c w q0)) {m : mm_MM} {x1 : Int32} {x2 : Int32} {x4 : Int32} {s0 : Int32} {s1 : Int32} {q0 : mm_MM} (h : fX10_passMonth_c117 kr9 m x1 x2 x4 s0 s1 = some q0) : Ev XL xs (d + 5) 119 (ev_M m c w) 117 [(0, .ref 0), (1, .int x1), (2, .int x2), (4, .int x4)] [.int s1, .int s0] (fr_v c w q0) := by
  unfold fX10_passMonth_c117 at h
  refine ev_s 2 (M' := ev_M m c w) (pc' := 119) (lv' := [(3, .int (s0 ||| s1)), (0, .ref 0), (1, .int x1), (2, .int x2), (4, .int x4)]) (st' := []) (fun n => rfl) ?_
  refine ev_sub (lv := [(0, .ref 0), (1, .int x1), (2, .int x2), (3, .int (s0 ||| s1)), (4, .int x4)]) (mn_of rfl (by repeat (first | exact trivial | refine And.intro rfl ?_))) ?_
  exact ok_fX10_passMonth_c119 hkr9 h
def fX10_passMonth_c116 (kr9 : mm_MM → Int32 → Int32 → Int32 → Int32 → Option (mm_MM)) (m : mm_MM) (x1 : Int32) (x2 : Int32) (x4 : Int32) (s0 : Int32) : Option (mm_MM) :=
  fX10_passMonth_c117 kr9 m x1 x2 x4 s0 0
set_option maxRecDepth 20000 in
theorem ok_fX10_passMonth_c116 {kr9 : mm_MM → Int32 → Int32 → Int32 → Int32 → Option (mm_MM)} (hkr9 : ∀ (m : mm_MM) (x1 : Int32) (x2 : Int32) (x3 : Int32) (x4 : Int32) (q0 : mm_MM), kr9 m x1 x2 x3 x4 = some q0 → Ev XL xs (d + 5) 119 (ev_M m c w) 9 [(0, .ref 0), (1, .int x1), (2, .int x2), (3, .int x3), (4, .int x4)] [] (fr_v c w q0)) {m : mm_MM} {x1 : Int32} {x2 : Int32} {x4 : Int32} {s0 : Int32} {q0 : mm_MM} (h : fX10_passMonth_c116 kr9 m x1 x2 x4 s0 = some q0) : Ev XL xs (d + 5) 119 (ev_M m c w) 116 [(0, .ref 0), (1, .int x1), (2, .int x2), (4, .int x4)] [.int s0] (fr_v c w q0) := by
  unfold fX10_passMonth_c116 at h
  refine ev_s 1 (M' := ev_M m c w) (pc' := 117) (lv' := [(0, .ref 0), (1, .int x1), (2, .int x2), (4, .int x4)]) (st' := [.int 0, .int s0]) (fun n => rfl) ?_
  exact ok_fX10_passMonth_c117 hkr9 h
def fX10_passMonth_c46 (kr9 : mm_MM → Int32 → Int32 → Int32 → Int32 → Option (mm_MM)) (m : mm_MM) (x1 : Int32) (x2 : Int32) (x3 : Int32) (x4 : Int32) (t5 : Nat) (s0 : Int32) : Option (mm_MM) :=
  (fX10_startFrom m t5).bind fun r1 =>
   (fX10_grow r1 1).bind fun r2 =>
    (if s0 = 0 then
      fX10_passMonth_c116 kr9 (wI (wI r2 t5 1 (r2.1 583 0)) t5 4 ((wI r2 t5 1 (r2.1 583 0)).1 583 2)) (x1 + (wI (wI r2 t5 1 (r2.1 583 0)) t5 4 ((wI r2 t5 1 (r2.1 583 0)).1 583 2)).1 t5 1) (x2 + 1) x4 x3
     else
      (fX10_isRipe (wI (wI r2 t5 1 (r2.1 583 0)) t5 4 ((wI r2 t5 1 (r2.1 583 0)).1 583 2)) t5).bind fun r4 =>
       (if r4.1 = 0 then
         fX10_passMonth_c116 kr9 r4.2 (x1 + (wI (wI r2 t5 1 (r2.1 583 0)) t5 4 ((wI r2 t5 1 (r2.1 583 0)).1 583 2)).1 t5 1) (x2 + 1) x4 x3
        else
         fX10_passMonth_c117 kr9 r4.2 (x1 + (wI (wI r2 t5 1 (r2.1 583 0)) t5 4 ((wI r2 t5 1 (r2.1 583 0)).1 583 2)).1 t5 1) (x2 + 1) x4 x3 ((1 : Int32) <<< (x4 &&& 31))))
set_option maxRecDepth 20000 in
theorem ok_fX10_passMonth_c46 {kr9 : mm_MM → Int32 → Int32 → Int32 → Int32 → Option (mm_MM)} (hkr9 : ∀ (m : mm_MM) (x1 : Int32) (x2 : Int32) (x3 : Int32) (x4 : Int32) (q0 : mm_MM), kr9 m x1 x2 x3 x4 = some q0 → Ev XL xs (d + 5) 119 (ev_M m c w) 9 [(0, .ref 0), (1, .int x1), (2, .int x2), (3, .int x3), (4, .int x4)] [] (fr_v c w q0)) {m : mm_MM} {x1 : Int32} {x2 : Int32} {x3 : Int32} {x4 : Int32} {t5 : Nat} {s0 : Int32} {q0 : mm_MM} (hk_t5 : mm_kd t5 = (9, 6)) (h : fX10_passMonth_c46 kr9 m x1 x2 x3 x4 t5 s0 = some q0) : Ev XL xs (d + 5) 119 (ev_M m c w) 46 [(0, .ref 0), (1, .int x1), (2, .int x2), (3, .int x3), (4, .int x4), (5, .ref t5)] [.int s0] (fr_v c w q0) := by
  unfold fX10_passMonth_c46 at h
  obtain ⟨r1, hr1, h⟩ := Option.bind_eq_some_iff.mp h
  refine ev_c 4 (y' := 120) (M1 := ev_M m c w) (la := lv_args 0 [.ref 0, .ref t5]) (rest := []) (pc' := 54) (lv' := [(6, .int s0), (0, .ref 0), (1, .int x1), (2, .int x2), (3, .int x3), (4, .int x4), (5, .ref t5)]) (fun n => rfl) (ok_fX10_startFrom hk_t5 hr1) ?_
  show Ev XL xs _ 119 (ev_M r1 c w) 54 [(6, .int s0), (0, .ref 0), (1, .int x1), (2, .int x2), (3, .int x3), (4, .int x4), (5, .ref t5)] [] _
  obtain ⟨r2, hr2, h⟩ := Option.bind_eq_some_iff.mp h
  refine ev_c 3 (y' := 121) (M1 := ev_M r1 c w) (la := lv_args 0 [.ref 0, .int 1]) (rest := []) (pc' := 59) (lv' := [(6, .int s0), (0, .ref 0), (1, .int x1), (2, .int x2), (3, .int x3), (4, .int x4), (5, .ref t5)]) (fun n => rfl) (ok_fX10_grow hr2) ?_
  show Ev XL xs _ 119 (ev_M r2 c w) 59 [(6, .int s0), (0, .ref 0), (1, .int x1), (2, .int x2), (3, .int x3), (4, .int x4), (5, .ref t5)] [] _
  refine ev_s 4 (M' := ev_M r2 c w) (pc' := 68) (lv' := [(6, .int s0), (0, .ref 0), (1, .int x1), (2, .int x2), (3, .int x3), (4, .int x4), (5, .ref t5)]) (st' := [.int (r2.1 583 0), .ref t5]) (fun n => rfl) ?_
  refine ev_pfi rfl (congrArg Prod.fst hk_t5) rfl rfl rfl ?_
  refine ev_s 4 (M' := ev_M (wI r2 t5 1 (r2.1 583 0)) c w) (pc' := 80) (lv' := [(6, .int s0), (0, .ref 0), (1, .int x1), (2, .int x2), (3, .int x3), (4, .int x4), (5, .ref t5)]) (st' := [.int ((wI r2 t5 1 (r2.1 583 0)).1 583 2), .ref t5]) (fun n => rfl) ?_
  refine ev_pfi rfl (congrArg Prod.fst hk_t5) rfl rfl rfl ?_
  refine ev_s 2 (M' := ev_M (wI (wI r2 t5 1 (r2.1 583 0)) t5 4 ((wI r2 t5 1 (r2.1 583 0)).1 583 2)) c w) (pc' := 86) (lv' := [(6, .int s0), (0, .ref 0), (1, .int x1), (2, .int x2), (3, .int x3), (4, .int x4), (5, .ref t5)]) (st' := [.ref t5, .int x1]) (fun n => rfl) ?_
  refine ev_gf (x := .int ((wI (wI r2 t5 1 (r2.1 583 0)) t5 4 ((wI r2 t5 1 (r2.1 583 0)).1 583 2)).1 t5 1)) rfl (congrArg Prod.fst hk_t5) rfl rfl ?_
  refine ev_i 6 (M1 := ev_M (wI (wI r2 t5 1 (r2.1 583 0)) t5 4 ((wI r2 t5 1 (r2.1 583 0)).1 583 2)) c w) (pc1 := 116) (lv1 := [(2, .int (x2 + 1)), (1, .int (x1 + (wI (wI r2 t5 1 (r2.1 583 0)) t5 4 ((wI r2 t5 1 (r2.1 583 0)).1 583 2)).1 t5 1)), (6, .int s0), (0, .ref 0), (3, .int x3), (4, .int x4), (5, .ref t5)]) (st1 := [.int x3]) (M2 := ev_M (wI (wI r2 t5 1 (r2.1 583 0)) t5 4 ((wI r2 t5 1 (r2.1 583 0)).1 583 2)) c w) (pc2 := 100) (lv2 := [(2, .int (x2 + 1)), (1, .int (x1 + (wI (wI r2 t5 1 (r2.1 583 0)) t5 4 ((wI r2 t5 1 (r2.1 583 0)).1 583 2)).1 t5 1)), (6, .int s0), (0, .ref 0), (3, .int x3), (4, .int x4), (5, .ref t5)]) (st2 := [.int x3]) (fun n => rfl) h (fun hc3 h => ?_) (fun hc3 h => ?_)
  · refine ev_sub (lv := [(0, .ref 0), (1, .int (x1 + (wI (wI r2 t5 1 (r2.1 583 0)) t5 4 ((wI r2 t5 1 (r2.1 583 0)).1 583 2)).1 t5 1)), (2, .int (x2 + 1)), (4, .int x4)]) (mn_of rfl (by repeat (first | exact trivial | refine And.intro rfl ?_))) ?_
    exact ok_fX10_passMonth_c116 hkr9 h
  · obtain ⟨r4, hr4, h⟩ := Option.bind_eq_some_iff.mp h
    refine ev_c 3 (y' := 106) (M1 := ev_M (wI (wI r2 t5 1 (r2.1 583 0)) t5 4 ((wI r2 t5 1 (r2.1 583 0)).1 583 2)) c w) (la := lv_args 0 [.ref 0, .ref t5]) (rest := [.int x3]) (pc' := 106) (lv' := [(2, .int (x2 + 1)), (1, .int (x1 + (wI (wI r2 t5 1 (r2.1 583 0)) t5 4 ((wI r2 t5 1 (r2.1 583 0)).1 583 2)).1 t5 1)), (6, .int s0), (0, .ref 0), (3, .int x3), (4, .int x4), (5, .ref t5)]) (fun n => rfl) (ok_fX10_isRipe hk_t5 hr4) ?_
    show Ev XL xs _ 119 (ev_M r4.2 c w) 106 [(2, .int (x2 + 1)), (1, .int (x1 + (wI (wI r2 t5 1 (r2.1 583 0)) t5 4 ((wI r2 t5 1 (r2.1 583 0)).1 583 2)).1 t5 1)), (6, .int s0), (0, .ref 0), (3, .int x3), (4, .int x4), (5, .ref t5)] [.int r4.1, .int x3] _
    refine ev_i 1 (M1 := ev_M r4.2 c w) (pc1 := 116) (lv1 := [(2, .int (x2 + 1)), (1, .int (x1 + (wI (wI r2 t5 1 (r2.1 583 0)) t5 4 ((wI r2 t5 1 (r2.1 583 0)).1 583 2)).1 t5 1)), (6, .int s0), (0, .ref 0), (3, .int x3), (4, .int x4), (5, .ref t5)]) (st1 := [.int x3]) (M2 := ev_M r4.2 c w) (pc2 := 109) (lv2 := [(2, .int (x2 + 1)), (1, .int (x1 + (wI (wI r2 t5 1 (r2.1 583 0)) t5 4 ((wI r2 t5 1 (r2.1 583 0)).1 583 2)).1 t5 1)), (6, .int s0), (0, .ref 0), (3, .int x3), (4, .int x4), (5, .ref t5)]) (st2 := [.int x3]) (fun n => rfl) h (fun hc5 h => ?_) (fun hc5 h => ?_)
    · refine ev_sub (lv := [(0, .ref 0), (1, .int (x1 + (wI (wI r2 t5 1 (r2.1 583 0)) t5 4 ((wI r2 t5 1 (r2.1 583 0)).1 583 2)).1 t5 1)), (2, .int (x2 + 1)), (4, .int x4)]) (mn_of rfl (by repeat (first | exact trivial | refine And.intro rfl ?_))) ?_
      exact ok_fX10_passMonth_c116 hkr9 h
    · refine ev_s 4 (M' := ev_M r4.2 c w) (pc' := 117) (lv' := [(2, .int (x2 + 1)), (1, .int (x1 + (wI (wI r2 t5 1 (r2.1 583 0)) t5 4 ((wI r2 t5 1 (r2.1 583 0)).1 583 2)).1 t5 1)), (6, .int s0), (0, .ref 0), (3, .int x3), (4, .int x4), (5, .ref t5)]) (st' := [.int ((1 : Int32) <<< (x4 &&& 31)), .int x3]) (fun n => rfl) ?_
      refine ev_sub (lv := [(0, .ref 0), (1, .int (x1 + (wI (wI r2 t5 1 (r2.1 583 0)) t5 4 ((wI r2 t5 1 (r2.1 583 0)).1 583 2)).1 t5 1)), (2, .int (x2 + 1)), (4, .int x4)]) (mn_of rfl (by repeat (first | exact trivial | refine And.intro rfl ?_))) ?_
      exact ok_fX10_passMonth_c117 hkr9 h
def fX10_passMonth_c9 : Nat → mm_MM → Int32 → Int32 → Int32 → Int32 → Option (mm_MM)
  | 0 => fun _ _ _ _ _ => none
  | n + 1 => fun m x1 x2 x3 x4 =>
    (if x4 < 8 then
      (fX7_findLying m 29 x4).bind fun r2 =>
       match r2.1 with
       | none =>
         fX10_passMonth_c119 (fX10_passMonth_c9 n) r2.2 x1 x2 x3 x4
       | some u3 =>
         if mm_kd u3 = (9, 6) then
           (fX10_isRipe r2.2 u3).bind fun r4 =>
            (if r4.1 = 0 then
              fX10_passMonth_c46 (fX10_passMonth_c9 n) r4.2 x1 x2 x3 x4 u3 1
             else
              fX10_passMonth_c46 (fX10_passMonth_c9 n) r4.2 x1 x2 x3 x4 u3 0)
         else none
     else
      (fX7_write m 29 x1 x2 x3).bind fun r7 =>
       some (wI r7 29 7 (r7.1 29 7 + 1)))
set_option maxRecDepth 20000 in
theorem ok_fX10_passMonth_c9 : ∀ (n : Nat) (m : mm_MM) (x1 : Int32) (x2 : Int32) (x3 : Int32) (x4 : Int32) (q0 : mm_MM), fX10_passMonth_c9 n m x1 x2 x3 x4 = some q0 → Ev XL xs (d + 5) 119 (ev_M m c w) 9 [(0, .ref 0), (1, .int x1), (2, .int x2), (3, .int x3), (4, .int x4)] [] (fr_v c w q0) := by
  intro n
  induction n with
  | zero => intro m x1 x2 x3 x4 q0 h; exact absurd (show (none : Option (mm_MM)) = some q0 from h) (by simp)
  | succ n ih =>
    intro m x1 x2 x3 x4 q0 h
    unfold fX10_passMonth_c9 at h
    refine ev_i 3 (M1 := ev_M m c w) (pc1 := 16) (lv1 := [(0, .ref 0), (1, .int x1), (2, .int x2), (3, .int x3), (4, .int x4)]) (st1 := []) (M2 := ev_M m c w) (pc2 := 125) (lv2 := [(0, .ref 0), (1, .int x1), (2, .int x2), (3, .int x3), (4, .int x4)]) (st2 := []) (fun n => rfl) h (fun hc1 h => ?_) (fun hc1 h => ?_)
    · obtain ⟨r2, hr2, h⟩ := Option.bind_eq_some_iff.mp h
      refine ev_c 4 (y' := 70) (M1 := ev_M m c w) (la := lv_args 0 [.ref 29, .int x4]) (rest := []) (pc' := 25) (lv' := [(0, .ref 0), (1, .int x1), (2, .int x2), (3, .int x3), (4, .int x4)]) (fun n => rfl) (ok_fX7_findLying (rfl : mm_kd 29 = (7, 8)) hr2) ?_
      show Ev XL xs _ 119 (ev_M r2.2 c w) 25 [(0, .ref 0), (1, .int x1), (2, .int x2), (3, .int x3), (4, .int x4)] [va_rf r2.1] _
      generalize r2.1 = o6 at h ⊢
      cases o6 with
      | none =>
        refine ev_s 3 (M' := ev_M r2.2 c w) (pc' := 119) (lv' := [(5, .null), (0, .ref 0), (1, .int x1), (2, .int x2), (3, .int x3), (4, .int x4)]) (st' := []) (fun n => rfl) ?_
        refine ev_sub (lv := [(0, .ref 0), (1, .int x1), (2, .int x2), (3, .int x3), (4, .int x4)]) (mn_of rfl (by repeat (first | exact trivial | refine And.intro rfl ?_))) ?_
        exact ok_fX10_passMonth_c119 ih h
      | some u3 =>
        obtain ⟨hk_u3, h⟩ := sd_ift h
        obtain ⟨r4, hr4, h⟩ := Option.bind_eq_some_iff.mp h
        refine ev_c 6 (y' := 106) (M1 := ev_M r2.2 c w) (la := lv_args 0 [.ref 0, .ref u3]) (rest := []) (pc' := 38) (lv' := [(5, .ref u3), (0, .ref 0), (1, .int x1), (2, .int x2), (3, .int x3), (4, .int x4)]) (fun n => rfl) (ok_fX10_isRipe hk_u3 hr4) ?_
        show Ev XL xs _ 119 (ev_M r4.2 c w) 38 [(5, .ref u3), (0, .ref 0), (1, .int x1), (2, .int x2), (3, .int x3), (4, .int x4)] [.int r4.1] _
        refine ev_i 1 (M1 := ev_M r4.2 c w) (pc1 := 41) (lv1 := [(5, .ref u3), (0, .ref 0), (1, .int x1), (2, .int x2), (3, .int x3), (4, .int x4)]) (st1 := []) (M2 := ev_M r4.2 c w) (pc2 := 45) (lv2 := [(5, .ref u3), (0, .ref 0), (1, .int x1), (2, .int x2), (3, .int x3), (4, .int x4)]) (st2 := []) (fun n => rfl) h (fun hc5 h => ?_) (fun hc5 h => ?_)
        · refine ev_s 2 (M' := ev_M r4.2 c w) (pc' := 46) (lv' := [(5, .ref u3), (0, .ref 0), (1, .int x1), (2, .int x2), (3, .int x3), (4, .int x4)]) (st' := [.int 1]) (fun n => rfl) ?_
          refine ev_sub (lv := [(0, .ref 0), (1, .int x1), (2, .int x2), (3, .int x3), (4, .int x4), (5, .ref u3)]) (mn_of rfl (by repeat (first | exact trivial | refine And.intro rfl ?_))) ?_
          exact ok_fX10_passMonth_c46 ih hk_u3 h
        · refine ev_s 1 (M' := ev_M r4.2 c w) (pc' := 46) (lv' := [(5, .ref u3), (0, .ref 0), (1, .int x1), (2, .int x2), (3, .int x3), (4, .int x4)]) (st' := [.int 0]) (fun n => rfl) ?_
          refine ev_sub (lv := [(0, .ref 0), (1, .int x1), (2, .int x2), (3, .int x3), (4, .int x4), (5, .ref u3)]) (mn_of rfl (by repeat (first | exact trivial | refine And.intro rfl ?_))) ?_
          exact ok_fX10_passMonth_c46 ih hk_u3 h
    · obtain ⟨r7, hr7, h⟩ := Option.bind_eq_some_iff.mp h
      refine ev_c 6 (y' := 75) (M1 := ev_M m c w) (la := lv_args 0 [.ref 29, .int x1, .int x2, .int x3]) (rest := []) (pc' := 135) (lv' := [(0, .ref 0), (1, .int x1), (2, .int x2), (3, .int x3), (4, .int x4)]) (fun n => rfl) (ok_fX7_write (rfl : mm_kd 29 = (7, 8)) hr7) ?_
      show Ev XL xs _ 119 (ev_M r7 c w) 135 [(0, .ref 0), (1, .int x1), (2, .int x2), (3, .int x3), (4, .int x4)] [] _
      cases h
      exact ev_r 8 (fun n => rfl)
def fX10_passMonth (m : mm_MM) : Option (mm_MM) :=
  fX10_passMonth_c9 fu m 0 0 0 0
set_option maxRecDepth 20000 in
theorem ok_fX10_passMonth {m : mm_MM} {q0 : mm_MM} (h : fX10_passMonth m = some q0) : Ev XL xs (d + 5) 119 (ev_M m c w) 0 (lv_args 0 [.ref 0]) [] (fr_v c w q0) := by
  unfold fX10_passMonth at h
  refine ev_s 8 (M' := ev_M m c w) (pc' := 9) (lv' := [(4, .int 0), (3, .int 0), (2, .int 0), (1, .int 0), (0, .ref 0)]) (st' := []) (fun n => rfl) ?_
  refine ev_sub (lv := [(0, .ref 0), (1, .int 0), (2, .int 0), (3, .int 0), (4, .int 0)]) (mn_of rfl (by repeat (first | exact trivial | refine And.intro rfl ?_))) ?_
  exact ok_fX10_passMonth_c9 fu _ _ _ _ _ _ h
def fX10_months_c24 (m : mm_MM) : Option (Int32 × mm_MM) :=
  (fX10_refuse m 1).bind fun r1 =>
   some (r1.1, r1.2)
theorem ok_fX10_months_c24 {m : mm_MM} {q0 : Int32 × mm_MM} (h : fX10_months_c24 m = some q0) : Ev XL xs (d + 6) 109 (ev_M m c w) 24 [(0, .ref 0)] [] (fr_i c w q0) := by
  unfold fX10_months_c24 at h
  obtain ⟨r1, hr1, h⟩ := Option.bind_eq_some_iff.mp h
  refine ev_c 3 (y' := 117) (M1 := ev_M m c w) (la := lv_args 0 [.ref 0, .int 1]) (rest := []) (pc' := 29) (lv' := [(0, .ref 0)]) (fun n => rfl) (ok_fX10_refuse hr1) ?_
  show Ev XL xs _ 109 (ev_M r1.2 c w) 29 [(0, .ref 0)] [.int r1.1] _
  cases h
  exact ev_r 1 (fun n => rfl)
def fX10_months_c53 : Nat → mm_MM → Int32 → Int32 → Option (Int32 × mm_MM)
  | 0 => fun _ _ _ => none
  | n + 1 => fun m x1 x2 =>
    (if x2 < x1 then
      (fX3_keep m 29).bind fun r2 =>
       (fX10_passMonth r2).bind fun r3 =>
        fX10_months_c53 n r3 x1 (x2 + 1)
     else
      some (m.1 29 7, m))
theorem ok_fX10_months_c53 : ∀ (n : Nat) (m : mm_MM) (x1 : Int32) (x2 : Int32) (q0 : Int32 × mm_MM), fX10_months_c53 n m x1 x2 = some q0 → Ev XL xs (d + 6) 109 (ev_M m c w) 53 [(0, .ref 0), (1, .int x1), (2, .int x2)] [] (fr_i c w q0) := by
  intro n
  induction n with
  | zero => intro m x1 x2 q0 h; exact absurd (show (none : Option (Int32 × mm_MM)) = some q0 from h) (by simp)
  | succ n ih =>
    intro m x1 x2 q0 h
    unfold fX10_months_c53 at h
    refine ev_i 3 (M1 := ev_M m c w) (pc1 := 58) (lv1 := [(0, .ref 0), (1, .int x1), (2, .int x2)]) (st1 := []) (M2 := ev_M m c w) (pc2 := 79) (lv2 := [(0, .ref 0), (1, .int x1), (2, .int x2)]) (st2 := []) (fun n => rfl) h (fun hc1 h => ?_) (fun hc1 h => ?_)
    · obtain ⟨r2, hr2, h⟩ := Option.bind_eq_some_iff.mp h
      refine ev_c 5 (y' := 41) (M1 := ev_M m c w) (la := lv_args 0 [.ref 55, .ref 29]) (rest := []) (pc' := 69) (lv' := [(0, .ref 0), (1, .int x1), (2, .int x2)]) (fun n => rfl) (ok_fX3_keep (rfl : mm_kd 29 = (7, 8)) hr2) ?_
      show Ev XL xs _ 109 (ev_M r2 c w) 69 [(0, .ref 0), (1, .int x1), (2, .int x2)] [] _
      obtain ⟨r3, hr3, h⟩ := Option.bind_eq_some_iff.mp h
      refine ev_c 2 (y' := 119) (M1 := ev_M r2 c w) (la := lv_args 0 [.ref 0]) (rest := []) (pc' := 73) (lv' := [(0, .ref 0), (1, .int x1), (2, .int x2)]) (fun n => rfl) (ok_fX10_passMonth hr3) ?_
      show Ev XL xs _ 109 (ev_M r3 c w) 73 [(0, .ref 0), (1, .int x1), (2, .int x2)] [] _
      refine ev_s 2 (M' := ev_M r3 c w) (pc' := 53) (lv' := [(2, .int (x2 + 1)), (0, .ref 0), (1, .int x1)]) (st' := []) (fun n => rfl) ?_
      refine ev_sub (lv := [(0, .ref 0), (1, .int x1), (2, .int (x2 + 1))]) (mn_of rfl (by repeat (first | exact trivial | refine And.intro rfl ?_))) ?_
      exact ih _ _ _ _ h
    · cases h
      exact ev_r 4 (fun n => rfl)
def fX10_months (m : mm_MM) (x1 : Int32) : Option (Int32 × mm_MM) :=
  (if m.1 0 14 = 0 then
    (fX10_refuse m 0).bind fun r2 =>
     some (r2.1, r2.2)
   else
    (if x1 < 1 then
      fX10_months_c24 m
     else
      (if x1 ≤ 60 then
        (if (m.1 29 7 + x1) ≤ 999 then
          fX10_months_c53 fu m x1 0
         else
          (fX10_refuse m 4).bind fun r6 =>
           some (r6.1, r6.2))
       else
        fX10_months_c24 m)))
theorem ok_fX10_months {m : mm_MM} {x1 : Int32} {q0 : Int32 × mm_MM} (h : fX10_months m x1 = some q0) : Ev XL xs (d + 6) 109 (ev_M m c w) 0 (lv_args 0 [.ref 0, .int x1]) [] (fr_i c w q0) := by
  unfold fX10_months at h
  refine ev_i 3 (M1 := ev_M m c w) (pc1 := 7) (lv1 := [(0, .ref 0), (1, .int x1)]) (st1 := []) (M2 := ev_M m c w) (pc2 := 13) (lv2 := [(0, .ref 0), (1, .int x1)]) (st2 := []) (fun n => rfl) h (fun hc1 h => ?_) (fun hc1 h => ?_)
  · obtain ⟨r2, hr2, h⟩ := Option.bind_eq_some_iff.mp h
    refine ev_c 3 (y' := 117) (M1 := ev_M m c w) (la := lv_args 0 [.ref 0, .int 0]) (rest := []) (pc' := 12) (lv' := [(0, .ref 0), (1, .int x1)]) (fun n => rfl) (ok_fX10_refuse hr2) ?_
    show Ev XL xs _ 109 (ev_M r2.2 c w) 12 [(0, .ref 0), (1, .int x1)] [.int r2.1] _
    cases h
    exact ev_r 1 (fun n => rfl)
  · refine ev_i 3 (M1 := ev_M m c w) (pc1 := 24) (lv1 := [(0, .ref 0), (1, .int x1)]) (st1 := []) (M2 := ev_M m c w) (pc2 := 18) (lv2 := [(0, .ref 0), (1, .int x1)]) (st2 := []) (fun n => rfl) h (fun hc3 h => ?_) (fun hc3 h => ?_)
    · refine ev_sub (lv := [(0, .ref 0)]) (mn_of rfl (by repeat (first | exact trivial | refine And.intro rfl ?_))) ?_
      exact ok_fX10_months_c24 h
    · refine ev_i 3 (M1 := ev_M m c w) (pc1 := 30) (lv1 := [(0, .ref 0), (1, .int x1)]) (st1 := []) (M2 := ev_M m c w) (pc2 := 24) (lv2 := [(0, .ref 0), (1, .int x1)]) (st2 := []) (fun n => rfl) h (fun hc4 h => ?_) (fun hc4 h => ?_)
      · refine ev_i 7 (M1 := ev_M m c w) (pc1 := 51) (lv1 := [(0, .ref 0), (1, .int x1)]) (st1 := []) (M2 := ev_M m c w) (pc2 := 45) (lv2 := [(0, .ref 0), (1, .int x1)]) (st2 := []) (fun n => rfl) h (fun hc5 h => ?_) (fun hc5 h => ?_)
        · refine ev_s 2 (M' := ev_M m c w) (pc' := 53) (lv' := [(2, .int 0), (0, .ref 0), (1, .int x1)]) (st' := []) (fun n => rfl) ?_
          refine ev_sub (lv := [(0, .ref 0), (1, .int x1), (2, .int 0)]) (mn_of rfl (by repeat (first | exact trivial | refine And.intro rfl ?_))) ?_
          exact ok_fX10_months_c53 fu _ _ _ _ h
        · obtain ⟨r6, hr6, h⟩ := Option.bind_eq_some_iff.mp h
          refine ev_c 3 (y' := 117) (M1 := ev_M m c w) (la := lv_args 0 [.ref 0, .int 4]) (rest := []) (pc' := 50) (lv' := [(0, .ref 0), (1, .int x1)]) (fun n => rfl) (ok_fX10_refuse hr6) ?_
          show Ev XL xs _ 109 (ev_M r6.2 c w) 50 [(0, .ref 0), (1, .int x1)] [.int r6.1] _
          cases h
          exact ev_r 1 (fun n => rfl)
      · refine ev_sub (lv := [(0, .ref 0)]) (mn_of rfl (by repeat (first | exact trivial | refine And.intro rfl ?_))) ?_
        exact ok_fX10_months_c24 h
def fX10_lay_c53 (m : mm_MM) : Option (Int32 × mm_MM) :=
  (fX10_refuse m 2).bind fun r1 =>
   some (r1.1, r1.2)
set_option maxRecDepth 20000 in
theorem ok_fX10_lay_c53 {m : mm_MM} {q0 : Int32 × mm_MM} (h : fX10_lay_c53 m = some q0) : Ev XL xs (d + 4) 110 (ev_M m c w) 53 [(0, .ref 0)] [] (fr_i c w q0) := by
  unfold fX10_lay_c53 at h
  obtain ⟨r1, hr1, h⟩ := Option.bind_eq_some_iff.mp h
  refine ev_c 3 (y' := 117) (M1 := ev_M m c w) (la := lv_args 0 [.ref 0, .int 2]) (rest := []) (pc' := 58) (lv' := [(0, .ref 0)]) (fun n => rfl) (ok_fX10_refuse hr1) ?_
  show Ev XL xs _ 110 (ev_M r1.2 c w) 58 [(0, .ref 0)] [.int r1.1] _
  cases h
  exact ev_r 1 (fun n => rfl)
def fX10_lay (m : mm_MM) (x1 : Int32) (x2 : Int32) : Option (Int32 × mm_MM) :=
  (fX7_find m 29 x1).bind fun r1 =>
   match r1.1 with
   | none =>
     (fX10_refuse r1.2 0).bind fun r3 =>
      some (r3.1, r3.2)
   | some u2 =>
     if mm_kd u2 = (9, 6) then
       (fX10_isPlot r1.2 x2).bind fun r4 =>
        (if r4.1 = 0 then
          (fX10_refuse r4.2 1).bind fun r6 =>
           some (r6.1, r6.2)
         else
          (if r4.2.1 u2 3 = ((-1) : Int32) then
            (fX7_placeOfPlot r4.2 29 x2).bind fun r8 =>
             (if r8.1 = ((-1) : Int32) then
               (if r8.2.1 29 6 < 1 then
                 (fX10_refuse r8.2 3).bind fun r11 =>
                  some (r11.1, r11.2)
                else
                 (fX3_keep r8.2 29).bind fun r12 =>
                  some ((wI (wI (wI r12 29 6 (r12.1 29 6 - 1)) u2 3 x2) u2 5 1).1 29 6, (wI (wI (wI r12 29 6 (r12.1 29 6 - 1)) u2 3 x2) u2 5 1)))
              else
               fX10_lay_c53 r8.2)
           else
            fX10_lay_c53 r4.2))
     else none
set_option maxRecDepth 20000 in
theorem ok_fX10_lay {m : mm_MM} {x1 : Int32} {x2 : Int32} {q0 : Int32 × mm_MM} (h : fX10_lay m x1 x2 = some q0) : Ev XL xs (d + 4) 110 (ev_M m c w) 0 (lv_args 0 [.ref 0, .int x1, .int x2]) [] (fr_i c w q0) := by
  unfold fX10_lay at h
  obtain ⟨r1, hr1, h⟩ := Option.bind_eq_some_iff.mp h
  refine ev_c 4 (y' := 69) (M1 := ev_M m c w) (la := lv_args 0 [.ref 29, .int x1]) (rest := []) (pc' := 8) (lv' := [(0, .ref 0), (1, .int x1), (2, .int x2)]) (fun n => rfl) (ok_fX7_find (rfl : mm_kd 29 = (7, 8)) hr1) ?_
  show Ev XL xs _ 110 (ev_M r1.2 c w) 8 [(0, .ref 0), (1, .int x1), (2, .int x2)] [va_rf r1.1] _
  generalize r1.1 = o13 at h ⊢
  cases o13 with
  | none =>
    obtain ⟨r3, hr3, h⟩ := Option.bind_eq_some_iff.mp h
    refine ev_c 6 (y' := 117) (M1 := ev_M r1.2 c w) (la := lv_args 0 [.ref 0, .int 0]) (rest := []) (pc' := 18) (lv' := [(3, .null), (0, .ref 0), (1, .int x1), (2, .int x2)]) (fun n => rfl) (ok_fX10_refuse hr3) ?_
    show Ev XL xs _ 110 (ev_M r3.2 c w) 18 [(3, .null), (0, .ref 0), (1, .int x1), (2, .int x2)] [.int r3.1] _
    cases h
    exact ev_r 1 (fun n => rfl)
  | some u2 =>
    obtain ⟨hk_u2, h⟩ := sd_ift h
    obtain ⟨r4, hr4, h⟩ := Option.bind_eq_some_iff.mp h
    refine ev_c 6 (y' := 105) (M1 := ev_M r1.2 c w) (la := lv_args 0 [.ref 0, .int x2]) (rest := []) (pc' := 24) (lv' := [(3, .ref u2), (0, .ref 0), (1, .int x1), (2, .int x2)]) (fun n => rfl) (ok_fX10_isPlot hr4) ?_
    show Ev XL xs _ 110 (ev_M r4.2 c w) 24 [(3, .ref u2), (0, .ref 0), (1, .int x1), (2, .int x2)] [.int r4.1] _
    refine ev_i 1 (M1 := ev_M r4.2 c w) (pc1 := 27) (lv1 := [(3, .ref u2), (0, .ref 0), (1, .int x1), (2, .int x2)]) (st1 := []) (M2 := ev_M r4.2 c w) (pc2 := 33) (lv2 := [(3, .ref u2), (0, .ref 0), (1, .int x1), (2, .int x2)]) (st2 := []) (fun n => rfl) h (fun hc5 h => ?_) (fun hc5 h => ?_)
    · obtain ⟨r6, hr6, h⟩ := Option.bind_eq_some_iff.mp h
      refine ev_c 3 (y' := 117) (M1 := ev_M r4.2 c w) (la := lv_args 0 [.ref 0, .int 1]) (rest := []) (pc' := 32) (lv' := [(3, .ref u2), (0, .ref 0), (1, .int x1), (2, .int x2)]) (fun n => rfl) (ok_fX10_refuse hr6) ?_
      show Ev XL xs _ 110 (ev_M r6.2 c w) 32 [(3, .ref u2), (0, .ref 0), (1, .int x1), (2, .int x2)] [.int r6.1] _
      cases h
      exact ev_r 1 (fun n => rfl)
    · refine ev_s 1 (M' := ev_M r4.2 c w) (pc' := 34) (lv' := [(3, .ref u2), (0, .ref 0), (1, .int x1), (2, .int x2)]) (st' := [.ref u2]) (fun n => rfl) ?_
      refine ev_gf (x := .int (r4.2.1 u2 3)) rfl (congrArg Prod.fst hk_u2) rfl rfl ?_
      refine ev_i 2 (M1 := ev_M r4.2 c w) (pc1 := 41) (lv1 := [(3, .ref u2), (0, .ref 0), (1, .int x1), (2, .int x2)]) (st1 := []) (M2 := ev_M r4.2 c w) (pc2 := 53) (lv2 := [(3, .ref u2), (0, .ref 0), (1, .int x1), (2, .int x2)]) (st2 := []) (fun n => rfl) h (fun hc7 h => ?_) (fun hc7 h => ?_)
      · obtain ⟨r8, hr8, h⟩ := Option.bind_eq_some_iff.mp h
        refine ev_c 4 (y' := 71) (M1 := ev_M r4.2 c w) (la := lv_args 0 [.ref 29, .int x2]) (rest := []) (pc' := 49) (lv' := [(3, .ref u2), (0, .ref 0), (1, .int x1), (2, .int x2)]) (fun n => rfl) (ok_fX7_placeOfPlot (rfl : mm_kd 29 = (7, 8)) hr8) ?_
        show Ev XL xs _ 110 (ev_M r8.2 c w) 49 [(3, .ref u2), (0, .ref 0), (1, .int x1), (2, .int x2)] [.int r8.1] _
        refine ev_i 2 (M1 := ev_M r8.2 c w) (pc1 := 59) (lv1 := [(3, .ref u2), (0, .ref 0), (1, .int x1), (2, .int x2)]) (st1 := []) (M2 := ev_M r8.2 c w) (pc2 := 53) (lv2 := [(3, .ref u2), (0, .ref 0), (1, .int x1), (2, .int x2)]) (st2 := []) (fun n => rfl) h (fun hc9 h => ?_) (fun hc9 h => ?_)
        · refine ev_i 5 (M1 := ev_M r8.2 c w) (pc1 := 70) (lv1 := [(3, .ref u2), (0, .ref 0), (1, .int x1), (2, .int x2)]) (st1 := []) (M2 := ev_M r8.2 c w) (pc2 := 76) (lv2 := [(3, .ref u2), (0, .ref 0), (1, .int x1), (2, .int x2)]) (st2 := []) (fun n => rfl) h (fun hc10 h => ?_) (fun hc10 h => ?_)
          · obtain ⟨r11, hr11, h⟩ := Option.bind_eq_some_iff.mp h
            refine ev_c 3 (y' := 117) (M1 := ev_M r8.2 c w) (la := lv_args 0 [.ref 0, .int 3]) (rest := []) (pc' := 75) (lv' := [(3, .ref u2), (0, .ref 0), (1, .int x1), (2, .int x2)]) (fun n => rfl) (ok_fX10_refuse hr11) ?_
            show Ev XL xs _ 110 (ev_M r11.2 c w) 75 [(3, .ref u2), (0, .ref 0), (1, .int x1), (2, .int x2)] [.int r11.1] _
            cases h
            exact ev_r 1 (fun n => rfl)
          · obtain ⟨r12, hr12, h⟩ := Option.bind_eq_some_iff.mp h
            refine ev_c 5 (y' := 41) (M1 := ev_M r8.2 c w) (la := lv_args 0 [.ref 55, .ref 29]) (rest := []) (pc' := 87) (lv' := [(3, .ref u2), (0, .ref 0), (1, .int x1), (2, .int x2)]) (fun n => rfl) (ok_fX3_keep (rfl : mm_kd 29 = (7, 8)) hr12) ?_
            show Ev XL xs _ 110 (ev_M r12 c w) 87 [(3, .ref u2), (0, .ref 0), (1, .int x1), (2, .int x2)] [] _
            refine ev_s 9 (M' := ev_M (wI r12 29 6 (r12.1 29 6 - 1)) c w) (pc' := 102) (lv' := [(3, .ref u2), (0, .ref 0), (1, .int x1), (2, .int x2)]) (st' := [.int x2, .ref u2]) (fun n => rfl) ?_
            refine ev_pfi rfl (congrArg Prod.fst hk_u2) rfl rfl rfl ?_
            refine ev_s 2 (M' := ev_M (wI (wI r12 29 6 (r12.1 29 6 - 1)) u2 3 x2) c w) (pc' := 107) (lv' := [(3, .ref u2), (0, .ref 0), (1, .int x1), (2, .int x2)]) (st' := [.int 1, .ref u2]) (fun n => rfl) ?_
            refine ev_pfz (A := some ()) (q0 := ()) rfl (congrArg Prod.fst hk_u2) rfl rfl rfl (if_pos (by decide)) (fun _ => ?_)
            cases h
            exact ev_r 4 (fun n => rfl)
        · refine ev_sub (lv := [(0, .ref 0)]) (mn_of rfl (by repeat (first | exact trivial | refine And.intro rfl ?_))) ?_
          exact ok_fX10_lay_c53 h
      · refine ev_sub (lv := [(0, .ref 0)]) (mn_of rfl (by repeat (first | exact trivial | refine And.intro rfl ?_))) ?_
        exact ok_fX10_lay_c53 h
def fX10_whyNotAtStake_c28 (m : mm_MM) (s0 : Int32) : Option (Int32 × mm_MM) :=
  some (s0, m)
theorem ok_fX10_whyNotAtStake_c28 {m : mm_MM} {s0 : Int32} {q0 : Int32 × mm_MM} (h : fX10_whyNotAtStake_c28 m s0 = some q0) : Ev XL xs d 118 (ev_M m c w) 28 [] [.int s0] (fr_i c w q0) := by
  unfold fX10_whyNotAtStake_c28 at h
  cases h
  exact ev_r 1 (fun n => rfl)
def fX10_whyNotAtStake (m : mm_MM) (t0 : Option Nat) : Option (Int32 × mm_MM) :=
  match t0 with
  | none =>
    some (0, m)
  | some u1 =>
    if mm_kd u1 = (9, 6) then
      (if m.1 u1 3 = ((-1) : Int32) then
        some (2, m)
       else
        (if m.1 u1 5 = 0 then
          fX10_whyNotAtStake_c28 m 3
         else
          fX10_whyNotAtStake_c28 m ((-1) : Int32)))
    else none
theorem ok_fX10_whyNotAtStake {m : mm_MM} {t0 : Option Nat} {q0 : Int32 × mm_MM} (h : fX10_whyNotAtStake m t0 = some q0) : Ev XL xs d 118 (ev_M m c w) 0 (lv_args 0 [va_rf t0]) [] (fr_i c w q0) := by
  unfold fX10_whyNotAtStake at h
  cases t0 with
  | none =>
    cases h
    exact ev_r 4 (fun n => rfl)
  | some u1 =>
    obtain ⟨hk_u1, h⟩ := sd_ift h
    refine ev_s 3 (M' := ev_M m c w) (pc' := 7) (lv' := [(0, .ref u1)]) (st' := [.ref u1]) (fun n => rfl) ?_
    refine ev_gf (x := .int (m.1 u1 3)) rfl (congrArg Prod.fst hk_u1) rfl rfl ?_
    refine ev_i 2 (M1 := ev_M m c w) (pc1 := 14) (lv1 := [(0, .ref u1)]) (st1 := []) (M2 := ev_M m c w) (pc2 := 16) (lv2 := [(0, .ref u1)]) (st2 := []) (fun n => rfl) h (fun hc2 h => ?_) (fun hc2 h => ?_)
    · cases h
      exact ev_r 2 (fun n => rfl)
    · refine ev_s 1 (M' := ev_M m c w) (pc' := 17) (lv' := [(0, .ref u1)]) (st' := [.ref u1]) (fun n => rfl) ?_
      refine ev_gf (x := .int (m.1 u1 5)) rfl (congrArg Prod.fst hk_u1) rfl rfl ?_
      refine ev_i 1 (M1 := ev_M m c w) (pc1 := 27) (lv1 := [(0, .ref u1)]) (st1 := []) (M2 := ev_M m c w) (pc2 := 23) (lv2 := [(0, .ref u1)]) (st2 := []) (fun n => rfl) h (fun hc3 h => ?_) (fun hc3 h => ?_)
      · refine ev_s 1 (M' := ev_M m c w) (pc' := 28) (lv' := [(0, .ref u1)]) (st' := [.int 3]) (fun n => rfl) ?_
        refine ev_sub (lv := []) (mn_of rfl (by repeat (first | exact trivial | refine And.intro rfl ?_))) ?_
        exact ok_fX10_whyNotAtStake_c28 h
      · refine ev_s 2 (M' := ev_M m c w) (pc' := 28) (lv' := [(0, .ref u1)]) (st' := [.int ((-1) : Int32)]) (fun n => rfl) ?_
        refine ev_sub (lv := []) (mn_of rfl (by repeat (first | exact trivial | refine And.intro rfl ?_))) ?_
        exact ok_fX10_whyNotAtStake_c28 h
def fX10_takes_c23 (m : mm_MM) (x3 : Int32) : Option (Int32 × mm_MM) :=
  (fX10_refuse m x3).bind fun r1 =>
   some (r1.1, r1.2)
theorem ok_fX10_takes_c23 {m : mm_MM} {x3 : Int32} {q0 : Int32 × mm_MM} (h : fX10_takes_c23 m x3 = some q0) : Ev XL xs (d + 3) 111 (ev_M m c w) 23 [(0, .ref 0), (3, .int x3)] [] (fr_i c w q0) := by
  unfold fX10_takes_c23 at h
  obtain ⟨r1, hr1, h⟩ := Option.bind_eq_some_iff.mp h
  refine ev_c 3 (y' := 117) (M1 := ev_M m c w) (la := lv_args 0 [.ref 0, .int x3]) (rest := []) (pc' := 28) (lv' := [(0, .ref 0), (3, .int x3)]) (fun n => rfl) (ok_fX10_refuse hr1) ?_
  show Ev XL xs _ 111 (ev_M r1.2 c w) 28 [(0, .ref 0), (3, .int x3)] [.int r1.1] _
  cases h
  exact ev_r 1 (fun n => rfl)
def fX10_takes (m : mm_MM) (x1 : Int32) : Option (Int32 × mm_MM) :=
  (fX7_find m 29 x1).bind fun r1 =>
   match r1.1 with
   | none =>
     (fX10_whyNotAtStake r1.2 none).bind fun r3 =>
      fX10_takes_c23 r3.2 r3.1
   | some u2 =>
     if mm_kd u2 = (9, 6) then
       (fX10_whyNotAtStake r1.2 (some u2)).bind fun r4 =>
        (if r4.1 = ((-1) : Int32) then
          (fX3_keep r4.2 29).bind fun r6 =>
           some (r6.1 u2 3, (wI (wI r6 u2 3 ((-1) : Int32)) u2 5 0))
         else
          fX10_takes_c23 r4.2 r4.1)
     else none
theorem ok_fX10_takes {m : mm_MM} {x1 : Int32} {q0 : Int32 × mm_MM} (h : fX10_takes m x1 = some q0) : Ev XL xs (d + 3) 111 (ev_M m c w) 0 (lv_args 0 [.ref 0, .int x1]) [] (fr_i c w q0) := by
  unfold fX10_takes at h
  obtain ⟨r1, hr1, h⟩ := Option.bind_eq_some_iff.mp h
  refine ev_c 4 (y' := 69) (M1 := ev_M m c w) (la := lv_args 0 [.ref 29, .int x1]) (rest := []) (pc' := 8) (lv' := [(0, .ref 0), (1, .int x1)]) (fun n => rfl) (ok_fX7_find (rfl : mm_kd 29 = (7, 8)) hr1) ?_
  show Ev XL xs _ 111 (ev_M r1.2 c w) 8 [(0, .ref 0), (1, .int x1)] [va_rf r1.1] _
  generalize r1.1 = o7 at h ⊢
  cases o7 with
  | none =>
    obtain ⟨r3, hr3, h⟩ := Option.bind_eq_some_iff.mp h
    refine ev_c 3 (y' := 118) (M1 := ev_M r1.2 c w) (la := lv_args 0 [.null]) (rest := []) (pc' := 13) (lv' := [(2, .null), (0, .ref 0), (1, .int x1)]) (fun n => rfl) (ok_fX10_whyNotAtStake hr3) ?_
    show Ev XL xs _ 111 (ev_M r3.2 c w) 13 [(2, .null), (0, .ref 0), (1, .int x1)] [.int r3.1] _
    refine ev_s 3 (M' := ev_M r3.2 c w) (pc' := 23) (lv' := [(3, .int r3.1), (2, .null), (0, .ref 0), (1, .int x1)]) (st' := []) (fun n => rfl) ?_
    refine ev_sub (lv := [(0, .ref 0), (3, .int r3.1)]) (mn_of rfl (by repeat (first | exact trivial | refine And.intro rfl ?_))) ?_
    exact ok_fX10_takes_c23 h
  | some u2 =>
    obtain ⟨hk_u2, h⟩ := sd_ift h
    obtain ⟨r4, hr4, h⟩ := Option.bind_eq_some_iff.mp h
    refine ev_c 3 (y' := 118) (M1 := ev_M r1.2 c w) (la := lv_args 0 [.ref u2]) (rest := []) (pc' := 13) (lv' := [(2, .ref u2), (0, .ref 0), (1, .int x1)]) (fun n => rfl) (ok_fX10_whyNotAtStake hr4) ?_
    show Ev XL xs _ 111 (ev_M r4.2 c w) 13 [(2, .ref u2), (0, .ref 0), (1, .int x1)] [.int r4.1] _
    refine ev_i 6 (M1 := ev_M r4.2 c w) (pc1 := 29) (lv1 := [(3, .int r4.1), (2, .ref u2), (0, .ref 0), (1, .int x1)]) (st1 := []) (M2 := ev_M r4.2 c w) (pc2 := 23) (lv2 := [(3, .int r4.1), (2, .ref u2), (0, .ref 0), (1, .int x1)]) (st2 := []) (fun n => rfl) h (fun hc5 h => ?_) (fun hc5 h => ?_)
    · obtain ⟨r6, hr6, h⟩ := Option.bind_eq_some_iff.mp h
      refine ev_c 5 (y' := 41) (M1 := ev_M r4.2 c w) (la := lv_args 0 [.ref 55, .ref 29]) (rest := []) (pc' := 40) (lv' := [(3, .int r4.1), (2, .ref u2), (0, .ref 0), (1, .int x1)]) (fun n => rfl) (ok_fX3_keep (rfl : mm_kd 29 = (7, 8)) hr6) ?_
      show Ev XL xs _ 111 (ev_M r6 c w) 40 [(3, .int r4.1), (2, .ref u2), (0, .ref 0), (1, .int x1)] [] _
      refine ev_s 1 (M' := ev_M r6 c w) (pc' := 41) (lv' := [(3, .int r4.1), (2, .ref u2), (0, .ref 0), (1, .int x1)]) (st' := [.ref u2]) (fun n => rfl) ?_
      refine ev_gf (x := .int (r6.1 u2 3)) rfl (congrArg Prod.fst hk_u2) rfl rfl ?_
      refine ev_s 3 (M' := ev_M r6 c w) (pc' := 48) (lv' := [(4, .int (r6.1 u2 3)), (3, .int r4.1), (2, .ref u2), (0, .ref 0), (1, .int x1)]) (st' := [.int ((-1) : Int32), .ref u2]) (fun n => rfl) ?_
      refine ev_pfi rfl (congrArg Prod.fst hk_u2) rfl rfl rfl ?_
      refine ev_s 2 (M' := ev_M (wI r6 u2 3 ((-1) : Int32)) c w) (pc' := 53) (lv' := [(4, .int (r6.1 u2 3)), (3, .int r4.1), (2, .ref u2), (0, .ref 0), (1, .int x1)]) (st' := [.int 0, .ref u2]) (fun n => rfl) ?_
      refine ev_pfz (A := some ()) (q0 := ()) rfl (congrArg Prod.fst hk_u2) rfl rfl rfl (if_pos (by decide)) (fun _ => ?_)
      cases h
      exact ev_r 2 (fun n => rfl)
    · refine ev_sub (lv := [(0, .ref 0), (3, .int r4.1)]) (mn_of rfl (by repeat (first | exact trivial | refine And.intro rfl ?_))) ?_
      exact ok_fX10_takes_c23 h
def fX10_sell (m : mm_MM) (x1 : Int32) : Option (Int32 × mm_MM) :=
  (fX7_find m 29 x1).bind fun r1 =>
   match r1.1 with
   | none =>
     (fX10_refuse r1.2 0).bind fun r3 =>
      some (r3.1, r3.2)
   | some u2 =>
     if mm_kd u2 = (9, 6) then
       (if r1.2.1 u2 3 = ((-1) : Int32) then
         (fX10_isRipe r1.2 u2).bind fun r5 =>
          (if r5.1 = 0 then
            (fX10_refuse r5.2 3).bind fun r7 =>
             some (r7.1, r7.2)
           else
            (fX3_keep r5.2 29).bind fun r8 =>
             (fJ9_min_7cf53 r8 999 (r8.1 29 6 + r8.1 u2 1)).bind fun r9 =>
              (fX9_clear (wI r9.2 29 6 r9.1) u2).bind fun r10 =>
               some (r8.1 u2 1, r10))
        else
         (fX10_refuse r1.2 2).bind fun r11 =>
          some (r11.1, r11.2))
     else none
theorem ok_fX10_sell {m : mm_MM} {x1 : Int32} {q0 : Int32 × mm_MM} (h : fX10_sell m x1 = some q0) : Ev XL xs (d + 3) 112 (ev_M m c w) 0 (lv_args 0 [.ref 0, .int x1]) [] (fr_i c w q0) := by
  unfold fX10_sell at h
  obtain ⟨r1, hr1, h⟩ := Option.bind_eq_some_iff.mp h
  refine ev_c 4 (y' := 69) (M1 := ev_M m c w) (la := lv_args 0 [.ref 29, .int x1]) (rest := []) (pc' := 8) (lv' := [(0, .ref 0), (1, .int x1)]) (fun n => rfl) (ok_fX7_find (rfl : mm_kd 29 = (7, 8)) hr1) ?_
  show Ev XL xs _ 112 (ev_M r1.2 c w) 8 [(0, .ref 0), (1, .int x1)] [va_rf r1.1] _
  generalize r1.1 = o12 at h ⊢
  cases o12 with
  | none =>
    obtain ⟨r3, hr3, h⟩ := Option.bind_eq_some_iff.mp h
    refine ev_c 6 (y' := 117) (M1 := ev_M r1.2 c w) (la := lv_args 0 [.ref 0, .int 0]) (rest := []) (pc' := 18) (lv' := [(2, .null), (0, .ref 0), (1, .int x1)]) (fun n => rfl) (ok_fX10_refuse hr3) ?_
    show Ev XL xs _ 112 (ev_M r3.2 c w) 18 [(2, .null), (0, .ref 0), (1, .int x1)] [.int r3.1] _
    cases h
    exact ev_r 1 (fun n => rfl)
  | some u2 =>
    obtain ⟨hk_u2, h⟩ := sd_ift h
    refine ev_s 4 (M' := ev_M r1.2 c w) (pc' := 20) (lv' := [(2, .ref u2), (0, .ref 0), (1, .int x1)]) (st' := [.ref u2]) (fun n => rfl) ?_
    refine ev_gf (x := .int (r1.2.1 u2 3)) rfl (congrArg Prod.fst hk_u2) rfl rfl ?_
    refine ev_i 2 (M1 := ev_M r1.2 c w) (pc1 := 33) (lv1 := [(2, .ref u2), (0, .ref 0), (1, .int x1)]) (st1 := []) (M2 := ev_M r1.2 c w) (pc2 := 27) (lv2 := [(2, .ref u2), (0, .ref 0), (1, .int x1)]) (st2 := []) (fun n => rfl) h (fun hc4 h => ?_) (fun hc4 h => ?_)
    · obtain ⟨r5, hr5, h⟩ := Option.bind_eq_some_iff.mp h
      refine ev_c 3 (y' := 106) (M1 := ev_M r1.2 c w) (la := lv_args 0 [.ref 0, .ref u2]) (rest := []) (pc' := 38) (lv' := [(2, .ref u2), (0, .ref 0), (1, .int x1)]) (fun n => rfl) (ok_fX10_isRipe hk_u2 hr5) ?_
      show Ev XL xs _ 112 (ev_M r5.2 c w) 38 [(2, .ref u2), (0, .ref 0), (1, .int x1)] [.int r5.1] _
      refine ev_i 1 (M1 := ev_M r5.2 c w) (pc1 := 41) (lv1 := [(2, .ref u2), (0, .ref 0), (1, .int x1)]) (st1 := []) (M2 := ev_M r5.2 c w) (pc2 := 47) (lv2 := [(2, .ref u2), (0, .ref 0), (1, .int x1)]) (st2 := []) (fun n => rfl) h (fun hc6 h => ?_) (fun hc6 h => ?_)
      · obtain ⟨r7, hr7, h⟩ := Option.bind_eq_some_iff.mp h
        refine ev_c 3 (y' := 117) (M1 := ev_M r5.2 c w) (la := lv_args 0 [.ref 0, .int 3]) (rest := []) (pc' := 46) (lv' := [(2, .ref u2), (0, .ref 0), (1, .int x1)]) (fun n => rfl) (ok_fX10_refuse hr7) ?_
        show Ev XL xs _ 112 (ev_M r7.2 c w) 46 [(2, .ref u2), (0, .ref 0), (1, .int x1)] [.int r7.1] _
        cases h
        exact ev_r 1 (fun n => rfl)
      · obtain ⟨r8, hr8, h⟩ := Option.bind_eq_some_iff.mp h
        refine ev_c 5 (y' := 41) (M1 := ev_M r5.2 c w) (la := lv_args 0 [.ref 55, .ref 29]) (rest := []) (pc' := 58) (lv' := [(2, .ref u2), (0, .ref 0), (1, .int x1)]) (fun n => rfl) (ok_fX3_keep (rfl : mm_kd 29 = (7, 8)) hr8) ?_
        show Ev XL xs _ 112 (ev_M r8 c w) 58 [(2, .ref u2), (0, .ref 0), (1, .int x1)] [] _
        refine ev_s 1 (M' := ev_M r8 c w) (pc' := 59) (lv' := [(2, .ref u2), (0, .ref 0), (1, .int x1)]) (st' := [.ref u2]) (fun n => rfl) ?_
        refine ev_gf (x := .int (r8.1 u2 1)) rfl (congrArg Prod.fst hk_u2) rfl rfl ?_
        obtain ⟨r9, hr9, h⟩ := Option.bind_eq_some_iff.mp h
        refine ev_c 10 (y' := 308) (M1 := ev_M r8 c w) (la := lv_args 0 [.int 999, .int (r8.1 29 6 + r8.1 u2 1)]) (rest := [.ref 29]) (pc' := 82) (lv' := [(3, .int (r8.1 u2 1)), (2, .ref u2), (0, .ref 0), (1, .int x1)]) (fun n => rfl) (ok_fJ9_min_7cf53 hr9) ?_
        show Ev XL xs _ 112 (ev_M r9.2 c w) 82 [(3, .int (r8.1 u2 1)), (2, .ref u2), (0, .ref 0), (1, .int x1)] [.int r9.1, .ref 29] _
        refine ev_s 2 (M' := ev_M (wI r9.2 29 6 r9.1) c w) (pc' := 86) (lv' := [(3, .int (r8.1 u2 1)), (2, .ref u2), (0, .ref 0), (1, .int x1)]) (st' := [.ref u2]) (fun n => rfl) ?_
        obtain ⟨r10, hr10, h⟩ := Option.bind_eq_some_iff.mp h
        refine ev_cv (rest := []) rfl rfl (congrArg Prod.fst hk_u2) rfl (ok_fX9_clear hk_u2 hr10) ?_
        show Ev XL xs _ 112 (ev_M r10 c w) 89 [(3, .int (r8.1 u2 1)), (2, .ref u2), (0, .ref 0), (1, .int x1)] [] _
        cases h
        exact ev_r 2 (fun n => rfl)
    · obtain ⟨r11, hr11, h⟩ := Option.bind_eq_some_iff.mp h
      refine ev_c 3 (y' := 117) (M1 := ev_M r1.2 c w) (la := lv_args 0 [.ref 0, .int 2]) (rest := []) (pc' := 32) (lv' := [(2, .ref u2), (0, .ref 0), (1, .int x1)]) (fun n => rfl) (ok_fX10_refuse hr11) ?_
      show Ev XL xs _ 112 (ev_M r11.2 c w) 32 [(2, .ref u2), (0, .ref 0), (1, .int x1)] [.int r11.1] _
      cases h
      exact ev_r 1 (fun n => rfl)
def fX10_buy_c33 (m : mm_MM) : Option (Int32 × mm_MM) :=
  (fX10_refuse m 1).bind fun r1 =>
   some (r1.1, r1.2)
set_option maxRecDepth 20000 in
theorem ok_fX10_buy_c33 {m : mm_MM} {q0 : Int32 × mm_MM} (h : fX10_buy_c33 m = some q0) : Ev XL xs (d + 3) 113 (ev_M m c w) 33 [(0, .ref 0)] [] (fr_i c w q0) := by
  unfold fX10_buy_c33 at h
  obtain ⟨r1, hr1, h⟩ := Option.bind_eq_some_iff.mp h
  refine ev_c 3 (y' := 117) (M1 := ev_M m c w) (la := lv_args 0 [.ref 0, .int 1]) (rest := []) (pc' := 38) (lv' := [(0, .ref 0)]) (fun n => rfl) (ok_fX10_refuse hr1) ?_
  show Ev XL xs _ 113 (ev_M r1.2 c w) 38 [(0, .ref 0)] [.int r1.1] _
  cases h
  exact ev_r 1 (fun n => rfl)
def fX10_buy_c81 (m : mm_MM) : Option (Int32 × mm_MM) :=
  (fX10_refuse m 3).bind fun r1 =>
   some (r1.1, r1.2)
set_option maxRecDepth 20000 in
theorem ok_fX10_buy_c81 {m : mm_MM} {q0 : Int32 × mm_MM} (h : fX10_buy_c81 m = some q0) : Ev XL xs (d + 3) 113 (ev_M m c w) 81 [(0, .ref 0)] [] (fr_i c w q0) := by
  unfold fX10_buy_c81 at h
  obtain ⟨r1, hr1, h⟩ := Option.bind_eq_some_iff.mp h
  refine ev_c 3 (y' := 117) (M1 := ev_M m c w) (la := lv_args 0 [.ref 0, .int 3]) (rest := []) (pc' := 86) (lv' := [(0, .ref 0)]) (fun n => rfl) (ok_fX10_refuse hr1) ?_
  show Ev XL xs _ 113 (ev_M r1.2 c w) 86 [(0, .ref 0)] [.int r1.1] _
  cases h
  exact ev_r 1 (fun n => rfl)
def fX10_buy (m : mm_MM) (x1 : Int32) (x2 : Int32) : Option (Int32 × mm_MM) :=
  (if m.1 0 14 = 0 then
    (fX10_refuse m 0).bind fun r2 =>
     some (r2.1, r2.2)
   else
    (if x1 < 1 then
      fX10_buy_c33 m
     else
      (if x1 ≤ 30 then
        (if x2 < 0 then
          fX10_buy_c33 m
         else
          (if x2 ≤ 5 then
            (fX7_freePlace m 29).bind fun r7 =>
             (fX7_slot r7.2 29 r7.1).bind fun r8 =>
              match r8.1 with
              | none =>
                (if (((x1 + 1) : Int32) / 2) ≤ r8.2.1 29 6 then
                  fX10_buy_c81 r8.2
                 else
                  fX10_buy_c81 r8.2)
              | some u9 =>
                if mm_kd u9 = (9, 6) then
                  (if (((x1 + 1) : Int32) / 2) ≤ r8.2.1 29 6 then
                    (fX3_keep r8.2 29).bind fun r12 =>
                     (fX9_clear (wI r12 29 6 (r12.1 29 6 - (((x1 + 1) : Int32) / 2))) u9).bind fun r13 =>
                      some (r7.1, (wI (wI (wI r13 u9 0 1) u9 1 x1) u9 2 x2))
                   else
                    fX10_buy_c81 r8.2)
                else none
           else
            fX10_buy_c33 m))
       else
        fX10_buy_c33 m)))
set_option maxRecDepth 20000 in
theorem ok_fX10_buy {m : mm_MM} {x1 : Int32} {x2 : Int32} {q0 : Int32 × mm_MM} (h : fX10_buy m x1 x2 = some q0) : Ev XL xs (d + 3) 113 (ev_M m c w) 0 (lv_args 0 [.ref 0, .int x1, .int x2]) [] (fr_i c w q0) := by
  unfold fX10_buy at h
  refine ev_i 3 (M1 := ev_M m c w) (pc1 := 7) (lv1 := [(0, .ref 0), (1, .int x1), (2, .int x2)]) (st1 := []) (M2 := ev_M m c w) (pc2 := 13) (lv2 := [(0, .ref 0), (1, .int x1), (2, .int x2)]) (st2 := []) (fun n => rfl) h (fun hc1 h => ?_) (fun hc1 h => ?_)
  · obtain ⟨r2, hr2, h⟩ := Option.bind_eq_some_iff.mp h
    refine ev_c 3 (y' := 117) (M1 := ev_M m c w) (la := lv_args 0 [.ref 0, .int 0]) (rest := []) (pc' := 12) (lv' := [(0, .ref 0), (1, .int x1), (2, .int x2)]) (fun n => rfl) (ok_fX10_refuse hr2) ?_
    show Ev XL xs _ 113 (ev_M r2.2 c w) 12 [(0, .ref 0), (1, .int x1), (2, .int x2)] [.int r2.1] _
    cases h
    exact ev_r 1 (fun n => rfl)
  · refine ev_i 3 (M1 := ev_M m c w) (pc1 := 33) (lv1 := [(0, .ref 0), (1, .int x1), (2, .int x2)]) (st1 := []) (M2 := ev_M m c w) (pc2 := 18) (lv2 := [(0, .ref 0), (1, .int x1), (2, .int x2)]) (st2 := []) (fun n => rfl) h (fun hc3 h => ?_) (fun hc3 h => ?_)
    · refine ev_sub (lv := [(0, .ref 0)]) (mn_of rfl (by repeat (first | exact trivial | refine And.intro rfl ?_))) ?_
      exact ok_fX10_buy_c33 h
    · refine ev_i 3 (M1 := ev_M m c w) (pc1 := 24) (lv1 := [(0, .ref 0), (1, .int x1), (2, .int x2)]) (st1 := []) (M2 := ev_M m c w) (pc2 := 33) (lv2 := [(0, .ref 0), (1, .int x1), (2, .int x2)]) (st2 := []) (fun n => rfl) h (fun hc4 h => ?_) (fun hc4 h => ?_)
      · refine ev_i 2 (M1 := ev_M m c w) (pc1 := 33) (lv1 := [(0, .ref 0), (1, .int x1), (2, .int x2)]) (st1 := []) (M2 := ev_M m c w) (pc2 := 28) (lv2 := [(0, .ref 0), (1, .int x1), (2, .int x2)]) (st2 := []) (fun n => rfl) h (fun hc5 h => ?_) (fun hc5 h => ?_)
        · refine ev_sub (lv := [(0, .ref 0)]) (mn_of rfl (by repeat (first | exact trivial | refine And.intro rfl ?_))) ?_
          exact ok_fX10_buy_c33 h
        · refine ev_i 3 (M1 := ev_M m c w) (pc1 := 39) (lv1 := [(0, .ref 0), (1, .int x1), (2, .int x2)]) (st1 := []) (M2 := ev_M m c w) (pc2 := 33) (lv2 := [(0, .ref 0), (1, .int x1), (2, .int x2)]) (st2 := []) (fun n => rfl) h (fun hc6 h => ?_) (fun hc6 h => ?_)
          · obtain ⟨r7, hr7, h⟩ := Option.bind_eq_some_iff.mp h
            refine ev_c 9 (y' := 72) (M1 := ev_M m c w) (la := lv_args 0 [.ref 29]) (rest := []) (pc' := 52) (lv' := [(3, .int (((x1 + 1) : Int32) / 2)), (0, .ref 0), (1, .int x1), (2, .int x2)]) (fun n => rfl) (ok_fX7_freePlace (rfl : mm_kd 29 = (7, 8)) hr7) ?_
            show Ev XL xs _ 113 (ev_M r7.2 c w) 52 [(3, .int (((x1 + 1) : Int32) / 2)), (0, .ref 0), (1, .int x1), (2, .int x2)] [.int r7.1] _
            obtain ⟨r8, hr8, h⟩ := Option.bind_eq_some_iff.mp h
            refine ev_c 5 (y' := 68) (M1 := ev_M r7.2 c w) (la := lv_args 0 [.ref 29, .int r7.1]) (rest := []) (pc' := 63) (lv' := [(4, .int r7.1), (3, .int (((x1 + 1) : Int32) / 2)), (0, .ref 0), (1, .int x1), (2, .int x2)]) (fun n => rfl) (ok_fX7_slot (rfl : mm_kd 29 = (7, 8)) hr8) ?_
            show Ev XL xs _ 113 (ev_M r8.2 c w) 63 [(4, .int r7.1), (3, .int (((x1 + 1) : Int32) / 2)), (0, .ref 0), (1, .int x1), (2, .int x2)] [va_rf r8.1] _
            generalize r8.1 = o14 at h ⊢
            cases o14 with
            | none =>
              refine ev_i 6 (M1 := ev_M r8.2 c w) (pc1 := 76) (lv1 := [(5, .null), (4, .int r7.1), (3, .int (((x1 + 1) : Int32) / 2)), (0, .ref 0), (1, .int x1), (2, .int x2)]) (st1 := []) (M2 := ev_M r8.2 c w) (pc2 := 81) (lv2 := [(5, .null), (4, .int r7.1), (3, .int (((x1 + 1) : Int32) / 2)), (0, .ref 0), (1, .int x1), (2, .int x2)]) (st2 := []) (fun n => rfl) h (fun hc10 h => ?_) (fun hc10 h => ?_)
              · refine ev_s 2 (M' := ev_M r8.2 c w) (pc' := 81) (lv' := [(5, .null), (4, .int r7.1), (3, .int (((x1 + 1) : Int32) / 2)), (0, .ref 0), (1, .int x1), (2, .int x2)]) (st' := []) (fun n => rfl) ?_
                refine ev_sub (lv := [(0, .ref 0)]) (mn_of rfl (by repeat (first | exact trivial | refine And.intro rfl ?_))) ?_
                exact ok_fX10_buy_c81 h
              · refine ev_sub (lv := [(0, .ref 0)]) (mn_of rfl (by repeat (first | exact trivial | refine And.intro rfl ?_))) ?_
                exact ok_fX10_buy_c81 h
            | some u9 =>
              obtain ⟨hk_u9, h⟩ := sd_ift h
              refine ev_i 6 (M1 := ev_M r8.2 c w) (pc1 := 76) (lv1 := [(5, .ref u9), (4, .int r7.1), (3, .int (((x1 + 1) : Int32) / 2)), (0, .ref 0), (1, .int x1), (2, .int x2)]) (st1 := []) (M2 := ev_M r8.2 c w) (pc2 := 81) (lv2 := [(5, .ref u9), (4, .int r7.1), (3, .int (((x1 + 1) : Int32) / 2)), (0, .ref 0), (1, .int x1), (2, .int x2)]) (st2 := []) (fun n => rfl) h (fun hc11 h => ?_) (fun hc11 h => ?_)
              · obtain ⟨r12, hr12, h⟩ := Option.bind_eq_some_iff.mp h
                refine ev_c 7 (y' := 41) (M1 := ev_M r8.2 c w) (la := lv_args 0 [.ref 55, .ref 29]) (rest := []) (pc' := 98) (lv' := [(5, .ref u9), (4, .int r7.1), (3, .int (((x1 + 1) : Int32) / 2)), (0, .ref 0), (1, .int x1), (2, .int x2)]) (fun n => rfl) (ok_fX3_keep (rfl : mm_kd 29 = (7, 8)) hr12) ?_
                show Ev XL xs _ 113 (ev_M r12 c w) 98 [(5, .ref u9), (4, .int r7.1), (3, .int (((x1 + 1) : Int32) / 2)), (0, .ref 0), (1, .int x1), (2, .int x2)] [] _
                refine ev_s 8 (M' := ev_M (wI r12 29 6 (r12.1 29 6 - (((x1 + 1) : Int32) / 2))) c w) (pc' := 113) (lv' := [(5, .ref u9), (4, .int r7.1), (3, .int (((x1 + 1) : Int32) / 2)), (0, .ref 0), (1, .int x1), (2, .int x2)]) (st' := [.ref u9]) (fun n => rfl) ?_
                obtain ⟨r13, hr13, h⟩ := Option.bind_eq_some_iff.mp h
                refine ev_cv (rest := []) rfl rfl (congrArg Prod.fst hk_u9) rfl (ok_fX9_clear hk_u9 hr13) ?_
                show Ev XL xs _ 113 (ev_M r13 c w) 116 [(5, .ref u9), (4, .int r7.1), (3, .int (((x1 + 1) : Int32) / 2)), (0, .ref 0), (1, .int x1), (2, .int x2)] [] _
                refine ev_s 2 (M' := ev_M r13 c w) (pc' := 119) (lv' := [(5, .ref u9), (4, .int r7.1), (3, .int (((x1 + 1) : Int32) / 2)), (0, .ref 0), (1, .int x1), (2, .int x2)]) (st' := [.int 1, .ref u9]) (fun n => rfl) ?_
                refine ev_pfz (A := some ()) (q0 := ()) rfl (congrArg Prod.fst hk_u9) rfl rfl rfl (if_pos (by decide)) (fun _ => ?_)
                refine ev_s 2 (M' := ev_M (wI r13 u9 0 1) c w) (pc' := 125) (lv' := [(5, .ref u9), (4, .int r7.1), (3, .int (((x1 + 1) : Int32) / 2)), (0, .ref 0), (1, .int x1), (2, .int x2)]) (st' := [.int x1, .ref u9]) (fun n => rfl) ?_
                refine ev_pfi rfl (congrArg Prod.fst hk_u9) rfl rfl rfl ?_
                refine ev_s 2 (M' := ev_M (wI (wI r13 u9 0 1) u9 1 x1) c w) (pc' := 131) (lv' := [(5, .ref u9), (4, .int r7.1), (3, .int (((x1 + 1) : Int32) / 2)), (0, .ref 0), (1, .int x1), (2, .int x2)]) (st' := [.int x2, .ref u9]) (fun n => rfl) ?_
                refine ev_pfi rfl (congrArg Prod.fst hk_u9) rfl rfl rfl ?_
                cases h
                exact ev_r 2 (fun n => rfl)
              · refine ev_sub (lv := [(0, .ref 0)]) (mn_of rfl (by repeat (first | exact trivial | refine And.intro rfl ?_))) ?_
                exact ok_fX10_buy_c81 h
          · refine ev_sub (lv := [(0, .ref 0)]) (mn_of rfl (by repeat (first | exact trivial | refine And.intro rfl ?_))) ?_
            exact ok_fX10_buy_c33 h
      · refine ev_sub (lv := [(0, .ref 0)]) (mn_of rfl (by repeat (first | exact trivial | refine And.intro rfl ?_))) ?_
        exact ok_fX10_buy_c33 h
def fX10_lose_c23 (m : mm_MM) (x3 : Int32) : Option (Int32 × mm_MM) :=
  (fX10_refuse m x3).bind fun r1 =>
   some (r1.1, r1.2)
theorem ok_fX10_lose_c23 {m : mm_MM} {x3 : Int32} {q0 : Int32 × mm_MM} (h : fX10_lose_c23 m x3 = some q0) : Ev XL xs (d + 3) 114 (ev_M m c w) 23 [(0, .ref 0), (3, .int x3)] [] (fr_i c w q0) := by
  unfold fX10_lose_c23 at h
  obtain ⟨r1, hr1, h⟩ := Option.bind_eq_some_iff.mp h
  refine ev_c 3 (y' := 117) (M1 := ev_M m c w) (la := lv_args 0 [.ref 0, .int x3]) (rest := []) (pc' := 28) (lv' := [(0, .ref 0), (3, .int x3)]) (fun n => rfl) (ok_fX10_refuse hr1) ?_
  show Ev XL xs _ 114 (ev_M r1.2 c w) 28 [(0, .ref 0), (3, .int x3)] [.int r1.1] _
  cases h
  exact ev_r 1 (fun n => rfl)
def fX10_lose (m : mm_MM) (x1 : Int32) : Option (Int32 × mm_MM) :=
  (fX7_find m 29 x1).bind fun r1 =>
   match r1.1 with
   | none =>
     (fX10_whyNotAtStake r1.2 none).bind fun r3 =>
      fX10_lose_c23 r3.2 r3.1
   | some u2 =>
     if mm_kd u2 = (9, 6) then
       (fX10_whyNotAtStake r1.2 (some u2)).bind fun r4 =>
        (if r4.1 = ((-1) : Int32) then
          (fX3_keep r4.2 29).bind fun r6 =>
           some ((wI r6 u2 5 0).1 u2 3, (wI r6 u2 5 0))
         else
          fX10_lose_c23 r4.2 r4.1)
     else none
theorem ok_fX10_lose {m : mm_MM} {x1 : Int32} {q0 : Int32 × mm_MM} (h : fX10_lose m x1 = some q0) : Ev XL xs (d + 3) 114 (ev_M m c w) 0 (lv_args 0 [.ref 0, .int x1]) [] (fr_i c w q0) := by
  unfold fX10_lose at h
  obtain ⟨r1, hr1, h⟩ := Option.bind_eq_some_iff.mp h
  refine ev_c 4 (y' := 69) (M1 := ev_M m c w) (la := lv_args 0 [.ref 29, .int x1]) (rest := []) (pc' := 8) (lv' := [(0, .ref 0), (1, .int x1)]) (fun n => rfl) (ok_fX7_find (rfl : mm_kd 29 = (7, 8)) hr1) ?_
  show Ev XL xs _ 114 (ev_M r1.2 c w) 8 [(0, .ref 0), (1, .int x1)] [va_rf r1.1] _
  generalize r1.1 = o7 at h ⊢
  cases o7 with
  | none =>
    obtain ⟨r3, hr3, h⟩ := Option.bind_eq_some_iff.mp h
    refine ev_c 3 (y' := 118) (M1 := ev_M r1.2 c w) (la := lv_args 0 [.null]) (rest := []) (pc' := 13) (lv' := [(2, .null), (0, .ref 0), (1, .int x1)]) (fun n => rfl) (ok_fX10_whyNotAtStake hr3) ?_
    show Ev XL xs _ 114 (ev_M r3.2 c w) 13 [(2, .null), (0, .ref 0), (1, .int x1)] [.int r3.1] _
    refine ev_s 3 (M' := ev_M r3.2 c w) (pc' := 23) (lv' := [(3, .int r3.1), (2, .null), (0, .ref 0), (1, .int x1)]) (st' := []) (fun n => rfl) ?_
    refine ev_sub (lv := [(0, .ref 0), (3, .int r3.1)]) (mn_of rfl (by repeat (first | exact trivial | refine And.intro rfl ?_))) ?_
    exact ok_fX10_lose_c23 h
  | some u2 =>
    obtain ⟨hk_u2, h⟩ := sd_ift h
    obtain ⟨r4, hr4, h⟩ := Option.bind_eq_some_iff.mp h
    refine ev_c 3 (y' := 118) (M1 := ev_M r1.2 c w) (la := lv_args 0 [.ref u2]) (rest := []) (pc' := 13) (lv' := [(2, .ref u2), (0, .ref 0), (1, .int x1)]) (fun n => rfl) (ok_fX10_whyNotAtStake hr4) ?_
    show Ev XL xs _ 114 (ev_M r4.2 c w) 13 [(2, .ref u2), (0, .ref 0), (1, .int x1)] [.int r4.1] _
    refine ev_i 6 (M1 := ev_M r4.2 c w) (pc1 := 29) (lv1 := [(3, .int r4.1), (2, .ref u2), (0, .ref 0), (1, .int x1)]) (st1 := []) (M2 := ev_M r4.2 c w) (pc2 := 23) (lv2 := [(3, .int r4.1), (2, .ref u2), (0, .ref 0), (1, .int x1)]) (st2 := []) (fun n => rfl) h (fun hc5 h => ?_) (fun hc5 h => ?_)
    · obtain ⟨r6, hr6, h⟩ := Option.bind_eq_some_iff.mp h
      refine ev_c 5 (y' := 41) (M1 := ev_M r4.2 c w) (la := lv_args 0 [.ref 55, .ref 29]) (rest := []) (pc' := 40) (lv' := [(3, .int r4.1), (2, .ref u2), (0, .ref 0), (1, .int x1)]) (fun n => rfl) (ok_fX3_keep (rfl : mm_kd 29 = (7, 8)) hr6) ?_
      show Ev XL xs _ 114 (ev_M r6 c w) 40 [(3, .int r4.1), (2, .ref u2), (0, .ref 0), (1, .int x1)] [] _
      refine ev_s 2 (M' := ev_M r6 c w) (pc' := 42) (lv' := [(3, .int r4.1), (2, .ref u2), (0, .ref 0), (1, .int x1)]) (st' := [.int 0, .ref u2]) (fun n => rfl) ?_
      refine ev_pfz (A := some ()) (q0 := ()) rfl (congrArg Prod.fst hk_u2) rfl rfl rfl (if_pos (by decide)) (fun _ => ?_)
      refine ev_s 1 (M' := ev_M (wI r6 u2 5 0) c w) (pc' := 46) (lv' := [(3, .int r4.1), (2, .ref u2), (0, .ref 0), (1, .int x1)]) (st' := [.ref u2]) (fun n => rfl) ?_
      refine ev_gf (x := .int ((wI r6 u2 5 0).1 u2 3)) rfl (congrArg Prod.fst hk_u2) rfl rfl ?_
      cases h
      exact ev_r 1 (fun n => rfl)
    · refine ev_sub (lv := [(0, .ref 0), (3, .int r4.1)]) (mn_of rfl (by repeat (first | exact trivial | refine And.intro rfl ?_))) ?_
      exact ok_fX10_lose_c23 h
def fX10_search_c51 (m : mm_MM) (s1 : Int32) : Option (Int32 × mm_MM) :=
  (fX10_refuse m s1).bind fun r1 =>
   some (((-1000000) : Int32), r1.2)
set_option maxRecDepth 20000 in
theorem ok_fX10_search_c51 {m : mm_MM} {s1 : Int32} {q0 : Int32 × mm_MM} (h : fX10_search_c51 m s1 = some q0) : Ev XL xs (d + 4) 115 (ev_M m c w) 51 [] [.int s1, .ref 0] (fr_i c w q0) := by
  unfold fX10_search_c51 at h
  obtain ⟨r1, hr1, h⟩ := Option.bind_eq_some_iff.mp h
  refine ev_c 1 (y' := 117) (M1 := ev_M m c w) (la := lv_args 0 [.ref 0, .int s1]) (rest := []) (pc' := 54) (lv' := []) (fun n => rfl) (ok_fX10_refuse hr1) ?_
  show Ev XL xs _ 115 (ev_M r1.2 c w) 54 [] [.int r1.1] _
  cases h
  exact ev_r 3 (fun n => rfl)
def fX10_search_c26 (m : mm_MM) (x1 : Int32) : Option (Int32 × mm_MM) :=
  (if m.1 0 14 = 0 then
    fX10_search_c51 m 0
   else
    (fX10_isPlot m x1).bind fun r2 =>
     (if r2.1 = 0 then
       fX10_search_c51 r2.2 1
      else
       fX10_search_c51 r2.2 3))
set_option maxRecDepth 20000 in
theorem ok_fX10_search_c26 {m : mm_MM} {x1 : Int32} {q0 : Int32 × mm_MM} (h : fX10_search_c26 m x1 = some q0) : Ev XL xs (d + 4) 115 (ev_M m c w) 26 [(0, .ref 0), (1, .int x1)] [] (fr_i c w q0) := by
  unfold fX10_search_c26 at h
  refine ev_i 4 (M1 := ev_M m c w) (pc1 := 34) (lv1 := [(0, .ref 0), (1, .int x1)]) (st1 := [.ref 0]) (M2 := ev_M m c w) (pc2 := 38) (lv2 := [(0, .ref 0), (1, .int x1)]) (st2 := [.ref 0]) (fun n => rfl) h (fun hc1 h => ?_) (fun hc1 h => ?_)
  · refine ev_s 2 (M' := ev_M m c w) (pc' := 51) (lv' := [(0, .ref 0), (1, .int x1)]) (st' := [.int 0, .ref 0]) (fun n => rfl) ?_
    refine ev_sub (lv := []) (mn_of rfl (by repeat (first | exact trivial | refine And.intro rfl ?_))) ?_
    exact ok_fX10_search_c51 h
  · obtain ⟨r2, hr2, h⟩ := Option.bind_eq_some_iff.mp h
    refine ev_c 3 (y' := 105) (M1 := ev_M m c w) (la := lv_args 0 [.ref 0, .int x1]) (rest := [.ref 0]) (pc' := 43) (lv' := [(0, .ref 0), (1, .int x1)]) (fun n => rfl) (ok_fX10_isPlot hr2) ?_
    show Ev XL xs _ 115 (ev_M r2.2 c w) 43 [(0, .ref 0), (1, .int x1)] [.int r2.1, .ref 0] _
    refine ev_i 1 (M1 := ev_M r2.2 c w) (pc1 := 46) (lv1 := [(0, .ref 0), (1, .int x1)]) (st1 := [.ref 0]) (M2 := ev_M r2.2 c w) (pc2 := 50) (lv2 := [(0, .ref 0), (1, .int x1)]) (st2 := [.ref 0]) (fun n => rfl) h (fun hc3 h => ?_) (fun hc3 h => ?_)
    · refine ev_s 2 (M' := ev_M r2.2 c w) (pc' := 51) (lv' := [(0, .ref 0), (1, .int x1)]) (st' := [.int 1, .ref 0]) (fun n => rfl) ?_
      refine ev_sub (lv := []) (mn_of rfl (by repeat (first | exact trivial | refine And.intro rfl ?_))) ?_
      exact ok_fX10_search_c51 h
    · refine ev_s 1 (M' := ev_M r2.2 c w) (pc' := 51) (lv' := [(0, .ref 0), (1, .int x1)]) (st' := [.int 3, .ref 0]) (fun n => rfl) ?_
      refine ev_sub (lv := []) (mn_of rfl (by repeat (first | exact trivial | refine And.intro rfl ?_))) ?_
      exact ok_fX10_search_c51 h
def fX10_search_c111 (m : mm_MM) : Option (Int32 × mm_MM) :=
  some (((-1) : Int32), m)
set_option maxRecDepth 20000 in
theorem ok_fX10_search_c111 {m : mm_MM} {q0 : Int32 × mm_MM} (h : fX10_search_c111 m = some q0) : Ev XL xs (d + 4) 115 (ev_M m c w) 111 [] [] (fr_i c w q0) := by
  unfold fX10_search_c111 at h
  cases h
  exact ev_r 2 (fun n => rfl)
def fX10_search (m : mm_MM) (x1 : Int32) : Option (Int32 × mm_MM) :=
  (if m.1 0 14 = 0 then
    fX10_search_c26 m x1
   else
    (fX10_isPlot m x1).bind fun r2 =>
     (if r2.1 = 0 then
       fX10_search_c26 r2.2 x1
      else
       (if r2.2.1 29 6 < 1 then
         fX10_search_c26 r2.2 x1
        else
         (fX3_keep r2.2 29).bind fun r5 =>
          (fX7_placeOfPlot (wI r5 29 6 (r5.1 29 6 - 1)) 29 x1).bind fun r6 =>
           (fX7_find r6.2 29 r6.1).bind fun r7 =>
            match r7.1 with
            | none =>
              fX10_search_c111 r7.2
            | some u8 =>
              if mm_kd u8 = (9, 6) then
                (if r7.2.1 u8 5 = 0 then
                  some (r6.1, (wI r7.2 u8 5 1))
                 else
                  fX10_search_c111 r7.2)
              else none)))
set_option maxRecDepth 20000 in
theorem ok_fX10_search {m : mm_MM} {x1 : Int32} {q0 : Int32 × mm_MM} (h : fX10_search m x1 = some q0) : Ev XL xs (d + 4) 115 (ev_M m c w) 0 (lv_args 0 [.ref 0, .int x1]) [] (fr_i c w q0) := by
  unfold fX10_search at h
  refine ev_i 3 (M1 := ev_M m c w) (pc1 := 26) (lv1 := [(0, .ref 0), (1, .int x1)]) (st1 := []) (M2 := ev_M m c w) (pc2 := 7) (lv2 := [(0, .ref 0), (1, .int x1)]) (st2 := []) (fun n => rfl) h (fun hc1 h => ?_) (fun hc1 h => ?_)
  · exact ok_fX10_search_c26 h
  · obtain ⟨r2, hr2, h⟩ := Option.bind_eq_some_iff.mp h
    refine ev_c 3 (y' := 105) (M1 := ev_M m c w) (la := lv_args 0 [.ref 0, .int x1]) (rest := []) (pc' := 12) (lv' := [(0, .ref 0), (1, .int x1)]) (fun n => rfl) (ok_fX10_isPlot hr2) ?_
    show Ev XL xs _ 115 (ev_M r2.2 c w) 12 [(0, .ref 0), (1, .int x1)] [.int r2.1] _
    refine ev_i 1 (M1 := ev_M r2.2 c w) (pc1 := 26) (lv1 := [(0, .ref 0), (1, .int x1)]) (st1 := []) (M2 := ev_M r2.2 c w) (pc2 := 15) (lv2 := [(0, .ref 0), (1, .int x1)]) (st2 := []) (fun n => rfl) h (fun hc3 h => ?_) (fun hc3 h => ?_)
    · exact ok_fX10_search_c26 h
    · refine ev_i 5 (M1 := ev_M r2.2 c w) (pc1 := 26) (lv1 := [(0, .ref 0), (1, .int x1)]) (st1 := []) (M2 := ev_M r2.2 c w) (pc2 := 58) (lv2 := [(0, .ref 0), (1, .int x1)]) (st2 := []) (fun n => rfl) h (fun hc4 h => ?_) (fun hc4 h => ?_)
      · exact ok_fX10_search_c26 h
      · obtain ⟨r5, hr5, h⟩ := Option.bind_eq_some_iff.mp h
        refine ev_c 5 (y' := 41) (M1 := ev_M r2.2 c w) (la := lv_args 0 [.ref 55, .ref 29]) (rest := []) (pc' := 69) (lv' := [(0, .ref 0), (1, .int x1)]) (fun n => rfl) (ok_fX3_keep (rfl : mm_kd 29 = (7, 8)) hr5) ?_
        show Ev XL xs _ 115 (ev_M r5 c w) 69 [(0, .ref 0), (1, .int x1)] [] _
        obtain ⟨r6, hr6, h⟩ := Option.bind_eq_some_iff.mp h
        refine ev_c 11 (y' := 71) (M1 := ev_M (wI r5 29 6 (r5.1 29 6 - 1)) c w) (la := lv_args 0 [.ref 29, .int x1]) (rest := []) (pc' := 90) (lv' := [(0, .ref 0), (1, .int x1)]) (fun n => rfl) (ok_fX7_placeOfPlot (rfl : mm_kd 29 = (7, 8)) hr6) ?_
        show Ev XL xs _ 115 (ev_M r6.2 c w) 90 [(0, .ref 0), (1, .int x1)] [.int r6.1] _
        obtain ⟨r7, hr7, h⟩ := Option.bind_eq_some_iff.mp h
        refine ev_c 5 (y' := 69) (M1 := ev_M r6.2 c w) (la := lv_args 0 [.ref 29, .int r6.1]) (rest := []) (pc' := 99) (lv' := [(2, .int r6.1), (0, .ref 0), (1, .int x1)]) (fun n => rfl) (ok_fX7_find (rfl : mm_kd 29 = (7, 8)) hr7) ?_
        show Ev XL xs _ 115 (ev_M r7.2 c w) 99 [(2, .int r6.1), (0, .ref 0), (1, .int x1)] [va_rf r7.1] _
        generalize r7.1 = o10 at h ⊢
        cases o10 with
        | none =>
          refine ev_s 3 (M' := ev_M r7.2 c w) (pc' := 111) (lv' := [(3, .null), (2, .int r6.1), (0, .ref 0), (1, .int x1)]) (st' := []) (fun n => rfl) ?_
          refine ev_sub (lv := []) (mn_of rfl (by repeat (first | exact trivial | refine And.intro rfl ?_))) ?_
          exact ok_fX10_search_c111 h
        | some u8 =>
          obtain ⟨hk_u8, h⟩ := sd_ift h
          refine ev_s 4 (M' := ev_M r7.2 c w) (pc' := 105) (lv' := [(3, .ref u8), (2, .int r6.1), (0, .ref 0), (1, .int x1)]) (st' := [.ref u8]) (fun n => rfl) ?_
          refine ev_gf (x := .int (r7.2.1 u8 5)) rfl (congrArg Prod.fst hk_u8) rfl rfl ?_
          refine ev_i 1 (M1 := ev_M r7.2 c w) (pc1 := 113) (lv1 := [(3, .ref u8), (2, .int r6.1), (0, .ref 0), (1, .int x1)]) (st1 := []) (M2 := ev_M r7.2 c w) (pc2 := 111) (lv2 := [(3, .ref u8), (2, .int r6.1), (0, .ref 0), (1, .int x1)]) (st2 := []) (fun n => rfl) h (fun hc9 h => ?_) (fun hc9 h => ?_)
          · refine ev_s 2 (M' := ev_M r7.2 c w) (pc' := 115) (lv' := [(3, .ref u8), (2, .int r6.1), (0, .ref 0), (1, .int x1)]) (st' := [.int 1, .ref u8]) (fun n => rfl) ?_
            refine ev_pfz (A := some ()) (q0 := ()) rfl (congrArg Prod.fst hk_u8) rfl rfl rfl (if_pos (by decide)) (fun _ => ?_)
            cases h
            exact ev_r 2 (fun n => rfl)
          · refine ev_sub (lv := []) (mn_of rfl (by repeat (first | exact trivial | refine And.intro rfl ?_))) ?_
            exact ok_fX10_search_c111 h
def fX10_give_c24 (m : mm_MM) : Option (Int32 × mm_MM) :=
  (fX10_refuse m 1).bind fun r1 =>
   some (r1.1, r1.2)
theorem ok_fX10_give_c24 {m : mm_MM} {q0 : Int32 × mm_MM} (h : fX10_give_c24 m = some q0) : Ev XL xs (d + 3) 116 (ev_M m c w) 24 [(0, .ref 0)] [] (fr_i c w q0) := by
  unfold fX10_give_c24 at h
  obtain ⟨r1, hr1, h⟩ := Option.bind_eq_some_iff.mp h
  refine ev_c 3 (y' := 117) (M1 := ev_M m c w) (la := lv_args 0 [.ref 0, .int 1]) (rest := []) (pc' := 29) (lv' := [(0, .ref 0)]) (fun n => rfl) (ok_fX10_refuse hr1) ?_
  show Ev XL xs _ 116 (ev_M r1.2 c w) 29 [(0, .ref 0)] [.int r1.1] _
  cases h
  exact ev_r 1 (fun n => rfl)
def fX10_give (m : mm_MM) (x1 : Int32) : Option (Int32 × mm_MM) :=
  (if m.1 0 14 = 0 then
    (fX10_refuse m 0).bind fun r2 =>
     some (r2.1, r2.2)
   else
    (if x1 < 1 then
      fX10_give_c24 m
     else
      (if x1 ≤ 50 then
        (if (m.1 29 6 + x1) ≤ 999 then
          (fX3_keep m 29).bind fun r6 =>
           some ((r6.1 29 6 + x1), (wI r6 29 6 (r6.1 29 6 + x1)))
         else
          (fX10_refuse m 3).bind fun r7 =>
           some (r7.1, r7.2))
       else
        fX10_give_c24 m)))
theorem ok_fX10_give {m : mm_MM} {x1 : Int32} {q0 : Int32 × mm_MM} (h : fX10_give m x1 = some q0) : Ev XL xs (d + 3) 116 (ev_M m c w) 0 (lv_args 0 [.ref 0, .int x1]) [] (fr_i c w q0) := by
  unfold fX10_give at h
  refine ev_i 3 (M1 := ev_M m c w) (pc1 := 7) (lv1 := [(0, .ref 0), (1, .int x1)]) (st1 := []) (M2 := ev_M m c w) (pc2 := 13) (lv2 := [(0, .ref 0), (1, .int x1)]) (st2 := []) (fun n => rfl) h (fun hc1 h => ?_) (fun hc1 h => ?_)
  · obtain ⟨r2, hr2, h⟩ := Option.bind_eq_some_iff.mp h
    refine ev_c 3 (y' := 117) (M1 := ev_M m c w) (la := lv_args 0 [.ref 0, .int 0]) (rest := []) (pc' := 12) (lv' := [(0, .ref 0), (1, .int x1)]) (fun n => rfl) (ok_fX10_refuse hr2) ?_
    show Ev XL xs _ 116 (ev_M r2.2 c w) 12 [(0, .ref 0), (1, .int x1)] [.int r2.1] _
    cases h
    exact ev_r 1 (fun n => rfl)
  · refine ev_i 3 (M1 := ev_M m c w) (pc1 := 24) (lv1 := [(0, .ref 0), (1, .int x1)]) (st1 := []) (M2 := ev_M m c w) (pc2 := 18) (lv2 := [(0, .ref 0), (1, .int x1)]) (st2 := []) (fun n => rfl) h (fun hc3 h => ?_) (fun hc3 h => ?_)
    · refine ev_sub (lv := [(0, .ref 0)]) (mn_of rfl (by repeat (first | exact trivial | refine And.intro rfl ?_))) ?_
      exact ok_fX10_give_c24 h
    · refine ev_i 3 (M1 := ev_M m c w) (pc1 := 30) (lv1 := [(0, .ref 0), (1, .int x1)]) (st1 := []) (M2 := ev_M m c w) (pc2 := 24) (lv2 := [(0, .ref 0), (1, .int x1)]) (st2 := []) (fun n => rfl) h (fun hc4 h => ?_) (fun hc4 h => ?_)
      · refine ev_i 7 (M1 := ev_M m c w) (pc1 := 51) (lv1 := [(0, .ref 0), (1, .int x1)]) (st1 := []) (M2 := ev_M m c w) (pc2 := 45) (lv2 := [(0, .ref 0), (1, .int x1)]) (st2 := []) (fun n => rfl) h (fun hc5 h => ?_) (fun hc5 h => ?_)
        · obtain ⟨r6, hr6, h⟩ := Option.bind_eq_some_iff.mp h
          refine ev_c 5 (y' := 41) (M1 := ev_M m c w) (la := lv_args 0 [.ref 55, .ref 29]) (rest := []) (pc' := 62) (lv' := [(0, .ref 0), (1, .int x1)]) (fun n => rfl) (ok_fX3_keep (rfl : mm_kd 29 = (7, 8)) hr6) ?_
          show Ev XL xs _ 116 (ev_M r6 c w) 62 [(0, .ref 0), (1, .int x1)] [] _
          cases h
          exact ev_r 11 (fun n => rfl)
        · obtain ⟨r7, hr7, h⟩ := Option.bind_eq_some_iff.mp h
          refine ev_c 3 (y' := 117) (M1 := ev_M m c w) (la := lv_args 0 [.ref 0, .int 3]) (rest := []) (pc' := 50) (lv' := [(0, .ref 0), (1, .int x1)]) (fun n => rfl) (ok_fX10_refuse hr7) ?_
          show Ev XL xs _ 116 (ev_M r7.2 c w) 50 [(0, .ref 0), (1, .int x1)] [.int r7.1] _
          cases h
          exact ev_r 1 (fun n => rfl)
      · refine ev_sub (lv := [(0, .ref 0)]) (mn_of rfl (by repeat (first | exact trivial | refine And.intro rfl ?_))) ?_
        exact ok_fX10_give_c24 h
def fX10_valueAlone (m : mm_MM) (t1 : Nat) (x2 : Int32) (x3 : Int32) (x4 : Int32) : Option (Int32 × mm_MM) :=
  (fX0_begin m t1 x2 x3).bind fun r1 =>
   (fX10_grow r1 x4).bind fun r2 =>
    some (r2.1 583 0, r2)
theorem ok_fX10_valueAlone {m : mm_MM} {t1 : Nat} {x2 : Int32} {x3 : Int32} {x4 : Int32} {q0 : Int32 × mm_MM} (hk_t1 : mm_kd t1 = (9, 6)) (h : fX10_valueAlone m t1 x2 x3 x4 = some q0) : Ev XL xs (d + 5) 125 (ev_M m c w) 0 (lv_args 0 [.ref 0, .ref t1, .int x2, .int x3, .int x4]) [] (fr_i c w q0) := by
  unfold fX10_valueAlone at h
  obtain ⟨r1, hr1, h⟩ := Option.bind_eq_some_iff.mp h
  refine ev_c 6 (y' := 1) (M1 := ev_M m c w) (la := lv_args 0 [.ref 583, .ref t1, .int x2, .int x3]) (rest := []) (pc' := 10) (lv' := [(0, .ref 0), (1, .ref t1), (2, .int x2), (3, .int x3), (4, .int x4)]) (fun n => rfl) (ok_fX0_begin hk_t1 hr1) ?_
  show Ev XL xs _ 125 (ev_M r1 c w) 10 [(0, .ref 0), (1, .ref t1), (2, .int x2), (3, .int x3), (4, .int x4)] [] _
  obtain ⟨r2, hr2, h⟩ := Option.bind_eq_some_iff.mp h
  refine ev_c 3 (y' := 121) (M1 := ev_M r1 c w) (la := lv_args 0 [.ref 0, .int x4]) (rest := []) (pc' := 16) (lv' := [(0, .ref 0), (1, .ref t1), (2, .int x2), (3, .int x3), (4, .int x4)]) (fun n => rfl) (ok_fX10_grow hr2) ?_
  show Ev XL xs _ 125 (ev_M r2 c w) 16 [(0, .ref 0), (1, .ref t1), (2, .int x2), (3, .int x3), (4, .int x4)] [] _
  cases h
  exact ev_r 4 (fun n => rfl)
def fX10_draw_c35 (m : mm_MM) (s0 : Int32) : Option (Int32 × mm_MM) :=
  some (s0, m)
theorem ok_fX10_draw_c35 {m : mm_MM} {s0 : Int32} {q0 : Int32 × mm_MM} (h : fX10_draw_c35 m s0 = some q0) : Ev XL xs d 130 (ev_M m c w) 35 [] [.int s0] (fr_i c w q0) := by
  unfold fX10_draw_c35 at h
  cases h
  exact ev_r 1 (fun n => rfl)
def fX10_draw (m : mm_MM) (x1 : Int32) : Option (Int32 × mm_MM) :=
  (if x1 ≤ 0 then
    fX10_draw_c35 (wL m 0 19 ((m.2 0 19 * 6364136223846793005) + 1442695040888963407)) 0
   else
    (if (Int32.toInt64 x1) = (0 : Int64) then none else
     fX10_draw_c35 (wL m 0 19 ((m.2 0 19 * 6364136223846793005) + 1442695040888963407)) (Int64.toInt32 (((Int64.toUInt64 ((m.2 0 19 * 6364136223846793005) + 1442695040888963407) >>> ((Int32.toInt64 33).toUInt64 &&& Int64.toUInt64 63)).toInt64 : Int64) - (Int64.toUInt64 ((m.2 0 19 * 6364136223846793005) + 1442695040888963407) >>> ((Int32.toInt64 33).toUInt64 &&& Int64.toUInt64 63)).toInt64 / (Int32.toInt64 x1) * (Int32.toInt64 x1)))))
theorem ok_fX10_draw {m : mm_MM} {x1 : Int32} {q0 : Int32 × mm_MM} (h : fX10_draw m x1 = some q0) : Ev XL xs d 130 (ev_M m c w) 0 (lv_args 0 [.ref 0, .int x1]) [] (fr_i c w q0) := by
  unfold fX10_draw at h
  refine ev_i 10 (M1 := ev_M (wL m 0 19 ((m.2 0 19 * 6364136223846793005) + 1442695040888963407)) c w) (pc1 := 34) (lv1 := [(0, .ref 0), (1, .int x1)]) (st1 := []) (M2 := ev_M (wL m 0 19 ((m.2 0 19 * 6364136223846793005) + 1442695040888963407)) c w) (pc2 := 20) (lv2 := [(0, .ref 0), (1, .int x1)]) (st2 := []) (fun n => rfl) h (fun hc1 h => ?_) (fun hc1 h => ?_)
  · refine ev_s 1 (M' := ev_M (wL m 0 19 ((m.2 0 19 * 6364136223846793005) + 1442695040888963407)) c w) (pc' := 35) (lv' := [(0, .ref 0), (1, .int x1)]) (st' := [.int 0]) (fun n => rfl) ?_
    refine ev_sub (lv := []) (mn_of rfl (by repeat (first | exact trivial | refine And.intro rfl ?_))) ?_
    exact ok_fX10_draw_c35 h
  · refine ev_g 7 (M1 := ev_M (wL m 0 19 ((m.2 0 19 * 6364136223846793005) + 1442695040888963407)) c w) (pc1 := 30) (lv1 := [(0, .ref 0), (1, .int x1)]) (st1 := [.long (((Int64.toUInt64 ((m.2 0 19 * 6364136223846793005) + 1442695040888963407) >>> ((Int32.toInt64 33).toUInt64 &&& Int64.toUInt64 63)).toInt64 : Int64) - (Int64.toUInt64 ((m.2 0 19 * 6364136223846793005) + 1442695040888963407) >>> ((Int32.toInt64 33).toUInt64 &&& Int64.toUInt64 63)).toInt64 / (Int32.toInt64 x1) * (Int32.toInt64 x1))]) (fun n => rfl) h (fun _ h => ?_)
    refine ev_s 2 (M' := ev_M (wL m 0 19 ((m.2 0 19 * 6364136223846793005) + 1442695040888963407)) c w) (pc' := 35) (lv' := [(0, .ref 0), (1, .int x1)]) (st' := [.int (Int64.toInt32 (((Int64.toUInt64 ((m.2 0 19 * 6364136223846793005) + 1442695040888963407) >>> ((Int32.toInt64 33).toUInt64 &&& Int64.toUInt64 63)).toInt64 : Int64) - (Int64.toUInt64 ((m.2 0 19 * 6364136223846793005) + 1442695040888963407) >>> ((Int32.toInt64 33).toUInt64 &&& Int64.toUInt64 63)).toInt64 / (Int32.toInt64 x1) * (Int32.toInt64 x1)))]) (fun n => rfl) ?_
    refine ev_sub (lv := []) (mn_of rfl (by repeat (first | exact trivial | refine And.intro rfl ?_))) ?_
    exact ok_fX10_draw_c35 h
def fX10_sendMole_c53 (m : mm_MM) : Option (mm_MM) :=
  some m
theorem ok_fX10_sendMole_c53 {m : mm_MM} {q0 : mm_MM} (h : fX10_sendMole_c53 m = some q0) : Ev XL xs (d + 4) 128 (ev_M m c w) 53 [] [] (fr_v c w q0) := by
  unfold fX10_sendMole_c53 at h
  cases h
  exact ev_r 1 (fun n => rfl)
def fX10_sendMole (m : mm_MM) : Option (mm_MM) :=
  (fX10_draw m 10).bind fun r1 =>
   (if r1.1 < r1.2.1 0 18 then
     (fX1_plots r1.2 14).bind fun r3 =>
      (fX10_draw r3.2 r3.1).bind fun r4 =>
       (fX7_placeOfPlot r4.2 29 r4.1).bind fun r5 =>
        (fX7_find r5.2 29 r5.1).bind fun r6 =>
         match r6.1 with
         | none =>
           fX10_sendMole_c53 r6.2
         | some u7 =>
           if mm_kd u7 = (9, 6) then
             fX10_sendMole_c53 (wI r6.2 u7 1 ((r6.2.1 u7 1 : Int32) / 2))
           else none
    else
     fX10_sendMole_c53 r1.2)
theorem ok_fX10_sendMole {m : mm_MM} {q0 : mm_MM} (h : fX10_sendMole m = some q0) : Ev XL xs (d + 4) 128 (ev_M m c w) 0 (lv_args 0 [.ref 0]) [] (fr_v c w q0) := by
  unfold fX10_sendMole at h
  obtain ⟨r1, hr1, h⟩ := Option.bind_eq_some_iff.mp h
  refine ev_c 3 (y' := 130) (M1 := ev_M m c w) (la := lv_args 0 [.ref 0, .int 10]) (rest := []) (pc' := 6) (lv' := [(0, .ref 0)]) (fun n => rfl) (ok_fX10_draw hr1) ?_
  show Ev XL xs _ 128 (ev_M r1.2 c w) 6 [(0, .ref 0)] [.int r1.1] _
  refine ev_i 3 (M1 := ev_M r1.2 c w) (pc1 := 13) (lv1 := [(0, .ref 0)]) (st1 := []) (M2 := ev_M r1.2 c w) (pc2 := 53) (lv2 := [(0, .ref 0)]) (st2 := []) (fun n => rfl) h (fun hc2 h => ?_) (fun hc2 h => ?_)
  · obtain ⟨r3, hr3, h⟩ := Option.bind_eq_some_iff.mp h
    refine ev_c 8 (y' := 4) (M1 := ev_M r1.2 c w) (la := lv_args 0 [.ref 14]) (rest := [.ref 0, .ref 29, .ref 29]) (pc' := 29) (lv' := [(0, .ref 0)]) (fun n => rfl) (ok_fX1_plots (rfl : mm_kd 14 = (1, 10)) hr3) ?_
    show Ev XL xs _ 128 (ev_M r3.2 c w) 29 [(0, .ref 0)] [.int r3.1, .ref 0, .ref 29, .ref 29] _
    obtain ⟨r4, hr4, h⟩ := Option.bind_eq_some_iff.mp h
    refine ev_c 1 (y' := 130) (M1 := ev_M r3.2 c w) (la := lv_args 0 [.ref 0, .int r3.1]) (rest := [.ref 29, .ref 29]) (pc' := 32) (lv' := [(0, .ref 0)]) (fun n => rfl) (ok_fX10_draw hr4) ?_
    show Ev XL xs _ 128 (ev_M r4.2 c w) 32 [(0, .ref 0)] [.int r4.1, .ref 29, .ref 29] _
    obtain ⟨r5, hr5, h⟩ := Option.bind_eq_some_iff.mp h
    refine ev_c 1 (y' := 71) (M1 := ev_M r4.2 c w) (la := lv_args 0 [.ref 29, .int r4.1]) (rest := [.ref 29]) (pc' := 35) (lv' := [(0, .ref 0)]) (fun n => rfl) (ok_fX7_placeOfPlot (rfl : mm_kd 29 = (7, 8)) hr5) ?_
    show Ev XL xs _ 128 (ev_M r5.2 c w) 35 [(0, .ref 0)] [.int r5.1, .ref 29] _
    obtain ⟨r6, hr6, h⟩ := Option.bind_eq_some_iff.mp h
    refine ev_c 1 (y' := 69) (M1 := ev_M r5.2 c w) (la := lv_args 0 [.ref 29, .int r5.1]) (rest := []) (pc' := 38) (lv' := [(0, .ref 0)]) (fun n => rfl) (ok_fX7_find (rfl : mm_kd 29 = (7, 8)) hr6) ?_
    show Ev XL xs _ 128 (ev_M r6.2 c w) 38 [(0, .ref 0)] [va_rf r6.1] _
    generalize r6.1 = o8 at h ⊢
    cases o8 with
    | none =>
      refine ev_s 3 (M' := ev_M r6.2 c w) (pc' := 53) (lv' := [(1, .null), (0, .ref 0)]) (st' := []) (fun n => rfl) ?_
      refine ev_sub (lv := []) (mn_of rfl (by repeat (first | exact trivial | refine And.intro rfl ?_))) ?_
      exact ok_fX10_sendMole_c53 h
    | some u7 =>
      obtain ⟨hk_u7, h⟩ := sd_ift h
      refine ev_s 5 (M' := ev_M r6.2 c w) (pc' := 45) (lv' := [(1, .ref u7), (0, .ref 0)]) (st' := [.ref u7, .ref u7]) (fun n => rfl) ?_
      refine ev_gf (x := .int (r6.2.1 u7 1)) rfl (congrArg Prod.fst hk_u7) rfl rfl ?_
      refine ev_s 2 (M' := ev_M r6.2 c w) (pc' := 50) (lv' := [(1, .ref u7), (0, .ref 0)]) (st' := [.int ((r6.2.1 u7 1 : Int32) / 2), .ref u7]) (fun n => rfl) ?_
      refine ev_pfi rfl (congrArg Prod.fst hk_u7) rfl rfl rfl ?_
      refine ev_sub (lv := []) (mn_of rfl (by repeat (first | exact trivial | refine And.intro rfl ?_))) ?_
      exact ok_fX10_sendMole_c53 h
  · refine ev_sub (lv := []) (mn_of rfl (by repeat (first | exact trivial | refine And.intro rfl ?_))) ?_
    exact ok_fX10_sendMole_c53 h
def fX10_sendThief_c33 (m : mm_MM) : Option (mm_MM) :=
  some m
theorem ok_fX10_sendThief_c33 {m : mm_MM} {q0 : mm_MM} (h : fX10_sendThief_c33 m = some q0) : Ev XL xs (d + 3) 129 (ev_M m c w) 33 [] [] (fr_v c w q0) := by
  unfold fX10_sendThief_c33 at h
  cases h
  exact ev_r 1 (fun n => rfl)
def fX10_sendThief (m : mm_MM) : Option (mm_MM) :=
  (fX10_draw m 10).bind fun r1 =>
   (if r1.1 < 2 then
     (fX10_draw r1.2 8).bind fun r3 =>
      (fX7_findLying r3.2 29 r3.1).bind fun r4 =>
       match r4.1 with
       | none =>
         fX10_sendThief_c33 r4.2
       | some u5 =>
         if mm_kd u5 = (9, 6) then
           fX10_sendThief_c33 (wI r4.2 u5 5 0)
         else none
    else
     fX10_sendThief_c33 r1.2)
theorem ok_fX10_sendThief {m : mm_MM} {q0 : mm_MM} (h : fX10_sendThief m = some q0) : Ev XL xs (d + 3) 129 (ev_M m c w) 0 (lv_args 0 [.ref 0]) [] (fr_v c w q0) := by
  unfold fX10_sendThief at h
  obtain ⟨r1, hr1, h⟩ := Option.bind_eq_some_iff.mp h
  refine ev_c 3 (y' := 130) (M1 := ev_M m c w) (la := lv_args 0 [.ref 0, .int 10]) (rest := []) (pc' := 6) (lv' := [(0, .ref 0)]) (fun n => rfl) (ok_fX10_draw hr1) ?_
  show Ev XL xs _ 129 (ev_M r1.2 c w) 6 [(0, .ref 0)] [.int r1.1] _
  refine ev_i 2 (M1 := ev_M r1.2 c w) (pc1 := 10) (lv1 := [(0, .ref 0)]) (st1 := []) (M2 := ev_M r1.2 c w) (pc2 := 33) (lv2 := [(0, .ref 0)]) (st2 := []) (fun n => rfl) h (fun hc2 h => ?_) (fun hc2 h => ?_)
  · obtain ⟨r3, hr3, h⟩ := Option.bind_eq_some_iff.mp h
    refine ev_c 5 (y' := 130) (M1 := ev_M r1.2 c w) (la := lv_args 0 [.ref 0, .int 8]) (rest := [.ref 29]) (pc' := 20) (lv' := [(0, .ref 0)]) (fun n => rfl) (ok_fX10_draw hr3) ?_
    show Ev XL xs _ 129 (ev_M r3.2 c w) 20 [(0, .ref 0)] [.int r3.1, .ref 29] _
    obtain ⟨r4, hr4, h⟩ := Option.bind_eq_some_iff.mp h
    refine ev_c 1 (y' := 70) (M1 := ev_M r3.2 c w) (la := lv_args 0 [.ref 29, .int r3.1]) (rest := []) (pc' := 23) (lv' := [(0, .ref 0)]) (fun n => rfl) (ok_fX7_findLying (rfl : mm_kd 29 = (7, 8)) hr4) ?_
    show Ev XL xs _ 129 (ev_M r4.2 c w) 23 [(0, .ref 0)] [va_rf r4.1] _
    generalize r4.1 = o6 at h ⊢
    cases o6 with
    | none =>
      refine ev_s 3 (M' := ev_M r4.2 c w) (pc' := 33) (lv' := [(1, .null), (0, .ref 0)]) (st' := []) (fun n => rfl) ?_
      refine ev_sub (lv := []) (mn_of rfl (by repeat (first | exact trivial | refine And.intro rfl ?_))) ?_
      exact ok_fX10_sendThief_c33 h
    | some u5 =>
      obtain ⟨hk_u5, h⟩ := sd_ift h
      refine ev_s 5 (M' := ev_M r4.2 c w) (pc' := 30) (lv' := [(1, .ref u5), (0, .ref 0)]) (st' := [.int 0, .ref u5]) (fun n => rfl) ?_
      refine ev_pfz (A := some ()) (q0 := ()) rfl (congrArg Prod.fst hk_u5) rfl rfl rfl (if_pos (by decide)) (fun _ => ?_)
      refine ev_sub (lv := []) (mn_of rfl (by repeat (first | exact trivial | refine And.intro rfl ?_))) ?_
      exact ok_fX10_sendThief_c33 h
  · refine ev_sub (lv := []) (mn_of rfl (by repeat (first | exact trivial | refine And.intro rfl ?_))) ?_
    exact ok_fX10_sendThief_c33 h
def fX10_years_c33 (m : mm_MM) : Option (Int32 × mm_MM) :=
  some (((-1) : Int32), m)
theorem ok_fX10_years_c33 {m : mm_MM} {q0 : Int32 × mm_MM} (h : fX10_years_c33 m = some q0) : Ev XL xs (d + 6) 127 (ev_M m c w) 33 [] [] (fr_i c w q0) := by
  unfold fX10_years_c33 at h
  cases h
  exact ev_r 2 (fun n => rfl)
def fX10_years_c43 : Nat → mm_MM → Int32 → Int32 → Option (Int32 × mm_MM)
  | 0 => fun _ _ _ => none
  | n + 1 => fun m x1 x4 =>
    (if x4 < x1 then
      (fX3_keep m 29).bind fun r2 =>
       (fX10_sendMole r2).bind fun r3 =>
        (fX10_sendThief r3).bind fun r4 =>
         (fX10_passMonth r4).bind fun r5 =>
          fX10_years_c43 n r5 x1 (x4 + 1)
     else
      some (m.1 29 7, m))
theorem ok_fX10_years_c43 : ∀ (n : Nat) (m : mm_MM) (x1 : Int32) (x4 : Int32) (q0 : Int32 × mm_MM), fX10_years_c43 n m x1 x4 = some q0 → Ev XL xs (d + 6) 127 (ev_M m c w) 43 [(0, .ref 0), (1, .int x1), (4, .int x4)] [] (fr_i c w q0) := by
  intro n
  induction n with
  | zero => intro m x1 x4 q0 h; exact absurd (show (none : Option (Int32 × mm_MM)) = some q0 from h) (by simp)
  | succ n ih =>
    intro m x1 x4 q0 h
    unfold fX10_years_c43 at h
    refine ev_i 3 (M1 := ev_M m c w) (pc1 := 49) (lv1 := [(0, .ref 0), (1, .int x1), (4, .int x4)]) (st1 := []) (M2 := ev_M m c w) (pc2 := 78) (lv2 := [(0, .ref 0), (1, .int x1), (4, .int x4)]) (st2 := []) (fun n => rfl) h (fun hc1 h => ?_) (fun hc1 h => ?_)
    · obtain ⟨r2, hr2, h⟩ := Option.bind_eq_some_iff.mp h
      refine ev_c 5 (y' := 41) (M1 := ev_M m c w) (la := lv_args 0 [.ref 55, .ref 29]) (rest := []) (pc' := 60) (lv' := [(0, .ref 0), (1, .int x1), (4, .int x4)]) (fun n => rfl) (ok_fX3_keep (rfl : mm_kd 29 = (7, 8)) hr2) ?_
      show Ev XL xs _ 127 (ev_M r2 c w) 60 [(0, .ref 0), (1, .int x1), (4, .int x4)] [] _
      obtain ⟨r3, hr3, h⟩ := Option.bind_eq_some_iff.mp h
      refine ev_c 2 (y' := 128) (M1 := ev_M r2 c w) (la := lv_args 0 [.ref 0]) (rest := []) (pc' := 64) (lv' := [(0, .ref 0), (1, .int x1), (4, .int x4)]) (fun n => rfl) (ok_fX10_sendMole hr3) ?_
      show Ev XL xs _ 127 (ev_M r3 c w) 64 [(0, .ref 0), (1, .int x1), (4, .int x4)] [] _
      obtain ⟨r4, hr4, h⟩ := Option.bind_eq_some_iff.mp h
      refine ev_c 2 (y' := 129) (M1 := ev_M r3 c w) (la := lv_args 0 [.ref 0]) (rest := []) (pc' := 68) (lv' := [(0, .ref 0), (1, .int x1), (4, .int x4)]) (fun n => rfl) (ok_fX10_sendThief hr4) ?_
      show Ev XL xs _ 127 (ev_M r4 c w) 68 [(0, .ref 0), (1, .int x1), (4, .int x4)] [] _
      obtain ⟨r5, hr5, h⟩ := Option.bind_eq_some_iff.mp h
      refine ev_c 2 (y' := 119) (M1 := ev_M r4 c w) (la := lv_args 0 [.ref 0]) (rest := []) (pc' := 72) (lv' := [(0, .ref 0), (1, .int x1), (4, .int x4)]) (fun n => rfl) (ok_fX10_passMonth hr5) ?_
      show Ev XL xs _ 127 (ev_M r5 c w) 72 [(0, .ref 0), (1, .int x1), (4, .int x4)] [] _
      refine ev_s 2 (M' := ev_M r5 c w) (pc' := 43) (lv' := [(4, .int (x4 + 1)), (0, .ref 0), (1, .int x1)]) (st' := []) (fun n => rfl) ?_
      refine ev_sub (lv := [(0, .ref 0), (1, .int x1), (4, .int (x4 + 1))]) (mn_of rfl (by repeat (first | exact trivial | refine And.intro rfl ?_))) ?_
      exact ih _ _ _ _ h
    · cases h
      exact ev_r 4 (fun n => rfl)
def fX10_years (m : mm_MM) (x1 : Int32) (x2 : Int64) : Option (Int32 × mm_MM) :=
  (if m.1 0 14 = 0 then
    fX10_years_c33 m
   else
    (if x1 < 1 then
      fX10_years_c33 m
     else
      (if x1 ≤ 60 then
        (if (m.1 29 7 + x1) ≤ 999 then
          fX10_years_c43 fu (wL m 0 19 x2) x1 0
         else
          fX10_years_c33 m)
       else
        fX10_years_c33 m)))
theorem ok_fX10_years {m : mm_MM} {x1 : Int32} {x2 : Int64} {q0 : Int32 × mm_MM} (h : fX10_years m x1 x2 = some q0) : Ev XL xs (d + 6) 127 (ev_M m c w) 0 (lv_args 0 [.ref 0, .int x1, .long x2]) [] (fr_i c w q0) := by
  unfold fX10_years at h
  refine ev_i 3 (M1 := ev_M m c w) (pc1 := 33) (lv1 := [(0, .ref 0), (1, .int x1), (2, .long x2)]) (st1 := []) (M2 := ev_M m c w) (pc2 := 7) (lv2 := [(0, .ref 0), (1, .int x1), (2, .long x2)]) (st2 := []) (fun n => rfl) h (fun hc1 h => ?_) (fun hc1 h => ?_)
  · refine ev_sub (lv := []) (mn_of rfl (by repeat (first | exact trivial | refine And.intro rfl ?_))) ?_
    exact ok_fX10_years_c33 h
  · refine ev_i 3 (M1 := ev_M m c w) (pc1 := 33) (lv1 := [(0, .ref 0), (1, .int x1), (2, .long x2)]) (st1 := []) (M2 := ev_M m c w) (pc2 := 12) (lv2 := [(0, .ref 0), (1, .int x1), (2, .long x2)]) (st2 := []) (fun n => rfl) h (fun hc2 h => ?_) (fun hc2 h => ?_)
    · refine ev_sub (lv := []) (mn_of rfl (by repeat (first | exact trivial | refine And.intro rfl ?_))) ?_
      exact ok_fX10_years_c33 h
    · refine ev_i 3 (M1 := ev_M m c w) (pc1 := 18) (lv1 := [(0, .ref 0), (1, .int x1), (2, .long x2)]) (st1 := []) (M2 := ev_M m c w) (pc2 := 33) (lv2 := [(0, .ref 0), (1, .int x1), (2, .long x2)]) (st2 := []) (fun n => rfl) h (fun hc3 h => ?_) (fun hc3 h => ?_)
      · refine ev_i 7 (M1 := ev_M m c w) (pc1 := 35) (lv1 := [(0, .ref 0), (1, .int x1), (2, .long x2)]) (st1 := []) (M2 := ev_M m c w) (pc2 := 33) (lv2 := [(0, .ref 0), (1, .int x1), (2, .long x2)]) (st2 := []) (fun n => rfl) h (fun hc4 h => ?_) (fun hc4 h => ?_)
        · refine ev_s 5 (M' := ev_M (wL m 0 19 x2) c w) (pc' := 43) (lv' := [(4, .int 0), (0, .ref 0), (1, .int x1), (2, .long x2)]) (st' := []) (fun n => rfl) ?_
          refine ev_sub (lv := [(0, .ref 0), (1, .int x1), (4, .int 0)]) (mn_of rfl (by repeat (first | exact trivial | refine And.intro rfl ?_))) ?_
          exact ok_fX10_years_c43 fu _ _ _ _ h
        · refine ev_sub (lv := []) (mn_of rfl (by repeat (first | exact trivial | refine And.intro rfl ?_))) ?_
          exact ok_fX10_years_c33 h
      · refine ev_sub (lv := []) (mn_of rfl (by repeat (first | exact trivial | refine And.intro rfl ?_))) ?_
        exact ok_fX10_years_c33 h
def fX10_status_c21 (m : mm_MM) (s0 : Int32) : Option (Int32 × mm_MM) :=
  some (s0, m)
theorem ok_fX10_status_c21 {m : mm_MM} {s0 : Int32} {q0 : Int32 × mm_MM} (h : fX10_status_c21 m s0 = some q0) : Ev XL xs (d + 1) 131 (ev_M m c w) 21 [] [.int s0] (fr_i c w q0) := by
  unfold fX10_status_c21 at h
  cases h
  exact ev_r 1 (fun n => rfl)
def fX10_status_c20 (m : mm_MM) : Option (Int32 × mm_MM) :=
  fX10_status_c21 m ((-1) : Int32)
theorem ok_fX10_status_c20 {m : mm_MM} {q0 : Int32 × mm_MM} (h : fX10_status_c20 m = some q0) : Ev XL xs (d + 1) 131 (ev_M m c w) 20 [] [] (fr_i c w q0) := by
  unfold fX10_status_c20 at h
  refine ev_s 1 (M' := ev_M m c w) (pc' := 21) (lv' := []) (st' := [.int ((-1) : Int32)]) (fun n => rfl) ?_
  exact ok_fX10_status_c21 h
def fX10_status (m : mm_MM) (x1 : Int32) : Option (Int32 × mm_MM) :=
  (if x1 < 0 then
    fX10_status_c20 m
   else
    (if x1 < 5 then
      (fX10_pick m 592 x1).bind fun r3 =>
       fX10_status_c21 r3.2 r3.1
     else
      fX10_status_c20 m))
theorem ok_fX10_status {m : mm_MM} {x1 : Int32} {q0 : Int32 × mm_MM} (h : fX10_status m x1 = some q0) : Ev XL xs (d + 1) 131 (ev_M m c w) 0 (lv_args 0 [.ref 0, .int x1]) [] (fr_i c w q0) := by
  unfold fX10_status at h
  refine ev_i 2 (M1 := ev_M m c w) (pc1 := 20) (lv1 := [(0, .ref 0), (1, .int x1)]) (st1 := []) (M2 := ev_M m c w) (pc2 := 4) (lv2 := [(0, .ref 0), (1, .int x1)]) (st2 := []) (fun n => rfl) h (fun hc1 h => ?_) (fun hc1 h => ?_)
  · refine ev_sub (lv := []) (mn_of rfl (by repeat (first | exact trivial | refine And.intro rfl ?_))) ?_
    exact ok_fX10_status_c20 h
  · refine ev_i 3 (M1 := ev_M m c w) (pc1 := 9) (lv1 := [(0, .ref 0), (1, .int x1)]) (st1 := []) (M2 := ev_M m c w) (pc2 := 20) (lv2 := [(0, .ref 0), (1, .int x1)]) (st2 := []) (fun n => rfl) h (fun hc2 h => ?_) (fun hc2 h => ?_)
    · obtain ⟨r3, hr3, h⟩ := Option.bind_eq_some_iff.mp h
      refine ev_c 4 (y' := 175) (M1 := ev_M m c w) (la := lv_args 0 [.ref 592, .int x1]) (rest := []) (pc' := 17) (lv' := [(0, .ref 0), (1, .int x1)]) (fun n => rfl) (ok_fX10_pick (congrArg Prod.fst (rfl : mm_kd 592 = (20, 5))) hr3) ?_
      show Ev XL xs _ 131 (ev_M r3.2 c w) 17 [(0, .ref 0), (1, .int x1)] [.int r3.1] _
      refine ev_s 1 (M' := ev_M r3.2 c w) (pc' := 21) (lv' := [(0, .ref 0), (1, .int x1)]) (st' := [.int r3.1]) (fun n => rfl) ?_
      refine ev_sub (lv := []) (mn_of rfl (by repeat (first | exact trivial | refine And.intro rfl ?_))) ?_
      exact ok_fX10_status_c21 h
    · refine ev_sub (lv := []) (mn_of rfl (by repeat (first | exact trivial | refine And.intro rfl ?_))) ?_
      exact ok_fX10_status_c20 h
def fX10_undo_c25 (m : mm_MM) (s0 : Int32) : Option (Int32 × mm_MM) :=
  some (s0, m)
theorem ok_fX10_undo_c25 {m : mm_MM} {s0 : Int32} {q0 : Int32 × mm_MM} (h : fX10_undo_c25 m s0 = some q0) : Ev XL xs (d + 3) 132 (ev_M m c w) 25 [] [.int s0] (fr_i c w q0) := by
  unfold fX10_undo_c25 at h
  cases h
  exact ev_r 1 (fun n => rfl)
def fX10_undo (m : mm_MM) : Option (Int32 × mm_MM) :=
  (fX3_restore m 29).bind fun r1 =>
   (if r1.1 = 0 then
     fX10_undo_c25 r1.2 ((-1) : Int32)
    else
     (fX3_size r1.2).bind fun r3 =>
      fX10_undo_c25 r3.2 r3.1)
theorem ok_fX10_undo {m : mm_MM} {q0 : Int32 × mm_MM} (h : fX10_undo m = some q0) : Ev XL xs (d + 3) 132 (ev_M m c w) 0 (lv_args 0 [.ref 0]) [] (fr_i c w q0) := by
  unfold fX10_undo at h
  obtain ⟨r1, hr1, h⟩ := Option.bind_eq_some_iff.mp h
  refine ev_c 5 (y' := 42) (M1 := ev_M m c w) (la := lv_args 0 [.ref 55, .ref 29]) (rest := []) (pc' := 11) (lv' := [(0, .ref 0)]) (fun n => rfl) (ok_fX3_restore (rfl : mm_kd 29 = (7, 8)) hr1) ?_
  show Ev XL xs _ 132 (ev_M r1.2 c w) 11 [(0, .ref 0)] [.int r1.1] _
  refine ev_i 1 (M1 := ev_M r1.2 c w) (pc1 := 24) (lv1 := [(0, .ref 0)]) (st1 := []) (M2 := ev_M r1.2 c w) (pc2 := 14) (lv2 := [(0, .ref 0)]) (st2 := []) (fun n => rfl) h (fun hc2 h => ?_) (fun hc2 h => ?_)
  · refine ev_s 1 (M' := ev_M r1.2 c w) (pc' := 25) (lv' := [(0, .ref 0)]) (st' := [.int ((-1) : Int32)]) (fun n => rfl) ?_
    refine ev_sub (lv := []) (mn_of rfl (by repeat (first | exact trivial | refine And.intro rfl ?_))) ?_
    exact ok_fX10_undo_c25 h
  · obtain ⟨r3, hr3, h⟩ := Option.bind_eq_some_iff.mp h
    refine ev_c 3 (y' := 39) (M1 := ev_M r1.2 c w) (la := lv_args 0 [.ref 55]) (rest := []) (pc' := 21) (lv' := [(0, .ref 0)]) (fun n => rfl) (ok_fX3_size hr3) ?_
    show Ev XL xs _ 132 (ev_M r3.2 c w) 21 [(0, .ref 0)] [.int r3.1] _
    refine ev_s 1 (M' := ev_M r3.2 c w) (pc' := 25) (lv' := [(0, .ref 0)]) (st' := [.int r3.1]) (fun n => rfl) ?_
    refine ev_sub (lv := []) (mn_of rfl (by repeat (first | exact trivial | refine And.intro rfl ?_))) ?_
    exact ok_fX10_undo_c25 h
def fX10_log_c15 (m : mm_MM) : Option (Int32 × mm_MM) :=
  some (((-1) : Int32), m)
set_option maxRecDepth 20000 in
theorem ok_fX10_log_c15 {m : mm_MM} {q0 : Int32 × mm_MM} (h : fX10_log_c15 m = some q0) : Ev XL xs (d + 1) 133 (ev_M m c w) 15 [] [] (fr_i c w q0) := by
  unfold fX10_log_c15 at h
  cases h
  exact ev_r 2 (fun n => rfl)
def fX10_log (m : mm_MM) (x1 : Int32) (x2 : Int32) : Option (Int32 × mm_MM) :=
  (if x1 < 0 then
    fX10_log_c15 m
   else
    (if x1 < m.1 29 4 then
      (fJ9_floorMod_7cf53 m ((m.1 29 5 - 1) - x1) 60).bind fun r3 =>
       (if x2 = 0 then
         (fX10_pick r3.2 31 r3.1).bind fun r4 =>
          some (r4.1, r4.2)
        else (if x2 = 1 then
         (fX10_pick r3.2 32 r3.1).bind fun r6 =>
          some (r6.1, r6.2)
        else (if x2 = 2 then
         (fX10_pick r3.2 33 r3.1).bind fun r8 =>
          some (r8.1, r8.2)
        else some (((-1) : Int32), r3.2))))
     else
      fX10_log_c15 m))
set_option maxRecDepth 20000 in
theorem ok_fX10_log {m : mm_MM} {x1 : Int32} {x2 : Int32} {q0 : Int32 × mm_MM} (h : fX10_log m x1 x2 = some q0) : Ev XL xs (d + 1) 133 (ev_M m c w) 0 (lv_args 0 [.ref 0, .int x1, .int x2]) [] (fr_i c w q0) := by
  unfold fX10_log at h
  refine ev_i 2 (M1 := ev_M m c w) (pc1 := 15) (lv1 := [(0, .ref 0), (1, .int x1), (2, .int x2)]) (st1 := []) (M2 := ev_M m c w) (pc2 := 4) (lv2 := [(0, .ref 0), (1, .int x1), (2, .int x2)]) (st2 := []) (fun n => rfl) h (fun hc1 h => ?_) (fun hc1 h => ?_)
  · refine ev_sub (lv := []) (mn_of rfl (by repeat (first | exact trivial | refine And.intro rfl ?_))) ?_
    exact ok_fX10_log_c15 h
  · refine ev_i 5 (M1 := ev_M m c w) (pc1 := 17) (lv1 := [(0, .ref 0), (1, .int x1), (2, .int x2)]) (st1 := []) (M2 := ev_M m c w) (pc2 := 15) (lv2 := [(0, .ref 0), (1, .int x1), (2, .int x2)]) (st2 := []) (fun n => rfl) h (fun hc2 h => ?_) (fun hc2 h => ?_)
    · obtain ⟨r3, hr3, h⟩ := Option.bind_eq_some_iff.mp h
      refine ev_c 9 (y' := 304) (M1 := ev_M m c w) (la := lv_args 0 [.int ((m.1 29 5 - 1) - x1), .int 60]) (rest := []) (pc' := 33) (lv' := [(0, .ref 0), (1, .int x1), (2, .int x2)]) (fun n => rfl) (ok_fJ9_floorMod_7cf53 hr3) ?_
      show Ev XL xs _ 133 (ev_M r3.2 c w) 33 [(0, .ref 0), (1, .int x1), (2, .int x2)] [.int r3.1] _
      refine ev_s 2 (M' := ev_M r3.2 c w) (pc' := 35) (lv' := [(3, .int r3.1), (0, .ref 0), (1, .int x1), (2, .int x2)]) (st' := [.int x2]) (fun n => rfl) ?_
      refine ev_e 0 h (fun hv5 h => ?_) (fun hv5 h => ?_)
      · refine ev_s 1 (M' := ev_M r3.2 c w) (pc' := 60) (lv' := [(3, .int r3.1), (0, .ref 0), (1, .int x1), (2, .int x2)]) (st' := []) (fun n => by rw [hv5]; rfl) ?_
        obtain ⟨r4, hr4, h⟩ := Option.bind_eq_some_iff.mp h
        refine ev_c 5 (y' := 175) (M1 := ev_M r3.2 c w) (la := lv_args 0 [.ref 31, .int r3.1]) (rest := []) (pc' := 71) (lv' := [(3, .int r3.1), (0, .ref 0), (1, .int x1), (2, .int x2)]) (fun n => rfl) (ok_fX10_pick (congrArg Prod.fst (rfl : mm_kd 31 = (20, 60))) hr4) ?_
        show Ev XL xs _ 133 (ev_M r4.2 c w) 71 [(3, .int r3.1), (0, .ref 0), (1, .int x1), (2, .int x2)] [.int r4.1] _
        cases h
        exact ev_r 1 (fun n => rfl)
      refine ev_e 1 h (fun hv7 h => ?_) (fun hv7 h => ?_)
      · refine ev_s 1 (M' := ev_M r3.2 c w) (pc' := 72) (lv' := [(3, .int r3.1), (0, .ref 0), (1, .int x1), (2, .int x2)]) (st' := []) (fun n => by rw [hv7]; rfl) ?_
        obtain ⟨r6, hr6, h⟩ := Option.bind_eq_some_iff.mp h
        refine ev_c 5 (y' := 175) (M1 := ev_M r3.2 c w) (la := lv_args 0 [.ref 32, .int r3.1]) (rest := []) (pc' := 83) (lv' := [(3, .int r3.1), (0, .ref 0), (1, .int x1), (2, .int x2)]) (fun n => rfl) (ok_fX10_pick (congrArg Prod.fst (rfl : mm_kd 32 = (20, 60))) hr6) ?_
        show Ev XL xs _ 133 (ev_M r6.2 c w) 83 [(3, .int r3.1), (0, .ref 0), (1, .int x1), (2, .int x2)] [.int r6.1] _
        cases h
        exact ev_r 1 (fun n => rfl)
      refine ev_e 2 h (fun hv9 h => ?_) (fun hv9 h => ?_)
      · refine ev_s 1 (M' := ev_M r3.2 c w) (pc' := 84) (lv' := [(3, .int r3.1), (0, .ref 0), (1, .int x1), (2, .int x2)]) (st' := []) (fun n => by rw [hv9]; rfl) ?_
        obtain ⟨r8, hr8, h⟩ := Option.bind_eq_some_iff.mp h
        refine ev_c 5 (y' := 175) (M1 := ev_M r3.2 c w) (la := lv_args 0 [.ref 33, .int r3.1]) (rest := []) (pc' := 95) (lv' := [(3, .int r3.1), (0, .ref 0), (1, .int x1), (2, .int x2)]) (fun n => rfl) (ok_fX10_pick (congrArg Prod.fst (rfl : mm_kd 33 = (20, 60))) hr8) ?_
        show Ev XL xs _ 133 (ev_M r8.2 c w) 95 [(3, .int r3.1), (0, .ref 0), (1, .int x1), (2, .int x2)] [.int r8.1] _
        cases h
        exact ev_r 1 (fun n => rfl)
      have ghv5 : (x2 : Int32).toInt ≠ 0 := fun z => hv5 (Int32.toInt_inj.mp (z.trans rfl))
      have ghv7 : (x2 : Int32).toInt ≠ 1 := fun z => hv7 (Int32.toInt_inj.mp (z.trans rfl))
      have ghv9 : (x2 : Int32).toInt ≠ 2 := fun z => hv9 (Int32.toInt_inj.mp (z.trans rfl))
      refine ev_td (M' := ev_M r3.2 c w) (pc' := 96) (lv' := [(3, .int r3.1), (0, .ref 0), (1, .int x1), (2, .int x2)]) (st' := []) rfl (by omega) rfl ?_
      cases h
      exact ev_r 2 (fun n => rfl)
    · refine ev_sub (lv := []) (mn_of rfl (by repeat (first | exact trivial | refine And.intro rfl ?_))) ?_
      exact ok_fX10_log_c15 h
def fX10_grown_c23 (m : mm_MM) : Option (Int32 × mm_MM) :=
  some (((-1) : Int32), m)
theorem ok_fX10_grown_c23 {m : mm_MM} {q0 : Int32 × mm_MM} (h : fX10_grown_c23 m = some q0) : Ev XL xs (d + 5) 134 (ev_M m c w) 23 [] [] (fr_i c w q0) := by
  unfold fX10_grown_c23 at h
  cases h
  exact ev_r 2 (fun n => rfl)
def fX10_grown (m : mm_MM) (x1 : Int32) (x2 : Int32) : Option (Int32 × mm_MM) :=
  (fX7_find m 29 x1).bind fun r1 =>
   match r1.1 with
   | none =>
     fX10_grown_c23 r1.2
   | some u2 =>
     if mm_kd u2 = (9, 6) then
       (if x2 < 0 then
         fX10_grown_c23 r1.2
        else
         (if x2 ≤ 99 then
           (if r1.2.1 u2 3 = ((-1) : Int32) then
             some (r1.2.1 u2 1, r1.2)
            else
             (fX10_startFrom r1.2 u2).bind fun r6 =>
              (fX10_grow r6 x2).bind fun r7 =>
               some (r7.1 583 0, r7))
          else
           fX10_grown_c23 r1.2))
     else none
theorem ok_fX10_grown {m : mm_MM} {x1 : Int32} {x2 : Int32} {q0 : Int32 × mm_MM} (h : fX10_grown m x1 x2 = some q0) : Ev XL xs (d + 5) 134 (ev_M m c w) 0 (lv_args 0 [.ref 0, .int x1, .int x2]) [] (fr_i c w q0) := by
  unfold fX10_grown at h
  obtain ⟨r1, hr1, h⟩ := Option.bind_eq_some_iff.mp h
  refine ev_c 4 (y' := 69) (M1 := ev_M m c w) (la := lv_args 0 [.ref 29, .int x1]) (rest := []) (pc' := 8) (lv' := [(0, .ref 0), (1, .int x1), (2, .int x2)]) (fun n => rfl) (ok_fX7_find (rfl : mm_kd 29 = (7, 8)) hr1) ?_
  show Ev XL xs _ 134 (ev_M r1.2 c w) 8 [(0, .ref 0), (1, .int x1), (2, .int x2)] [va_rf r1.1] _
  generalize r1.1 = o8 at h ⊢
  cases o8 with
  | none =>
    refine ev_s 3 (M' := ev_M r1.2 c w) (pc' := 23) (lv' := [(3, .null), (0, .ref 0), (1, .int x1), (2, .int x2)]) (st' := []) (fun n => rfl) ?_
    refine ev_sub (lv := []) (mn_of rfl (by repeat (first | exact trivial | refine And.intro rfl ?_))) ?_
    exact ok_fX10_grown_c23 h
  | some u2 =>
    obtain ⟨hk_u2, h⟩ := sd_ift h
    refine ev_i 5 (M1 := ev_M r1.2 c w) (pc1 := 23) (lv1 := [(3, .ref u2), (0, .ref 0), (1, .int x1), (2, .int x2)]) (st1 := []) (M2 := ev_M r1.2 c w) (pc2 := 17) (lv2 := [(3, .ref u2), (0, .ref 0), (1, .int x1), (2, .int x2)]) (st2 := []) (fun n => rfl) h (fun hc3 h => ?_) (fun hc3 h => ?_)
    · refine ev_sub (lv := []) (mn_of rfl (by repeat (first | exact trivial | refine And.intro rfl ?_))) ?_
      exact ok_fX10_grown_c23 h
    · refine ev_i 3 (M1 := ev_M r1.2 c w) (pc1 := 25) (lv1 := [(3, .ref u2), (0, .ref 0), (1, .int x1), (2, .int x2)]) (st1 := []) (M2 := ev_M r1.2 c w) (pc2 := 23) (lv2 := [(3, .ref u2), (0, .ref 0), (1, .int x1), (2, .int x2)]) (st2 := []) (fun n => rfl) h (fun hc4 h => ?_) (fun hc4 h => ?_)
      · refine ev_s 1 (M' := ev_M r1.2 c w) (pc' := 26) (lv' := [(3, .ref u2), (0, .ref 0), (1, .int x1), (2, .int x2)]) (st' := [.ref u2]) (fun n => rfl) ?_
        refine ev_gf (x := .int (r1.2.1 u2 3)) rfl (congrArg Prod.fst hk_u2) rfl rfl ?_
        refine ev_i 2 (M1 := ev_M r1.2 c w) (pc1 := 33) (lv1 := [(3, .ref u2), (0, .ref 0), (1, .int x1), (2, .int x2)]) (st1 := []) (M2 := ev_M r1.2 c w) (pc2 := 38) (lv2 := [(3, .ref u2), (0, .ref 0), (1, .int x1), (2, .int x2)]) (st2 := []) (fun n => rfl) h (fun hc5 h => ?_) (fun hc5 h => ?_)
        · refine ev_s 1 (M' := ev_M r1.2 c w) (pc' := 34) (lv' := [(3, .ref u2), (0, .ref 0), (1, .int x1), (2, .int x2)]) (st' := [.ref u2]) (fun n => rfl) ?_
          refine ev_gf (x := .int (r1.2.1 u2 1)) rfl (congrArg Prod.fst hk_u2) rfl rfl ?_
          cases h
          exact ev_r 1 (fun n => rfl)
        · obtain ⟨r6, hr6, h⟩ := Option.bind_eq_some_iff.mp h
          refine ev_c 3 (y' := 120) (M1 := ev_M r1.2 c w) (la := lv_args 0 [.ref 0, .ref u2]) (rest := []) (pc' := 43) (lv' := [(3, .ref u2), (0, .ref 0), (1, .int x1), (2, .int x2)]) (fun n => rfl) (ok_fX10_startFrom hk_u2 hr6) ?_
          show Ev XL xs _ 134 (ev_M r6 c w) 43 [(3, .ref u2), (0, .ref 0), (1, .int x1), (2, .int x2)] [] _
          obtain ⟨r7, hr7, h⟩ := Option.bind_eq_some_iff.mp h
          refine ev_c 3 (y' := 121) (M1 := ev_M r6 c w) (la := lv_args 0 [.ref 0, .int x2]) (rest := []) (pc' := 48) (lv' := [(3, .ref u2), (0, .ref 0), (1, .int x1), (2, .int x2)]) (fun n => rfl) (ok_fX10_grow hr7) ?_
          show Ev XL xs _ 134 (ev_M r7 c w) 48 [(3, .ref u2), (0, .ref 0), (1, .int x1), (2, .int x2)] [] _
          cases h
          exact ev_r 4 (fun n => rfl)
      · refine ev_sub (lv := []) (mn_of rfl (by repeat (first | exact trivial | refine And.intro rfl ?_))) ?_
        exact ok_fX10_grown_c23 h
def fX10_monthsToRipe_c7 : Nat → mm_MM → Int32 → Int32 → Option (Int32 × mm_MM)
  | 0 => fun _ _ _ => none
  | n + 1 => fun m x2 x3 =>
    (if x3 ≤ 99 then
      (if x2 < m.1 14 5 then
        (fX10_lainAfter m x2 (m.1 29 7 + x3)).bind fun r3 =>
         fX10_monthsToRipe_c7 n r3.2 r3.1 (x3 + 1)
       else
        some (x3, m))
     else
      some (((-1) : Int32), m))
theorem ok_fX10_monthsToRipe_c7 : ∀ (n : Nat) (m : mm_MM) (x2 : Int32) (x3 : Int32) (q0 : Int32 × mm_MM), fX10_monthsToRipe_c7 n m x2 x3 = some q0 → Ev XL xs (d + 2) 136 (ev_M m c w) 7 [(0, .ref 0), (2, .int x2), (3, .int x3)] [] (fr_i c w q0) := by
  intro n
  induction n with
  | zero => intro m x2 x3 q0 h; exact absurd (show (none : Option (Int32 × mm_MM)) = some q0 from h) (by simp)
  | succ n ih =>
    intro m x2 x3 q0 h
    unfold fX10_monthsToRipe_c7 at h
    refine ev_i 3 (M1 := ev_M m c w) (pc1 := 13) (lv1 := [(0, .ref 0), (2, .int x2), (3, .int x3)]) (st1 := []) (M2 := ev_M m c w) (pc2 := 47) (lv2 := [(0, .ref 0), (2, .int x2), (3, .int x3)]) (st2 := []) (fun n => rfl) h (fun hc1 h => ?_) (fun hc1 h => ?_)
    · refine ev_i 5 (M1 := ev_M m c w) (pc1 := 26) (lv1 := [(0, .ref 0), (2, .int x2), (3, .int x3)]) (st1 := []) (M2 := ev_M m c w) (pc2 := 24) (lv2 := [(0, .ref 0), (2, .int x2), (3, .int x3)]) (st2 := []) (fun n => rfl) h (fun hc2 h => ?_) (fun hc2 h => ?_)
      · obtain ⟨r3, hr3, h⟩ := Option.bind_eq_some_iff.mp h
        refine ev_c 8 (y' := 124) (M1 := ev_M m c w) (la := lv_args 0 [.ref 0, .int x2, .int (m.1 29 7 + x3)]) (rest := []) (pc' := 40) (lv' := [(0, .ref 0), (2, .int x2), (3, .int x3)]) (fun n => rfl) (ok_fX10_lainAfter hr3) ?_
        show Ev XL xs _ 136 (ev_M r3.2 c w) 40 [(0, .ref 0), (2, .int x2), (3, .int x3)] [.int r3.1] _
        refine ev_s 3 (M' := ev_M r3.2 c w) (pc' := 7) (lv' := [(3, .int (x3 + 1)), (2, .int r3.1), (0, .ref 0)]) (st' := []) (fun n => rfl) ?_
        refine ev_sub (lv := [(0, .ref 0), (2, .int r3.1), (3, .int (x3 + 1))]) (mn_of rfl (by repeat (first | exact trivial | refine And.intro rfl ?_))) ?_
        exact ih _ _ _ _ h
      · cases h
        exact ev_r 2 (fun n => rfl)
    · cases h
      exact ev_r 2 (fun n => rfl)
def fX10_monthsToRipe (m : mm_MM) (t1 : Nat) : Option (Int32 × mm_MM) :=
  fX10_monthsToRipe_c7 fu m (m.1 t1 4) 0
theorem ok_fX10_monthsToRipe {m : mm_MM} {t1 : Nat} {q0 : Int32 × mm_MM} (hk_t1 : mm_kd t1 = (9, 6)) (h : fX10_monthsToRipe m t1 = some q0) : Ev XL xs (d + 2) 136 (ev_M m c w) 0 (lv_args 0 [.ref 0, .ref t1]) [] (fr_i c w q0) := by
  unfold fX10_monthsToRipe at h
  refine ev_s 1 (M' := ev_M m c w) (pc' := 1) (lv' := [(0, .ref 0), (1, .ref t1)]) (st' := [.ref t1]) (fun n => rfl) ?_
  refine ev_gf (x := .int (m.1 t1 4)) rfl (congrArg Prod.fst hk_t1) rfl rfl ?_
  refine ev_s 3 (M' := ev_M m c w) (pc' := 7) (lv' := [(3, .int 0), (2, .int (m.1 t1 4)), (0, .ref 0), (1, .ref t1)]) (st' := []) (fun n => rfl) ?_
  refine ev_sub (lv := [(0, .ref 0), (2, .int (m.1 t1 4)), (3, .int 0)]) (mn_of rfl (by repeat (first | exact trivial | refine And.intro rfl ?_))) ?_
  exact ok_fX10_monthsToRipe_c7 fu _ _ _ _ h
def fX10_ripeIn_c22 (m : mm_MM) (s0 : Int32) : Option (Int32 × mm_MM) :=
  some (s0, m)
theorem ok_fX10_ripeIn_c22 {m : mm_MM} {s0 : Int32} {q0 : Int32 × mm_MM} (h : fX10_ripeIn_c22 m s0 = some q0) : Ev XL xs (d + 3) 135 (ev_M m c w) 22 [] [.int s0] (fr_i c w q0) := by
  unfold fX10_ripeIn_c22 at h
  cases h
  exact ev_r 1 (fun n => rfl)
def fX10_ripeIn (m : mm_MM) (x1 : Int32) : Option (Int32 × mm_MM) :=
  (fX7_findLying m 29 x1).bind fun r1 =>
   match r1.1 with
   | none =>
     fX10_ripeIn_c22 r1.2 ((-1) : Int32)
   | some u2 =>
     if mm_kd u2 = (9, 6) then
       (fX10_monthsToRipe r1.2 u2).bind fun r3 =>
        fX10_ripeIn_c22 r3.2 r3.1
     else none
theorem ok_fX10_ripeIn {m : mm_MM} {x1 : Int32} {q0 : Int32 × mm_MM} (h : fX10_ripeIn m x1 = some q0) : Ev XL xs (d + 3) 135 (ev_M m c w) 0 (lv_args 0 [.ref 0, .int x1]) [] (fr_i c w q0) := by
  unfold fX10_ripeIn at h
  obtain ⟨r1, hr1, h⟩ := Option.bind_eq_some_iff.mp h
  refine ev_c 4 (y' := 70) (M1 := ev_M m c w) (la := lv_args 0 [.ref 29, .int x1]) (rest := []) (pc' := 8) (lv' := [(0, .ref 0), (1, .int x1)]) (fun n => rfl) (ok_fX7_findLying (rfl : mm_kd 29 = (7, 8)) hr1) ?_
  show Ev XL xs _ 135 (ev_M r1.2 c w) 8 [(0, .ref 0), (1, .int x1)] [va_rf r1.1] _
  generalize r1.1 = o4 at h ⊢
  cases o4 with
  | none =>
    refine ev_s 5 (M' := ev_M r1.2 c w) (pc' := 22) (lv' := [(2, .null), (0, .ref 0), (1, .int x1)]) (st' := [.int ((-1) : Int32)]) (fun n => rfl) ?_
    refine ev_sub (lv := []) (mn_of rfl (by repeat (first | exact trivial | refine And.intro rfl ?_))) ?_
    exact ok_fX10_ripeIn_c22 h
  | some u2 =>
    obtain ⟨hk_u2, h⟩ := sd_ift h
    obtain ⟨r3, hr3, h⟩ := Option.bind_eq_some_iff.mp h
    refine ev_c 6 (y' := 136) (M1 := ev_M r1.2 c w) (la := lv_args 0 [.ref 0, .ref u2]) (rest := []) (pc' := 22) (lv' := [(2, .ref u2), (0, .ref 0), (1, .int x1)]) (fun n => rfl) (ok_fX10_monthsToRipe hk_u2 hr3) ?_
    show Ev XL xs _ 135 (ev_M r3.2 c w) 22 [(2, .ref u2), (0, .ref 0), (1, .int x1)] [.int r3.1] _
    refine ev_sub (lv := []) (mn_of rfl (by repeat (first | exact trivial | refine And.intro rfl ?_))) ?_
    exact ok_fX10_ripeIn_c22 h
def fX10_best_c22 (m : mm_MM) : Option (Int32 × mm_MM) :=
  some (((-1) : Int32), m)
set_option maxRecDepth 20000 in
theorem ok_fX10_best_c22 {m : mm_MM} {q0 : Int32 × mm_MM} (h : fX10_best_c22 m = some q0) : Ev XL xs (d + 5) 137 (ev_M m c w) 22 [] [] (fr_i c w q0) := by
  unfold fX10_best_c22 at h
  cases h
  exact ev_r 2 (fun n => rfl)
def fX10_best_c87 (kr38 : mm_MM → Int32 → Int32 → Int32 → Int32 → Option (Int32 × mm_MM)) (m : mm_MM) (x2 : Int32) (x4 : Int32) (x5 : Int32) (x6 : Int32) : Option (Int32 × mm_MM) :=
  (fX10_grow m 1).bind fun r1 =>
   kr38 r1 x2 x4 x5 (x6 + 1)
set_option maxRecDepth 20000 in
theorem ok_fX10_best_c87 {kr38 : mm_MM → Int32 → Int32 → Int32 → Int32 → Option (Int32 × mm_MM)} (hkr38 : ∀ (m : mm_MM) (x2 : Int32) (x4 : Int32) (x5 : Int32) (x6 : Int32) (q0 : Int32 × mm_MM), kr38 m x2 x4 x5 x6 = some q0 → Ev XL xs (d + 5) 137 (ev_M m c w) 38 [(0, .ref 0), (2, .int x2), (4, .int x4), (5, .int x5), (6, .int x6)] [] (fr_i c w q0)) {m : mm_MM} {x2 : Int32} {x4 : Int32} {x5 : Int32} {x6 : Int32} {q0 : Int32 × mm_MM} (h : fX10_best_c87 kr38 m x2 x4 x5 x6 = some q0) : Ev XL xs (d + 5) 137 (ev_M m c w) 87 [(0, .ref 0), (2, .int x2), (4, .int x4), (5, .int x5), (6, .int x6)] [] (fr_i c w q0) := by
  unfold fX10_best_c87 at h
  obtain ⟨r1, hr1, h⟩ := Option.bind_eq_some_iff.mp h
  refine ev_c 3 (y' := 121) (M1 := ev_M m c w) (la := lv_args 0 [.ref 0, .int 1]) (rest := []) (pc' := 92) (lv' := [(0, .ref 0), (2, .int x2), (4, .int x4), (5, .int x5), (6, .int x6)]) (fun n => rfl) (ok_fX10_grow hr1) ?_
  show Ev XL xs _ 137 (ev_M r1 c w) 92 [(0, .ref 0), (2, .int x2), (4, .int x4), (5, .int x5), (6, .int x6)] [] _
  refine ev_s 2 (M' := ev_M r1 c w) (pc' := 38) (lv' := [(6, .int (x6 + 1)), (0, .ref 0), (2, .int x2), (4, .int x4), (5, .int x5)]) (st' := []) (fun n => rfl) ?_
  refine ev_sub (lv := [(0, .ref 0), (2, .int x2), (4, .int x4), (5, .int x5), (6, .int (x6 + 1))]) (mn_of rfl (by repeat (first | exact trivial | refine And.intro rfl ?_))) ?_
  exact hkr38 _ _ _ _ _ _ h
def fX10_best_c109 (m : mm_MM) (s0 : Int32) : Option (Int32 × mm_MM) :=
  some (s0, m)
set_option maxRecDepth 20000 in
theorem ok_fX10_best_c109 {m : mm_MM} {s0 : Int32} {q0 : Int32 × mm_MM} (h : fX10_best_c109 m s0 = some q0) : Ev XL xs (d + 5) 137 (ev_M m c w) 109 [] [.int s0] (fr_i c w q0) := by
  unfold fX10_best_c109 at h
  cases h
  exact ev_r 1 (fun n => rfl)
def fX10_best_c38 : Nat → mm_MM → Int32 → Int32 → Int32 → Int32 → Option (Int32 × mm_MM)
  | 0 => fun _ _ _ _ _ => none
  | n + 1 => fun m x2 x4 x5 x6 =>
    (if x6 ≤ 60 then
      (if m.1 583 2 < m.1 14 5 then
        fX10_best_c87 (fX10_best_c38 n) m x2 x4 x5 x6
       else
        (if m.1 583 0 ≤ x5 then
          fX10_best_c87 (fX10_best_c38 n) m x2 x4 x5 x6
         else
          fX10_best_c87 (fX10_best_c38 n) m x2 x6 (m.1 583 0) x6))
     else
      (if x2 = 0 then
        fX10_best_c109 m x4
       else
        fX10_best_c109 m x5))
set_option maxRecDepth 20000 in
theorem ok_fX10_best_c38 : ∀ (n : Nat) (m : mm_MM) (x2 : Int32) (x4 : Int32) (x5 : Int32) (x6 : Int32) (q0 : Int32 × mm_MM), fX10_best_c38 n m x2 x4 x5 x6 = some q0 → Ev XL xs (d + 5) 137 (ev_M m c w) 38 [(0, .ref 0), (2, .int x2), (4, .int x4), (5, .int x5), (6, .int x6)] [] (fr_i c w q0) := by
  intro n
  induction n with
  | zero => intro m x2 x4 x5 x6 q0 h; exact absurd (show (none : Option (Int32 × mm_MM)) = some q0 from h) (by simp)
  | succ n ih =>
    intro m x2 x4 x5 x6 q0 h
    unfold fX10_best_c38 at h
    refine ev_i 3 (M1 := ev_M m c w) (pc1 := 45) (lv1 := [(0, .ref 0), (2, .int x2), (4, .int x4), (5, .int x5), (6, .int x6)]) (st1 := []) (M2 := ev_M m c w) (pc2 := 98) (lv2 := [(0, .ref 0), (2, .int x2), (4, .int x4), (5, .int x5), (6, .int x6)]) (st2 := []) (fun n => rfl) h (fun hc1 h => ?_) (fun hc1 h => ?_)
    · refine ev_i 7 (M1 := ev_M m c w) (pc1 := 87) (lv1 := [(0, .ref 0), (2, .int x2), (4, .int x4), (5, .int x5), (6, .int x6)]) (st1 := []) (M2 := ev_M m c w) (pc2 := 62) (lv2 := [(0, .ref 0), (2, .int x2), (4, .int x4), (5, .int x5), (6, .int x6)]) (st2 := []) (fun n => rfl) h (fun hc2 h => ?_) (fun hc2 h => ?_)
      · exact ok_fX10_best_c87 ih h
      · refine ev_i 5 (M1 := ev_M m c w) (pc1 := 87) (lv1 := [(0, .ref 0), (2, .int x2), (4, .int x4), (5, .int x5), (6, .int x6)]) (st1 := []) (M2 := ev_M m c w) (pc2 := 74) (lv2 := [(0, .ref 0), (2, .int x2), (4, .int x4), (5, .int x5), (6, .int x6)]) (st2 := []) (fun n => rfl) h (fun hc3 h => ?_) (fun hc3 h => ?_)
        · exact ok_fX10_best_c87 ih h
        · refine ev_s 6 (M' := ev_M m c w) (pc' := 87) (lv' := [(5, .int (m.1 583 0)), (4, .int x6), (0, .ref 0), (2, .int x2), (6, .int x6)]) (st' := []) (fun n => rfl) ?_
          refine ev_sub (lv := [(0, .ref 0), (2, .int x2), (4, .int x6), (5, .int (m.1 583 0)), (6, .int x6)]) (mn_of rfl (by repeat (first | exact trivial | refine And.intro rfl ?_))) ?_
          exact ok_fX10_best_c87 ih h
    · refine ev_i 2 (M1 := ev_M m c w) (pc1 := 102) (lv1 := [(0, .ref 0), (2, .int x2), (4, .int x4), (5, .int x5), (6, .int x6)]) (st1 := []) (M2 := ev_M m c w) (pc2 := 107) (lv2 := [(0, .ref 0), (2, .int x2), (4, .int x4), (5, .int x5), (6, .int x6)]) (st2 := []) (fun n => rfl) h (fun hc4 h => ?_) (fun hc4 h => ?_)
      · refine ev_s 2 (M' := ev_M m c w) (pc' := 109) (lv' := [(0, .ref 0), (2, .int x2), (4, .int x4), (5, .int x5), (6, .int x6)]) (st' := [.int x4]) (fun n => rfl) ?_
        refine ev_sub (lv := []) (mn_of rfl (by repeat (first | exact trivial | refine And.intro rfl ?_))) ?_
        exact ok_fX10_best_c109 h
      · refine ev_s 1 (M' := ev_M m c w) (pc' := 109) (lv' := [(0, .ref 0), (2, .int x2), (4, .int x4), (5, .int x5), (6, .int x6)]) (st' := [.int x5]) (fun n => rfl) ?_
        refine ev_sub (lv := []) (mn_of rfl (by repeat (first | exact trivial | refine And.intro rfl ?_))) ?_
        exact ok_fX10_best_c109 h
def fX10_best (m : mm_MM) (x1 : Int32) (x2 : Int32) : Option (Int32 × mm_MM) :=
  (fX7_findLying m 29 x1).bind fun r1 =>
   match r1.1 with
   | none =>
     fX10_best_c22 r1.2
   | some u2 =>
     if mm_kd u2 = (9, 6) then
       (if x2 < 0 then
         fX10_best_c22 r1.2
        else
         (if x2 ≤ 1 then
           (fX10_startFrom r1.2 u2).bind fun r5 =>
            fX10_best_c38 fu r5 x2 ((-1) : Int32) ((-1) : Int32) 0
          else
           fX10_best_c22 r1.2))
     else none
set_option maxRecDepth 20000 in
theorem ok_fX10_best {m : mm_MM} {x1 : Int32} {x2 : Int32} {q0 : Int32 × mm_MM} (h : fX10_best m x1 x2 = some q0) : Ev XL xs (d + 5) 137 (ev_M m c w) 0 (lv_args 0 [.ref 0, .int x1, .int x2]) [] (fr_i c w q0) := by
  unfold fX10_best at h
  obtain ⟨r1, hr1, h⟩ := Option.bind_eq_some_iff.mp h
  refine ev_c 4 (y' := 70) (M1 := ev_M m c w) (la := lv_args 0 [.ref 29, .int x1]) (rest := []) (pc' := 8) (lv' := [(0, .ref 0), (1, .int x1), (2, .int x2)]) (fun n => rfl) (ok_fX7_findLying (rfl : mm_kd 29 = (7, 8)) hr1) ?_
  show Ev XL xs _ 137 (ev_M r1.2 c w) 8 [(0, .ref 0), (1, .int x1), (2, .int x2)] [va_rf r1.1] _
  generalize r1.1 = o6 at h ⊢
  cases o6 with
  | none =>
    refine ev_s 3 (M' := ev_M r1.2 c w) (pc' := 22) (lv' := [(3, .null), (0, .ref 0), (1, .int x1), (2, .int x2)]) (st' := []) (fun n => rfl) ?_
    refine ev_sub (lv := []) (mn_of rfl (by repeat (first | exact trivial | refine And.intro rfl ?_))) ?_
    exact ok_fX10_best_c22 h
  | some u2 =>
    obtain ⟨hk_u2, h⟩ := sd_ift h
    refine ev_i 5 (M1 := ev_M r1.2 c w) (pc1 := 22) (lv1 := [(3, .ref u2), (0, .ref 0), (1, .int x1), (2, .int x2)]) (st1 := []) (M2 := ev_M r1.2 c w) (pc2 := 17) (lv2 := [(3, .ref u2), (0, .ref 0), (1, .int x1), (2, .int x2)]) (st2 := []) (fun n => rfl) h (fun hc3 h => ?_) (fun hc3 h => ?_)
    · refine ev_sub (lv := []) (mn_of rfl (by repeat (first | exact trivial | refine And.intro rfl ?_))) ?_
      exact ok_fX10_best_c22 h
    · refine ev_i 3 (M1 := ev_M r1.2 c w) (pc1 := 24) (lv1 := [(3, .ref u2), (0, .ref 0), (1, .int x1), (2, .int x2)]) (st1 := []) (M2 := ev_M r1.2 c w) (pc2 := 22) (lv2 := [(3, .ref u2), (0, .ref 0), (1, .int x1), (2, .int x2)]) (st2 := []) (fun n => rfl) h (fun hc4 h => ?_) (fun hc4 h => ?_)
      · obtain ⟨r5, hr5, h⟩ := Option.bind_eq_some_iff.mp h
        refine ev_c 7 (y' := 120) (M1 := ev_M r1.2 c w) (la := lv_args 0 [.ref 0, .ref u2]) (rest := []) (pc' := 35) (lv' := [(5, .int ((-1) : Int32)), (4, .int ((-1) : Int32)), (3, .ref u2), (0, .ref 0), (1, .int x1), (2, .int x2)]) (fun n => rfl) (ok_fX10_startFrom hk_u2 hr5) ?_
        show Ev XL xs _ 137 (ev_M r5 c w) 35 [(5, .int ((-1) : Int32)), (4, .int ((-1) : Int32)), (3, .ref u2), (0, .ref 0), (1, .int x1), (2, .int x2)] [] _
        refine ev_s 2 (M' := ev_M r5 c w) (pc' := 38) (lv' := [(6, .int 0), (5, .int ((-1) : Int32)), (4, .int ((-1) : Int32)), (3, .ref u2), (0, .ref 0), (1, .int x1), (2, .int x2)]) (st' := []) (fun n => rfl) ?_
        refine ev_sub (lv := [(0, .ref 0), (2, .int x2), (4, .int ((-1) : Int32)), (5, .int ((-1) : Int32)), (6, .int 0)]) (mn_of rfl (by repeat (first | exact trivial | refine And.intro rfl ?_))) ?_
        exact ok_fX10_best_c38 fu _ _ _ _ _ _ h
      · refine ev_sub (lv := []) (mn_of rfl (by repeat (first | exact trivial | refine And.intro rfl ?_))) ?_
        exact ok_fX10_best_c22 h
def fX10_countLyingIn_c44 (kr4 : mm_MM → Int32 → Int32 → Int32 → Option (Int32 × mm_MM)) (m : mm_MM) (x1 : Int32) (x2 : Int32) (x3 : Int32) : Option (Int32 × mm_MM) :=
  kr4 m x1 x2 (x3 + 1)
theorem ok_fX10_countLyingIn_c44 {kr4 : mm_MM → Int32 → Int32 → Int32 → Option (Int32 × mm_MM)} (hkr4 : ∀ (m : mm_MM) (x1 : Int32) (x2 : Int32) (x3 : Int32) (q0 : Int32 × mm_MM), kr4 m x1 x2 x3 = some q0 → Ev XL xs (d + 3) 139 (ev_M m c w) 4 [(0, .ref 0), (1, .int x1), (2, .int x2), (3, .int x3)] [] (fr_i c w q0)) {m : mm_MM} {x1 : Int32} {x2 : Int32} {x3 : Int32} {q0 : Int32 × mm_MM} (h : fX10_countLyingIn_c44 kr4 m x1 x2 x3 = some q0) : Ev XL xs (d + 3) 139 (ev_M m c w) 44 [(0, .ref 0), (1, .int x1), (2, .int x2), (3, .int x3)] [] (fr_i c w q0) := by
  unfold fX10_countLyingIn_c44 at h
  refine ev_s 2 (M' := ev_M m c w) (pc' := 4) (lv' := [(3, .int (x3 + 1)), (0, .ref 0), (1, .int x1), (2, .int x2)]) (st' := []) (fun n => rfl) ?_
  refine ev_sub (lv := [(0, .ref 0), (1, .int x1), (2, .int x2), (3, .int (x3 + 1))]) (mn_of rfl (by repeat (first | exact trivial | refine And.intro rfl ?_))) ?_
  exact hkr4 _ _ _ _ _ h
def fX10_countLyingIn_c4 : Nat → mm_MM → Int32 → Int32 → Int32 → Option (Int32 × mm_MM)
  | 0 => fun _ _ _ _ => none
  | n + 1 => fun m x1 x2 x3 =>
    (if x3 < 8 then
      (fX7_findLying m 29 x3).bind fun r2 =>
       match r2.1 with
       | none =>
         fX10_countLyingIn_c44 (fX10_countLyingIn_c4 n) r2.2 x1 x2 x3
       | some u3 =>
         if mm_kd u3 = (9, 6) then
           (fX1_rowOf r2.2 14 (r2.2.1 u3 3)).bind fun r4 =>
            (if r4.1 = x1 then
              fX10_countLyingIn_c44 (fX10_countLyingIn_c4 n) r4.2 x1 (x2 + 1) x3
             else
              fX10_countLyingIn_c44 (fX10_countLyingIn_c4 n) r4.2 x1 x2 x3)
         else none
     else
      some (x2, m))
theorem ok_fX10_countLyingIn_c4 : ∀ (n : Nat) (m : mm_MM) (x1 : Int32) (x2 : Int32) (x3 : Int32) (q0 : Int32 × mm_MM), fX10_countLyingIn_c4 n m x1 x2 x3 = some q0 → Ev XL xs (d + 3) 139 (ev_M m c w) 4 [(0, .ref 0), (1, .int x1), (2, .int x2), (3, .int x3)] [] (fr_i c w q0) := by
  intro n
  induction n with
  | zero => intro m x1 x2 x3 q0 h; exact absurd (show (none : Option (Int32 × mm_MM)) = some q0 from h) (by simp)
  | succ n ih =>
    intro m x1 x2 x3 q0 h
    unfold fX10_countLyingIn_c4 at h
    refine ev_i 3 (M1 := ev_M m c w) (pc1 := 10) (lv1 := [(0, .ref 0), (1, .int x1), (2, .int x2), (3, .int x3)]) (st1 := []) (M2 := ev_M m c w) (pc2 := 50) (lv2 := [(0, .ref 0), (1, .int x1), (2, .int x2), (3, .int x3)]) (st2 := []) (fun n => rfl) h (fun hc1 h => ?_) (fun hc1 h => ?_)
    · obtain ⟨r2, hr2, h⟩ := Option.bind_eq_some_iff.mp h
      refine ev_c 4 (y' := 70) (M1 := ev_M m c w) (la := lv_args 0 [.ref 29, .int x3]) (rest := []) (pc' := 18) (lv' := [(0, .ref 0), (1, .int x1), (2, .int x2), (3, .int x3)]) (fun n => rfl) (ok_fX7_findLying (rfl : mm_kd 29 = (7, 8)) hr2) ?_
      show Ev XL xs _ 139 (ev_M r2.2 c w) 18 [(0, .ref 0), (1, .int x1), (2, .int x2), (3, .int x3)] [va_rf r2.1] _
      generalize r2.1 = o6 at h ⊢
      cases o6 with
      | none =>
        refine ev_s 3 (M' := ev_M r2.2 c w) (pc' := 44) (lv' := [(4, .null), (0, .ref 0), (1, .int x1), (2, .int x2), (3, .int x3)]) (st' := []) (fun n => rfl) ?_
        refine ev_sub (lv := [(0, .ref 0), (1, .int x1), (2, .int x2), (3, .int x3)]) (mn_of rfl (by repeat (first | exact trivial | refine And.intro rfl ?_))) ?_
        exact ok_fX10_countLyingIn_c44 ih h
      | some u3 =>
        obtain ⟨hk_u3, h⟩ := sd_ift h
        refine ev_s 6 (M' := ev_M r2.2 c w) (pc' := 31) (lv' := [(4, .ref u3), (0, .ref 0), (1, .int x1), (2, .int x2), (3, .int x3)]) (st' := [.ref u3, .ref 14]) (fun n => rfl) ?_
        refine ev_gf (x := .int (r2.2.1 u3 3)) rfl (congrArg Prod.fst hk_u3) rfl rfl ?_
        obtain ⟨r4, hr4, h⟩ := Option.bind_eq_some_iff.mp h
        refine ev_c 1 (y' := 5) (M1 := ev_M r2.2 c w) (la := lv_args 0 [.ref 14, .int (r2.2.1 u3 3)]) (rest := []) (pc' := 37) (lv' := [(4, .ref u3), (0, .ref 0), (1, .int x1), (2, .int x2), (3, .int x3)]) (fun n => rfl) (ok_fX1_rowOf (rfl : mm_kd 14 = (1, 10)) hr4) ?_
        show Ev XL xs _ 139 (ev_M r4.2 c w) 37 [(4, .ref u3), (0, .ref 0), (1, .int x1), (2, .int x2), (3, .int x3)] [.int r4.1] _
        refine ev_i 2 (M1 := ev_M r4.2 c w) (pc1 := 41) (lv1 := [(4, .ref u3), (0, .ref 0), (1, .int x1), (2, .int x2), (3, .int x3)]) (st1 := []) (M2 := ev_M r4.2 c w) (pc2 := 44) (lv2 := [(4, .ref u3), (0, .ref 0), (1, .int x1), (2, .int x2), (3, .int x3)]) (st2 := []) (fun n => rfl) h (fun hc5 h => ?_) (fun hc5 h => ?_)
        · refine ev_s 1 (M' := ev_M r4.2 c w) (pc' := 44) (lv' := [(2, .int (x2 + 1)), (4, .ref u3), (0, .ref 0), (1, .int x1), (3, .int x3)]) (st' := []) (fun n => rfl) ?_
          refine ev_sub (lv := [(0, .ref 0), (1, .int x1), (2, .int (x2 + 1)), (3, .int x3)]) (mn_of rfl (by repeat (first | exact trivial | refine And.intro rfl ?_))) ?_
          exact ok_fX10_countLyingIn_c44 ih h
        · refine ev_sub (lv := [(0, .ref 0), (1, .int x1), (2, .int x2), (3, .int x3)]) (mn_of rfl (by repeat (first | exact trivial | refine And.intro rfl ?_))) ?_
          exact ok_fX10_countLyingIn_c44 ih h
    · cases h
      exact ev_r 2 (fun n => rfl)
def fX10_countLyingIn (m : mm_MM) (x1 : Int32) : Option (Int32 × mm_MM) :=
  fX10_countLyingIn_c4 fu m x1 0 0
theorem ok_fX10_countLyingIn {m : mm_MM} {x1 : Int32} {q0 : Int32 × mm_MM} (h : fX10_countLyingIn m x1 = some q0) : Ev XL xs (d + 3) 139 (ev_M m c w) 0 (lv_args 0 [.ref 0, .int x1]) [] (fr_i c w q0) := by
  unfold fX10_countLyingIn at h
  refine ev_s 4 (M' := ev_M m c w) (pc' := 4) (lv' := [(3, .int 0), (2, .int 0), (0, .ref 0), (1, .int x1)]) (st' := []) (fun n => rfl) ?_
  refine ev_sub (lv := [(0, .ref 0), (1, .int x1), (2, .int 0), (3, .int 0)]) (mn_of rfl (by repeat (first | exact trivial | refine And.intro rfl ?_))) ?_
  exact ok_fX10_countLyingIn_c4 fu _ _ _ _ _ h
def fX10_laying_c27 (m : mm_MM) : Option (Int32 × mm_MM) :=
  some (((-1) : Int32), m)
set_option maxRecDepth 20000 in
theorem ok_fX10_laying_c27 {m : mm_MM} {q0 : Int32 × mm_MM} (h : fX10_laying_c27 m = some q0) : Ev XL xs (d + 6) 138 (ev_M m c w) 27 [] [] (fr_i c w q0) := by
  unfold fX10_laying_c27 at h
  cases h
  exact ev_r 2 (fun n => rfl)
def fX10_laying_c195 (kr85 : mm_MM → Int32 → Int32 → Int32 → Option (Int32 × mm_MM)) (m : mm_MM) (x1 : Int32) (x2 : Int32) (x3 : Int32) : Option (Int32 × mm_MM) :=
  kr85 m x1 x2 (x3 + 1)
set_option maxRecDepth 20000 in
theorem ok_fX10_laying_c195 {kr85 : mm_MM → Int32 → Int32 → Int32 → Option (Int32 × mm_MM)} (hkr85 : ∀ (m : mm_MM) (x1 : Int32) (x2 : Int32) (x3 : Int32) (q0 : Int32 × mm_MM), kr85 m x1 x2 x3 = some q0 → Ev XL xs (d + 6) 138 (ev_M m c w) 85 [(0, .ref 0), (1, .int x1), (2, .int x2), (3, .int x3)] [] (fr_i c w q0)) {m : mm_MM} {x1 : Int32} {x2 : Int32} {x3 : Int32} {q0 : Int32 × mm_MM} (h : fX10_laying_c195 kr85 m x1 x2 x3 = some q0) : Ev XL xs (d + 6) 138 (ev_M m c w) 195 [(0, .ref 0), (1, .int x1), (2, .int x2), (3, .int x3)] [] (fr_i c w q0) := by
  unfold fX10_laying_c195 at h
  refine ev_s 2 (M' := ev_M m c w) (pc' := 85) (lv' := [(3, .int (x3 + 1)), (0, .ref 0), (1, .int x1), (2, .int x2)]) (st' := []) (fun n => rfl) ?_
  refine ev_sub (lv := [(0, .ref 0), (1, .int x1), (2, .int x2), (3, .int (x3 + 1))]) (mn_of rfl (by repeat (first | exact trivial | refine And.intro rfl ?_))) ?_
  exact hkr85 _ _ _ _ _ h
def fX10_laying_c115 (kr85 : mm_MM → Int32 → Int32 → Int32 → Option (Int32 × mm_MM)) (m : mm_MM) (x1 : Int32) (x2 : Int32) (x3 : Int32) : Option (Int32 × mm_MM) :=
  (fX4_pass m x3).bind fun r1 =>
   fX10_laying_c195 kr85 r1 x1 x2 x3
set_option maxRecDepth 20000 in
theorem ok_fX10_laying_c115 {kr85 : mm_MM → Int32 → Int32 → Int32 → Option (Int32 × mm_MM)} (hkr85 : ∀ (m : mm_MM) (x1 : Int32) (x2 : Int32) (x3 : Int32) (q0 : Int32 × mm_MM), kr85 m x1 x2 x3 = some q0 → Ev XL xs (d + 6) 138 (ev_M m c w) 85 [(0, .ref 0), (1, .int x1), (2, .int x2), (3, .int x3)] [] (fr_i c w q0)) {m : mm_MM} {x1 : Int32} {x2 : Int32} {x3 : Int32} {q0 : Int32 × mm_MM} (h : fX10_laying_c115 kr85 m x1 x2 x3 = some q0) : Ev XL xs (d + 6) 138 (ev_M m c w) 115 [(0, .ref 0), (1, .int x1), (2, .int x2), (3, .int x3)] [] (fr_i c w q0) := by
  unfold fX10_laying_c115 at h
  obtain ⟨r1, hr1, h⟩ := Option.bind_eq_some_iff.mp h
  refine ev_c 4 (y' := 49) (M1 := ev_M m c w) (la := lv_args 0 [.ref 584, .int x3]) (rest := []) (pc' := 123) (lv' := [(0, .ref 0), (1, .int x1), (2, .int x2), (3, .int x3)]) (fun n => rfl) (ok_fX4_pass hr1) ?_
  show Ev XL xs _ 138 (ev_M r1 c w) 123 [(0, .ref 0), (1, .int x1), (2, .int x2), (3, .int x3)] [] _
  refine ev_s 1 (M' := ev_M r1 c w) (pc' := 195) (lv' := [(0, .ref 0), (1, .int x1), (2, .int x2), (3, .int x3)]) (st' := []) (fun n => rfl) ?_
  exact ok_fX10_laying_c195 hkr85 h
def fX10_laying_c129 (kr85 : mm_MM → Int32 → Int32 → Int32 → Option (Int32 × mm_MM)) : Nat → mm_MM → Int32 → Int32 → Int32 → Nat → Int32 → Option (Int32 × mm_MM)
  | 0 => fun _ _ _ _ _ _ => none
  | n + 1 => fun m x1 x2 x3 t4 x5 =>
    (if x5 < m.1 14 4 then
      (fX10_pick m 15 x5).bind fun r2 =>
       (fX10_valueAlone r2.2 t4 r2.1 (r2.2.1 29 7) x1).bind fun r3 =>
        (fX4_setGain r3.2 x5 r3.1).bind fun r4 =>
         fX10_laying_c129 kr85 n r4 x1 x2 x3 t4 (x5 + 1)
     else
      (fX4_choose m x3 (m.1 t4 1)).bind fun r5 =>
       fX10_laying_c195 kr85 r5 x1 x2 x3)
set_option maxRecDepth 20000 in
theorem ok_fX10_laying_c129 {kr85 : mm_MM → Int32 → Int32 → Int32 → Option (Int32 × mm_MM)} (hkr85 : ∀ (m : mm_MM) (x1 : Int32) (x2 : Int32) (x3 : Int32) (q0 : Int32 × mm_MM), kr85 m x1 x2 x3 = some q0 → Ev XL xs (d + 6) 138 (ev_M m c w) 85 [(0, .ref 0), (1, .int x1), (2, .int x2), (3, .int x3)] [] (fr_i c w q0)) : ∀ (n : Nat) (m : mm_MM) (x1 : Int32) (x2 : Int32) (x3 : Int32) (t4 : Nat) (x5 : Int32) (q0 : Int32 × mm_MM) (hk_t4 : mm_kd t4 = (9, 6)), fX10_laying_c129 kr85 n m x1 x2 x3 t4 x5 = some q0 → Ev XL xs (d + 6) 138 (ev_M m c w) 129 [(0, .ref 0), (1, .int x1), (2, .int x2), (3, .int x3), (4, .ref t4), (5, .int x5)] [] (fr_i c w q0) := by
  intro n
  induction n with
  | zero => intro m x1 x2 x3 t4 x5 q0 hk_t4 h; exact absurd (show (none : Option (Int32 × mm_MM)) = some q0 from h) (by simp)
  | succ n ih =>
    intro m x1 x2 x3 t4 x5 q0 hk_t4 h
    unfold fX10_laying_c129 at h
    refine ev_i 5 (M1 := ev_M m c w) (pc1 := 141) (lv1 := [(0, .ref 0), (1, .int x1), (2, .int x2), (3, .int x3), (4, .ref t4), (5, .int x5)]) (st1 := []) (M2 := ev_M m c w) (pc2 := 182) (lv2 := [(0, .ref 0), (1, .int x1), (2, .int x2), (3, .int x3), (4, .ref t4), (5, .int x5)]) (st2 := []) (fun n => rfl) h (fun hc1 h => ?_) (fun hc1 h => ?_)
    · obtain ⟨r2, hr2, h⟩ := Option.bind_eq_some_iff.mp h
      refine ev_c 10 (y' := 175) (M1 := ev_M m c w) (la := lv_args 0 [.ref 15, .int x5]) (rest := [.ref t4, .ref 0, .int x5, .ref 584]) (pc' := 162) (lv' := [(0, .ref 0), (1, .int x1), (2, .int x2), (3, .int x3), (4, .ref t4), (5, .int x5)]) (fun n => rfl) (ok_fX10_pick (congrArg Prod.fst (rfl : mm_kd 15 = (20, 4))) hr2) ?_
      show Ev XL xs _ 138 (ev_M r2.2 c w) 162 [(0, .ref 0), (1, .int x1), (2, .int x2), (3, .int x3), (4, .ref t4), (5, .int x5)] [.int r2.1, .ref t4, .ref 0, .int x5, .ref 584] _
      obtain ⟨r3, hr3, h⟩ := Option.bind_eq_some_iff.mp h
      refine ev_c 5 (y' := 125) (M1 := ev_M r2.2 c w) (la := lv_args 0 [.ref 0, .ref t4, .int r2.1, .int (r2.2.1 29 7), .int x1]) (rest := [.int x5, .ref 584]) (pc' := 173) (lv' := [(0, .ref 0), (1, .int x1), (2, .int x2), (3, .int x3), (4, .ref t4), (5, .int x5)]) (fun n => rfl) (ok_fX10_valueAlone hk_t4 hr3) ?_
      show Ev XL xs _ 138 (ev_M r3.2 c w) 173 [(0, .ref 0), (1, .int x1), (2, .int x2), (3, .int x3), (4, .ref t4), (5, .int x5)] [.int r3.1, .int x5, .ref 584] _
      obtain ⟨r4, hr4, h⟩ := Option.bind_eq_some_iff.mp h
      refine ev_c 1 (y' := 47) (M1 := ev_M r3.2 c w) (la := lv_args 0 [.ref 584, .int x5, .int r3.1]) (rest := []) (pc' := 176) (lv' := [(0, .ref 0), (1, .int x1), (2, .int x2), (3, .int x3), (4, .ref t4), (5, .int x5)]) (fun n => rfl) (ok_fX4_setGain hr4) ?_
      show Ev XL xs _ 138 (ev_M r4 c w) 176 [(0, .ref 0), (1, .int x1), (2, .int x2), (3, .int x3), (4, .ref t4), (5, .int x5)] [] _
      refine ev_s 2 (M' := ev_M r4 c w) (pc' := 129) (lv' := [(5, .int (x5 + 1)), (0, .ref 0), (1, .int x1), (2, .int x2), (3, .int x3), (4, .ref t4)]) (st' := []) (fun n => rfl) ?_
      refine ev_sub (lv := [(0, .ref 0), (1, .int x1), (2, .int x2), (3, .int x3), (4, .ref t4), (5, .int (x5 + 1))]) (mn_of rfl (by repeat (first | exact trivial | refine And.intro rfl ?_))) ?_
      exact ih _ _ _ _ _ _ _ hk_t4 h
    · refine ev_s 4 (M' := ev_M m c w) (pc' := 189) (lv' := [(0, .ref 0), (1, .int x1), (2, .int x2), (3, .int x3), (4, .ref t4), (5, .int x5)]) (st' := [.ref t4, .int x3, .ref 584]) (fun n => rfl) ?_
      refine ev_gf (x := .int (m.1 t4 1)) rfl (congrArg Prod.fst hk_t4) rfl rfl ?_
      obtain ⟨r5, hr5, h⟩ := Option.bind_eq_some_iff.mp h
      refine ev_c 1 (y' := 50) (M1 := ev_M m c w) (la := lv_args 0 [.ref 584, .int x3, .int (m.1 t4 1)]) (rest := []) (pc' := 195) (lv' := [(0, .ref 0), (1, .int x1), (2, .int x2), (3, .int x3), (4, .ref t4), (5, .int x5)]) (fun n => rfl) (ok_fX4_choose hr5) ?_
      show Ev XL xs _ 138 (ev_M r5 c w) 195 [(0, .ref 0), (1, .int x1), (2, .int x2), (3, .int x3), (4, .ref t4), (5, .int x5)] [] _
      refine ev_sub (lv := [(0, .ref 0), (1, .int x1), (2, .int x2), (3, .int x3)]) (mn_of rfl (by repeat (first | exact trivial | refine And.intro rfl ?_))) ?_
      exact ok_fX10_laying_c195 hkr85 h
def fX10_laying_c222 (m : mm_MM) (s0 : Int32) : Option (Int32 × mm_MM) :=
  some (s0, m)
set_option maxRecDepth 20000 in
theorem ok_fX10_laying_c222 {m : mm_MM} {s0 : Int32} {q0 : Int32 × mm_MM} (h : fX10_laying_c222 m s0 = some q0) : Ev XL xs (d + 6) 138 (ev_M m c w) 222 [] [.int s0] (fr_i c w q0) := by
  unfold fX10_laying_c222 at h
  cases h
  exact ev_r 1 (fun n => rfl)
def fX10_laying_c85 : Nat → mm_MM → Int32 → Int32 → Int32 → Option (Int32 × mm_MM)
  | 0 => fun _ _ _ _ => none
  | n + 1 => fun m x1 x2 x3 =>
    (if x3 < 8 then
      (fX7_find m 29 x3).bind fun r2 =>
       match r2.1 with
       | none =>
         fX10_laying_c115 (fX10_laying_c85 n) r2.2 x1 x2 x3
       | some u3 =>
         if mm_kd u3 = (9, 6) then
           (if r2.2.1 u3 3 = ((-1) : Int32) then
             fX10_laying_c129 (fX10_laying_c85 n) fu r2.2 x1 x2 x3 u3 0
            else
             fX10_laying_c115 (fX10_laying_c85 n) r2.2 x1 x2 x3)
         else none
     else
      (if x2 = 0 then
        (fX4_bestValue m).bind fun r7 =>
         fX10_laying_c222 r7.2 r7.1
       else
        (fX4_bestDigits m).bind fun r8 =>
         fX10_laying_c222 r8.2 r8.1))
set_option maxRecDepth 20000 in
theorem ok_fX10_laying_c85 : ∀ (n : Nat) (m : mm_MM) (x1 : Int32) (x2 : Int32) (x3 : Int32) (q0 : Int32 × mm_MM), fX10_laying_c85 n m x1 x2 x3 = some q0 → Ev XL xs (d + 6) 138 (ev_M m c w) 85 [(0, .ref 0), (1, .int x1), (2, .int x2), (3, .int x3)] [] (fr_i c w q0) := by
  intro n
  induction n with
  | zero => intro m x1 x2 x3 q0 h; exact absurd (show (none : Option (Int32 × mm_MM)) = some q0 from h) (by simp)
  | succ n ih =>
    intro m x1 x2 x3 q0 h
    unfold fX10_laying_c85 at h
    refine ev_i 3 (M1 := ev_M m c w) (pc1 := 91) (lv1 := [(0, .ref 0), (1, .int x1), (2, .int x2), (3, .int x3)]) (st1 := []) (M2 := ev_M m c w) (pc2 := 201) (lv2 := [(0, .ref 0), (1, .int x1), (2, .int x2), (3, .int x3)]) (st2 := []) (fun n => rfl) h (fun hc1 h => ?_) (fun hc1 h => ?_)
    · obtain ⟨r2, hr2, h⟩ := Option.bind_eq_some_iff.mp h
      refine ev_c 4 (y' := 69) (M1 := ev_M m c w) (la := lv_args 0 [.ref 29, .int x3]) (rest := []) (pc' := 99) (lv' := [(0, .ref 0), (1, .int x1), (2, .int x2), (3, .int x3)]) (fun n => rfl) (ok_fX7_find (rfl : mm_kd 29 = (7, 8)) hr2) ?_
      show Ev XL xs _ 138 (ev_M r2.2 c w) 99 [(0, .ref 0), (1, .int x1), (2, .int x2), (3, .int x3)] [va_rf r2.1] _
      generalize r2.1 = o5 at h ⊢
      cases o5 with
      | none =>
        refine ev_s 3 (M' := ev_M r2.2 c w) (pc' := 115) (lv' := [(4, .null), (0, .ref 0), (1, .int x1), (2, .int x2), (3, .int x3)]) (st' := []) (fun n => rfl) ?_
        refine ev_sub (lv := [(0, .ref 0), (1, .int x1), (2, .int x2), (3, .int x3)]) (mn_of rfl (by repeat (first | exact trivial | refine And.intro rfl ?_))) ?_
        exact ok_fX10_laying_c115 ih h
      | some u3 =>
        obtain ⟨hk_u3, h⟩ := sd_ift h
        refine ev_s 4 (M' := ev_M r2.2 c w) (pc' := 108) (lv' := [(4, .ref u3), (0, .ref 0), (1, .int x1), (2, .int x2), (3, .int x3)]) (st' := [.ref u3]) (fun n => rfl) ?_
        refine ev_gf (x := .int (r2.2.1 u3 3)) rfl (congrArg Prod.fst hk_u3) rfl rfl ?_
        refine ev_i 2 (M1 := ev_M r2.2 c w) (pc1 := 126) (lv1 := [(4, .ref u3), (0, .ref 0), (1, .int x1), (2, .int x2), (3, .int x3)]) (st1 := []) (M2 := ev_M r2.2 c w) (pc2 := 115) (lv2 := [(4, .ref u3), (0, .ref 0), (1, .int x1), (2, .int x2), (3, .int x3)]) (st2 := []) (fun n => rfl) h (fun hc4 h => ?_) (fun hc4 h => ?_)
        · refine ev_s 2 (M' := ev_M r2.2 c w) (pc' := 129) (lv' := [(5, .int 0), (4, .ref u3), (0, .ref 0), (1, .int x1), (2, .int x2), (3, .int x3)]) (st' := []) (fun n => rfl) ?_
          refine ev_sub (lv := [(0, .ref 0), (1, .int x1), (2, .int x2), (3, .int x3), (4, .ref u3), (5, .int 0)]) (mn_of rfl (by repeat (first | exact trivial | refine And.intro rfl ?_))) ?_
          exact ok_fX10_laying_c129 ih fu _ _ _ _ _ _ _ hk_u3 h
        · refine ev_sub (lv := [(0, .ref 0), (1, .int x1), (2, .int x2), (3, .int x3)]) (mn_of rfl (by repeat (first | exact trivial | refine And.intro rfl ?_))) ?_
          exact ok_fX10_laying_c115 ih h
    · refine ev_i 2 (M1 := ev_M m c w) (pc1 := 205) (lv1 := [(0, .ref 0), (1, .int x1), (2, .int x2), (3, .int x3)]) (st1 := []) (M2 := ev_M m c w) (pc2 := 215) (lv2 := [(0, .ref 0), (1, .int x1), (2, .int x2), (3, .int x3)]) (st2 := []) (fun n => rfl) h (fun hc6 h => ?_) (fun hc6 h => ?_)
      · obtain ⟨r7, hr7, h⟩ := Option.bind_eq_some_iff.mp h
        refine ev_c 3 (y' := 51) (M1 := ev_M m c w) (la := lv_args 0 [.ref 584]) (rest := []) (pc' := 212) (lv' := [(0, .ref 0), (1, .int x1), (2, .int x2), (3, .int x3)]) (fun n => rfl) (ok_fX4_bestValue hr7) ?_
        show Ev XL xs _ 138 (ev_M r7.2 c w) 212 [(0, .ref 0), (1, .int x1), (2, .int x2), (3, .int x3)] [.int r7.1] _
        refine ev_s 1 (M' := ev_M r7.2 c w) (pc' := 222) (lv' := [(0, .ref 0), (1, .int x1), (2, .int x2), (3, .int x3)]) (st' := [.int r7.1]) (fun n => rfl) ?_
        refine ev_sub (lv := []) (mn_of rfl (by repeat (first | exact trivial | refine And.intro rfl ?_))) ?_
        exact ok_fX10_laying_c222 h
      · obtain ⟨r8, hr8, h⟩ := Option.bind_eq_some_iff.mp h
        refine ev_c 3 (y' := 52) (M1 := ev_M m c w) (la := lv_args 0 [.ref 584]) (rest := []) (pc' := 222) (lv' := [(0, .ref 0), (1, .int x1), (2, .int x2), (3, .int x3)]) (fun n => rfl) (ok_fX4_bestDigits hr8) ?_
        show Ev XL xs _ 138 (ev_M r8.2 c w) 222 [(0, .ref 0), (1, .int x1), (2, .int x2), (3, .int x3)] [.int r8.1] _
        refine ev_sub (lv := []) (mn_of rfl (by repeat (first | exact trivial | refine And.intro rfl ?_))) ?_
        exact ok_fX10_laying_c222 h
def fX10_laying_c38 : Nat → mm_MM → Int32 → Int32 → Int32 → Option (Int32 × mm_MM)
  | 0 => fun _ _ _ _ => none
  | n + 1 => fun m x1 x2 x3 =>
    (if x3 < m.1 14 4 then
      (fX10_countLyingIn m x3).bind fun r2 =>
       (fX4_setRoom r2.2 x3 (m.1 14 3 - r2.1)).bind fun r3 =>
        fX10_laying_c38 n r3 x1 x2 (x3 + 1)
     else
      (fX4_open m).bind fun r4 =>
       fX10_laying_c85 fu r4 x1 x2 0)
set_option maxRecDepth 20000 in
theorem ok_fX10_laying_c38 : ∀ (n : Nat) (m : mm_MM) (x1 : Int32) (x2 : Int32) (x3 : Int32) (q0 : Int32 × mm_MM), fX10_laying_c38 n m x1 x2 x3 = some q0 → Ev XL xs (d + 6) 138 (ev_M m c w) 38 [(0, .ref 0), (1, .int x1), (2, .int x2), (3, .int x3)] [] (fr_i c w q0) := by
  intro n
  induction n with
  | zero => intro m x1 x2 x3 q0 h; exact absurd (show (none : Option (Int32 × mm_MM)) = some q0 from h) (by simp)
  | succ n ih =>
    intro m x1 x2 x3 q0 h
    unfold fX10_laying_c38 at h
    refine ev_i 5 (M1 := ev_M m c w) (pc1 := 49) (lv1 := [(0, .ref 0), (1, .int x1), (2, .int x2), (3, .int x3)]) (st1 := []) (M2 := ev_M m c w) (pc2 := 76) (lv2 := [(0, .ref 0), (1, .int x1), (2, .int x2), (3, .int x3)]) (st2 := []) (fun n => rfl) h (fun hc1 h => ?_) (fun hc1 h => ?_)
    · obtain ⟨r2, hr2, h⟩ := Option.bind_eq_some_iff.mp h
      refine ev_c 9 (y' := 139) (M1 := ev_M m c w) (la := lv_args 0 [.ref 0, .int x3]) (rest := [.int (m.1 14 3), .int x3, .ref 584]) (pc' := 66) (lv' := [(0, .ref 0), (1, .int x1), (2, .int x2), (3, .int x3)]) (fun n => rfl) (ok_fX10_countLyingIn hr2) ?_
      show Ev XL xs _ 138 (ev_M r2.2 c w) 66 [(0, .ref 0), (1, .int x1), (2, .int x2), (3, .int x3)] [.int r2.1, .int (m.1 14 3), .int x3, .ref 584] _
      obtain ⟨r3, hr3, h⟩ := Option.bind_eq_some_iff.mp h
      refine ev_c 2 (y' := 46) (M1 := ev_M r2.2 c w) (la := lv_args 0 [.ref 584, .int x3, .int (m.1 14 3 - r2.1)]) (rest := []) (pc' := 70) (lv' := [(0, .ref 0), (1, .int x1), (2, .int x2), (3, .int x3)]) (fun n => rfl) (ok_fX4_setRoom hr3) ?_
      show Ev XL xs _ 138 (ev_M r3 c w) 70 [(0, .ref 0), (1, .int x1), (2, .int x2), (3, .int x3)] [] _
      refine ev_s 2 (M' := ev_M r3 c w) (pc' := 38) (lv' := [(3, .int (x3 + 1)), (0, .ref 0), (1, .int x1), (2, .int x2)]) (st' := []) (fun n => rfl) ?_
      refine ev_sub (lv := [(0, .ref 0), (1, .int x1), (2, .int x2), (3, .int (x3 + 1))]) (mn_of rfl (by repeat (first | exact trivial | refine And.intro rfl ?_))) ?_
      exact ih _ _ _ _ _ h
    · obtain ⟨r4, hr4, h⟩ := Option.bind_eq_some_iff.mp h
      refine ev_c 3 (y' := 48) (M1 := ev_M m c w) (la := lv_args 0 [.ref 584]) (rest := []) (pc' := 83) (lv' := [(0, .ref 0), (1, .int x1), (2, .int x2), (3, .int x3)]) (fun n => rfl) (ok_fX4_open hr4) ?_
      show Ev XL xs _ 138 (ev_M r4 c w) 83 [(0, .ref 0), (1, .int x1), (2, .int x2), (3, .int x3)] [] _
      refine ev_s 2 (M' := ev_M r4 c w) (pc' := 85) (lv' := [(3, .int 0), (0, .ref 0), (1, .int x1), (2, .int x2)]) (st' := []) (fun n => rfl) ?_
      refine ev_sub (lv := [(0, .ref 0), (1, .int x1), (2, .int x2), (3, .int 0)]) (mn_of rfl (by repeat (first | exact trivial | refine And.intro rfl ?_))) ?_
      exact ok_fX10_laying_c85 fu _ _ _ _ _ h
def fX10_laying (m : mm_MM) (x1 : Int32) (x2 : Int32) : Option (Int32 × mm_MM) :=
  (if m.1 0 14 = 0 then
    fX10_laying_c27 m
   else
    (if x1 < 1 then
      fX10_laying_c27 m
     else
      (if x1 ≤ 24 then
        (if x2 < 0 then
          fX10_laying_c27 m
         else
          (if x2 ≤ 1 then
            (fX4_begin m).bind fun r6 =>
             fX10_laying_c38 fu r6 x1 x2 0
           else
            fX10_laying_c27 m))
       else
        fX10_laying_c27 m)))
set_option maxRecDepth 20000 in
theorem ok_fX10_laying {m : mm_MM} {x1 : Int32} {x2 : Int32} {q0 : Int32 × mm_MM} (h : fX10_laying m x1 x2 = some q0) : Ev XL xs (d + 6) 138 (ev_M m c w) 0 (lv_args 0 [.ref 0, .int x1, .int x2]) [] (fr_i c w q0) := by
  unfold fX10_laying at h
  refine ev_i 3 (M1 := ev_M m c w) (pc1 := 27) (lv1 := [(0, .ref 0), (1, .int x1), (2, .int x2)]) (st1 := []) (M2 := ev_M m c w) (pc2 := 7) (lv2 := [(0, .ref 0), (1, .int x1), (2, .int x2)]) (st2 := []) (fun n => rfl) h (fun hc1 h => ?_) (fun hc1 h => ?_)
  · refine ev_sub (lv := []) (mn_of rfl (by repeat (first | exact trivial | refine And.intro rfl ?_))) ?_
    exact ok_fX10_laying_c27 h
  · refine ev_i 3 (M1 := ev_M m c w) (pc1 := 27) (lv1 := [(0, .ref 0), (1, .int x1), (2, .int x2)]) (st1 := []) (M2 := ev_M m c w) (pc2 := 12) (lv2 := [(0, .ref 0), (1, .int x1), (2, .int x2)]) (st2 := []) (fun n => rfl) h (fun hc2 h => ?_) (fun hc2 h => ?_)
    · refine ev_sub (lv := []) (mn_of rfl (by repeat (first | exact trivial | refine And.intro rfl ?_))) ?_
      exact ok_fX10_laying_c27 h
    · refine ev_i 3 (M1 := ev_M m c w) (pc1 := 18) (lv1 := [(0, .ref 0), (1, .int x1), (2, .int x2)]) (st1 := []) (M2 := ev_M m c w) (pc2 := 27) (lv2 := [(0, .ref 0), (1, .int x1), (2, .int x2)]) (st2 := []) (fun n => rfl) h (fun hc3 h => ?_) (fun hc3 h => ?_)
      · refine ev_i 2 (M1 := ev_M m c w) (pc1 := 27) (lv1 := [(0, .ref 0), (1, .int x1), (2, .int x2)]) (st1 := []) (M2 := ev_M m c w) (pc2 := 22) (lv2 := [(0, .ref 0), (1, .int x1), (2, .int x2)]) (st2 := []) (fun n => rfl) h (fun hc4 h => ?_) (fun hc4 h => ?_)
        · refine ev_sub (lv := []) (mn_of rfl (by repeat (first | exact trivial | refine And.intro rfl ?_))) ?_
          exact ok_fX10_laying_c27 h
        · refine ev_i 3 (M1 := ev_M m c w) (pc1 := 29) (lv1 := [(0, .ref 0), (1, .int x1), (2, .int x2)]) (st1 := []) (M2 := ev_M m c w) (pc2 := 27) (lv2 := [(0, .ref 0), (1, .int x1), (2, .int x2)]) (st2 := []) (fun n => rfl) h (fun hc5 h => ?_) (fun hc5 h => ?_)
          · obtain ⟨r6, hr6, h⟩ := Option.bind_eq_some_iff.mp h
            refine ev_c 3 (y' := 45) (M1 := ev_M m c w) (la := lv_args 0 [.ref 584]) (rest := []) (pc' := 36) (lv' := [(0, .ref 0), (1, .int x1), (2, .int x2)]) (fun n => rfl) (ok_fX4_begin hr6) ?_
            show Ev XL xs _ 138 (ev_M r6 c w) 36 [(0, .ref 0), (1, .int x1), (2, .int x2)] [] _
            refine ev_s 2 (M' := ev_M r6 c w) (pc' := 38) (lv' := [(3, .int 0), (0, .ref 0), (1, .int x1), (2, .int x2)]) (st' := []) (fun n => rfl) ?_
            refine ev_sub (lv := [(0, .ref 0), (1, .int x1), (2, .int x2), (3, .int 0)]) (mn_of rfl (by repeat (first | exact trivial | refine And.intro rfl ?_))) ?_
            exact ok_fX10_laying_c38 fu _ _ _ _ _ h
          · refine ev_sub (lv := []) (mn_of rfl (by repeat (first | exact trivial | refine And.intro rfl ?_))) ?_
            exact ok_fX10_laying_c27 h
      · refine ev_sub (lv := []) (mn_of rfl (by repeat (first | exact trivial | refine And.intro rfl ?_))) ?_
        exact ok_fX10_laying_c27 h
def fX10_way_c63 (kr18 : mm_MM → Int32 → Option (Int32 × mm_MM)) (m : mm_MM) (x1 : Int32) : Option (Int32 × mm_MM) :=
  kr18 m (x1 + 1)
theorem ok_fX10_way_c63 {kr18 : mm_MM → Int32 → Option (Int32 × mm_MM)} (hkr18 : ∀ (m : mm_MM) (x1 : Int32) (q0 : Int32 × mm_MM), kr18 m x1 = some q0 → Ev XL xs (d + 4) 140 (ev_M m c w) 18 [(0, .ref 0), (1, .int x1)] [] (fr_i c w q0)) {m : mm_MM} {x1 : Int32} {q0 : Int32 × mm_MM} (h : fX10_way_c63 kr18 m x1 = some q0) : Ev XL xs (d + 4) 140 (ev_M m c w) 63 [(0, .ref 0), (1, .int x1)] [] (fr_i c w q0) := by
  unfold fX10_way_c63 at h
  refine ev_s 2 (M' := ev_M m c w) (pc' := 18) (lv' := [(1, .int (x1 + 1)), (0, .ref 0)]) (st' := []) (fun n => rfl) ?_
  refine ev_sub (lv := [(0, .ref 0), (1, .int (x1 + 1))]) (mn_of rfl (by repeat (first | exact trivial | refine And.intro rfl ?_))) ?_
  exact hkr18 _ _ _ h
def fX10_way_c18 : Nat → mm_MM → Int32 → Option (Int32 × mm_MM)
  | 0 => fun _ _ => none
  | n + 1 => fun m x1 =>
    (if x1 < 8 then
      (fX7_findLying m 29 x1).bind fun r2 =>
       match r2.1 with
       | none =>
         fX10_way_c63 (fX10_way_c18 n) r2.2 x1
       | some u3 =>
         if mm_kd u3 = (9, 6) then
           (if r2.2.1 u3 5 = 0 then
             fX10_way_c63 (fX10_way_c18 n) r2.2 x1
            else
             (fX10_isRipe r2.2 u3).bind fun r5 =>
              (if r5.1 = 0 then
                fX10_way_c63 (fX10_way_c18 n) r5.2 x1
               else
                (fX6_addStop r5.2 (r5.2.1 u3 3)).bind fun r7 =>
                 fX10_way_c63 (fX10_way_c18 n) r7 x1))
         else none
     else
      (fX6_fewestSteps m 14).bind fun r9 =>
       some (r9.1, r9.2))
theorem ok_fX10_way_c18 : ∀ (n : Nat) (m : mm_MM) (x1 : Int32) (q0 : Int32 × mm_MM), fX10_way_c18 n m x1 = some q0 → Ev XL xs (d + 4) 140 (ev_M m c w) 18 [(0, .ref 0), (1, .int x1)] [] (fr_i c w q0) := by
  intro n
  induction n with
  | zero => intro m x1 q0 h; exact absurd (show (none : Option (Int32 × mm_MM)) = some q0 from h) (by simp)
  | succ n ih =>
    intro m x1 q0 h
    unfold fX10_way_c18 at h
    refine ev_i 3 (M1 := ev_M m c w) (pc1 := 24) (lv1 := [(0, .ref 0), (1, .int x1)]) (st1 := []) (M2 := ev_M m c w) (pc2 := 69) (lv2 := [(0, .ref 0), (1, .int x1)]) (st2 := []) (fun n => rfl) h (fun hc1 h => ?_) (fun hc1 h => ?_)
    · obtain ⟨r2, hr2, h⟩ := Option.bind_eq_some_iff.mp h
      refine ev_c 4 (y' := 70) (M1 := ev_M m c w) (la := lv_args 0 [.ref 29, .int x1]) (rest := []) (pc' := 32) (lv' := [(0, .ref 0), (1, .int x1)]) (fun n => rfl) (ok_fX7_findLying (rfl : mm_kd 29 = (7, 8)) hr2) ?_
      show Ev XL xs _ 140 (ev_M r2.2 c w) 32 [(0, .ref 0), (1, .int x1)] [va_rf r2.1] _
      generalize r2.1 = o8 at h ⊢
      cases o8 with
      | none =>
        refine ev_s 3 (M' := ev_M r2.2 c w) (pc' := 63) (lv' := [(2, .null), (0, .ref 0), (1, .int x1)]) (st' := []) (fun n => rfl) ?_
        refine ev_sub (lv := [(0, .ref 0), (1, .int x1)]) (mn_of rfl (by repeat (first | exact trivial | refine And.intro rfl ?_))) ?_
        exact ok_fX10_way_c63 ih h
      | some u3 =>
        obtain ⟨hk_u3, h⟩ := sd_ift h
        refine ev_s 4 (M' := ev_M r2.2 c w) (pc' := 38) (lv' := [(2, .ref u3), (0, .ref 0), (1, .int x1)]) (st' := [.ref u3]) (fun n => rfl) ?_
        refine ev_gf (x := .int (r2.2.1 u3 5)) rfl (congrArg Prod.fst hk_u3) rfl rfl ?_
        refine ev_i 1 (M1 := ev_M r2.2 c w) (pc1 := 63) (lv1 := [(2, .ref u3), (0, .ref 0), (1, .int x1)]) (st1 := []) (M2 := ev_M r2.2 c w) (pc2 := 44) (lv2 := [(2, .ref u3), (0, .ref 0), (1, .int x1)]) (st2 := []) (fun n => rfl) h (fun hc4 h => ?_) (fun hc4 h => ?_)
        · refine ev_sub (lv := [(0, .ref 0), (1, .int x1)]) (mn_of rfl (by repeat (first | exact trivial | refine And.intro rfl ?_))) ?_
          exact ok_fX10_way_c63 ih h
        · obtain ⟨r5, hr5, h⟩ := Option.bind_eq_some_iff.mp h
          refine ev_c 3 (y' := 106) (M1 := ev_M r2.2 c w) (la := lv_args 0 [.ref 0, .ref u3]) (rest := []) (pc' := 49) (lv' := [(2, .ref u3), (0, .ref 0), (1, .int x1)]) (fun n => rfl) (ok_fX10_isRipe hk_u3 hr5) ?_
          show Ev XL xs _ 140 (ev_M r5.2 c w) 49 [(2, .ref u3), (0, .ref 0), (1, .int x1)] [.int r5.1] _
          refine ev_i 1 (M1 := ev_M r5.2 c w) (pc1 := 63) (lv1 := [(2, .ref u3), (0, .ref 0), (1, .int x1)]) (st1 := []) (M2 := ev_M r5.2 c w) (pc2 := 52) (lv2 := [(2, .ref u3), (0, .ref 0), (1, .int x1)]) (st2 := []) (fun n => rfl) h (fun hc6 h => ?_) (fun hc6 h => ?_)
          · refine ev_sub (lv := [(0, .ref 0), (1, .int x1)]) (mn_of rfl (by repeat (first | exact trivial | refine And.intro rfl ?_))) ?_
            exact ok_fX10_way_c63 ih h
          · refine ev_s 3 (M' := ev_M r5.2 c w) (pc' := 57) (lv' := [(2, .ref u3), (0, .ref 0), (1, .int x1)]) (st' := [.ref u3, .ref 589]) (fun n => rfl) ?_
            refine ev_gf (x := .int (r5.2.1 u3 3)) rfl (congrArg Prod.fst hk_u3) rfl rfl ?_
            obtain ⟨r7, hr7, h⟩ := Option.bind_eq_some_iff.mp h
            refine ev_c 1 (y' := 64) (M1 := ev_M r5.2 c w) (la := lv_args 0 [.ref 589, .int (r5.2.1 u3 3)]) (rest := []) (pc' := 63) (lv' := [(2, .ref u3), (0, .ref 0), (1, .int x1)]) (fun n => rfl) (ok_fX6_addStop hr7) ?_
            show Ev XL xs _ 140 (ev_M r7 c w) 63 [(2, .ref u3), (0, .ref 0), (1, .int x1)] [] _
            refine ev_sub (lv := [(0, .ref 0), (1, .int x1)]) (mn_of rfl (by repeat (first | exact trivial | refine And.intro rfl ?_))) ?_
            exact ok_fX10_way_c63 ih h
    · obtain ⟨r9, hr9, h⟩ := Option.bind_eq_some_iff.mp h
      refine ev_c 5 (y' := 65) (M1 := ev_M m c w) (la := lv_args 0 [.ref 589, .ref 14]) (rest := []) (pc' := 80) (lv' := [(0, .ref 0), (1, .int x1)]) (fun n => rfl) (ok_fX6_fewestSteps (rfl : mm_kd 14 = (1, 10)) hr9) ?_
      show Ev XL xs _ 140 (ev_M r9.2 c w) 80 [(0, .ref 0), (1, .int x1)] [.int r9.1] _
      cases h
      exact ev_r 1 (fun n => rfl)
def fX10_way (m : mm_MM) : Option (Int32 × mm_MM) :=
  (if m.1 0 14 = 0 then
    some (((-1) : Int32), m)
   else
    (fX6_begin m).bind fun r2 =>
     fX10_way_c18 fu r2 0)
theorem ok_fX10_way {m : mm_MM} {q0 : Int32 × mm_MM} (h : fX10_way m = some q0) : Ev XL xs (d + 4) 140 (ev_M m c w) 0 (lv_args 0 [.ref 0]) [] (fr_i c w q0) := by
  unfold fX10_way at h
  refine ev_i 3 (M1 := ev_M m c w) (pc1 := 7) (lv1 := [(0, .ref 0)]) (st1 := []) (M2 := ev_M m c w) (pc2 := 9) (lv2 := [(0, .ref 0)]) (st2 := []) (fun n => rfl) h (fun hc1 h => ?_) (fun hc1 h => ?_)
  · cases h
    exact ev_r 2 (fun n => rfl)
  · obtain ⟨r2, hr2, h⟩ := Option.bind_eq_some_iff.mp h
    refine ev_c 3 (y' := 63) (M1 := ev_M m c w) (la := lv_args 0 [.ref 589]) (rest := []) (pc' := 16) (lv' := [(0, .ref 0)]) (fun n => rfl) (ok_fX6_begin hr2) ?_
    show Ev XL xs _ 140 (ev_M r2 c w) 16 [(0, .ref 0)] [] _
    refine ev_s 2 (M' := ev_M r2 c w) (pc' := 18) (lv' := [(1, .int 0), (0, .ref 0)]) (st' := []) (fun n => rfl) ?_
    refine ev_sub (lv := [(0, .ref 0), (1, .int 0)]) (mn_of rfl (by repeat (first | exact trivial | refine And.intro rfl ?_))) ?_
    exact ok_fX10_way_c18 fu _ _ _ h
def fX10_full_c45 (kr4 : mm_MM → Int32 → Int32 → Option (Int32 × mm_MM)) (m : mm_MM) (x1 : Int32) (x2 : Int32) : Option (Int32 × mm_MM) :=
  kr4 m x1 (x2 + 1)
theorem ok_fX10_full_c45 {kr4 : mm_MM → Int32 → Int32 → Option (Int32 × mm_MM)} (hkr4 : ∀ (m : mm_MM) (x1 : Int32) (x2 : Int32) (q0 : Int32 × mm_MM), kr4 m x1 x2 = some q0 → Ev XL xs (d + 3) 141 (ev_M m c w) 4 [(0, .ref 0), (1, .int x1), (2, .int x2)] [] (fr_i c w q0)) {m : mm_MM} {x1 : Int32} {x2 : Int32} {q0 : Int32 × mm_MM} (h : fX10_full_c45 kr4 m x1 x2 = some q0) : Ev XL xs (d + 3) 141 (ev_M m c w) 45 [(0, .ref 0), (1, .int x1), (2, .int x2)] [] (fr_i c w q0) := by
  unfold fX10_full_c45 at h
  refine ev_s 2 (M' := ev_M m c w) (pc' := 4) (lv' := [(2, .int (x2 + 1)), (0, .ref 0), (1, .int x1)]) (st' := []) (fun n => rfl) ?_
  refine ev_sub (lv := [(0, .ref 0), (1, .int x1), (2, .int (x2 + 1))]) (mn_of rfl (by repeat (first | exact trivial | refine And.intro rfl ?_))) ?_
  exact hkr4 _ _ _ _ h
def fX10_full_c4 : Nat → mm_MM → Int32 → Int32 → Option (Int32 × mm_MM)
  | 0 => fun _ _ _ => none
  | n + 1 => fun m x1 x2 =>
    (if x2 < 8 then
      (fX7_findLying m 29 x2).bind fun r2 =>
       match r2.1 with
       | none =>
         fX10_full_c45 (fX10_full_c4 n) r2.2 x1 x2
       | some u3 =>
         if mm_kd u3 = (9, 6) then
           (fX10_monthsToRipe r2.2 u3).bind fun r4 =>
            (if r4.1 = ((-1) : Int32) then
              some (((-1) : Int32), r4.2)
             else
              (fJ9_max_7cf53 r4.2 x1 r4.1).bind fun r6 =>
               fX10_full_c45 (fX10_full_c4 n) r6.2 r6.1 x2)
         else none
     else
      some (x1, m))
theorem ok_fX10_full_c4 : ∀ (n : Nat) (m : mm_MM) (x1 : Int32) (x2 : Int32) (q0 : Int32 × mm_MM), fX10_full_c4 n m x1 x2 = some q0 → Ev XL xs (d + 3) 141 (ev_M m c w) 4 [(0, .ref 0), (1, .int x1), (2, .int x2)] [] (fr_i c w q0) := by
  intro n
  induction n with
  | zero => intro m x1 x2 q0 h; exact absurd (show (none : Option (Int32 × mm_MM)) = some q0 from h) (by simp)
  | succ n ih =>
    intro m x1 x2 q0 h
    unfold fX10_full_c4 at h
    refine ev_i 3 (M1 := ev_M m c w) (pc1 := 10) (lv1 := [(0, .ref 0), (1, .int x1), (2, .int x2)]) (st1 := []) (M2 := ev_M m c w) (pc2 := 51) (lv2 := [(0, .ref 0), (1, .int x1), (2, .int x2)]) (st2 := []) (fun n => rfl) h (fun hc1 h => ?_) (fun hc1 h => ?_)
    · obtain ⟨r2, hr2, h⟩ := Option.bind_eq_some_iff.mp h
      refine ev_c 4 (y' := 70) (M1 := ev_M m c w) (la := lv_args 0 [.ref 29, .int x2]) (rest := []) (pc' := 18) (lv' := [(0, .ref 0), (1, .int x1), (2, .int x2)]) (fun n => rfl) (ok_fX7_findLying (rfl : mm_kd 29 = (7, 8)) hr2) ?_
      show Ev XL xs _ 141 (ev_M r2.2 c w) 18 [(0, .ref 0), (1, .int x1), (2, .int x2)] [va_rf r2.1] _
      generalize r2.1 = o7 at h ⊢
      cases o7 with
      | none =>
        refine ev_s 3 (M' := ev_M r2.2 c w) (pc' := 45) (lv' := [(3, .null), (0, .ref 0), (1, .int x1), (2, .int x2)]) (st' := []) (fun n => rfl) ?_
        refine ev_sub (lv := [(0, .ref 0), (1, .int x1), (2, .int x2)]) (mn_of rfl (by repeat (first | exact trivial | refine And.intro rfl ?_))) ?_
        exact ok_fX10_full_c45 ih h
      | some u3 =>
        obtain ⟨hk_u3, h⟩ := sd_ift h
        obtain ⟨r4, hr4, h⟩ := Option.bind_eq_some_iff.mp h
        refine ev_c 6 (y' := 136) (M1 := ev_M r2.2 c w) (la := lv_args 0 [.ref 0, .ref u3]) (rest := []) (pc' := 28) (lv' := [(3, .ref u3), (0, .ref 0), (1, .int x1), (2, .int x2)]) (fun n => rfl) (ok_fX10_monthsToRipe hk_u3 hr4) ?_
        show Ev XL xs _ 141 (ev_M r4.2 c w) 28 [(3, .ref u3), (0, .ref 0), (1, .int x1), (2, .int x2)] [.int r4.1] _
        refine ev_i 4 (M1 := ev_M r4.2 c w) (pc1 := 36) (lv1 := [(4, .int r4.1), (3, .ref u3), (0, .ref 0), (1, .int x1), (2, .int x2)]) (st1 := []) (M2 := ev_M r4.2 c w) (pc2 := 38) (lv2 := [(4, .int r4.1), (3, .ref u3), (0, .ref 0), (1, .int x1), (2, .int x2)]) (st2 := []) (fun n => rfl) h (fun hc5 h => ?_) (fun hc5 h => ?_)
        · cases h
          exact ev_r 2 (fun n => rfl)
        · obtain ⟨r6, hr6, h⟩ := Option.bind_eq_some_iff.mp h
          refine ev_c 3 (y' := 306) (M1 := ev_M r4.2 c w) (la := lv_args 0 [.int x1, .int r4.1]) (rest := []) (pc' := 44) (lv' := [(4, .int r4.1), (3, .ref u3), (0, .ref 0), (1, .int x1), (2, .int x2)]) (fun n => rfl) (ok_fJ9_max_7cf53 hr6) ?_
          show Ev XL xs _ 141 (ev_M r6.2 c w) 44 [(4, .int r4.1), (3, .ref u3), (0, .ref 0), (1, .int x1), (2, .int x2)] [.int r6.1] _
          refine ev_s 1 (M' := ev_M r6.2 c w) (pc' := 45) (lv' := [(1, .int r6.1), (4, .int r4.1), (3, .ref u3), (0, .ref 0), (2, .int x2)]) (st' := []) (fun n => rfl) ?_
          refine ev_sub (lv := [(0, .ref 0), (1, .int r6.1), (2, .int x2)]) (mn_of rfl (by repeat (first | exact trivial | refine And.intro rfl ?_))) ?_
          exact ok_fX10_full_c45 ih h
    · cases h
      exact ev_r 2 (fun n => rfl)
def fX10_full (m : mm_MM) : Option (Int32 × mm_MM) :=
  fX10_full_c4 fu m ((-1) : Int32) 0
theorem ok_fX10_full {m : mm_MM} {q0 : Int32 × mm_MM} (h : fX10_full m = some q0) : Ev XL xs (d + 3) 141 (ev_M m c w) 0 (lv_args 0 [.ref 0]) [] (fr_i c w q0) := by
  unfold fX10_full at h
  refine ev_s 4 (M' := ev_M m c w) (pc' := 4) (lv' := [(2, .int 0), (1, .int ((-1) : Int32)), (0, .ref 0)]) (st' := []) (fun n => rfl) ?_
  refine ev_sub (lv := [(0, .ref 0), (1, .int ((-1) : Int32)), (2, .int 0)]) (mn_of rfl (by repeat (first | exact trivial | refine And.intro rfl ?_))) ?_
  exact ok_fX10_full_c4 fu _ _ _ _ h
def fX10_toldThing_c34 (m : mm_MM) (s0 : Option Nat) : Option (Option Nat × mm_MM) :=
  match s0 with
  | none =>
    some (none, m)
  | some u1 =>
    if mm_kd u1 = (9, 6) then
      some (some u1, m)
    else none
theorem ok_fX10_toldThing_c34 {m : mm_MM} {s0 : Option Nat} {q0 : Option Nat × mm_MM} (h : fX10_toldThing_c34 m s0 = some q0) : Ev XL xs (d + 1) 148 (ev_M m c w) 34 [] [va_rf s0] (fr_r c w q0) := by
  unfold fX10_toldThing_c34 at h
  cases s0 with
  | none =>
    cases h
    exact ev_r 1 (fun n => rfl)
  | some u1 =>
    obtain ⟨hk_u1, h⟩ := sd_ift h
    cases h
    exact ev_r 1 (fun n => rfl)
def fX10_toldThing_c33 (m : mm_MM) : Option (Option Nat × mm_MM) :=
  fX10_toldThing_c34 m none
theorem ok_fX10_toldThing_c33 {m : mm_MM} {q0 : Option Nat × mm_MM} (h : fX10_toldThing_c33 m = some q0) : Ev XL xs (d + 1) 148 (ev_M m c w) 33 [] [] (fr_r c w q0) := by
  unfold fX10_toldThing_c33 at h
  refine ev_s 1 (M' := ev_M m c w) (pc' := 34) (lv' := []) (st' := [va_rf none]) (fun n => rfl) ?_
  exact ok_fX10_toldThing_c34 h
def fX10_toldThing (m : mm_MM) (x1 : Int32) : Option (Option Nat × mm_MM) :=
  (if m.1 0 14 = 0 then
    fX10_toldThing_c33 m
   else
    (if x1 < 0 then
      fX10_toldThing_c33 m
     else
      (if x1 < m.1 14 9 then
        (fX1_thingAt m 14 x1).bind fun r4 =>
         match r4.1 with
         | none =>
           fX10_toldThing_c34 r4.2 none
         | some u5 =>
           if mm_kd u5 = (9, 6) then
             fX10_toldThing_c34 r4.2 (some u5)
           else none
       else
        fX10_toldThing_c33 m)))
theorem ok_fX10_toldThing {m : mm_MM} {x1 : Int32} {q0 : Option Nat × mm_MM} (h : fX10_toldThing m x1 = some q0) : Ev XL xs (d + 1) 148 (ev_M m c w) 0 (lv_args 0 [.ref 0, .int x1]) [] (fr_r c w q0) := by
  unfold fX10_toldThing at h
  refine ev_i 3 (M1 := ev_M m c w) (pc1 := 33) (lv1 := [(0, .ref 0), (1, .int x1)]) (st1 := []) (M2 := ev_M m c w) (pc2 := 7) (lv2 := [(0, .ref 0), (1, .int x1)]) (st2 := []) (fun n => rfl) h (fun hc1 h => ?_) (fun hc1 h => ?_)
  · refine ev_sub (lv := []) (mn_of rfl (by repeat (first | exact trivial | refine And.intro rfl ?_))) ?_
    exact ok_fX10_toldThing_c33 h
  · refine ev_i 2 (M1 := ev_M m c w) (pc1 := 33) (lv1 := [(0, .ref 0), (1, .int x1)]) (st1 := []) (M2 := ev_M m c w) (pc2 := 11) (lv2 := [(0, .ref 0), (1, .int x1)]) (st2 := []) (fun n => rfl) h (fun hc2 h => ?_) (fun hc2 h => ?_)
    · refine ev_sub (lv := []) (mn_of rfl (by repeat (first | exact trivial | refine And.intro rfl ?_))) ?_
      exact ok_fX10_toldThing_c33 h
    · refine ev_i 5 (M1 := ev_M m c w) (pc1 := 22) (lv1 := [(0, .ref 0), (1, .int x1)]) (st1 := []) (M2 := ev_M m c w) (pc2 := 33) (lv2 := [(0, .ref 0), (1, .int x1)]) (st2 := []) (fun n => rfl) h (fun hc3 h => ?_) (fun hc3 h => ?_)
      · obtain ⟨r4, hr4, h⟩ := Option.bind_eq_some_iff.mp h
        refine ev_c 4 (y' := 3) (M1 := ev_M m c w) (la := lv_args 0 [.ref 14, .int x1]) (rest := []) (pc' := 30) (lv' := [(0, .ref 0), (1, .int x1)]) (fun n => rfl) (ok_fX1_thingAt (rfl : mm_kd 14 = (1, 10)) hr4) ?_
        show Ev XL xs _ 148 (ev_M r4.2 c w) 30 [(0, .ref 0), (1, .int x1)] [va_rf r4.1] _
        generalize r4.1 = o6 at h ⊢
        cases o6 with
        | none =>
          refine ev_s 1 (M' := ev_M r4.2 c w) (pc' := 34) (lv' := [(0, .ref 0), (1, .int x1)]) (st' := [va_rf none]) (fun n => rfl) ?_
          refine ev_sub (lv := []) (mn_of rfl (by repeat (first | exact trivial | refine And.intro rfl ?_))) ?_
          exact ok_fX10_toldThing_c34 h
        | some u5 =>
          obtain ⟨hk_u5, h⟩ := sd_ift h
          refine ev_s 1 (M' := ev_M r4.2 c w) (pc' := 34) (lv' := [(0, .ref 0), (1, .int x1)]) (st' := [va_rf (some u5)]) (fun n => rfl) ?_
          refine ev_sub (lv := []) (mn_of rfl (by repeat (first | exact trivial | refine And.intro rfl ?_))) ?_
          exact ok_fX10_toldThing_c34 h
      · refine ev_sub (lv := []) (mn_of rfl (by repeat (first | exact trivial | refine And.intro rfl ?_))) ?_
        exact ok_fX10_toldThing_c33 h
def fX10_seen_c64 (m : mm_MM) : Option (Int32 × mm_MM) :=
  some (((-1) : Int32), m)
theorem ok_fX10_seen_c64 {m : mm_MM} {q0 : Int32 × mm_MM} (h : fX10_seen_c64 m = some q0) : Ev XL xs (d + 2) 142 (ev_M m c w) 64 [] [] (fr_i c w q0) := by
  unfold fX10_seen_c64 at h
  cases h
  exact ev_r 2 (fun n => rfl)
def fX10_seen_c29 (m : mm_MM) (x1 : Int32) (x2 : Int32) (x3 : Int32) (x4 : Int32) (x5 : Int32) (s0 : Int32) : Option (Int32 × mm_MM) :=
  (fX10_toldThing m x1).bind fun r1 =>
   match r1.1 with
   | none =>
     fX10_seen_c64 r1.2
   | some u2 =>
     if mm_kd u2 = (9, 6) then
       (fX10_isRow r1.2 x2).bind fun r3 =>
        (if r3.1 = 0 then
          fX10_seen_c64 r3.2
         else
          (if s0 = 0 then
            fX10_seen_c64 r3.2
           else
            (fX5_size r3.2).bind fun r6 =>
             (if r6.1 < 10 then
               (fX5_add r6.2 x1 x2 x3 x4 x5).bind fun r8 =>
                (fX5_size r8).bind fun r9 =>
                 some (r9.1, r9.2)
              else
               fX10_seen_c64 r6.2)))
     else none
theorem ok_fX10_seen_c29 {m : mm_MM} {x1 : Int32} {x2 : Int32} {x3 : Int32} {x4 : Int32} {x5 : Int32} {s0 : Int32} {q0 : Int32 × mm_MM} (h : fX10_seen_c29 m x1 x2 x3 x4 x5 s0 = some q0) : Ev XL xs (d + 2) 142 (ev_M m c w) 29 [(0, .ref 0), (1, .int x1), (2, .int x2), (3, .int x3), (4, .int x4), (5, .int x5)] [.int s0] (fr_i c w q0) := by
  unfold fX10_seen_c29 at h
  obtain ⟨r1, hr1, h⟩ := Option.bind_eq_some_iff.mp h
  refine ev_c 4 (y' := 148) (M1 := ev_M m c w) (la := lv_args 0 [.ref 0, .int x1]) (rest := []) (pc' := 36) (lv' := [(6, .int s0), (0, .ref 0), (1, .int x1), (2, .int x2), (3, .int x3), (4, .int x4), (5, .int x5)]) (fun n => rfl) (ok_fX10_toldThing hr1) ?_
  show Ev XL xs _ 142 (ev_M r1.2 c w) 36 [(6, .int s0), (0, .ref 0), (1, .int x1), (2, .int x2), (3, .int x3), (4, .int x4), (5, .int x5)] [va_rf r1.1] _
  generalize r1.1 = o10 at h ⊢
  cases o10 with
  | none =>
    refine ev_s 1 (M' := ev_M r1.2 c w) (pc' := 64) (lv' := [(6, .int s0), (0, .ref 0), (1, .int x1), (2, .int x2), (3, .int x3), (4, .int x4), (5, .int x5)]) (st' := []) (fun n => rfl) ?_
    refine ev_sub (lv := []) (mn_of rfl (by repeat (first | exact trivial | refine And.intro rfl ?_))) ?_
    exact ok_fX10_seen_c64 h
  | some u2 =>
    obtain ⟨hk_u2, h⟩ := sd_ift h
    obtain ⟨r3, hr3, h⟩ := Option.bind_eq_some_iff.mp h
    refine ev_c 4 (y' := 104) (M1 := ev_M r1.2 c w) (la := lv_args 0 [.ref 0, .int x2]) (rest := []) (pc' := 44) (lv' := [(6, .int s0), (0, .ref 0), (1, .int x1), (2, .int x2), (3, .int x3), (4, .int x4), (5, .int x5)]) (fun n => rfl) (ok_fX10_isRow hr3) ?_
    show Ev XL xs _ 142 (ev_M r3.2 c w) 44 [(6, .int s0), (0, .ref 0), (1, .int x1), (2, .int x2), (3, .int x3), (4, .int x4), (5, .int x5)] [.int r3.1] _
    refine ev_i 1 (M1 := ev_M r3.2 c w) (pc1 := 64) (lv1 := [(6, .int s0), (0, .ref 0), (1, .int x1), (2, .int x2), (3, .int x3), (4, .int x4), (5, .int x5)]) (st1 := []) (M2 := ev_M r3.2 c w) (pc2 := 47) (lv2 := [(6, .int s0), (0, .ref 0), (1, .int x1), (2, .int x2), (3, .int x3), (4, .int x4), (5, .int x5)]) (st2 := []) (fun n => rfl) h (fun hc4 h => ?_) (fun hc4 h => ?_)
    · refine ev_sub (lv := []) (mn_of rfl (by repeat (first | exact trivial | refine And.intro rfl ?_))) ?_
      exact ok_fX10_seen_c64 h
    · refine ev_i 2 (M1 := ev_M r3.2 c w) (pc1 := 64) (lv1 := [(6, .int s0), (0, .ref 0), (1, .int x1), (2, .int x2), (3, .int x3), (4, .int x4), (5, .int x5)]) (st1 := []) (M2 := ev_M r3.2 c w) (pc2 := 52) (lv2 := [(6, .int s0), (0, .ref 0), (1, .int x1), (2, .int x2), (3, .int x3), (4, .int x4), (5, .int x5)]) (st2 := []) (fun n => rfl) h (fun hc5 h => ?_) (fun hc5 h => ?_)
      · refine ev_sub (lv := []) (mn_of rfl (by repeat (first | exact trivial | refine And.intro rfl ?_))) ?_
        exact ok_fX10_seen_c64 h
      · obtain ⟨r6, hr6, h⟩ := Option.bind_eq_some_iff.mp h
        refine ev_c 3 (y' := 59) (M1 := ev_M r3.2 c w) (la := lv_args 0 [.ref 577]) (rest := []) (pc' := 59) (lv' := [(6, .int s0), (0, .ref 0), (1, .int x1), (2, .int x2), (3, .int x3), (4, .int x4), (5, .int x5)]) (fun n => rfl) (ok_fX5_size hr6) ?_
        show Ev XL xs _ 142 (ev_M r6.2 c w) 59 [(6, .int s0), (0, .ref 0), (1, .int x1), (2, .int x2), (3, .int x3), (4, .int x4), (5, .int x5)] [.int r6.1] _
        refine ev_i 2 (M1 := ev_M r6.2 c w) (pc1 := 66) (lv1 := [(6, .int s0), (0, .ref 0), (1, .int x1), (2, .int x2), (3, .int x3), (4, .int x4), (5, .int x5)]) (st1 := []) (M2 := ev_M r6.2 c w) (pc2 := 64) (lv2 := [(6, .int s0), (0, .ref 0), (1, .int x1), (2, .int x2), (3, .int x3), (4, .int x4), (5, .int x5)]) (st2 := []) (fun n => rfl) h (fun hc7 h => ?_) (fun hc7 h => ?_)
        · obtain ⟨r8, hr8, h⟩ := Option.bind_eq_some_iff.mp h
          refine ev_c 8 (y' := 61) (M1 := ev_M r6.2 c w) (la := lv_args 0 [.ref 577, .int x1, .int x2, .int x3, .int x4, .int x5]) (rest := []) (pc' := 80) (lv' := [(6, .int s0), (0, .ref 0), (1, .int x1), (2, .int x2), (3, .int x3), (4, .int x4), (5, .int x5)]) (fun n => rfl) (ok_fX5_add hr8) ?_
          show Ev XL xs _ 142 (ev_M r8 c w) 80 [(6, .int s0), (0, .ref 0), (1, .int x1), (2, .int x2), (3, .int x3), (4, .int x4), (5, .int x5)] [] _
          obtain ⟨r9, hr9, h⟩ := Option.bind_eq_some_iff.mp h
          refine ev_c 3 (y' := 59) (M1 := ev_M r8 c w) (la := lv_args 0 [.ref 577]) (rest := []) (pc' := 87) (lv' := [(6, .int s0), (0, .ref 0), (1, .int x1), (2, .int x2), (3, .int x3), (4, .int x4), (5, .int x5)]) (fun n => rfl) (ok_fX5_size hr9) ?_
          show Ev XL xs _ 142 (ev_M r9.2 c w) 87 [(6, .int s0), (0, .ref 0), (1, .int x1), (2, .int x2), (3, .int x3), (4, .int x4), (5, .int x5)] [.int r9.1] _
          cases h
          exact ev_r 1 (fun n => rfl)
        · refine ev_sub (lv := []) (mn_of rfl (by repeat (first | exact trivial | refine And.intro rfl ?_))) ?_
          exact ok_fX10_seen_c64 h
def fX10_seen_c28 (m : mm_MM) (x1 : Int32) (x2 : Int32) (x3 : Int32) (x4 : Int32) (x5 : Int32) : Option (Int32 × mm_MM) :=
  fX10_seen_c29 m x1 x2 x3 x4 x5 0
theorem ok_fX10_seen_c28 {m : mm_MM} {x1 : Int32} {x2 : Int32} {x3 : Int32} {x4 : Int32} {x5 : Int32} {q0 : Int32 × mm_MM} (h : fX10_seen_c28 m x1 x2 x3 x4 x5 = some q0) : Ev XL xs (d + 2) 142 (ev_M m c w) 28 [(0, .ref 0), (1, .int x1), (2, .int x2), (3, .int x3), (4, .int x4), (5, .int x5)] [] (fr_i c w q0) := by
  unfold fX10_seen_c28 at h
  refine ev_s 1 (M' := ev_M m c w) (pc' := 29) (lv' := [(0, .ref 0), (1, .int x1), (2, .int x2), (3, .int x3), (4, .int x4), (5, .int x5)]) (st' := [.int 0]) (fun n => rfl) ?_
  exact ok_fX10_seen_c29 h
def fX10_seen (m : mm_MM) (x1 : Int32) (x2 : Int32) (x3 : Int32) (x4 : Int32) (x5 : Int32) : Option (Int32 × mm_MM) :=
  (if x3 < 1 then
    fX10_seen_c28 m x1 x2 x3 x4 x5
   else
    (if x3 ≤ 24 then
      (if x4 < 0 then
        fX10_seen_c28 m x1 x2 x3 x4 x5
       else
        (if x4 ≤ 200 then
          fX10_seen_c29 m x1 x2 x3 x4 x5 1
         else
          fX10_seen_c28 m x1 x2 x3 x4 x5))
     else
      fX10_seen_c28 m x1 x2 x3 x4 x5))
theorem ok_fX10_seen {m : mm_MM} {x1 : Int32} {x2 : Int32} {x3 : Int32} {x4 : Int32} {x5 : Int32} {q0 : Int32 × mm_MM} (h : fX10_seen m x1 x2 x3 x4 x5 = some q0) : Ev XL xs (d + 2) 142 (ev_M m c w) 0 (lv_args 0 [.ref 0, .int x1, .int x2, .int x3, .int x4, .int x5]) [] (fr_i c w q0) := by
  unfold fX10_seen at h
  refine ev_i 3 (M1 := ev_M m c w) (pc1 := 28) (lv1 := [(0, .ref 0), (1, .int x1), (2, .int x2), (3, .int x3), (4, .int x4), (5, .int x5)]) (st1 := []) (M2 := ev_M m c w) (pc2 := 5) (lv2 := [(0, .ref 0), (1, .int x1), (2, .int x2), (3, .int x3), (4, .int x4), (5, .int x5)]) (st2 := []) (fun n => rfl) h (fun hc1 h => ?_) (fun hc1 h => ?_)
  · exact ok_fX10_seen_c28 h
  · refine ev_i 3 (M1 := ev_M m c w) (pc1 := 11) (lv1 := [(0, .ref 0), (1, .int x1), (2, .int x2), (3, .int x3), (4, .int x4), (5, .int x5)]) (st1 := []) (M2 := ev_M m c w) (pc2 := 28) (lv2 := [(0, .ref 0), (1, .int x1), (2, .int x2), (3, .int x3), (4, .int x4), (5, .int x5)]) (st2 := []) (fun n => rfl) h (fun hc2 h => ?_) (fun hc2 h => ?_)
    · refine ev_i 2 (M1 := ev_M m c w) (pc1 := 28) (lv1 := [(0, .ref 0), (1, .int x1), (2, .int x2), (3, .int x3), (4, .int x4), (5, .int x5)]) (st1 := []) (M2 := ev_M m c w) (pc2 := 16) (lv2 := [(0, .ref 0), (1, .int x1), (2, .int x2), (3, .int x3), (4, .int x4), (5, .int x5)]) (st2 := []) (fun n => rfl) h (fun hc3 h => ?_) (fun hc3 h => ?_)
      · exact ok_fX10_seen_c28 h
      · refine ev_i 3 (M1 := ev_M m c w) (pc1 := 24) (lv1 := [(0, .ref 0), (1, .int x1), (2, .int x2), (3, .int x3), (4, .int x4), (5, .int x5)]) (st1 := []) (M2 := ev_M m c w) (pc2 := 28) (lv2 := [(0, .ref 0), (1, .int x1), (2, .int x2), (3, .int x3), (4, .int x4), (5, .int x5)]) (st2 := []) (fun n => rfl) h (fun hc4 h => ?_) (fun hc4 h => ?_)
        · refine ev_s 2 (M' := ev_M m c w) (pc' := 29) (lv' := [(0, .ref 0), (1, .int x1), (2, .int x2), (3, .int x3), (4, .int x4), (5, .int x5)]) (st' := [.int 1]) (fun n => rfl) ?_
          exact ok_fX10_seen_c29 h
        · exact ok_fX10_seen_c28 h
    · exact ok_fX10_seen_c28 h
def fX10_mayBeSoDamp_c117 (kr2 : mm_MM → Int32 → Int32 → Int32 → Option (Int32 × mm_MM)) (m : mm_MM) (x1 : Int32) (x2 : Int32) (x3 : Int32) : Option (Int32 × mm_MM) :=
  kr2 m x1 x2 (x3 + 1)
set_option maxRecDepth 20000 in
theorem ok_fX10_mayBeSoDamp_c117 {kr2 : mm_MM → Int32 → Int32 → Int32 → Option (Int32 × mm_MM)} (hkr2 : ∀ (m : mm_MM) (x1 : Int32) (x2 : Int32) (x3 : Int32) (q0 : Int32 × mm_MM), kr2 m x1 x2 x3 = some q0 → Ev XL xs (d + 6) 147 (ev_M m c w) 2 [(0, .ref 0), (1, .int x1), (2, .int x2), (3, .int x3)] [] (fr_i c w q0)) {m : mm_MM} {x1 : Int32} {x2 : Int32} {x3 : Int32} {q0 : Int32 × mm_MM} (h : fX10_mayBeSoDamp_c117 kr2 m x1 x2 x3 = some q0) : Ev XL xs (d + 6) 147 (ev_M m c w) 117 [(0, .ref 0), (1, .int x1), (2, .int x2), (3, .int x3)] [] (fr_i c w q0) := by
  unfold fX10_mayBeSoDamp_c117 at h
  refine ev_s 2 (M' := ev_M m c w) (pc' := 2) (lv' := [(3, .int (x3 + 1)), (0, .ref 0), (1, .int x1), (2, .int x2)]) (st' := []) (fun n => rfl) ?_
  refine ev_sub (lv := [(0, .ref 0), (1, .int x1), (2, .int x2), (3, .int (x3 + 1))]) (mn_of rfl (by repeat (first | exact trivial | refine And.intro rfl ?_))) ?_
  exact hkr2 _ _ _ _ _ h
def fX10_mayBeSoDamp_c112 (kr2 : mm_MM → Int32 → Int32 → Int32 → Option (Int32 × mm_MM)) (m : mm_MM) (x1 : Int32) (x2 : Int32) (x3 : Int32) (s0 : Int32) (s1 : Int32) : Option (Int32 × mm_MM) :=
  (if s0 = s1 then
    fX10_mayBeSoDamp_c117 kr2 m x1 x2 x3
   else
    some (0, m))
set_option maxRecDepth 20000 in
theorem ok_fX10_mayBeSoDamp_c112 {kr2 : mm_MM → Int32 → Int32 → Int32 → Option (Int32 × mm_MM)} (hkr2 : ∀ (m : mm_MM) (x1 : Int32) (x2 : Int32) (x3 : Int32) (q0 : Int32 × mm_MM), kr2 m x1 x2 x3 = some q0 → Ev XL xs (d + 6) 147 (ev_M m c w) 2 [(0, .ref 0), (1, .int x1), (2, .int x2), (3, .int x3)] [] (fr_i c w q0)) {m : mm_MM} {x1 : Int32} {x2 : Int32} {x3 : Int32} {s0 : Int32} {s1 : Int32} {q0 : Int32 × mm_MM} (h : fX10_mayBeSoDamp_c112 kr2 m x1 x2 x3 s0 s1 = some q0) : Ev XL xs (d + 6) 147 (ev_M m c w) 112 [(0, .ref 0), (1, .int x1), (2, .int x2), (3, .int x3)] [.int s1, .int s0] (fr_i c w q0) := by
  unfold fX10_mayBeSoDamp_c112 at h
  refine ev_i 1 (M1 := ev_M m c w) (pc1 := 117) (lv1 := [(0, .ref 0), (1, .int x1), (2, .int x2), (3, .int x3)]) (st1 := []) (M2 := ev_M m c w) (pc2 := 115) (lv2 := [(0, .ref 0), (1, .int x1), (2, .int x2), (3, .int x3)]) (st2 := []) (fun n => rfl) h (fun hc1 h => ?_) (fun hc1 h => ?_)
  · exact ok_fX10_mayBeSoDamp_c117 hkr2 h
  · cases h
    exact ev_r 2 (fun n => rfl)
def fX10_mayBeSoDamp_c88 (kr2 : mm_MM → Int32 → Int32 → Int32 → Option (Int32 × mm_MM)) (m : mm_MM) (x1 : Int32) (x2 : Int32) (x3 : Int32) (s0 : Int32) : Option (Int32 × mm_MM) :=
  (fX10_pick m 582 x3).bind fun r1 =>
   (if r1.1 = 1 then
     fX10_mayBeSoDamp_c112 kr2 r1.2 x1 x2 x3 s0 1
    else
     fX10_mayBeSoDamp_c112 kr2 r1.2 x1 x2 x3 s0 0)
set_option maxRecDepth 20000 in
theorem ok_fX10_mayBeSoDamp_c88 {kr2 : mm_MM → Int32 → Int32 → Int32 → Option (Int32 × mm_MM)} (hkr2 : ∀ (m : mm_MM) (x1 : Int32) (x2 : Int32) (x3 : Int32) (q0 : Int32 × mm_MM), kr2 m x1 x2 x3 = some q0 → Ev XL xs (d + 6) 147 (ev_M m c w) 2 [(0, .ref 0), (1, .int x1), (2, .int x2), (3, .int x3)] [] (fr_i c w q0)) {m : mm_MM} {x1 : Int32} {x2 : Int32} {x3 : Int32} {s0 : Int32} {q0 : Int32 × mm_MM} (h : fX10_mayBeSoDamp_c88 kr2 m x1 x2 x3 s0 = some q0) : Ev XL xs (d + 6) 147 (ev_M m c w) 88 [(0, .ref 0), (1, .int x1), (2, .int x2), (3, .int x3)] [.int s0] (fr_i c w q0) := by
  unfold fX10_mayBeSoDamp_c88 at h
  obtain ⟨r1, hr1, h⟩ := Option.bind_eq_some_iff.mp h
  refine ev_c 7 (y' := 175) (M1 := ev_M m c w) (la := lv_args 0 [.ref 582, .int x3]) (rest := [.int s0]) (pc' := 103) (lv' := [(5, .int s0), (0, .ref 0), (1, .int x1), (2, .int x2), (3, .int x3)]) (fun n => rfl) (ok_fX10_pick (congrArg Prod.fst (rfl : mm_kd 582 = (20, 10))) hr1) ?_
  show Ev XL xs _ 147 (ev_M r1.2 c w) 103 [(5, .int s0), (0, .ref 0), (1, .int x1), (2, .int x2), (3, .int x3)] [.int r1.1, .int s0] _
  refine ev_i 2 (M1 := ev_M r1.2 c w) (pc1 := 107) (lv1 := [(5, .int s0), (0, .ref 0), (1, .int x1), (2, .int x2), (3, .int x3)]) (st1 := [.int s0]) (M2 := ev_M r1.2 c w) (pc2 := 111) (lv2 := [(5, .int s0), (0, .ref 0), (1, .int x1), (2, .int x2), (3, .int x3)]) (st2 := [.int s0]) (fun n => rfl) h (fun hc2 h => ?_) (fun hc2 h => ?_)
  · refine ev_s 2 (M' := ev_M r1.2 c w) (pc' := 112) (lv' := [(5, .int s0), (0, .ref 0), (1, .int x1), (2, .int x2), (3, .int x3)]) (st' := [.int 1, .int s0]) (fun n => rfl) ?_
    refine ev_sub (lv := [(0, .ref 0), (1, .int x1), (2, .int x2), (3, .int x3)]) (mn_of rfl (by repeat (first | exact trivial | refine And.intro rfl ?_))) ?_
    exact ok_fX10_mayBeSoDamp_c112 hkr2 h
  · refine ev_s 1 (M' := ev_M r1.2 c w) (pc' := 112) (lv' := [(5, .int s0), (0, .ref 0), (1, .int x1), (2, .int x2), (3, .int x3)]) (st' := [.int 0, .int s0]) (fun n => rfl) ?_
    refine ev_sub (lv := [(0, .ref 0), (1, .int x1), (2, .int x2), (3, .int x3)]) (mn_of rfl (by repeat (first | exact trivial | refine And.intro rfl ?_))) ?_
    exact ok_fX10_mayBeSoDamp_c112 hkr2 h
def fX10_mayBeSoDamp_c2 : Nat → mm_MM → Int32 → Int32 → Int32 → Option (Int32 × mm_MM)
  | 0 => fun _ _ _ _ => none
  | n + 1 => fun m x1 x2 x3 =>
    (fX5_size m).bind fun r1 =>
     (if x3 < r1.1 then
       (fX10_pick r1.2 578 x3).bind fun r3 =>
        (fX10_toldThing r3.2 r3.1).bind fun r4 =>
         match r4.1 with
         | none =>
           (fX10_pick r4.2 579 x3).bind fun r6 =>
            (if r6.1 = x1 then
              fX10_mayBeSoDamp_c117 (fX10_mayBeSoDamp_c2 n) r6.2 x1 x2 x3
             else
              fX10_mayBeSoDamp_c117 (fX10_mayBeSoDamp_c2 n) r6.2 x1 x2 x3)
         | some u5 =>
           if mm_kd u5 = (9, 6) then
             (fX10_pick r4.2 579 x3).bind fun r8 =>
              (if r8.1 = x1 then
                (fX10_pick r8.2 580 x3).bind fun r10 =>
                 (fX10_valueAlone r10.2 u5 x2 0 r10.1).bind fun r11 =>
                  (fX10_pick r11.2 581 x3).bind fun r12 =>
                   (if r11.1 < r12.1 then
                     fX10_mayBeSoDamp_c88 (fX10_mayBeSoDamp_c2 n) r12.2 x1 x2 x3 0
                    else
                     fX10_mayBeSoDamp_c88 (fX10_mayBeSoDamp_c2 n) r12.2 x1 x2 x3 1)
               else
                fX10_mayBeSoDamp_c117 (fX10_mayBeSoDamp_c2 n) r8.2 x1 x2 x3)
           else none
      else
       some (1, r1.2))
set_option maxRecDepth 20000 in
theorem ok_fX10_mayBeSoDamp_c2 : ∀ (n : Nat) (m : mm_MM) (x1 : Int32) (x2 : Int32) (x3 : Int32) (q0 : Int32 × mm_MM), fX10_mayBeSoDamp_c2 n m x1 x2 x3 = some q0 → Ev XL xs (d + 6) 147 (ev_M m c w) 2 [(0, .ref 0), (1, .int x1), (2, .int x2), (3, .int x3)] [] (fr_i c w q0) := by
  intro n
  induction n with
  | zero => intro m x1 x2 x3 q0 h; exact absurd (show (none : Option (Int32 × mm_MM)) = some q0 from h) (by simp)
  | succ n ih =>
    intro m x1 x2 x3 q0 h
    unfold fX10_mayBeSoDamp_c2 at h
    obtain ⟨r1, hr1, h⟩ := Option.bind_eq_some_iff.mp h
    refine ev_c 4 (y' := 59) (M1 := ev_M m c w) (la := lv_args 0 [.ref 577]) (rest := [.int x3]) (pc' := 10) (lv' := [(0, .ref 0), (1, .int x1), (2, .int x2), (3, .int x3)]) (fun n => rfl) (ok_fX5_size hr1) ?_
    show Ev XL xs _ 147 (ev_M r1.2 c w) 10 [(0, .ref 0), (1, .int x1), (2, .int x2), (3, .int x3)] [.int r1.1, .int x3] _
    refine ev_i 1 (M1 := ev_M r1.2 c w) (pc1 := 13) (lv1 := [(0, .ref 0), (1, .int x1), (2, .int x2), (3, .int x3)]) (st1 := []) (M2 := ev_M r1.2 c w) (pc2 := 123) (lv2 := [(0, .ref 0), (1, .int x1), (2, .int x2), (3, .int x3)]) (st2 := []) (fun n => rfl) h (fun hc2 h => ?_) (fun hc2 h => ?_)
    · obtain ⟨r3, hr3, h⟩ := Option.bind_eq_some_iff.mp h
      refine ev_c 6 (y' := 175) (M1 := ev_M r1.2 c w) (la := lv_args 0 [.ref 578, .int x3]) (rest := [.ref 0]) (pc' := 25) (lv' := [(0, .ref 0), (1, .int x1), (2, .int x2), (3, .int x3)]) (fun n => rfl) (ok_fX10_pick (congrArg Prod.fst (rfl : mm_kd 578 = (20, 10))) hr3) ?_
      show Ev XL xs _ 147 (ev_M r3.2 c w) 25 [(0, .ref 0), (1, .int x1), (2, .int x2), (3, .int x3)] [.int r3.1, .ref 0] _
      obtain ⟨r4, hr4, h⟩ := Option.bind_eq_some_iff.mp h
      refine ev_c 1 (y' := 148) (M1 := ev_M r3.2 c w) (la := lv_args 0 [.ref 0, .int r3.1]) (rest := []) (pc' := 28) (lv' := [(0, .ref 0), (1, .int x1), (2, .int x2), (3, .int x3)]) (fun n => rfl) (ok_fX10_toldThing hr4) ?_
      show Ev XL xs _ 147 (ev_M r4.2 c w) 28 [(0, .ref 0), (1, .int x1), (2, .int x2), (3, .int x3)] [va_rf r4.1] _
      generalize r4.1 = o14 at h ⊢
      cases o14 with
      | none =>
        obtain ⟨r6, hr6, h⟩ := Option.bind_eq_some_iff.mp h
        refine ev_c 6 (y' := 175) (M1 := ev_M r4.2 c w) (la := lv_args 0 [.ref 579, .int x3]) (rest := []) (pc' := 41) (lv' := [(4, .null), (0, .ref 0), (1, .int x1), (2, .int x2), (3, .int x3)]) (fun n => rfl) (ok_fX10_pick (congrArg Prod.fst (rfl : mm_kd 579 = (20, 10))) hr6) ?_
        show Ev XL xs _ 147 (ev_M r6.2 c w) 41 [(4, .null), (0, .ref 0), (1, .int x1), (2, .int x2), (3, .int x3)] [.int r6.1] _
        refine ev_i 2 (M1 := ev_M r6.2 c w) (pc1 := 45) (lv1 := [(4, .null), (0, .ref 0), (1, .int x1), (2, .int x2), (3, .int x3)]) (st1 := []) (M2 := ev_M r6.2 c w) (pc2 := 117) (lv2 := [(4, .null), (0, .ref 0), (1, .int x1), (2, .int x2), (3, .int x3)]) (st2 := []) (fun n => rfl) h (fun hc7 h => ?_) (fun hc7 h => ?_)
        · refine ev_s 2 (M' := ev_M r6.2 c w) (pc' := 117) (lv' := [(4, .null), (0, .ref 0), (1, .int x1), (2, .int x2), (3, .int x3)]) (st' := []) (fun n => rfl) ?_
          refine ev_sub (lv := [(0, .ref 0), (1, .int x1), (2, .int x2), (3, .int x3)]) (mn_of rfl (by repeat (first | exact trivial | refine And.intro rfl ?_))) ?_
          exact ok_fX10_mayBeSoDamp_c117 ih h
        · refine ev_sub (lv := [(0, .ref 0), (1, .int x1), (2, .int x2), (3, .int x3)]) (mn_of rfl (by repeat (first | exact trivial | refine And.intro rfl ?_))) ?_
          exact ok_fX10_mayBeSoDamp_c117 ih h
      | some u5 =>
        obtain ⟨hk_u5, h⟩ := sd_ift h
        obtain ⟨r8, hr8, h⟩ := Option.bind_eq_some_iff.mp h
        refine ev_c 6 (y' := 175) (M1 := ev_M r4.2 c w) (la := lv_args 0 [.ref 579, .int x3]) (rest := []) (pc' := 41) (lv' := [(4, .ref u5), (0, .ref 0), (1, .int x1), (2, .int x2), (3, .int x3)]) (fun n => rfl) (ok_fX10_pick (congrArg Prod.fst (rfl : mm_kd 579 = (20, 10))) hr8) ?_
        show Ev XL xs _ 147 (ev_M r8.2 c w) 41 [(4, .ref u5), (0, .ref 0), (1, .int x1), (2, .int x2), (3, .int x3)] [.int r8.1] _
        refine ev_i 2 (M1 := ev_M r8.2 c w) (pc1 := 45) (lv1 := [(4, .ref u5), (0, .ref 0), (1, .int x1), (2, .int x2), (3, .int x3)]) (st1 := []) (M2 := ev_M r8.2 c w) (pc2 := 117) (lv2 := [(4, .ref u5), (0, .ref 0), (1, .int x1), (2, .int x2), (3, .int x3)]) (st2 := []) (fun n => rfl) h (fun hc9 h => ?_) (fun hc9 h => ?_)
        · obtain ⟨r10, hr10, h⟩ := Option.bind_eq_some_iff.mp h
          refine ev_c 11 (y' := 175) (M1 := ev_M r8.2 c w) (la := lv_args 0 [.ref 580, .int x3]) (rest := [.int 0, .int x2, .ref u5, .ref 0]) (pc' := 66) (lv' := [(4, .ref u5), (0, .ref 0), (1, .int x1), (2, .int x2), (3, .int x3)]) (fun n => rfl) (ok_fX10_pick (congrArg Prod.fst (rfl : mm_kd 580 = (20, 10))) hr10) ?_
          show Ev XL xs _ 147 (ev_M r10.2 c w) 66 [(4, .ref u5), (0, .ref 0), (1, .int x1), (2, .int x2), (3, .int x3)] [.int r10.1, .int 0, .int x2, .ref u5, .ref 0] _
          obtain ⟨r11, hr11, h⟩ := Option.bind_eq_some_iff.mp h
          refine ev_c 1 (y' := 125) (M1 := ev_M r10.2 c w) (la := lv_args 0 [.ref 0, .ref u5, .int x2, .int 0, .int r10.1]) (rest := []) (pc' := 69) (lv' := [(4, .ref u5), (0, .ref 0), (1, .int x1), (2, .int x2), (3, .int x3)]) (fun n => rfl) (ok_fX10_valueAlone hk_u5 hr11) ?_
          show Ev XL xs _ 147 (ev_M r11.2 c w) 69 [(4, .ref u5), (0, .ref 0), (1, .int x1), (2, .int x2), (3, .int x3)] [.int r11.1] _
          obtain ⟨r12, hr12, h⟩ := Option.bind_eq_some_iff.mp h
          refine ev_c 5 (y' := 175) (M1 := ev_M r11.2 c w) (la := lv_args 0 [.ref 581, .int x3]) (rest := [.int r11.1]) (pc' := 80) (lv' := [(4, .ref u5), (0, .ref 0), (1, .int x1), (2, .int x2), (3, .int x3)]) (fun n => rfl) (ok_fX10_pick (congrArg Prod.fst (rfl : mm_kd 581 = (20, 10))) hr12) ?_
          show Ev XL xs _ 147 (ev_M r12.2 c w) 80 [(4, .ref u5), (0, .ref 0), (1, .int x1), (2, .int x2), (3, .int x3)] [.int r12.1, .int r11.1] _
          refine ev_i 1 (M1 := ev_M r12.2 c w) (pc1 := 87) (lv1 := [(4, .ref u5), (0, .ref 0), (1, .int x1), (2, .int x2), (3, .int x3)]) (st1 := []) (M2 := ev_M r12.2 c w) (pc2 := 83) (lv2 := [(4, .ref u5), (0, .ref 0), (1, .int x1), (2, .int x2), (3, .int x3)]) (st2 := []) (fun n => rfl) h (fun hc13 h => ?_) (fun hc13 h => ?_)
          · refine ev_s 1 (M' := ev_M r12.2 c w) (pc' := 88) (lv' := [(4, .ref u5), (0, .ref 0), (1, .int x1), (2, .int x2), (3, .int x3)]) (st' := [.int 0]) (fun n => rfl) ?_
            refine ev_sub (lv := [(0, .ref 0), (1, .int x1), (2, .int x2), (3, .int x3)]) (mn_of rfl (by repeat (first | exact trivial | refine And.intro rfl ?_))) ?_
            exact ok_fX10_mayBeSoDamp_c88 ih h
          · refine ev_s 2 (M' := ev_M r12.2 c w) (pc' := 88) (lv' := [(4, .ref u5), (0, .ref 0), (1, .int x1), (2, .int x2), (3, .int x3)]) (st' := [.int 1]) (fun n => rfl) ?_
            refine ev_sub (lv := [(0, .ref 0), (1, .int x1), (2, .int x2), (3, .int x3)]) (mn_of rfl (by repeat (first | exact trivial | refine And.intro rfl ?_))) ?_
            exact ok_fX10_mayBeSoDamp_c88 ih h
        · refine ev_sub (lv := [(0, .ref 0), (1, .int x1), (2, .int x2), (3, .int x3)]) (mn_of rfl (by repeat (first | exact trivial | refine And.intro rfl ?_))) ?_
          exact ok_fX10_mayBeSoDamp_c117 ih h
    · cases h
      exact ev_r 2 (fun n => rfl)
def fX10_mayBeSoDamp (m : mm_MM) (x1 : Int32) (x2 : Int32) : Option (Int32 × mm_MM) :=
  fX10_mayBeSoDamp_c2 fu m x1 x2 0
set_option maxRecDepth 20000 in
theorem ok_fX10_mayBeSoDamp {m : mm_MM} {x1 : Int32} {x2 : Int32} {q0 : Int32 × mm_MM} (h : fX10_mayBeSoDamp m x1 x2 = some q0) : Ev XL xs (d + 6) 147 (ev_M m c w) 0 (lv_args 0 [.ref 0, .int x1, .int x2]) [] (fr_i c w q0) := by
  unfold fX10_mayBeSoDamp at h
  refine ev_s 2 (M' := ev_M m c w) (pc' := 2) (lv' := [(3, .int 0), (0, .ref 0), (1, .int x1), (2, .int x2)]) (st' := []) (fun n => rfl) ?_
  refine ev_sub (lv := [(0, .ref 0), (1, .int x1), (2, .int x2), (3, .int 0)]) (mn_of rfl (by repeat (first | exact trivial | refine And.intro rfl ?_))) ?_
  exact ok_fX10_mayBeSoDamp_c2 fu _ _ _ _ _ h
def fX10_damps_c13 (m : mm_MM) : Option (Int32 × mm_MM) :=
  some (((-1) : Int32), m)
theorem ok_fX10_damps_c13 {m : mm_MM} {q0 : Int32 × mm_MM} (h : fX10_damps_c13 m = some q0) : Ev XL xs (d + 7) 143 (ev_M m c w) 13 [] [] (fr_i c w q0) := by
  unfold fX10_damps_c13 at h
  cases h
  exact ev_r 2 (fun n => rfl)
def fX10_damps_c48 (kr20 : mm_MM → Int32 → Int32 → Int32 → Int32 → Option (Int32 × mm_MM)) (m : mm_MM) (x1 : Int32) (x2 : Int32) (x3 : Int32) (x4 : Int32) : Option (Int32 × mm_MM) :=
  kr20 m x1 x2 x3 (x4 + 1)
theorem ok_fX10_damps_c48 {kr20 : mm_MM → Int32 → Int32 → Int32 → Int32 → Option (Int32 × mm_MM)} (hkr20 : ∀ (m : mm_MM) (x1 : Int32) (x2 : Int32) (x3 : Int32) (x4 : Int32) (q0 : Int32 × mm_MM), kr20 m x1 x2 x3 x4 = some q0 → Ev XL xs (d + 7) 143 (ev_M m c w) 20 [(0, .ref 0), (1, .int x1), (2, .int x2), (3, .int x3), (4, .int x4)] [] (fr_i c w q0)) {m : mm_MM} {x1 : Int32} {x2 : Int32} {x3 : Int32} {x4 : Int32} {q0 : Int32 × mm_MM} (h : fX10_damps_c48 kr20 m x1 x2 x3 x4 = some q0) : Ev XL xs (d + 7) 143 (ev_M m c w) 48 [(0, .ref 0), (1, .int x1), (2, .int x2), (3, .int x3), (4, .int x4)] [] (fr_i c w q0) := by
  unfold fX10_damps_c48 at h
  refine ev_s 2 (M' := ev_M m c w) (pc' := 20) (lv' := [(4, .int (x4 + 1)), (0, .ref 0), (1, .int x1), (2, .int x2), (3, .int x3)]) (st' := []) (fun n => rfl) ?_
  refine ev_sub (lv := [(0, .ref 0), (1, .int x1), (2, .int x2), (3, .int x3), (4, .int (x4 + 1))]) (mn_of rfl (by repeat (first | exact trivial | refine And.intro rfl ?_))) ?_
  exact hkr20 _ _ _ _ _ _ h
def fX10_damps_c64 (m : mm_MM) (s0 : Int32) : Option (Int32 × mm_MM) :=
  some (s0, m)
theorem ok_fX10_damps_c64 {m : mm_MM} {s0 : Int32} {q0 : Int32 × mm_MM} (h : fX10_damps_c64 m s0 = some q0) : Ev XL xs (d + 7) 143 (ev_M m c w) 64 [] [.int s0] (fr_i c w q0) := by
  unfold fX10_damps_c64 at h
  cases h
  exact ev_r 1 (fun n => rfl)
def fX10_damps_c20 : Nat → mm_MM → Int32 → Int32 → Int32 → Int32 → Option (Int32 × mm_MM)
  | 0 => fun _ _ _ _ _ => none
  | n + 1 => fun m x1 x2 x3 x4 =>
    (if x4 < 10 then
      (fX10_mayBeSoDamp m x1 x4).bind fun r2 =>
       (if r2.1 = 0 then
         fX10_damps_c48 (fX10_damps_c20 n) r2.2 x1 x2 x3 x4
        else
         (if x3 = x2 then
           some (x4, r2.2)
          else
           fX10_damps_c48 (fX10_damps_c20 n) r2.2 x1 x2 (x3 + 1) x4))
     else
      (if x2 = ((-1) : Int32) then
        fX10_damps_c64 m x3
       else
        fX10_damps_c64 m ((-1) : Int32)))
theorem ok_fX10_damps_c20 : ∀ (n : Nat) (m : mm_MM) (x1 : Int32) (x2 : Int32) (x3 : Int32) (x4 : Int32) (q0 : Int32 × mm_MM), fX10_damps_c20 n m x1 x2 x3 x4 = some q0 → Ev XL xs (d + 7) 143 (ev_M m c w) 20 [(0, .ref 0), (1, .int x1), (2, .int x2), (3, .int x3), (4, .int x4)] [] (fr_i c w q0) := by
  intro n
  induction n with
  | zero => intro m x1 x2 x3 x4 q0 h; exact absurd (show (none : Option (Int32 × mm_MM)) = some q0 from h) (by simp)
  | succ n ih =>
    intro m x1 x2 x3 x4 q0 h
    unfold fX10_damps_c20 at h
    refine ev_i 3 (M1 := ev_M m c w) (pc1 := 27) (lv1 := [(0, .ref 0), (1, .int x1), (2, .int x2), (3, .int x3), (4, .int x4)]) (st1 := []) (M2 := ev_M m c w) (pc2 := 54) (lv2 := [(0, .ref 0), (1, .int x1), (2, .int x2), (3, .int x3), (4, .int x4)]) (st2 := []) (fun n => rfl) h (fun hc1 h => ?_) (fun hc1 h => ?_)
    · obtain ⟨r2, hr2, h⟩ := Option.bind_eq_some_iff.mp h
      refine ev_c 4 (y' := 147) (M1 := ev_M m c w) (la := lv_args 0 [.ref 0, .int x1, .int x4]) (rest := []) (pc' := 34) (lv' := [(0, .ref 0), (1, .int x1), (2, .int x2), (3, .int x3), (4, .int x4)]) (fun n => rfl) (ok_fX10_mayBeSoDamp hr2) ?_
      show Ev XL xs _ 143 (ev_M r2.2 c w) 34 [(0, .ref 0), (1, .int x1), (2, .int x2), (3, .int x3), (4, .int x4)] [.int r2.1] _
      refine ev_i 1 (M1 := ev_M r2.2 c w) (pc1 := 48) (lv1 := [(0, .ref 0), (1, .int x1), (2, .int x2), (3, .int x3), (4, .int x4)]) (st1 := []) (M2 := ev_M r2.2 c w) (pc2 := 37) (lv2 := [(0, .ref 0), (1, .int x1), (2, .int x2), (3, .int x3), (4, .int x4)]) (st2 := []) (fun n => rfl) h (fun hc3 h => ?_) (fun hc3 h => ?_)
      · exact ok_fX10_damps_c48 ih h
      · refine ev_i 3 (M1 := ev_M r2.2 c w) (pc1 := 42) (lv1 := [(0, .ref 0), (1, .int x1), (2, .int x2), (3, .int x3), (4, .int x4)]) (st1 := []) (M2 := ev_M r2.2 c w) (pc2 := 45) (lv2 := [(0, .ref 0), (1, .int x1), (2, .int x2), (3, .int x3), (4, .int x4)]) (st2 := []) (fun n => rfl) h (fun hc4 h => ?_) (fun hc4 h => ?_)
        · cases h
          exact ev_r 2 (fun n => rfl)
        · refine ev_s 1 (M' := ev_M r2.2 c w) (pc' := 48) (lv' := [(3, .int (x3 + 1)), (0, .ref 0), (1, .int x1), (2, .int x2), (4, .int x4)]) (st' := []) (fun n => rfl) ?_
          refine ev_sub (lv := [(0, .ref 0), (1, .int x1), (2, .int x2), (3, .int (x3 + 1)), (4, .int x4)]) (mn_of rfl (by repeat (first | exact trivial | refine And.intro rfl ?_))) ?_
          exact ok_fX10_damps_c48 ih h
    · refine ev_i 3 (M1 := ev_M m c w) (pc1 := 59) (lv1 := [(0, .ref 0), (1, .int x1), (2, .int x2), (3, .int x3), (4, .int x4)]) (st1 := []) (M2 := ev_M m c w) (pc2 := 63) (lv2 := [(0, .ref 0), (1, .int x1), (2, .int x2), (3, .int x3), (4, .int x4)]) (st2 := []) (fun n => rfl) h (fun hc5 h => ?_) (fun hc5 h => ?_)
      · refine ev_s 2 (M' := ev_M m c w) (pc' := 64) (lv' := [(0, .ref 0), (1, .int x1), (2, .int x2), (3, .int x3), (4, .int x4)]) (st' := [.int x3]) (fun n => rfl) ?_
        refine ev_sub (lv := []) (mn_of rfl (by repeat (first | exact trivial | refine And.intro rfl ?_))) ?_
        exact ok_fX10_damps_c64 h
      · refine ev_s 1 (M' := ev_M m c w) (pc' := 64) (lv' := [(0, .ref 0), (1, .int x1), (2, .int x2), (3, .int x3), (4, .int x4)]) (st' := [.int ((-1) : Int32)]) (fun n => rfl) ?_
        refine ev_sub (lv := []) (mn_of rfl (by repeat (first | exact trivial | refine And.intro rfl ?_))) ?_
        exact ok_fX10_damps_c64 h
def fX10_damps (m : mm_MM) (x1 : Int32) (x2 : Int32) : Option (Int32 × mm_MM) :=
  (fX10_isRow m x1).bind fun r1 =>
   (if r1.1 = 0 then
     fX10_damps_c13 r1.2
    else
     (if x2 < ((-1) : Int32) then
       fX10_damps_c13 r1.2
      else
       fX10_damps_c20 fu r1.2 x1 x2 0 0))
theorem ok_fX10_damps {m : mm_MM} {x1 : Int32} {x2 : Int32} {q0 : Int32 × mm_MM} (h : fX10_damps m x1 x2 = some q0) : Ev XL xs (d + 7) 143 (ev_M m c w) 0 (lv_args 0 [.ref 0, .int x1, .int x2]) [] (fr_i c w q0) := by
  unfold fX10_damps at h
  obtain ⟨r1, hr1, h⟩ := Option.bind_eq_some_iff.mp h
  refine ev_c 3 (y' := 104) (M1 := ev_M m c w) (la := lv_args 0 [.ref 0, .int x1]) (rest := []) (pc' := 5) (lv' := [(0, .ref 0), (1, .int x1), (2, .int x2)]) (fun n => rfl) (ok_fX10_isRow hr1) ?_
  show Ev XL xs _ 143 (ev_M r1.2 c w) 5 [(0, .ref 0), (1, .int x1), (2, .int x2)] [.int r1.1] _
  refine ev_i 1 (M1 := ev_M r1.2 c w) (pc1 := 13) (lv1 := [(0, .ref 0), (1, .int x1), (2, .int x2)]) (st1 := []) (M2 := ev_M r1.2 c w) (pc2 := 8) (lv2 := [(0, .ref 0), (1, .int x1), (2, .int x2)]) (st2 := []) (fun n => rfl) h (fun hc2 h => ?_) (fun hc2 h => ?_)
  · refine ev_sub (lv := []) (mn_of rfl (by repeat (first | exact trivial | refine And.intro rfl ?_))) ?_
    exact ok_fX10_damps_c13 h
  · refine ev_i 3 (M1 := ev_M r1.2 c w) (pc1 := 13) (lv1 := [(0, .ref 0), (1, .int x1), (2, .int x2)]) (st1 := []) (M2 := ev_M r1.2 c w) (pc2 := 15) (lv2 := [(0, .ref 0), (1, .int x1), (2, .int x2)]) (st2 := []) (fun n => rfl) h (fun hc3 h => ?_) (fun hc3 h => ?_)
    · refine ev_sub (lv := []) (mn_of rfl (by repeat (first | exact trivial | refine And.intro rfl ?_))) ?_
      exact ok_fX10_damps_c13 h
    · refine ev_s 4 (M' := ev_M r1.2 c w) (pc' := 20) (lv' := [(4, .int 0), (3, .int 0), (0, .ref 0), (1, .int x1), (2, .int x2)]) (st' := []) (fun n => rfl) ?_
      refine ev_sub (lv := [(0, .ref 0), (1, .int x1), (2, .int x2), (3, .int 0), (4, .int 0)]) (mn_of rfl (by repeat (first | exact trivial | refine And.intro rfl ?_))) ?_
      exact ok_fX10_damps_c20 fu _ _ _ _ _ _ h
def fX10_mostAlike_c72 (kr4 : mm_MM → Int32 → Int32 → Int32 → Option (Int32 × mm_MM)) (kr16 : mm_MM → Int32 → Int32 → Int32 → Int32 → Int32 → Option (Int32 × mm_MM)) (m : mm_MM) (x1 : Int32) (x2 : Int32) (x3 : Int32) (x4 : Int32) (x5 : Int32) : Option (Int32 × mm_MM) :=
  kr16 m x1 x2 x3 x4 (x5 + 1)
set_option maxRecDepth 20000 in
theorem ok_fX10_mostAlike_c72 {kr4 : mm_MM → Int32 → Int32 → Int32 → Option (Int32 × mm_MM)} (hkr4 : ∀ (m : mm_MM) (x1 : Int32) (x2 : Int32) (x3 : Int32) (q0 : Int32 × mm_MM), kr4 m x1 x2 x3 = some q0 → Ev XL xs (d + 1) 146 (ev_M m c w) 4 [(0, .ref 0), (1, .int x1), (2, .int x2), (3, .int x3)] [] (fr_i c w q0)) {kr16 : mm_MM → Int32 → Int32 → Int32 → Int32 → Int32 → Option (Int32 × mm_MM)} (hkr16 : ∀ (m : mm_MM) (x1 : Int32) (x2 : Int32) (x3 : Int32) (x4 : Int32) (x5 : Int32) (q0 : Int32 × mm_MM), kr16 m x1 x2 x3 x4 x5 = some q0 → Ev XL xs (d + 1) 146 (ev_M m c w) 16 [(0, .ref 0), (1, .int x1), (2, .int x2), (3, .int x3), (4, .int x4), (5, .int x5)] [] (fr_i c w q0)) {m : mm_MM} {x1 : Int32} {x2 : Int32} {x3 : Int32} {x4 : Int32} {x5 : Int32} {q0 : Int32 × mm_MM} (h : fX10_mostAlike_c72 kr4 kr16 m x1 x2 x3 x4 x5 = some q0) : Ev XL xs (d + 1) 146 (ev_M m c w) 72 [(0, .ref 0), (1, .int x1), (2, .int x2), (3, .int x3), (4, .int x4), (5, .int x5)] [] (fr_i c w q0) := by
  unfold fX10_mostAlike_c72 at h
  refine ev_s 2 (M' := ev_M m c w) (pc' := 16) (lv' := [(5, .int (x5 + 1)), (0, .ref 0), (1, .int x1), (2, .int x2), (3, .int x3), (4, .int x4)]) (st' := []) (fun n => rfl) ?_
  refine ev_sub (lv := [(0, .ref 0), (1, .int x1), (2, .int x2), (3, .int x3), (4, .int x4), (5, .int (x5 + 1))]) (mn_of rfl (by repeat (first | exact trivial | refine And.intro rfl ?_))) ?_
  exact hkr16 _ _ _ _ _ _ _ h
def fX10_mostAlike_c42 (kr4 : mm_MM → Int32 → Int32 → Int32 → Option (Int32 × mm_MM)) (kr16 : mm_MM → Int32 → Int32 → Int32 → Int32 → Int32 → Option (Int32 × mm_MM)) (m : mm_MM) (x1 : Int32) (x2 : Int32) (x3 : Int32) (x4 : Int32) (x5 : Int32) (s0 : Int32) : Option (Int32 × mm_MM) :=
  (if s0 = 0 then
    fX10_mostAlike_c72 kr4 kr16 m x1 x2 x3 x4 x5
   else
    (fX10_pick m 593 x3).bind fun r2 =>
     (fX10_pick r2.2 593 x5).bind fun r3 =>
      (if r2.1 = r3.1 then
        fX10_mostAlike_c72 kr4 kr16 r3.2 x1 x2 x3 (x4 + 1) x5
       else
        fX10_mostAlike_c72 kr4 kr16 r3.2 x1 x2 x3 x4 x5))
set_option maxRecDepth 20000 in
theorem ok_fX10_mostAlike_c42 {kr4 : mm_MM → Int32 → Int32 → Int32 → Option (Int32 × mm_MM)} (hkr4 : ∀ (m : mm_MM) (x1 : Int32) (x2 : Int32) (x3 : Int32) (q0 : Int32 × mm_MM), kr4 m x1 x2 x3 = some q0 → Ev XL xs (d + 1) 146 (ev_M m c w) 4 [(0, .ref 0), (1, .int x1), (2, .int x2), (3, .int x3)] [] (fr_i c w q0)) {kr16 : mm_MM → Int32 → Int32 → Int32 → Int32 → Int32 → Option (Int32 × mm_MM)} (hkr16 : ∀ (m : mm_MM) (x1 : Int32) (x2 : Int32) (x3 : Int32) (x4 : Int32) (x5 : Int32) (q0 : Int32 × mm_MM), kr16 m x1 x2 x3 x4 x5 = some q0 → Ev XL xs (d + 1) 146 (ev_M m c w) 16 [(0, .ref 0), (1, .int x1), (2, .int x2), (3, .int x3), (4, .int x4), (5, .int x5)] [] (fr_i c w q0)) {m : mm_MM} {x1 : Int32} {x2 : Int32} {x3 : Int32} {x4 : Int32} {x5 : Int32} {s0 : Int32} {q0 : Int32 × mm_MM} (h : fX10_mostAlike_c42 kr4 kr16 m x1 x2 x3 x4 x5 s0 = some q0) : Ev XL xs (d + 1) 146 (ev_M m c w) 42 [(0, .ref 0), (1, .int x1), (2, .int x2), (3, .int x3), (4, .int x4), (5, .int x5)] [.int s0] (fr_i c w q0) := by
  unfold fX10_mostAlike_c42 at h
  refine ev_i 3 (M1 := ev_M m c w) (pc1 := 72) (lv1 := [(6, .int s0), (0, .ref 0), (1, .int x1), (2, .int x2), (3, .int x3), (4, .int x4), (5, .int x5)]) (st1 := []) (M2 := ev_M m c w) (pc2 := 49) (lv2 := [(6, .int s0), (0, .ref 0), (1, .int x1), (2, .int x2), (3, .int x3), (4, .int x4), (5, .int x5)]) (st2 := []) (fun n => rfl) h (fun hc1 h => ?_) (fun hc1 h => ?_)
  · refine ev_sub (lv := [(0, .ref 0), (1, .int x1), (2, .int x2), (3, .int x3), (4, .int x4), (5, .int x5)]) (mn_of rfl (by repeat (first | exact trivial | refine And.intro rfl ?_))) ?_
    exact ok_fX10_mostAlike_c72 hkr4 hkr16 h
  · obtain ⟨r2, hr2, h⟩ := Option.bind_eq_some_iff.mp h
    refine ev_c 4 (y' := 175) (M1 := ev_M m c w) (la := lv_args 0 [.ref 593, .int x3]) (rest := []) (pc' := 57) (lv' := [(6, .int s0), (0, .ref 0), (1, .int x1), (2, .int x2), (3, .int x3), (4, .int x4), (5, .int x5)]) (fun n => rfl) (ok_fX10_pick (congrArg Prod.fst (rfl : mm_kd 593 = (20, 10))) hr2) ?_
    show Ev XL xs _ 146 (ev_M r2.2 c w) 57 [(6, .int s0), (0, .ref 0), (1, .int x1), (2, .int x2), (3, .int x3), (4, .int x4), (5, .int x5)] [.int r2.1] _
    obtain ⟨r3, hr3, h⟩ := Option.bind_eq_some_iff.mp h
    refine ev_c 4 (y' := 175) (M1 := ev_M r2.2 c w) (la := lv_args 0 [.ref 593, .int x5]) (rest := [.int r2.1]) (pc' := 66) (lv' := [(6, .int s0), (0, .ref 0), (1, .int x1), (2, .int x2), (3, .int x3), (4, .int x4), (5, .int x5)]) (fun n => rfl) (ok_fX10_pick (congrArg Prod.fst (rfl : mm_kd 593 = (20, 10))) hr3) ?_
    show Ev XL xs _ 146 (ev_M r3.2 c w) 66 [(6, .int s0), (0, .ref 0), (1, .int x1), (2, .int x2), (3, .int x3), (4, .int x4), (5, .int x5)] [.int r3.1, .int r2.1] _
    refine ev_i 1 (M1 := ev_M r3.2 c w) (pc1 := 69) (lv1 := [(6, .int s0), (0, .ref 0), (1, .int x1), (2, .int x2), (3, .int x3), (4, .int x4), (5, .int x5)]) (st1 := []) (M2 := ev_M r3.2 c w) (pc2 := 72) (lv2 := [(6, .int s0), (0, .ref 0), (1, .int x1), (2, .int x2), (3, .int x3), (4, .int x4), (5, .int x5)]) (st2 := []) (fun n => rfl) h (fun hc4 h => ?_) (fun hc4 h => ?_)
    · refine ev_s 1 (M' := ev_M r3.2 c w) (pc' := 72) (lv' := [(4, .int (x4 + 1)), (6, .int s0), (0, .ref 0), (1, .int x1), (2, .int x2), (3, .int x3), (5, .int x5)]) (st' := []) (fun n => rfl) ?_
      refine ev_sub (lv := [(0, .ref 0), (1, .int x1), (2, .int x2), (3, .int x3), (4, .int (x4 + 1)), (5, .int x5)]) (mn_of rfl (by repeat (first | exact trivial | refine And.intro rfl ?_))) ?_
      exact ok_fX10_mostAlike_c72 hkr4 hkr16 h
    · refine ev_sub (lv := [(0, .ref 0), (1, .int x1), (2, .int x2), (3, .int x3), (4, .int x4), (5, .int x5)]) (mn_of rfl (by repeat (first | exact trivial | refine And.intro rfl ?_))) ?_
      exact ok_fX10_mostAlike_c72 hkr4 hkr16 h
def fX10_mostAlike_c16 (kr4 : mm_MM → Int32 → Int32 → Int32 → Option (Int32 × mm_MM)) : Nat → mm_MM → Int32 → Int32 → Int32 → Int32 → Int32 → Option (Int32 × mm_MM)
  | 0 => fun _ _ _ _ _ _ => none
  | n + 1 => fun m x1 x2 x3 x4 x5 =>
    (if x5 < 10 then
      (if ((((x1 : Int32) >>> (x3 &&& 31)) &&& ((x1 : Int32) >>> (x5 &&& 31))) &&& 1) = 1 then
        fX10_mostAlike_c42 kr4 (fX10_mostAlike_c16 kr4 n) m x1 x2 x3 x4 x5 1
       else
        fX10_mostAlike_c42 kr4 (fX10_mostAlike_c16 kr4 n) m x1 x2 x3 x4 x5 0)
     else
      (fJ9_max_7cf53 m x2 x4).bind fun r3 =>
       kr4 r3.2 x1 r3.1 (x3 + 1))
set_option maxRecDepth 20000 in
theorem ok_fX10_mostAlike_c16 {kr4 : mm_MM → Int32 → Int32 → Int32 → Option (Int32 × mm_MM)} (hkr4 : ∀ (m : mm_MM) (x1 : Int32) (x2 : Int32) (x3 : Int32) (q0 : Int32 × mm_MM), kr4 m x1 x2 x3 = some q0 → Ev XL xs (d + 1) 146 (ev_M m c w) 4 [(0, .ref 0), (1, .int x1), (2, .int x2), (3, .int x3)] [] (fr_i c w q0)) : ∀ (n : Nat) (m : mm_MM) (x1 : Int32) (x2 : Int32) (x3 : Int32) (x4 : Int32) (x5 : Int32) (q0 : Int32 × mm_MM), fX10_mostAlike_c16 kr4 n m x1 x2 x3 x4 x5 = some q0 → Ev XL xs (d + 1) 146 (ev_M m c w) 16 [(0, .ref 0), (1, .int x1), (2, .int x2), (3, .int x3), (4, .int x4), (5, .int x5)] [] (fr_i c w q0) := by
  intro n
  induction n with
  | zero => intro m x1 x2 x3 x4 x5 q0 h; exact absurd (show (none : Option (Int32 × mm_MM)) = some q0 from h) (by simp)
  | succ n ih =>
    intro m x1 x2 x3 x4 x5 q0 h
    unfold fX10_mostAlike_c16 at h
    refine ev_i 3 (M1 := ev_M m c w) (pc1 := 23) (lv1 := [(0, .ref 0), (1, .int x1), (2, .int x2), (3, .int x3), (4, .int x4), (5, .int x5)]) (st1 := []) (M2 := ev_M m c w) (pc2 := 78) (lv2 := [(0, .ref 0), (1, .int x1), (2, .int x2), (3, .int x3), (4, .int x4), (5, .int x5)]) (st2 := []) (fun n => rfl) h (fun hc1 h => ?_) (fun hc1 h => ?_)
    · refine ev_i 11 (M1 := ev_M m c w) (pc1 := 37) (lv1 := [(0, .ref 0), (1, .int x1), (2, .int x2), (3, .int x3), (4, .int x4), (5, .int x5)]) (st1 := []) (M2 := ev_M m c w) (pc2 := 41) (lv2 := [(0, .ref 0), (1, .int x1), (2, .int x2), (3, .int x3), (4, .int x4), (5, .int x5)]) (st2 := []) (fun n => rfl) h (fun hc2 h => ?_) (fun hc2 h => ?_)
      · refine ev_s 2 (M' := ev_M m c w) (pc' := 42) (lv' := [(0, .ref 0), (1, .int x1), (2, .int x2), (3, .int x3), (4, .int x4), (5, .int x5)]) (st' := [.int 1]) (fun n => rfl) ?_
        exact ok_fX10_mostAlike_c42 hkr4 ih h
      · refine ev_s 1 (M' := ev_M m c w) (pc' := 42) (lv' := [(0, .ref 0), (1, .int x1), (2, .int x2), (3, .int x3), (4, .int x4), (5, .int x5)]) (st' := [.int 0]) (fun n => rfl) ?_
        exact ok_fX10_mostAlike_c42 hkr4 ih h
    · obtain ⟨r3, hr3, h⟩ := Option.bind_eq_some_iff.mp h
      refine ev_c 3 (y' := 306) (M1 := ev_M m c w) (la := lv_args 0 [.int x2, .int x4]) (rest := []) (pc' := 84) (lv' := [(0, .ref 0), (1, .int x1), (2, .int x2), (3, .int x3), (4, .int x4), (5, .int x5)]) (fun n => rfl) (ok_fJ9_max_7cf53 hr3) ?_
      show Ev XL xs _ 146 (ev_M r3.2 c w) 84 [(0, .ref 0), (1, .int x1), (2, .int x2), (3, .int x3), (4, .int x4), (5, .int x5)] [.int r3.1] _
      refine ev_s 3 (M' := ev_M r3.2 c w) (pc' := 4) (lv' := [(3, .int (x3 + 1)), (2, .int r3.1), (0, .ref 0), (1, .int x1), (4, .int x4), (5, .int x5)]) (st' := []) (fun n => rfl) ?_
      refine ev_sub (lv := [(0, .ref 0), (1, .int x1), (2, .int r3.1), (3, .int (x3 + 1))]) (mn_of rfl (by repeat (first | exact trivial | refine And.intro rfl ?_))) ?_
      exact hkr4 _ _ _ _ _ h
def fX10_mostAlike_c4 : Nat → mm_MM → Int32 → Int32 → Int32 → Option (Int32 × mm_MM)
  | 0 => fun _ _ _ _ => none
  | n + 1 => fun m x1 x2 x3 =>
    (if x3 < 10 then
      fX10_mostAlike_c16 (fX10_mostAlike_c4 n) fu m x1 x2 x3 0 0
     else
      some (x2, m))
set_option maxRecDepth 20000 in
theorem ok_fX10_mostAlike_c4 : ∀ (n : Nat) (m : mm_MM) (x1 : Int32) (x2 : Int32) (x3 : Int32) (q0 : Int32 × mm_MM), fX10_mostAlike_c4 n m x1 x2 x3 = some q0 → Ev XL xs (d + 1) 146 (ev_M m c w) 4 [(0, .ref 0), (1, .int x1), (2, .int x2), (3, .int x3)] [] (fr_i c w q0) := by
  intro n
  induction n with
  | zero => intro m x1 x2 x3 q0 h; exact absurd (show (none : Option (Int32 × mm_MM)) = some q0 from h) (by simp)
  | succ n ih =>
    intro m x1 x2 x3 q0 h
    unfold fX10_mostAlike_c4 at h
    refine ev_i 3 (M1 := ev_M m c w) (pc1 := 10) (lv1 := [(0, .ref 0), (1, .int x1), (2, .int x2), (3, .int x3)]) (st1 := []) (M2 := ev_M m c w) (pc2 := 91) (lv2 := [(0, .ref 0), (1, .int x1), (2, .int x2), (3, .int x3)]) (st2 := []) (fun n => rfl) h (fun hc1 h => ?_) (fun hc1 h => ?_)
    · refine ev_s 4 (M' := ev_M m c w) (pc' := 16) (lv' := [(5, .int 0), (4, .int 0), (0, .ref 0), (1, .int x1), (2, .int x2), (3, .int x3)]) (st' := []) (fun n => rfl) ?_
      refine ev_sub (lv := [(0, .ref 0), (1, .int x1), (2, .int x2), (3, .int x3), (4, .int 0), (5, .int 0)]) (mn_of rfl (by repeat (first | exact trivial | refine And.intro rfl ?_))) ?_
      exact ok_fX10_mostAlike_c16 ih fu _ _ _ _ _ _ _ h
    · cases h
      exact ev_r 2 (fun n => rfl)
def fX10_mostAlike (m : mm_MM) (x1 : Int32) : Option (Int32 × mm_MM) :=
  fX10_mostAlike_c4 fu m x1 0 0
set_option maxRecDepth 20000 in
theorem ok_fX10_mostAlike {m : mm_MM} {x1 : Int32} {q0 : Int32 × mm_MM} (h : fX10_mostAlike m x1 = some q0) : Ev XL xs (d + 1) 146 (ev_M m c w) 0 (lv_args 0 [.ref 0, .int x1]) [] (fr_i c w q0) := by
  unfold fX10_mostAlike at h
  refine ev_s 4 (M' := ev_M m c w) (pc' := 4) (lv' := [(3, .int 0), (2, .int 0), (0, .ref 0), (1, .int x1)]) (st' := []) (fun n => rfl) ?_
  refine ev_sub (lv := [(0, .ref 0), (1, .int x1), (2, .int 0), (3, .int 0)]) (mn_of rfl (by repeat (first | exact trivial | refine And.intro rfl ?_))) ?_
  exact ok_fX10_mostAlike_c4 fu _ _ _ _ _ h
def fX10_askWhen_c128 (kr15 : mm_MM → Nat → Int32 → Int32 → Int32 → Int32 → Int32 → Option (Int32 × mm_MM)) (m : mm_MM) (t1 : Nat) (x2 : Int32) (x3 : Int32) (x4 : Int32) (x5 : Int32) (x6 : Int32) : Option (Int32 × mm_MM) :=
  kr15 m t1 x2 x3 x4 x5 (x6 + 1)
set_option maxRecDepth 20000 in
theorem ok_fX10_askWhen_c128 {kr15 : mm_MM → Nat → Int32 → Int32 → Int32 → Int32 → Int32 → Option (Int32 × mm_MM)} (hkr15 : ∀ (m : mm_MM) (t1 : Nat) (x2 : Int32) (x3 : Int32) (x4 : Int32) (x5 : Int32) (x6 : Int32) (q0 : Int32 × mm_MM) (hk_t1 : mm_kd t1 = (9, 6)), kr15 m t1 x2 x3 x4 x5 x6 = some q0 → Ev XL xs (d + 5) 145 (ev_M m c w) 15 [(0, .ref 0), (1, .ref t1), (2, .int x2), (3, .int x3), (4, .int x4), (5, .int x5), (6, .int x6)] [] (fr_i c w q0)) {m : mm_MM} {t1 : Nat} {x2 : Int32} {x3 : Int32} {x4 : Int32} {x5 : Int32} {x6 : Int32} {q0 : Int32 × mm_MM} (hk_t1 : mm_kd t1 = (9, 6)) (h : fX10_askWhen_c128 kr15 m t1 x2 x3 x4 x5 x6 = some q0) : Ev XL xs (d + 5) 145 (ev_M m c w) 128 [(0, .ref 0), (1, .ref t1), (2, .int x2), (3, .int x3), (4, .int x4), (5, .int x5), (6, .int x6)] [] (fr_i c w q0) := by
  unfold fX10_askWhen_c128 at h
  refine ev_s 2 (M' := ev_M m c w) (pc' := 15) (lv' := [(6, .int (x6 + 1)), (0, .ref 0), (1, .ref t1), (2, .int x2), (3, .int x3), (4, .int x4), (5, .int x5)]) (st' := []) (fun n => rfl) ?_
  refine ev_sub (lv := [(0, .ref 0), (1, .ref t1), (2, .int x2), (3, .int x3), (4, .int x4), (5, .int x5), (6, .int (x6 + 1))]) (mn_of rfl (by repeat (first | exact trivial | refine And.intro rfl ?_))) ?_
  exact hkr15 _ _ _ _ _ _ _ _ hk_t1 h
def fX10_askWhen_c25 (kr15 : mm_MM → Nat → Int32 → Int32 → Int32 → Int32 → Int32 → Option (Int32 × mm_MM)) : Nat → mm_MM → Nat → Int32 → Int32 → Int32 → Int32 → Int32 → Int32 → Option (Int32 × mm_MM)
  | 0 => fun _ _ _ _ _ _ _ _ => none
  | n + 1 => fun m t1 x2 x3 x4 x5 x6 x7 =>
    (if x7 < 10 then
      (fX0_begin m t1 x7 (x6 - 1)).bind fun r2 =>
       (fX10_pick r2 593 x7).bind fun r3 =>
        (fX10_grow (wI (wI r3.2 583 0 r3.1) 583 2 x5) 1).bind fun r4 =>
         (fX10_place r4 593 x7 (r4.1 583 0)).bind fun r5 =>
          fX10_askWhen_c25 kr15 n r5 t1 x2 x3 x4 x5 x6 (x7 + 1)
     else
      (fX10_mostAlike m x2).bind fun r6 =>
       (if r6.1 < x4 then
         fX10_askWhen_c128 kr15 r6.2 t1 x2 x6 r6.1 (m.1 583 2) x6
        else
         fX10_askWhen_c128 kr15 r6.2 t1 x2 x3 x4 (m.1 583 2) x6))
set_option maxRecDepth 20000 in
theorem ok_fX10_askWhen_c25 {kr15 : mm_MM → Nat → Int32 → Int32 → Int32 → Int32 → Int32 → Option (Int32 × mm_MM)} (hkr15 : ∀ (m : mm_MM) (t1 : Nat) (x2 : Int32) (x3 : Int32) (x4 : Int32) (x5 : Int32) (x6 : Int32) (q0 : Int32 × mm_MM) (hk_t1 : mm_kd t1 = (9, 6)), kr15 m t1 x2 x3 x4 x5 x6 = some q0 → Ev XL xs (d + 5) 145 (ev_M m c w) 15 [(0, .ref 0), (1, .ref t1), (2, .int x2), (3, .int x3), (4, .int x4), (5, .int x5), (6, .int x6)] [] (fr_i c w q0)) : ∀ (n : Nat) (m : mm_MM) (t1 : Nat) (x2 : Int32) (x3 : Int32) (x4 : Int32) (x5 : Int32) (x6 : Int32) (x7 : Int32) (q0 : Int32 × mm_MM) (hk_t1 : mm_kd t1 = (9, 6)), fX10_askWhen_c25 kr15 n m t1 x2 x3 x4 x5 x6 x7 = some q0 → Ev XL xs (d + 5) 145 (ev_M m c w) 25 [(0, .ref 0), (1, .ref t1), (2, .int x2), (3, .int x3), (4, .int x4), (5, .int x5), (6, .int x6), (7, .int x7)] [] (fr_i c w q0) := by
  intro n
  induction n with
  | zero => intro m t1 x2 x3 x4 x5 x6 x7 q0 hk_t1 h; exact absurd (show (none : Option (Int32 × mm_MM)) = some q0 from h) (by simp)
  | succ n ih =>
    intro m t1 x2 x3 x4 x5 x6 x7 q0 hk_t1 h
    unfold fX10_askWhen_c25 at h
    refine ev_i 3 (M1 := ev_M m c w) (pc1 := 32) (lv1 := [(0, .ref 0), (1, .ref t1), (2, .int x2), (3, .int x3), (4, .int x4), (5, .int x5), (6, .int x6), (7, .int x7)]) (st1 := []) (M2 := ev_M m c w) (pc2 := 98) (lv2 := [(0, .ref 0), (1, .ref t1), (2, .int x2), (3, .int x3), (4, .int x4), (5, .int x5), (6, .int x6), (7, .int x7)]) (st2 := []) (fun n => rfl) h (fun hc1 h => ?_) (fun hc1 h => ?_)
    · obtain ⟨r2, hr2, h⟩ := Option.bind_eq_some_iff.mp h
      refine ev_c 8 (y' := 1) (M1 := ev_M m c w) (la := lv_args 0 [.ref 583, .ref t1, .int x7, .int (x6 - 1)]) (rest := []) (pc' := 46) (lv' := [(0, .ref 0), (1, .ref t1), (2, .int x2), (3, .int x3), (4, .int x4), (5, .int x5), (6, .int x6), (7, .int x7)]) (fun n => rfl) (ok_fX0_begin hk_t1 hr2) ?_
      show Ev XL xs _ 145 (ev_M r2 c w) 46 [(0, .ref 0), (1, .ref t1), (2, .int x2), (3, .int x3), (4, .int x4), (5, .int x5), (6, .int x6), (7, .int x7)] [] _
      obtain ⟨r3, hr3, h⟩ := Option.bind_eq_some_iff.mp h
      refine ev_c 6 (y' := 175) (M1 := ev_M r2 c w) (la := lv_args 0 [.ref 593, .int x7]) (rest := [.ref 583]) (pc' := 59) (lv' := [(0, .ref 0), (1, .ref t1), (2, .int x2), (3, .int x3), (4, .int x4), (5, .int x5), (6, .int x6), (7, .int x7)]) (fun n => rfl) (ok_fX10_pick (congrArg Prod.fst (rfl : mm_kd 593 = (20, 10))) hr3) ?_
      show Ev XL xs _ 145 (ev_M r3.2 c w) 59 [(0, .ref 0), (1, .ref t1), (2, .int x2), (3, .int x3), (4, .int x4), (5, .int x5), (6, .int x6), (7, .int x7)] [.int r3.1, .ref 583] _
      obtain ⟨r4, hr4, h⟩ := Option.bind_eq_some_iff.mp h
      refine ev_c 8 (y' := 121) (M1 := ev_M (wI (wI r3.2 583 0 r3.1) 583 2 x5) c w) (la := lv_args 0 [.ref 0, .int 1]) (rest := []) (pc' := 76) (lv' := [(0, .ref 0), (1, .ref t1), (2, .int x2), (3, .int x3), (4, .int x4), (5, .int x5), (6, .int x6), (7, .int x7)]) (fun n => rfl) (ok_fX10_grow hr4) ?_
      show Ev XL xs _ 145 (ev_M r4 c w) 76 [(0, .ref 0), (1, .ref t1), (2, .int x2), (3, .int x3), (4, .int x4), (5, .int x5), (6, .int x6), (7, .int x7)] [] _
      obtain ⟨r5, hr5, h⟩ := Option.bind_eq_some_iff.mp h
      refine ev_c 7 (y' := 176) (M1 := ev_M r4 c w) (la := lv_args 0 [.ref 593, .int x7, .int (r4.1 583 0)]) (rest := []) (pc' := 92) (lv' := [(0, .ref 0), (1, .ref t1), (2, .int x2), (3, .int x3), (4, .int x4), (5, .int x5), (6, .int x6), (7, .int x7)]) (fun n => rfl) (ok_fX10_place (congrArg Prod.fst (rfl : mm_kd 593 = (20, 10))) hr5) ?_
      show Ev XL xs _ 145 (ev_M r5 c w) 92 [(0, .ref 0), (1, .ref t1), (2, .int x2), (3, .int x3), (4, .int x4), (5, .int x5), (6, .int x6), (7, .int x7)] [] _
      refine ev_s 2 (M' := ev_M r5 c w) (pc' := 25) (lv' := [(7, .int (x7 + 1)), (0, .ref 0), (1, .ref t1), (2, .int x2), (3, .int x3), (4, .int x4), (5, .int x5), (6, .int x6)]) (st' := []) (fun n => rfl) ?_
      refine ev_sub (lv := [(0, .ref 0), (1, .ref t1), (2, .int x2), (3, .int x3), (4, .int x4), (5, .int x5), (6, .int x6), (7, .int (x7 + 1))]) (mn_of rfl (by repeat (first | exact trivial | refine And.intro rfl ?_))) ?_
      exact ih _ _ _ _ _ _ _ _ _ hk_t1 h
    · obtain ⟨r6, hr6, h⟩ := Option.bind_eq_some_iff.mp h
      refine ev_c 7 (y' := 146) (M1 := ev_M m c w) (la := lv_args 0 [.ref 0, .int x2]) (rest := []) (pc' := 112) (lv' := [(5, .int (m.1 583 2)), (0, .ref 0), (1, .ref t1), (2, .int x2), (3, .int x3), (4, .int x4), (6, .int x6), (7, .int x7)]) (fun n => rfl) (ok_fX10_mostAlike hr6) ?_
      show Ev XL xs _ 145 (ev_M r6.2 c w) 112 [(5, .int (m.1 583 2)), (0, .ref 0), (1, .ref t1), (2, .int x2), (3, .int x3), (4, .int x4), (6, .int x6), (7, .int x7)] [.int r6.1] _
      refine ev_i 4 (M1 := ev_M r6.2 c w) (pc1 := 121) (lv1 := [(7, .int r6.1), (5, .int (m.1 583 2)), (0, .ref 0), (1, .ref t1), (2, .int x2), (3, .int x3), (4, .int x4), (6, .int x6)]) (st1 := []) (M2 := ev_M r6.2 c w) (pc2 := 128) (lv2 := [(7, .int r6.1), (5, .int (m.1 583 2)), (0, .ref 0), (1, .ref t1), (2, .int x2), (3, .int x3), (4, .int x4), (6, .int x6)]) (st2 := []) (fun n => rfl) h (fun hc7 h => ?_) (fun hc7 h => ?_)
      · refine ev_s 4 (M' := ev_M r6.2 c w) (pc' := 128) (lv' := [(3, .int x6), (4, .int r6.1), (7, .int r6.1), (5, .int (m.1 583 2)), (0, .ref 0), (1, .ref t1), (2, .int x2), (6, .int x6)]) (st' := []) (fun n => rfl) ?_
        refine ev_sub (lv := [(0, .ref 0), (1, .ref t1), (2, .int x2), (3, .int x6), (4, .int r6.1), (5, .int (m.1 583 2)), (6, .int x6)]) (mn_of rfl (by repeat (first | exact trivial | refine And.intro rfl ?_))) ?_
        exact ok_fX10_askWhen_c128 hkr15 hk_t1 h
      · refine ev_sub (lv := [(0, .ref 0), (1, .ref t1), (2, .int x2), (3, .int x3), (4, .int x4), (5, .int (m.1 583 2)), (6, .int x6)]) (mn_of rfl (by repeat (first | exact trivial | refine And.intro rfl ?_))) ?_
        exact ok_fX10_askWhen_c128 hkr15 hk_t1 h
def fX10_askWhen_c15 : Nat → mm_MM → Nat → Int32 → Int32 → Int32 → Int32 → Int32 → Option (Int32 × mm_MM)
  | 0 => fun _ _ _ _ _ _ _ => none
  | n + 1 => fun m t1 x2 x3 x4 x5 x6 =>
    (if x6 ≤ 24 then
      fX10_askWhen_c25 (fX10_askWhen_c15 n) fu m t1 x2 x3 x4 x5 x6 0
     else
      some (x3, m))
set_option maxRecDepth 20000 in
theorem ok_fX10_askWhen_c15 : ∀ (n : Nat) (m : mm_MM) (t1 : Nat) (x2 : Int32) (x3 : Int32) (x4 : Int32) (x5 : Int32) (x6 : Int32) (q0 : Int32 × mm_MM) (hk_t1 : mm_kd t1 = (9, 6)), fX10_askWhen_c15 n m t1 x2 x3 x4 x5 x6 = some q0 → Ev XL xs (d + 5) 145 (ev_M m c w) 15 [(0, .ref 0), (1, .ref t1), (2, .int x2), (3, .int x3), (4, .int x4), (5, .int x5), (6, .int x6)] [] (fr_i c w q0) := by
  intro n
  induction n with
  | zero => intro m t1 x2 x3 x4 x5 x6 q0 hk_t1 h; exact absurd (show (none : Option (Int32 × mm_MM)) = some q0 from h) (by simp)
  | succ n ih =>
    intro m t1 x2 x3 x4 x5 x6 q0 hk_t1 h
    unfold fX10_askWhen_c15 at h
    refine ev_i 3 (M1 := ev_M m c w) (pc1 := 22) (lv1 := [(0, .ref 0), (1, .ref t1), (2, .int x2), (3, .int x3), (4, .int x4), (5, .int x5), (6, .int x6)]) (st1 := []) (M2 := ev_M m c w) (pc2 := 134) (lv2 := [(0, .ref 0), (1, .ref t1), (2, .int x2), (3, .int x3), (4, .int x4), (5, .int x5), (6, .int x6)]) (st2 := []) (fun n => rfl) h (fun hc1 h => ?_) (fun hc1 h => ?_)
    · refine ev_s 2 (M' := ev_M m c w) (pc' := 25) (lv' := [(7, .int 0), (0, .ref 0), (1, .ref t1), (2, .int x2), (3, .int x3), (4, .int x4), (5, .int x5), (6, .int x6)]) (st' := []) (fun n => rfl) ?_
      refine ev_sub (lv := [(0, .ref 0), (1, .ref t1), (2, .int x2), (3, .int x3), (4, .int x4), (5, .int x5), (6, .int x6), (7, .int 0)]) (mn_of rfl (by repeat (first | exact trivial | refine And.intro rfl ?_))) ?_
      exact ok_fX10_askWhen_c25 ih fu _ _ _ _ _ _ _ _ _ hk_t1 h
    · cases h
      exact ev_r 2 (fun n => rfl)
def fX10_askWhen (m : mm_MM) (t1 : Nat) (x2 : Int32) : Option (Int32 × mm_MM) :=
  fX10_askWhen_c15 fu m t1 x2 ((-1) : Int32) 11 (m.1 t1 4) 1
set_option maxRecDepth 20000 in
theorem ok_fX10_askWhen {m : mm_MM} {t1 : Nat} {x2 : Int32} {q0 : Int32 × mm_MM} (hk_t1 : mm_kd t1 = (9, 6)) (h : fX10_askWhen m t1 x2 = some q0) : Ev XL xs (d + 5) 145 (ev_M m c w) 0 (lv_args 0 [.ref 0, .ref t1, .int x2]) [] (fr_i c w q0) := by
  unfold fX10_askWhen at h
  refine ev_s 5 (M' := ev_M m c w) (pc' := 7) (lv' := [(4, .int 11), (3, .int ((-1) : Int32)), (0, .ref 0), (1, .ref t1), (2, .int x2)]) (st' := [.ref t1]) (fun n => rfl) ?_
  refine ev_gf (x := .int (m.1 t1 4)) rfl (congrArg Prod.fst hk_t1) rfl rfl ?_
  refine ev_s 3 (M' := ev_M m c w) (pc' := 15) (lv' := [(6, .int 1), (5, .int (m.1 t1 4)), (4, .int 11), (3, .int ((-1) : Int32)), (0, .ref 0), (1, .ref t1), (2, .int x2)]) (st' := []) (fun n => rfl) ?_
  refine ev_sub (lv := [(0, .ref 0), (1, .ref t1), (2, .int x2), (3, .int ((-1) : Int32)), (4, .int 11), (5, .int (m.1 t1 4)), (6, .int 1)]) (mn_of rfl (by repeat (first | exact trivial | refine And.intro rfl ?_))) ?_
  exact ok_fX10_askWhen_c15 fu _ _ _ _ _ _ _ _ hk_t1 h
def fX10_ask_c18 (m : mm_MM) : Option (Int32 × mm_MM) :=
  some (((-1) : Int32), m)
set_option maxRecDepth 20000 in
theorem ok_fX10_ask_c18 {m : mm_MM} {q0 : Int32 × mm_MM} (h : fX10_ask_c18 m = some q0) : Ev XL xs (d + 7) 144 (ev_M m c w) 18 [] [] (fr_i c w q0) := by
  unfold fX10_ask_c18 at h
  cases h
  exact ev_r 2 (fun n => rfl)
def fX10_ask_c53 (kr26 : mm_MM → Int32 → Nat → Int32 → Int32 → Option (Int32 × mm_MM)) (m : mm_MM) (x1 : Int32) (t3 : Nat) (x5 : Int32) (s0 : Int32) (s1 : Int32) : Option (Int32 × mm_MM) :=
  (fX10_place m 593 x5 (m.1 t3 1)).bind fun r1 =>
   kr26 r1 x1 t3 (s0 ||| s1) (x5 + 1)
set_option maxRecDepth 20000 in
theorem ok_fX10_ask_c53 {kr26 : mm_MM → Int32 → Nat → Int32 → Int32 → Option (Int32 × mm_MM)} (hkr26 : ∀ (m : mm_MM) (x1 : Int32) (t3 : Nat) (x4 : Int32) (x5 : Int32) (q0 : Int32 × mm_MM) (hk_t3 : mm_kd t3 = (9, 6)), kr26 m x1 t3 x4 x5 = some q0 → Ev XL xs (d + 7) 144 (ev_M m c w) 26 [(0, .ref 0), (1, .int x1), (3, .ref t3), (4, .int x4), (5, .int x5)] [] (fr_i c w q0)) {m : mm_MM} {x1 : Int32} {t3 : Nat} {x5 : Int32} {s0 : Int32} {s1 : Int32} {q0 : Int32 × mm_MM} (hk_t3 : mm_kd t3 = (9, 6)) (h : fX10_ask_c53 kr26 m x1 t3 x5 s0 s1 = some q0) : Ev XL xs (d + 7) 144 (ev_M m c w) 53 [(0, .ref 0), (1, .int x1), (3, .ref t3), (5, .int x5)] [.int s1, .int s0] (fr_i c w q0) := by
  unfold fX10_ask_c53 at h
  refine ev_s 6 (M' := ev_M m c w) (pc' := 63) (lv' := [(4, .int (s0 ||| s1)), (0, .ref 0), (1, .int x1), (3, .ref t3), (5, .int x5)]) (st' := [.ref t3, .int x5, .ref 593]) (fun n => rfl) ?_
  refine ev_gf (x := .int (m.1 t3 1)) rfl (congrArg Prod.fst hk_t3) rfl rfl ?_
  obtain ⟨r1, hr1, h⟩ := Option.bind_eq_some_iff.mp h
  refine ev_c 1 (y' := 176) (M1 := ev_M m c w) (la := lv_args 0 [.ref 593, .int x5, .int (m.1 t3 1)]) (rest := []) (pc' := 69) (lv' := [(4, .int (s0 ||| s1)), (0, .ref 0), (1, .int x1), (3, .ref t3), (5, .int x5)]) (fun n => rfl) (ok_fX10_place (congrArg Prod.fst (rfl : mm_kd 593 = (20, 10))) hr1) ?_
  show Ev XL xs _ 144 (ev_M r1 c w) 69 [(4, .int (s0 ||| s1)), (0, .ref 0), (1, .int x1), (3, .ref t3), (5, .int x5)] [] _
  refine ev_s 2 (M' := ev_M r1 c w) (pc' := 26) (lv' := [(5, .int (x5 + 1)), (4, .int (s0 ||| s1)), (0, .ref 0), (1, .int x1), (3, .ref t3)]) (st' := []) (fun n => rfl) ?_
  refine ev_sub (lv := [(0, .ref 0), (1, .int x1), (3, .ref t3), (4, .int (s0 ||| s1)), (5, .int (x5 + 1))]) (mn_of rfl (by repeat (first | exact trivial | refine And.intro rfl ?_))) ?_
  exact hkr26 _ _ _ _ _ _ hk_t3 h
def fX10_ask_c91 (m : mm_MM) (s0 : Int32) : Option (Int32 × mm_MM) :=
  some (s0, m)
set_option maxRecDepth 20000 in
theorem ok_fX10_ask_c91 {m : mm_MM} {s0 : Int32} {q0 : Int32 × mm_MM} (h : fX10_ask_c91 m s0 = some q0) : Ev XL xs (d + 7) 144 (ev_M m c w) 91 [] [.int s0] (fr_i c w q0) := by
  unfold fX10_ask_c91 at h
  cases h
  exact ev_r 1 (fun n => rfl)
def fX10_ask_c26 : Nat → mm_MM → Int32 → Nat → Int32 → Int32 → Option (Int32 × mm_MM)
  | 0 => fun _ _ _ _ _ => none
  | n + 1 => fun m x1 t3 x4 x5 =>
    (if x5 < 10 then
      (fX10_mayBeSoDamp m x1 x5).bind fun r2 =>
       (if r2.1 = 0 then
         fX10_ask_c53 (fX10_ask_c26 n) r2.2 x1 t3 x5 x4 0
        else
         fX10_ask_c53 (fX10_ask_c26 n) r2.2 x1 t3 x5 x4 ((1 : Int32) <<< (x5 &&& 31)))
     else
      (if x4 = 0 then
        fX10_ask_c91 m ((-1) : Int32)
       else
        (fX10_askWhen m t3 x4).bind fun r5 =>
         fX10_ask_c91 r5.2 r5.1))
set_option maxRecDepth 20000 in
theorem ok_fX10_ask_c26 : ∀ (n : Nat) (m : mm_MM) (x1 : Int32) (t3 : Nat) (x4 : Int32) (x5 : Int32) (q0 : Int32 × mm_MM) (hk_t3 : mm_kd t3 = (9, 6)), fX10_ask_c26 n m x1 t3 x4 x5 = some q0 → Ev XL xs (d + 7) 144 (ev_M m c w) 26 [(0, .ref 0), (1, .int x1), (3, .ref t3), (4, .int x4), (5, .int x5)] [] (fr_i c w q0) := by
  intro n
  induction n with
  | zero => intro m x1 t3 x4 x5 q0 hk_t3 h; exact absurd (show (none : Option (Int32 × mm_MM)) = some q0 from h) (by simp)
  | succ n ih =>
    intro m x1 t3 x4 x5 q0 hk_t3 h
    unfold fX10_ask_c26 at h
    refine ev_i 3 (M1 := ev_M m c w) (pc1 := 33) (lv1 := [(0, .ref 0), (1, .int x1), (3, .ref t3), (4, .int x4), (5, .int x5)]) (st1 := []) (M2 := ev_M m c w) (pc2 := 75) (lv2 := [(0, .ref 0), (1, .int x1), (3, .ref t3), (4, .int x4), (5, .int x5)]) (st2 := []) (fun n => rfl) h (fun hc1 h => ?_) (fun hc1 h => ?_)
    · obtain ⟨r2, hr2, h⟩ := Option.bind_eq_some_iff.mp h
      refine ev_c 5 (y' := 147) (M1 := ev_M m c w) (la := lv_args 0 [.ref 0, .int x1, .int x5]) (rest := [.int x4]) (pc' := 42) (lv' := [(0, .ref 0), (1, .int x1), (3, .ref t3), (4, .int x4), (5, .int x5)]) (fun n => rfl) (ok_fX10_mayBeSoDamp hr2) ?_
      show Ev XL xs _ 144 (ev_M r2.2 c w) 42 [(0, .ref 0), (1, .int x1), (3, .ref t3), (4, .int x4), (5, .int x5)] [.int r2.1, .int x4] _
      refine ev_i 1 (M1 := ev_M r2.2 c w) (pc1 := 52) (lv1 := [(0, .ref 0), (1, .int x1), (3, .ref t3), (4, .int x4), (5, .int x5)]) (st1 := [.int x4]) (M2 := ev_M r2.2 c w) (pc2 := 45) (lv2 := [(0, .ref 0), (1, .int x1), (3, .ref t3), (4, .int x4), (5, .int x5)]) (st2 := [.int x4]) (fun n => rfl) h (fun hc3 h => ?_) (fun hc3 h => ?_)
      · refine ev_s 1 (M' := ev_M r2.2 c w) (pc' := 53) (lv' := [(0, .ref 0), (1, .int x1), (3, .ref t3), (4, .int x4), (5, .int x5)]) (st' := [.int 0, .int x4]) (fun n => rfl) ?_
        refine ev_sub (lv := [(0, .ref 0), (1, .int x1), (3, .ref t3), (5, .int x5)]) (mn_of rfl (by repeat (first | exact trivial | refine And.intro rfl ?_))) ?_
        exact ok_fX10_ask_c53 ih hk_t3 h
      · refine ev_s 4 (M' := ev_M r2.2 c w) (pc' := 53) (lv' := [(0, .ref 0), (1, .int x1), (3, .ref t3), (4, .int x4), (5, .int x5)]) (st' := [.int ((1 : Int32) <<< (x5 &&& 31)), .int x4]) (fun n => rfl) ?_
        refine ev_sub (lv := [(0, .ref 0), (1, .int x1), (3, .ref t3), (5, .int x5)]) (mn_of rfl (by repeat (first | exact trivial | refine And.intro rfl ?_))) ?_
        exact ok_fX10_ask_c53 ih hk_t3 h
    · refine ev_i 2 (M1 := ev_M m c w) (pc1 := 80) (lv1 := [(0, .ref 0), (1, .int x1), (3, .ref t3), (4, .int x4), (5, .int x5)]) (st1 := []) (M2 := ev_M m c w) (pc2 := 84) (lv2 := [(0, .ref 0), (1, .int x1), (3, .ref t3), (4, .int x4), (5, .int x5)]) (st2 := []) (fun n => rfl) h (fun hc4 h => ?_) (fun hc4 h => ?_)
      · refine ev_s 2 (M' := ev_M m c w) (pc' := 91) (lv' := [(0, .ref 0), (1, .int x1), (3, .ref t3), (4, .int x4), (5, .int x5)]) (st' := [.int ((-1) : Int32)]) (fun n => rfl) ?_
        refine ev_sub (lv := []) (mn_of rfl (by repeat (first | exact trivial | refine And.intro rfl ?_))) ?_
        exact ok_fX10_ask_c91 h
      · obtain ⟨r5, hr5, h⟩ := Option.bind_eq_some_iff.mp h
        refine ev_c 4 (y' := 145) (M1 := ev_M m c w) (la := lv_args 0 [.ref 0, .ref t3, .int x4]) (rest := []) (pc' := 91) (lv' := [(0, .ref 0), (1, .int x1), (3, .ref t3), (4, .int x4), (5, .int x5)]) (fun n => rfl) (ok_fX10_askWhen hk_t3 hr5) ?_
        show Ev XL xs _ 144 (ev_M r5.2 c w) 91 [(0, .ref 0), (1, .int x1), (3, .ref t3), (4, .int x4), (5, .int x5)] [.int r5.1] _
        refine ev_sub (lv := []) (mn_of rfl (by repeat (first | exact trivial | refine And.intro rfl ?_))) ?_
        exact ok_fX10_ask_c91 h
def fX10_ask (m : mm_MM) (x1 : Int32) (x2 : Int32) : Option (Int32 × mm_MM) :=
  (fX10_toldThing m x2).bind fun r1 =>
   match r1.1 with
   | none =>
     fX10_ask_c18 r1.2
   | some u2 =>
     if mm_kd u2 = (9, 6) then
       (fX10_isRow r1.2 x1).bind fun r3 =>
        (if r3.1 = 0 then
          fX10_ask_c18 r3.2
         else
          fX10_ask_c26 fu r3.2 x1 u2 0 0)
     else none
set_option maxRecDepth 20000 in
theorem ok_fX10_ask {m : mm_MM} {x1 : Int32} {x2 : Int32} {q0 : Int32 × mm_MM} (h : fX10_ask m x1 x2 = some q0) : Ev XL xs (d + 7) 144 (ev_M m c w) 0 (lv_args 0 [.ref 0, .int x1, .int x2]) [] (fr_i c w q0) := by
  unfold fX10_ask at h
  obtain ⟨r1, hr1, h⟩ := Option.bind_eq_some_iff.mp h
  refine ev_c 3 (y' := 148) (M1 := ev_M m c w) (la := lv_args 0 [.ref 0, .int x2]) (rest := []) (pc' := 5) (lv' := [(0, .ref 0), (1, .int x1), (2, .int x2)]) (fun n => rfl) (ok_fX10_toldThing hr1) ?_
  show Ev XL xs _ 144 (ev_M r1.2 c w) 5 [(0, .ref 0), (1, .int x1), (2, .int x2)] [va_rf r1.1] _
  generalize r1.1 = o5 at h ⊢
  cases o5 with
  | none =>
    refine ev_s 3 (M' := ev_M r1.2 c w) (pc' := 18) (lv' := [(3, .null), (0, .ref 0), (1, .int x1), (2, .int x2)]) (st' := []) (fun n => rfl) ?_
    refine ev_sub (lv := []) (mn_of rfl (by repeat (first | exact trivial | refine And.intro rfl ?_))) ?_
    exact ok_fX10_ask_c18 h
  | some u2 =>
    obtain ⟨hk_u2, h⟩ := sd_ift h
    obtain ⟨r3, hr3, h⟩ := Option.bind_eq_some_iff.mp h
    refine ev_c 6 (y' := 104) (M1 := ev_M r1.2 c w) (la := lv_args 0 [.ref 0, .int x1]) (rest := []) (pc' := 15) (lv' := [(3, .ref u2), (0, .ref 0), (1, .int x1), (2, .int x2)]) (fun n => rfl) (ok_fX10_isRow hr3) ?_
    show Ev XL xs _ 144 (ev_M r3.2 c w) 15 [(3, .ref u2), (0, .ref 0), (1, .int x1), (2, .int x2)] [.int r3.1] _
    refine ev_i 1 (M1 := ev_M r3.2 c w) (pc1 := 18) (lv1 := [(3, .ref u2), (0, .ref 0), (1, .int x1), (2, .int x2)]) (st1 := []) (M2 := ev_M r3.2 c w) (pc2 := 20) (lv2 := [(3, .ref u2), (0, .ref 0), (1, .int x1), (2, .int x2)]) (st2 := []) (fun n => rfl) h (fun hc4 h => ?_) (fun hc4 h => ?_)
    · refine ev_sub (lv := []) (mn_of rfl (by repeat (first | exact trivial | refine And.intro rfl ?_))) ?_
      exact ok_fX10_ask_c18 h
    · refine ev_s 4 (M' := ev_M r3.2 c w) (pc' := 26) (lv' := [(5, .int 0), (4, .int 0), (3, .ref u2), (0, .ref 0), (1, .int x1), (2, .int x2)]) (st' := []) (fun n => rfl) ?_
      refine ev_sub (lv := [(0, .ref 0), (1, .int x1), (3, .ref u2), (4, .int 0), (5, .int 0)]) (mn_of rfl (by repeat (first | exact trivial | refine And.intro rfl ?_))) ?_
      exact ok_fX10_ask_c26 fu _ _ _ _ _ _ hk_u2 h
def fX10_mayPlay_c32 (m : mm_MM) (s0 : Int32) : Option (Int32 × mm_MM) :=
  (if s0 = 0 ∨ s0 = 1 then some (s0, m) else none)
theorem ok_fX10_mayPlay_c32 {m : mm_MM} {s0 : Int32} {q0 : Int32 × mm_MM} (h : fX10_mayPlay_c32 m s0 = some q0) : Ev XL xs (d + 3) 154 (ev_M m c w) 32 [] [.int s0] (fr_i c w q0) := by
  unfold fX10_mayPlay_c32 at h
  exact ev_rg 1 (f := fr_i c w) (fun n => rfl) h
def fX10_mayPlay_c31 (m : mm_MM) : Option (Int32 × mm_MM) :=
  fX10_mayPlay_c32 m 0
theorem ok_fX10_mayPlay_c31 {m : mm_MM} {q0 : Int32 × mm_MM} (h : fX10_mayPlay_c31 m = some q0) : Ev XL xs (d + 3) 154 (ev_M m c w) 31 [] [] (fr_i c w q0) := by
  unfold fX10_mayPlay_c31 at h
  refine ev_s 1 (M' := ev_M m c w) (pc' := 32) (lv' := []) (st' := [.int 0]) (fun n => rfl) ?_
  exact ok_fX10_mayPlay_c32 h
def fX10_mayPlay (m : mm_MM) (x1 : Int32) (x2 : Int32) : Option (Int32 × mm_MM) :=
  (if x1 = x2 then
    fX10_mayPlay_c31 m
   else
    (fX7_findLying m 29 x1).bind fun r2 =>
     match r2.1 with
     | none =>
       fX10_mayPlay_c31 r2.2
     | some u3 =>
       if mm_kd u3 = (9, 6) then
         (fX7_findLying r2.2 29 x2).bind fun r4 =>
          match r4.1 with
          | none =>
            fX10_mayPlay_c31 r4.2
          | some u5 =>
            if mm_kd u5 = (9, 6) then
              fX10_mayPlay_c32 r4.2 1
            else none
       else none)
theorem ok_fX10_mayPlay {m : mm_MM} {x1 : Int32} {x2 : Int32} {q0 : Int32 × mm_MM} (h : fX10_mayPlay m x1 x2 = some q0) : Ev XL xs (d + 3) 154 (ev_M m c w) 0 (lv_args 0 [.ref 0, .int x1, .int x2]) [] (fr_i c w q0) := by
  unfold fX10_mayPlay at h
  refine ev_i 3 (M1 := ev_M m c w) (pc1 := 31) (lv1 := [(0, .ref 0), (1, .int x1), (2, .int x2)]) (st1 := []) (M2 := ev_M m c w) (pc2 := 5) (lv2 := [(0, .ref 0), (1, .int x1), (2, .int x2)]) (st2 := []) (fun n => rfl) h (fun hc1 h => ?_) (fun hc1 h => ?_)
  · refine ev_sub (lv := []) (mn_of rfl (by repeat (first | exact trivial | refine And.intro rfl ?_))) ?_
    exact ok_fX10_mayPlay_c31 h
  · obtain ⟨r2, hr2, h⟩ := Option.bind_eq_some_iff.mp h
    refine ev_c 4 (y' := 70) (M1 := ev_M m c w) (la := lv_args 0 [.ref 29, .int x1]) (rest := []) (pc' := 13) (lv' := [(0, .ref 0), (1, .int x1), (2, .int x2)]) (fun n => rfl) (ok_fX7_findLying (rfl : mm_kd 29 = (7, 8)) hr2) ?_
    show Ev XL xs _ 154 (ev_M r2.2 c w) 13 [(0, .ref 0), (1, .int x1), (2, .int x2)] [va_rf r2.1] _
    generalize r2.1 = o7 at h ⊢
    cases o7 with
    | none =>
      refine ev_s 1 (M' := ev_M r2.2 c w) (pc' := 31) (lv' := [(0, .ref 0), (1, .int x1), (2, .int x2)]) (st' := []) (fun n => rfl) ?_
      refine ev_sub (lv := []) (mn_of rfl (by repeat (first | exact trivial | refine And.intro rfl ?_))) ?_
      exact ok_fX10_mayPlay_c31 h
    | some u3 =>
      obtain ⟨hk_u3, h⟩ := sd_ift h
      obtain ⟨r4, hr4, h⟩ := Option.bind_eq_some_iff.mp h
      refine ev_c 5 (y' := 70) (M1 := ev_M r2.2 c w) (la := lv_args 0 [.ref 29, .int x2]) (rest := []) (pc' := 24) (lv' := [(0, .ref 0), (1, .int x1), (2, .int x2)]) (fun n => rfl) (ok_fX7_findLying (rfl : mm_kd 29 = (7, 8)) hr4) ?_
      show Ev XL xs _ 154 (ev_M r4.2 c w) 24 [(0, .ref 0), (1, .int x1), (2, .int x2)] [va_rf r4.1] _
      generalize r4.1 = o6 at h ⊢
      cases o6 with
      | none =>
        refine ev_s 1 (M' := ev_M r4.2 c w) (pc' := 31) (lv' := [(0, .ref 0), (1, .int x1), (2, .int x2)]) (st' := []) (fun n => rfl) ?_
        refine ev_sub (lv := []) (mn_of rfl (by repeat (first | exact trivial | refine And.intro rfl ?_))) ?_
        exact ok_fX10_mayPlay_c31 h
      | some u5 =>
        obtain ⟨hk_u5, h⟩ := sd_ift h
        refine ev_s 3 (M' := ev_M r4.2 c w) (pc' := 32) (lv' := [(0, .ref 0), (1, .int x1), (2, .int x2)]) (st' := [.int 1]) (fun n => rfl) ?_
        refine ev_sub (lv := []) (mn_of rfl (by repeat (first | exact trivial | refine And.intro rfl ?_))) ?_
        exact ok_fX10_mayPlay_c32 h
def fX10_valueAt_c21 (m : mm_MM) (s0 : Int32) : Option (Int32 × mm_MM) :=
  some (s0, m)
theorem ok_fX10_valueAt_c21 {m : mm_MM} {s0 : Int32} {q0 : Int32 × mm_MM} (h : fX10_valueAt_c21 m s0 = some q0) : Ev XL xs (d + 2) 157 (ev_M m c w) 21 [] [.int s0] (fr_i c w q0) := by
  unfold fX10_valueAt_c21 at h
  cases h
  exact ev_r 1 (fun n => rfl)
def fX10_valueAt (m : mm_MM) (x1 : Int32) : Option (Int32 × mm_MM) :=
  (fX7_find m 29 x1).bind fun r1 =>
   match r1.1 with
   | none =>
     fX10_valueAt_c21 r1.2 0
   | some u2 =>
     if mm_kd u2 = (9, 6) then
       fX10_valueAt_c21 r1.2 (r1.2.1 u2 1)
     else none
theorem ok_fX10_valueAt {m : mm_MM} {x1 : Int32} {q0 : Int32 × mm_MM} (h : fX10_valueAt m x1 = some q0) : Ev XL xs (d + 2) 157 (ev_M m c w) 0 (lv_args 0 [.ref 0, .int x1]) [] (fr_i c w q0) := by
  unfold fX10_valueAt at h
  obtain ⟨r1, hr1, h⟩ := Option.bind_eq_some_iff.mp h
  refine ev_c 4 (y' := 69) (M1 := ev_M m c w) (la := lv_args 0 [.ref 29, .int x1]) (rest := []) (pc' := 8) (lv' := [(0, .ref 0), (1, .int x1)]) (fun n => rfl) (ok_fX7_find (rfl : mm_kd 29 = (7, 8)) hr1) ?_
  show Ev XL xs _ 157 (ev_M r1.2 c w) 8 [(0, .ref 0), (1, .int x1)] [va_rf r1.1] _
  generalize r1.1 = o3 at h ⊢
  cases o3 with
  | none =>
    refine ev_s 5 (M' := ev_M r1.2 c w) (pc' := 21) (lv' := [(2, .null), (0, .ref 0), (1, .int x1)]) (st' := [.int 0]) (fun n => rfl) ?_
    refine ev_sub (lv := []) (mn_of rfl (by repeat (first | exact trivial | refine And.intro rfl ?_))) ?_
    exact ok_fX10_valueAt_c21 h
  | some u2 =>
    obtain ⟨hk_u2, h⟩ := sd_ift h
    refine ev_s 4 (M' := ev_M r1.2 c w) (pc' := 18) (lv' := [(2, .ref u2), (0, .ref 0), (1, .int x1)]) (st' := [.ref u2]) (fun n => rfl) ?_
    refine ev_gf (x := .int (r1.2.1 u2 1)) rfl (congrArg Prod.fst hk_u2) rfl rfl ?_
    refine ev_sub (lv := []) (mn_of rfl (by repeat (first | exact trivial | refine And.intro rfl ?_))) ?_
    exact ok_fX10_valueAt_c21 h
def fX10_merchantHas_c25 (m : mm_MM) (x3 : Int32) (s0 : Int32) : Option (Int32 × mm_MM) :=
  some ((s0 - x3), m)
theorem ok_fX10_merchantHas_c25 {m : mm_MM} {x3 : Int32} {s0 : Int32} {q0 : Int32 × mm_MM} (h : fX10_merchantHas_c25 m x3 s0 = some q0) : Ev XL xs (d + 3) 155 (ev_M m c w) 25 [(3, .int x3)] [.int s0] (fr_i c w q0) := by
  unfold fX10_merchantHas_c25 at h
  cases h
  exact ev_r 3 (fun n => rfl)
def fX10_merchantHas_c21 (m : mm_MM) (x3 : Int32) (s1 : Int32) : Option (Int32 × mm_MM) :=
  (fX10_valueAt m s1).bind fun r1 =>
   fX10_merchantHas_c25 r1.2 x3 (-r1.1)
theorem ok_fX10_merchantHas_c21 {m : mm_MM} {x3 : Int32} {s1 : Int32} {q0 : Int32 × mm_MM} (h : fX10_merchantHas_c21 m x3 s1 = some q0) : Ev XL xs (d + 3) 155 (ev_M m c w) 21 [(3, .int x3)] [.int s1, .ref 0] (fr_i c w q0) := by
  unfold fX10_merchantHas_c21 at h
  obtain ⟨r1, hr1, h⟩ := Option.bind_eq_some_iff.mp h
  refine ev_c 1 (y' := 157) (M1 := ev_M m c w) (la := lv_args 0 [.ref 0, .int s1]) (rest := []) (pc' := 24) (lv' := [(3, .int x3)]) (fun n => rfl) (ok_fX10_valueAt hr1) ?_
  show Ev XL xs _ 155 (ev_M r1.2 c w) 24 [(3, .int x3)] [.int r1.1] _
  refine ev_s 1 (M' := ev_M r1.2 c w) (pc' := 25) (lv' := [(3, .int x3)]) (st' := [.int (-r1.1)]) (fun n => rfl) ?_
  exact ok_fX10_merchantHas_c25 h
def fX10_merchantHas (m : mm_MM) (x1 : Int32) (x2 : Int32) (x3 : Int32) (x4 : Int32) : Option (Int32 × mm_MM) :=
  (if x3 = x4 then
    fX10_merchantHas_c25 m x3 5
   else
    (if x4 = 0 then
      fX10_merchantHas_c21 m x3 x1
     else
      fX10_merchantHas_c21 m x3 x2))
theorem ok_fX10_merchantHas {m : mm_MM} {x1 : Int32} {x2 : Int32} {x3 : Int32} {x4 : Int32} {q0 : Int32 × mm_MM} (h : fX10_merchantHas m x1 x2 x3 x4 = some q0) : Ev XL xs (d + 3) 155 (ev_M m c w) 0 (lv_args 0 [.ref 0, .int x1, .int x2, .int x3, .int x4]) [] (fr_i c w q0) := by
  unfold fX10_merchantHas at h
  refine ev_i 3 (M1 := ev_M m c w) (pc1 := 6) (lv1 := [(0, .ref 0), (1, .int x1), (2, .int x2), (3, .int x3), (4, .int x4)]) (st1 := []) (M2 := ev_M m c w) (pc2 := 10) (lv2 := [(0, .ref 0), (1, .int x1), (2, .int x2), (3, .int x3), (4, .int x4)]) (st2 := []) (fun n => rfl) h (fun hc1 h => ?_) (fun hc1 h => ?_)
  · refine ev_s 2 (M' := ev_M m c w) (pc' := 25) (lv' := [(0, .ref 0), (1, .int x1), (2, .int x2), (3, .int x3), (4, .int x4)]) (st' := [.int 5]) (fun n => rfl) ?_
    refine ev_sub (lv := [(3, .int x3)]) (mn_of rfl (by repeat (first | exact trivial | refine And.intro rfl ?_))) ?_
    exact ok_fX10_merchantHas_c25 h
  · refine ev_i 3 (M1 := ev_M m c w) (pc1 := 16) (lv1 := [(0, .ref 0), (1, .int x1), (2, .int x2), (3, .int x3), (4, .int x4)]) (st1 := [.ref 0]) (M2 := ev_M m c w) (pc2 := 20) (lv2 := [(0, .ref 0), (1, .int x1), (2, .int x2), (3, .int x3), (4, .int x4)]) (st2 := [.ref 0]) (fun n => rfl) h (fun hc2 h => ?_) (fun hc2 h => ?_)
    · refine ev_s 2 (M' := ev_M m c w) (pc' := 21) (lv' := [(0, .ref 0), (1, .int x1), (2, .int x2), (3, .int x3), (4, .int x4)]) (st' := [.int x1, .ref 0]) (fun n => rfl) ?_
      refine ev_sub (lv := [(3, .int x3)]) (mn_of rfl (by repeat (first | exact trivial | refine And.intro rfl ?_))) ?_
      exact ok_fX10_merchantHas_c21 h
    · refine ev_s 1 (M' := ev_M m c w) (pc' := 21) (lv' := [(0, .ref 0), (1, .int x1), (2, .int x2), (3, .int x3), (4, .int x4)]) (st' := [.int x2, .ref 0]) (fun n => rfl) ?_
      refine ev_sub (lv := [(3, .int x3)]) (mn_of rfl (by repeat (first | exact trivial | refine And.intro rfl ?_))) ?_
      exact ok_fX10_merchantHas_c21 h
def fX10_thiefHas_c25 (m : mm_MM) (s0 : Int32) : Option (Int32 × mm_MM) :=
  some (s0, m)
theorem ok_fX10_thiefHas_c25 {m : mm_MM} {s0 : Int32} {q0 : Int32 × mm_MM} (h : fX10_thiefHas_c25 m s0 = some q0) : Ev XL xs (d + 3) 156 (ev_M m c w) 25 [] [.int s0] (fr_i c w q0) := by
  unfold fX10_thiefHas_c25 at h
  cases h
  exact ev_r 1 (fun n => rfl)
def fX10_thiefHas_c22 (m : mm_MM) (s1 : Int32) : Option (Int32 × mm_MM) :=
  (fX10_valueAt m s1).bind fun r1 =>
   fX10_thiefHas_c25 r1.2 r1.1
theorem ok_fX10_thiefHas_c22 {m : mm_MM} {s1 : Int32} {q0 : Int32 × mm_MM} (h : fX10_thiefHas_c22 m s1 = some q0) : Ev XL xs (d + 3) 156 (ev_M m c w) 22 [] [.int s1, .ref 0] (fr_i c w q0) := by
  unfold fX10_thiefHas_c22 at h
  obtain ⟨r1, hr1, h⟩ := Option.bind_eq_some_iff.mp h
  refine ev_c 1 (y' := 157) (M1 := ev_M m c w) (la := lv_args 0 [.ref 0, .int s1]) (rest := []) (pc' := 25) (lv' := []) (fun n => rfl) (ok_fX10_valueAt hr1) ?_
  show Ev XL xs _ 156 (ev_M r1.2 c w) 25 [] [.int r1.1] _
  exact ok_fX10_thiefHas_c25 h
def fX10_thiefHas (m : mm_MM) (x1 : Int32) (x2 : Int32) (x3 : Int32) (x4 : Int32) : Option (Int32 × mm_MM) :=
  (if x3 = x4 then
    fX10_thiefHas_c25 m ((-5) : Int32)
   else
    (if x4 = 0 then
      fX10_thiefHas_c22 m x1
     else
      fX10_thiefHas_c22 m x2))
theorem ok_fX10_thiefHas {m : mm_MM} {x1 : Int32} {x2 : Int32} {x3 : Int32} {x4 : Int32} {q0 : Int32 × mm_MM} (h : fX10_thiefHas m x1 x2 x3 x4 = some q0) : Ev XL xs (d + 3) 156 (ev_M m c w) 0 (lv_args 0 [.ref 0, .int x1, .int x2, .int x3, .int x4]) [] (fr_i c w q0) := by
  unfold fX10_thiefHas at h
  refine ev_i 3 (M1 := ev_M m c w) (pc1 := 6) (lv1 := [(0, .ref 0), (1, .int x1), (2, .int x2), (3, .int x3), (4, .int x4)]) (st1 := []) (M2 := ev_M m c w) (pc2 := 11) (lv2 := [(0, .ref 0), (1, .int x1), (2, .int x2), (3, .int x3), (4, .int x4)]) (st2 := []) (fun n => rfl) h (fun hc1 h => ?_) (fun hc1 h => ?_)
  · refine ev_s 2 (M' := ev_M m c w) (pc' := 25) (lv' := [(0, .ref 0), (1, .int x1), (2, .int x2), (3, .int x3), (4, .int x4)]) (st' := [.int ((-5) : Int32)]) (fun n => rfl) ?_
    refine ev_sub (lv := []) (mn_of rfl (by repeat (first | exact trivial | refine And.intro rfl ?_))) ?_
    exact ok_fX10_thiefHas_c25 h
  · refine ev_i 3 (M1 := ev_M m c w) (pc1 := 17) (lv1 := [(0, .ref 0), (1, .int x1), (2, .int x2), (3, .int x3), (4, .int x4)]) (st1 := [.ref 0]) (M2 := ev_M m c w) (pc2 := 21) (lv2 := [(0, .ref 0), (1, .int x1), (2, .int x2), (3, .int x3), (4, .int x4)]) (st2 := [.ref 0]) (fun n => rfl) h (fun hc2 h => ?_) (fun hc2 h => ?_)
    · refine ev_s 2 (M' := ev_M m c w) (pc' := 22) (lv' := [(0, .ref 0), (1, .int x1), (2, .int x2), (3, .int x3), (4, .int x4)]) (st' := [.int x1, .ref 0]) (fun n => rfl) ?_
      refine ev_sub (lv := []) (mn_of rfl (by repeat (first | exact trivial | refine And.intro rfl ?_))) ?_
      exact ok_fX10_thiefHas_c22 h
    · refine ev_s 1 (M' := ev_M m c w) (pc' := 22) (lv' := [(0, .ref 0), (1, .int x1), (2, .int x2), (3, .int x3), (4, .int x4)]) (st' := [.int x2, .ref 0]) (fun n => rfl) ?_
      refine ev_sub (lv := []) (mn_of rfl (by repeat (first | exact trivial | refine And.intro rfl ?_))) ?_
      exact ok_fX10_thiefHas_c22 h
def fX10_isBit_c14 (m : mm_MM) (s0 : Int32) : Option (Int32 × mm_MM) :=
  (if s0 = 0 ∨ s0 = 1 then some (s0, m) else none)
theorem ok_fX10_isBit_c14 {m : mm_MM} {s0 : Int32} {q0 : Int32 × mm_MM} (h : fX10_isBit_c14 m s0 = some q0) : Ev XL xs d 158 (ev_M m c w) 14 [] [.int s0] (fr_i c w q0) := by
  unfold fX10_isBit_c14 at h
  exact ev_rg 1 (f := fr_i c w) (fun n => rfl) h
def fX10_isBit_c9 (m : mm_MM) : Option (Int32 × mm_MM) :=
  fX10_isBit_c14 m 1
theorem ok_fX10_isBit_c9 {m : mm_MM} {q0 : Int32 × mm_MM} (h : fX10_isBit_c9 m = some q0) : Ev XL xs d 158 (ev_M m c w) 9 [] [] (fr_i c w q0) := by
  unfold fX10_isBit_c9 at h
  refine ev_s 2 (M' := ev_M m c w) (pc' := 14) (lv' := []) (st' := [.int 1]) (fun n => rfl) ?_
  exact ok_fX10_isBit_c14 h
def fX10_isBit (m : mm_MM) (x0 : Int32) : Option (Int32 × mm_MM) :=
  (if x0 = 0 then
    fX10_isBit_c9 m
   else
    (if x0 = 1 then
      fX10_isBit_c9 m
     else
      fX10_isBit_c14 m 0))
theorem ok_fX10_isBit {m : mm_MM} {x0 : Int32} {q0 : Int32 × mm_MM} (h : fX10_isBit m x0 = some q0) : Ev XL xs d 158 (ev_M m c w) 0 (lv_args 0 [.int x0]) [] (fr_i c w q0) := by
  unfold fX10_isBit at h
  refine ev_i 2 (M1 := ev_M m c w) (pc1 := 9) (lv1 := [(0, .int x0)]) (st1 := []) (M2 := ev_M m c w) (pc2 := 4) (lv2 := [(0, .int x0)]) (st2 := []) (fun n => rfl) h (fun hc1 h => ?_) (fun hc1 h => ?_)
  · refine ev_sub (lv := []) (mn_of rfl (by repeat (first | exact trivial | refine And.intro rfl ?_))) ?_
    exact ok_fX10_isBit_c9 h
  · refine ev_i 3 (M1 := ev_M m c w) (pc1 := 9) (lv1 := [(0, .int x0)]) (st1 := []) (M2 := ev_M m c w) (pc2 := 13) (lv2 := [(0, .int x0)]) (st2 := []) (fun n => rfl) h (fun hc2 h => ?_) (fun hc2 h => ?_)
    · refine ev_sub (lv := []) (mn_of rfl (by repeat (first | exact trivial | refine And.intro rfl ?_))) ?_
      exact ok_fX10_isBit_c9 h
    · refine ev_s 1 (M' := ev_M m c w) (pc' := 14) (lv' := [(0, .int x0)]) (st' := [.int 0]) (fun n => rfl) ?_
      refine ev_sub (lv := []) (mn_of rfl (by repeat (first | exact trivial | refine And.intro rfl ?_))) ?_
      exact ok_fX10_isBit_c14 h
def fX10_game_c44 (m : mm_MM) : Option (Int32 × mm_MM) :=
  some (((-1000000) : Int32), m)
theorem ok_fX10_game_c44 {m : mm_MM} {q0 : Int32 × mm_MM} (h : fX10_game_c44 m = some q0) : Ev XL xs (d + 4) 149 (ev_M m c w) 44 [] [] (fr_i c w q0) := by
  unfold fX10_game_c44 at h
  cases h
  exact ev_r 2 (fun n => rfl)
def fX10_game_c73 (m : mm_MM) (s0 : Int32) : Option (Int32 × mm_MM) :=
  some (s0, m)
theorem ok_fX10_game_c73 {m : mm_MM} {s0 : Int32} {q0 : Int32 × mm_MM} (h : fX10_game_c73 m s0 = some q0) : Ev XL xs (d + 4) 149 (ev_M m c w) 73 [] [.int s0] (fr_i c w q0) := by
  unfold fX10_game_c73 at h
  cases h
  exact ev_r 1 (fun n => rfl)
def fX10_game_c28 (m : mm_MM) (x1 : Int32) (x2 : Int32) (x3 : Int32) (x4 : Int32) (x5 : Int32) (s0 : Int32) : Option (Int32 × mm_MM) :=
  (fX10_mayPlay m x1 x2).bind fun r1 =>
   (if r1.1 = 0 then
     fX10_game_c44 r1.2
    else
     (if s0 = 0 then
       fX10_game_c44 r1.2
      else
       (if x5 = 0 then
         (fX10_merchantHas r1.2 x1 x2 x3 x4).bind fun r5 =>
          fX10_game_c73 r5.2 r5.1
        else
         (fX10_thiefHas r1.2 x1 x2 x3 x4).bind fun r6 =>
          fX10_game_c73 r6.2 r6.1)))
theorem ok_fX10_game_c28 {m : mm_MM} {x1 : Int32} {x2 : Int32} {x3 : Int32} {x4 : Int32} {x5 : Int32} {s0 : Int32} {q0 : Int32 × mm_MM} (h : fX10_game_c28 m x1 x2 x3 x4 x5 s0 = some q0) : Ev XL xs (d + 4) 149 (ev_M m c w) 28 [(0, .ref 0), (1, .int x1), (2, .int x2), (3, .int x3), (4, .int x4), (5, .int x5)] [.int s0] (fr_i c w q0) := by
  unfold fX10_game_c28 at h
  obtain ⟨r1, hr1, h⟩ := Option.bind_eq_some_iff.mp h
  refine ev_c 5 (y' := 154) (M1 := ev_M m c w) (la := lv_args 0 [.ref 0, .int x1, .int x2]) (rest := []) (pc' := 36) (lv' := [(6, .int s0), (0, .ref 0), (1, .int x1), (2, .int x2), (3, .int x3), (4, .int x4), (5, .int x5)]) (fun n => rfl) (ok_fX10_mayPlay hr1) ?_
  show Ev XL xs _ 149 (ev_M r1.2 c w) 36 [(6, .int s0), (0, .ref 0), (1, .int x1), (2, .int x2), (3, .int x3), (4, .int x4), (5, .int x5)] [.int r1.1] _
  refine ev_i 1 (M1 := ev_M r1.2 c w) (pc1 := 44) (lv1 := [(6, .int s0), (0, .ref 0), (1, .int x1), (2, .int x2), (3, .int x3), (4, .int x4), (5, .int x5)]) (st1 := []) (M2 := ev_M r1.2 c w) (pc2 := 39) (lv2 := [(6, .int s0), (0, .ref 0), (1, .int x1), (2, .int x2), (3, .int x3), (4, .int x4), (5, .int x5)]) (st2 := []) (fun n => rfl) h (fun hc2 h => ?_) (fun hc2 h => ?_)
  · refine ev_sub (lv := []) (mn_of rfl (by repeat (first | exact trivial | refine And.intro rfl ?_))) ?_
    exact ok_fX10_game_c44 h
  · refine ev_i 2 (M1 := ev_M r1.2 c w) (pc1 := 44) (lv1 := [(6, .int s0), (0, .ref 0), (1, .int x1), (2, .int x2), (3, .int x3), (4, .int x4), (5, .int x5)]) (st1 := []) (M2 := ev_M r1.2 c w) (pc2 := 47) (lv2 := [(6, .int s0), (0, .ref 0), (1, .int x1), (2, .int x2), (3, .int x3), (4, .int x4), (5, .int x5)]) (st2 := []) (fun n => rfl) h (fun hc3 h => ?_) (fun hc3 h => ?_)
    · refine ev_sub (lv := []) (mn_of rfl (by repeat (first | exact trivial | refine And.intro rfl ?_))) ?_
      exact ok_fX10_game_c44 h
    · refine ev_i 2 (M1 := ev_M r1.2 c w) (pc1 := 52) (lv1 := [(6, .int s0), (0, .ref 0), (1, .int x1), (2, .int x2), (3, .int x3), (4, .int x4), (5, .int x5)]) (st1 := []) (M2 := ev_M r1.2 c w) (pc2 := 64) (lv2 := [(6, .int s0), (0, .ref 0), (1, .int x1), (2, .int x2), (3, .int x3), (4, .int x4), (5, .int x5)]) (st2 := []) (fun n => rfl) h (fun hc4 h => ?_) (fun hc4 h => ?_)
      · obtain ⟨r5, hr5, h⟩ := Option.bind_eq_some_iff.mp h
        refine ev_c 6 (y' := 155) (M1 := ev_M r1.2 c w) (la := lv_args 0 [.ref 0, .int x1, .int x2, .int x3, .int x4]) (rest := []) (pc' := 61) (lv' := [(6, .int s0), (0, .ref 0), (1, .int x1), (2, .int x2), (3, .int x3), (4, .int x4), (5, .int x5)]) (fun n => rfl) (ok_fX10_merchantHas hr5) ?_
        show Ev XL xs _ 149 (ev_M r5.2 c w) 61 [(6, .int s0), (0, .ref 0), (1, .int x1), (2, .int x2), (3, .int x3), (4, .int x4), (5, .int x5)] [.int r5.1] _
        refine ev_s 1 (M' := ev_M r5.2 c w) (pc' := 73) (lv' := [(6, .int s0), (0, .ref 0), (1, .int x1), (2, .int x2), (3, .int x3), (4, .int x4), (5, .int x5)]) (st' := [.int r5.1]) (fun n => rfl) ?_
        refine ev_sub (lv := []) (mn_of rfl (by repeat (first | exact trivial | refine And.intro rfl ?_))) ?_
        exact ok_fX10_game_c73 h
      · obtain ⟨r6, hr6, h⟩ := Option.bind_eq_some_iff.mp h
        refine ev_c 6 (y' := 156) (M1 := ev_M r1.2 c w) (la := lv_args 0 [.ref 0, .int x1, .int x2, .int x3, .int x4]) (rest := []) (pc' := 73) (lv' := [(6, .int s0), (0, .ref 0), (1, .int x1), (2, .int x2), (3, .int x3), (4, .int x4), (5, .int x5)]) (fun n => rfl) (ok_fX10_thiefHas hr6) ?_
        show Ev XL xs _ 149 (ev_M r6.2 c w) 73 [(6, .int s0), (0, .ref 0), (1, .int x1), (2, .int x2), (3, .int x3), (4, .int x4), (5, .int x5)] [.int r6.1] _
        refine ev_sub (lv := []) (mn_of rfl (by repeat (first | exact trivial | refine And.intro rfl ?_))) ?_
        exact ok_fX10_game_c73 h
def fX10_game_c27 (m : mm_MM) (x1 : Int32) (x2 : Int32) (x3 : Int32) (x4 : Int32) (x5 : Int32) : Option (Int32 × mm_MM) :=
  fX10_game_c28 m x1 x2 x3 x4 x5 0
theorem ok_fX10_game_c27 {m : mm_MM} {x1 : Int32} {x2 : Int32} {x3 : Int32} {x4 : Int32} {x5 : Int32} {q0 : Int32 × mm_MM} (h : fX10_game_c27 m x1 x2 x3 x4 x5 = some q0) : Ev XL xs (d + 4) 149 (ev_M m c w) 27 [(0, .ref 0), (1, .int x1), (2, .int x2), (3, .int x3), (4, .int x4), (5, .int x5)] [] (fr_i c w q0) := by
  unfold fX10_game_c27 at h
  refine ev_s 1 (M' := ev_M m c w) (pc' := 28) (lv' := [(0, .ref 0), (1, .int x1), (2, .int x2), (3, .int x3), (4, .int x4), (5, .int x5)]) (st' := [.int 0]) (fun n => rfl) ?_
  exact ok_fX10_game_c28 h
def fX10_game (m : mm_MM) (x1 : Int32) (x2 : Int32) (x3 : Int32) (x4 : Int32) (x5 : Int32) : Option (Int32 × mm_MM) :=
  (fX10_isBit m x3).bind fun r1 =>
   (if r1.1 = 0 then
     fX10_game_c27 r1.2 x1 x2 x3 x4 x5
    else
     (fX10_isBit r1.2 x4).bind fun r3 =>
      (if r3.1 = 0 then
        fX10_game_c27 r3.2 x1 x2 x3 x4 x5
       else
        (fX10_isBit r3.2 x5).bind fun r5 =>
         (if r5.1 = 0 then
           fX10_game_c27 r5.2 x1 x2 x3 x4 x5
          else
           fX10_game_c28 r5.2 x1 x2 x3 x4 x5 1)))
theorem ok_fX10_game {m : mm_MM} {x1 : Int32} {x2 : Int32} {x3 : Int32} {x4 : Int32} {x5 : Int32} {q0 : Int32 × mm_MM} (h : fX10_game m x1 x2 x3 x4 x5 = some q0) : Ev XL xs (d + 4) 149 (ev_M m c w) 0 (lv_args 0 [.ref 0, .int x1, .int x2, .int x3, .int x4, .int x5]) [] (fr_i c w q0) := by
  unfold fX10_game at h
  obtain ⟨r1, hr1, h⟩ := Option.bind_eq_some_iff.mp h
  refine ev_c 2 (y' := 158) (M1 := ev_M m c w) (la := lv_args 0 [.int x3]) (rest := []) (pc' := 4) (lv' := [(0, .ref 0), (1, .int x1), (2, .int x2), (3, .int x3), (4, .int x4), (5, .int x5)]) (fun n => rfl) (ok_fX10_isBit hr1) ?_
  show Ev XL xs _ 149 (ev_M r1.2 c w) 4 [(0, .ref 0), (1, .int x1), (2, .int x2), (3, .int x3), (4, .int x4), (5, .int x5)] [.int r1.1] _
  refine ev_i 1 (M1 := ev_M r1.2 c w) (pc1 := 27) (lv1 := [(0, .ref 0), (1, .int x1), (2, .int x2), (3, .int x3), (4, .int x4), (5, .int x5)]) (st1 := []) (M2 := ev_M r1.2 c w) (pc2 := 7) (lv2 := [(0, .ref 0), (1, .int x1), (2, .int x2), (3, .int x3), (4, .int x4), (5, .int x5)]) (st2 := []) (fun n => rfl) h (fun hc2 h => ?_) (fun hc2 h => ?_)
  · exact ok_fX10_game_c27 h
  · obtain ⟨r3, hr3, h⟩ := Option.bind_eq_some_iff.mp h
    refine ev_c 2 (y' := 158) (M1 := ev_M r1.2 c w) (la := lv_args 0 [.int x4]) (rest := []) (pc' := 12) (lv' := [(0, .ref 0), (1, .int x1), (2, .int x2), (3, .int x3), (4, .int x4), (5, .int x5)]) (fun n => rfl) (ok_fX10_isBit hr3) ?_
    show Ev XL xs _ 149 (ev_M r3.2 c w) 12 [(0, .ref 0), (1, .int x1), (2, .int x2), (3, .int x3), (4, .int x4), (5, .int x5)] [.int r3.1] _
    refine ev_i 1 (M1 := ev_M r3.2 c w) (pc1 := 27) (lv1 := [(0, .ref 0), (1, .int x1), (2, .int x2), (3, .int x3), (4, .int x4), (5, .int x5)]) (st1 := []) (M2 := ev_M r3.2 c w) (pc2 := 15) (lv2 := [(0, .ref 0), (1, .int x1), (2, .int x2), (3, .int x3), (4, .int x4), (5, .int x5)]) (st2 := []) (fun n => rfl) h (fun hc4 h => ?_) (fun hc4 h => ?_)
    · exact ok_fX10_game_c27 h
    · obtain ⟨r5, hr5, h⟩ := Option.bind_eq_some_iff.mp h
      refine ev_c 2 (y' := 158) (M1 := ev_M r3.2 c w) (la := lv_args 0 [.int x5]) (rest := []) (pc' := 20) (lv' := [(0, .ref 0), (1, .int x1), (2, .int x2), (3, .int x3), (4, .int x4), (5, .int x5)]) (fun n => rfl) (ok_fX10_isBit hr5) ?_
      show Ev XL xs _ 149 (ev_M r5.2 c w) 20 [(0, .ref 0), (1, .int x1), (2, .int x2), (3, .int x3), (4, .int x4), (5, .int x5)] [.int r5.1] _
      refine ev_i 1 (M1 := ev_M r5.2 c w) (pc1 := 27) (lv1 := [(0, .ref 0), (1, .int x1), (2, .int x2), (3, .int x3), (4, .int x4), (5, .int x5)]) (st1 := []) (M2 := ev_M r5.2 c w) (pc2 := 23) (lv2 := [(0, .ref 0), (1, .int x1), (2, .int x2), (3, .int x3), (4, .int x4), (5, .int x5)]) (st2 := []) (fun n => rfl) h (fun hc6 h => ?_) (fun hc6 h => ?_)
      · exact ok_fX10_game_c27 h
      · refine ev_s 2 (M' := ev_M r5.2 c w) (pc' := 28) (lv' := [(0, .ref 0), (1, .int x1), (2, .int x2), (3, .int x3), (4, .int x4), (5, .int x5)]) (st' := [.int 1]) (fun n => rfl) ?_
        exact ok_fX10_game_c28 h
def fX10_isRest_c51 (m : mm_MM) (s0 : Int32) : Option (Int32 × mm_MM) :=
  (if s0 = 0 ∨ s0 = 1 then some (s0, m) else none)
theorem ok_fX10_isRest_c51 {m : mm_MM} {s0 : Int32} {q0 : Int32 × mm_MM} (h : fX10_isRest_c51 m s0 = some q0) : Ev XL xs (d + 4) 153 (ev_M m c w) 51 [] [.int s0] (fr_i c w q0) := by
  unfold fX10_isRest_c51 at h
  exact ev_rg 1 (f := fr_i c w) (fun n => rfl) h
def fX10_isRest_c50 (m : mm_MM) : Option (Int32 × mm_MM) :=
  fX10_isRest_c51 m 0
theorem ok_fX10_isRest_c50 {m : mm_MM} {q0 : Int32 × mm_MM} (h : fX10_isRest_c50 m = some q0) : Ev XL xs (d + 4) 153 (ev_M m c w) 50 [] [] (fr_i c w q0) := by
  unfold fX10_isRest_c50 at h
  refine ev_s 1 (M' := ev_M m c w) (pc' := 51) (lv' := []) (st' := [.int 0]) (fun n => rfl) ?_
  exact ok_fX10_isRest_c51 h
def fX10_isRest (m : mm_MM) (x1 : Int32) (x2 : Int32) (x3 : Int32) (x4 : Int32) : Option (Int32 × mm_MM) :=
  (fX10_merchantHas m x1 x2 x3 x4).bind fun r1 =>
   (fX10_merchantHas r1.2 x1 x2 (1 - x3) x4).bind fun r2 =>
    (if r1.1 < r2.1 then
      fX10_isRest_c50 r2.2
     else
      (fX10_thiefHas r2.2 x1 x2 x3 x4).bind fun r4 =>
       (fX10_thiefHas r4.2 x1 x2 x3 (1 - x4)).bind fun r5 =>
        (if r4.1 < r5.1 then
          fX10_isRest_c50 r5.2
         else
          fX10_isRest_c51 r5.2 1))
theorem ok_fX10_isRest {m : mm_MM} {x1 : Int32} {x2 : Int32} {x3 : Int32} {x4 : Int32} {q0 : Int32 × mm_MM} (h : fX10_isRest m x1 x2 x3 x4 = some q0) : Ev XL xs (d + 4) 153 (ev_M m c w) 0 (lv_args 0 [.ref 0, .int x1, .int x2, .int x3, .int x4]) [] (fr_i c w q0) := by
  unfold fX10_isRest at h
  obtain ⟨r1, hr1, h⟩ := Option.bind_eq_some_iff.mp h
  refine ev_c 6 (y' := 155) (M1 := ev_M m c w) (la := lv_args 0 [.ref 0, .int x1, .int x2, .int x3, .int x4]) (rest := []) (pc' := 9) (lv' := [(0, .ref 0), (1, .int x1), (2, .int x2), (3, .int x3), (4, .int x4)]) (fun n => rfl) (ok_fX10_merchantHas hr1) ?_
  show Ev XL xs _ 153 (ev_M r1.2 c w) 9 [(0, .ref 0), (1, .int x1), (2, .int x2), (3, .int x3), (4, .int x4)] [.int r1.1] _
  obtain ⟨r2, hr2, h⟩ := Option.bind_eq_some_iff.mp h
  refine ev_c 8 (y' := 155) (M1 := ev_M r1.2 c w) (la := lv_args 0 [.ref 0, .int x1, .int x2, .int (1 - x3), .int x4]) (rest := [.int r1.1]) (pc' := 20) (lv' := [(0, .ref 0), (1, .int x1), (2, .int x2), (3, .int x3), (4, .int x4)]) (fun n => rfl) (ok_fX10_merchantHas hr2) ?_
  show Ev XL xs _ 153 (ev_M r2.2 c w) 20 [(0, .ref 0), (1, .int x1), (2, .int x2), (3, .int x3), (4, .int x4)] [.int r2.1, .int r1.1] _
  refine ev_i 1 (M1 := ev_M r2.2 c w) (pc1 := 50) (lv1 := [(0, .ref 0), (1, .int x1), (2, .int x2), (3, .int x3), (4, .int x4)]) (st1 := []) (M2 := ev_M r2.2 c w) (pc2 := 23) (lv2 := [(0, .ref 0), (1, .int x1), (2, .int x2), (3, .int x3), (4, .int x4)]) (st2 := []) (fun n => rfl) h (fun hc3 h => ?_) (fun hc3 h => ?_)
  · refine ev_sub (lv := []) (mn_of rfl (by repeat (first | exact trivial | refine And.intro rfl ?_))) ?_
    exact ok_fX10_isRest_c50 h
  · obtain ⟨r4, hr4, h⟩ := Option.bind_eq_some_iff.mp h
    refine ev_c 6 (y' := 156) (M1 := ev_M r2.2 c w) (la := lv_args 0 [.ref 0, .int x1, .int x2, .int x3, .int x4]) (rest := []) (pc' := 32) (lv' := [(0, .ref 0), (1, .int x1), (2, .int x2), (3, .int x3), (4, .int x4)]) (fun n => rfl) (ok_fX10_thiefHas hr4) ?_
    show Ev XL xs _ 153 (ev_M r4.2 c w) 32 [(0, .ref 0), (1, .int x1), (2, .int x2), (3, .int x3), (4, .int x4)] [.int r4.1] _
    obtain ⟨r5, hr5, h⟩ := Option.bind_eq_some_iff.mp h
    refine ev_c 8 (y' := 156) (M1 := ev_M r4.2 c w) (la := lv_args 0 [.ref 0, .int x1, .int x2, .int x3, .int (1 - x4)]) (rest := [.int r4.1]) (pc' := 43) (lv' := [(0, .ref 0), (1, .int x1), (2, .int x2), (3, .int x3), (4, .int x4)]) (fun n => rfl) (ok_fX10_thiefHas hr5) ?_
    show Ev XL xs _ 153 (ev_M r5.2 c w) 43 [(0, .ref 0), (1, .int x1), (2, .int x2), (3, .int x3), (4, .int x4)] [.int r5.1, .int r4.1] _
    refine ev_i 1 (M1 := ev_M r5.2 c w) (pc1 := 50) (lv1 := [(0, .ref 0), (1, .int x1), (2, .int x2), (3, .int x3), (4, .int x4)]) (st1 := []) (M2 := ev_M r5.2 c w) (pc2 := 46) (lv2 := [(0, .ref 0), (1, .int x1), (2, .int x2), (3, .int x3), (4, .int x4)]) (st2 := []) (fun n => rfl) h (fun hc6 h => ?_) (fun hc6 h => ?_)
    · refine ev_sub (lv := []) (mn_of rfl (by repeat (first | exact trivial | refine And.intro rfl ?_))) ?_
      exact ok_fX10_isRest_c50 h
    · refine ev_s 2 (M' := ev_M r5.2 c w) (pc' := 51) (lv' := [(0, .ref 0), (1, .int x1), (2, .int x2), (3, .int x3), (4, .int x4)]) (st' := [.int 1]) (fun n => rfl) ?_
      refine ev_sub (lv := []) (mn_of rfl (by repeat (first | exact trivial | refine And.intro rfl ?_))) ?_
      exact ok_fX10_isRest_c51 h
def fX10_rests_c14 (m : mm_MM) : Option (Int32 × mm_MM) :=
  some (((-1) : Int32), m)
theorem ok_fX10_rests_c14 {m : mm_MM} {q0 : Int32 × mm_MM} (h : fX10_rests_c14 m = some q0) : Ev XL xs (d + 5) 150 (ev_M m c w) 14 [] [] (fr_i c w q0) := by
  unfold fX10_rests_c14 at h
  cases h
  exact ev_r 2 (fun n => rfl)
def fX10_rests_c71 (kr22 : mm_MM → Int32 → Int32 → Int32 → Int32 → Int32 → Option (Int32 × mm_MM)) (m : mm_MM) (x1 : Int32) (x2 : Int32) (x3 : Int32) (x4 : Int32) (x5 : Int32) : Option (Int32 × mm_MM) :=
  kr22 m x1 x2 x3 x4 (x5 + 1)
theorem ok_fX10_rests_c71 {kr22 : mm_MM → Int32 → Int32 → Int32 → Int32 → Int32 → Option (Int32 × mm_MM)} (hkr22 : ∀ (m : mm_MM) (x1 : Int32) (x2 : Int32) (x3 : Int32) (x4 : Int32) (x5 : Int32) (q0 : Int32 × mm_MM), kr22 m x1 x2 x3 x4 x5 = some q0 → Ev XL xs (d + 5) 150 (ev_M m c w) 22 [(0, .ref 0), (1, .int x1), (2, .int x2), (3, .int x3), (4, .int x4), (5, .int x5)] [] (fr_i c w q0)) {m : mm_MM} {x1 : Int32} {x2 : Int32} {x3 : Int32} {x4 : Int32} {x5 : Int32} {q0 : Int32 × mm_MM} (h : fX10_rests_c71 kr22 m x1 x2 x3 x4 x5 = some q0) : Ev XL xs (d + 5) 150 (ev_M m c w) 71 [(0, .ref 0), (1, .int x1), (2, .int x2), (3, .int x3), (4, .int x4), (5, .int x5)] [] (fr_i c w q0) := by
  unfold fX10_rests_c71 at h
  refine ev_s 2 (M' := ev_M m c w) (pc' := 22) (lv' := [(5, .int (x5 + 1)), (0, .ref 0), (1, .int x1), (2, .int x2), (3, .int x3), (4, .int x4)]) (st' := []) (fun n => rfl) ?_
  refine ev_sub (lv := [(0, .ref 0), (1, .int x1), (2, .int x2), (3, .int x3), (4, .int x4), (5, .int (x5 + 1))]) (mn_of rfl (by repeat (first | exact trivial | refine And.intro rfl ?_))) ?_
  exact hkr22 _ _ _ _ _ _ _ h
def fX10_rests_c88 (m : mm_MM) (s0 : Int32) : Option (Int32 × mm_MM) :=
  some (s0, m)
theorem ok_fX10_rests_c88 {m : mm_MM} {s0 : Int32} {q0 : Int32 × mm_MM} (h : fX10_rests_c88 m s0 = some q0) : Ev XL xs (d + 5) 150 (ev_M m c w) 88 [] [.int s0] (fr_i c w q0) := by
  unfold fX10_rests_c88 at h
  cases h
  exact ev_r 1 (fun n => rfl)
def fX10_rests_c22 : Nat → mm_MM → Int32 → Int32 → Int32 → Int32 → Int32 → Option (Int32 × mm_MM)
  | 0 => fun _ _ _ _ _ _ => none
  | n + 1 => fun m x1 x2 x3 x4 x5 =>
    (if x5 < 4 then
      (fX10_isRest m x1 x2 ((x5 : Int32) / 2) ((x5 : Int32) - x5 / 2 * 2)).bind fun r2 =>
       (if r2.1 = 0 then
         fX10_rests_c71 (fX10_rests_c22 n) r2.2 x1 x2 x3 x4 x5
        else
         (if x4 = x3 then
           some (((10 * ((x5 : Int32) / 2)) + ((x5 : Int32) - x5 / 2 * 2)), r2.2)
          else
           fX10_rests_c71 (fX10_rests_c22 n) r2.2 x1 x2 x3 (x4 + 1) x5))
     else
      (if x3 = ((-1) : Int32) then
        fX10_rests_c88 m x4
       else
        fX10_rests_c88 m ((-1) : Int32)))
theorem ok_fX10_rests_c22 : ∀ (n : Nat) (m : mm_MM) (x1 : Int32) (x2 : Int32) (x3 : Int32) (x4 : Int32) (x5 : Int32) (q0 : Int32 × mm_MM), fX10_rests_c22 n m x1 x2 x3 x4 x5 = some q0 → Ev XL xs (d + 5) 150 (ev_M m c w) 22 [(0, .ref 0), (1, .int x1), (2, .int x2), (3, .int x3), (4, .int x4), (5, .int x5)] [] (fr_i c w q0) := by
  intro n
  induction n with
  | zero => intro m x1 x2 x3 x4 x5 q0 h; exact absurd (show (none : Option (Int32 × mm_MM)) = some q0 from h) (by simp)
  | succ n ih =>
    intro m x1 x2 x3 x4 x5 q0 h
    unfold fX10_rests_c22 at h
    refine ev_i 3 (M1 := ev_M m c w) (pc1 := 28) (lv1 := [(0, .ref 0), (1, .int x1), (2, .int x2), (3, .int x3), (4, .int x4), (5, .int x5)]) (st1 := []) (M2 := ev_M m c w) (pc2 := 77) (lv2 := [(0, .ref 0), (1, .int x1), (2, .int x2), (3, .int x3), (4, .int x4), (5, .int x5)]) (st2 := []) (fun n => rfl) h (fun hc1 h => ?_) (fun hc1 h => ?_)
    · obtain ⟨r2, hr2, h⟩ := Option.bind_eq_some_iff.mp h
      refine ev_c 14 (y' := 153) (M1 := ev_M m c w) (la := lv_args 0 [.ref 0, .int x1, .int x2, .int ((x5 : Int32) / 2), .int ((x5 : Int32) - x5 / 2 * 2)]) (rest := []) (pc' := 50) (lv' := [(7, .int ((x5 : Int32) - x5 / 2 * 2)), (6, .int ((x5 : Int32) / 2)), (0, .ref 0), (1, .int x1), (2, .int x2), (3, .int x3), (4, .int x4), (5, .int x5)]) (fun n => rfl) (ok_fX10_isRest hr2) ?_
      show Ev XL xs _ 150 (ev_M r2.2 c w) 50 [(7, .int ((x5 : Int32) - x5 / 2 * 2)), (6, .int ((x5 : Int32) / 2)), (0, .ref 0), (1, .int x1), (2, .int x2), (3, .int x3), (4, .int x4), (5, .int x5)] [.int r2.1] _
      refine ev_i 1 (M1 := ev_M r2.2 c w) (pc1 := 71) (lv1 := [(7, .int ((x5 : Int32) - x5 / 2 * 2)), (6, .int ((x5 : Int32) / 2)), (0, .ref 0), (1, .int x1), (2, .int x2), (3, .int x3), (4, .int x4), (5, .int x5)]) (st1 := []) (M2 := ev_M r2.2 c w) (pc2 := 53) (lv2 := [(7, .int ((x5 : Int32) - x5 / 2 * 2)), (6, .int ((x5 : Int32) / 2)), (0, .ref 0), (1, .int x1), (2, .int x2), (3, .int x3), (4, .int x4), (5, .int x5)]) (st2 := []) (fun n => rfl) h (fun hc3 h => ?_) (fun hc3 h => ?_)
      · refine ev_sub (lv := [(0, .ref 0), (1, .int x1), (2, .int x2), (3, .int x3), (4, .int x4), (5, .int x5)]) (mn_of rfl (by repeat (first | exact trivial | refine And.intro rfl ?_))) ?_
        exact ok_fX10_rests_c71 ih h
      · refine ev_i 3 (M1 := ev_M r2.2 c w) (pc1 := 59) (lv1 := [(7, .int ((x5 : Int32) - x5 / 2 * 2)), (6, .int ((x5 : Int32) / 2)), (0, .ref 0), (1, .int x1), (2, .int x2), (3, .int x3), (4, .int x4), (5, .int x5)]) (st1 := []) (M2 := ev_M r2.2 c w) (pc2 := 68) (lv2 := [(7, .int ((x5 : Int32) - x5 / 2 * 2)), (6, .int ((x5 : Int32) / 2)), (0, .ref 0), (1, .int x1), (2, .int x2), (3, .int x3), (4, .int x4), (5, .int x5)]) (st2 := []) (fun n => rfl) h (fun hc4 h => ?_) (fun hc4 h => ?_)
        · cases h
          exact ev_r 6 (fun n => rfl)
        · refine ev_s 1 (M' := ev_M r2.2 c w) (pc' := 71) (lv' := [(4, .int (x4 + 1)), (7, .int ((x5 : Int32) - x5 / 2 * 2)), (6, .int ((x5 : Int32) / 2)), (0, .ref 0), (1, .int x1), (2, .int x2), (3, .int x3), (5, .int x5)]) (st' := []) (fun n => rfl) ?_
          refine ev_sub (lv := [(0, .ref 0), (1, .int x1), (2, .int x2), (3, .int x3), (4, .int (x4 + 1)), (5, .int x5)]) (mn_of rfl (by repeat (first | exact trivial | refine And.intro rfl ?_))) ?_
          exact ok_fX10_rests_c71 ih h
    · refine ev_i 3 (M1 := ev_M m c w) (pc1 := 82) (lv1 := [(0, .ref 0), (1, .int x1), (2, .int x2), (3, .int x3), (4, .int x4), (5, .int x5)]) (st1 := []) (M2 := ev_M m c w) (pc2 := 87) (lv2 := [(0, .ref 0), (1, .int x1), (2, .int x2), (3, .int x3), (4, .int x4), (5, .int x5)]) (st2 := []) (fun n => rfl) h (fun hc5 h => ?_) (fun hc5 h => ?_)
      · refine ev_s 2 (M' := ev_M m c w) (pc' := 88) (lv' := [(0, .ref 0), (1, .int x1), (2, .int x2), (3, .int x3), (4, .int x4), (5, .int x5)]) (st' := [.int x4]) (fun n => rfl) ?_
        refine ev_sub (lv := []) (mn_of rfl (by repeat (first | exact trivial | refine And.intro rfl ?_))) ?_
        exact ok_fX10_rests_c88 h
      · refine ev_s 1 (M' := ev_M m c w) (pc' := 88) (lv' := [(0, .ref 0), (1, .int x1), (2, .int x2), (3, .int x3), (4, .int x4), (5, .int x5)]) (st' := [.int ((-1) : Int32)]) (fun n => rfl) ?_
        refine ev_sub (lv := []) (mn_of rfl (by repeat (first | exact trivial | refine And.intro rfl ?_))) ?_
        exact ok_fX10_rests_c88 h
def fX10_rests (m : mm_MM) (x1 : Int32) (x2 : Int32) (x3 : Int32) : Option (Int32 × mm_MM) :=
  (fX10_mayPlay m x1 x2).bind fun r1 =>
   (if r1.1 = 0 then
     fX10_rests_c14 r1.2
    else
     (if x3 < ((-1) : Int32) then
       fX10_rests_c14 r1.2
      else
       fX10_rests_c22 fu r1.2 x1 x2 x3 0 0))
theorem ok_fX10_rests {m : mm_MM} {x1 : Int32} {x2 : Int32} {x3 : Int32} {q0 : Int32 × mm_MM} (h : fX10_rests m x1 x2 x3 = some q0) : Ev XL xs (d + 5) 150 (ev_M m c w) 0 (lv_args 0 [.ref 0, .int x1, .int x2, .int x3]) [] (fr_i c w q0) := by
  unfold fX10_rests at h
  obtain ⟨r1, hr1, h⟩ := Option.bind_eq_some_iff.mp h
  refine ev_c 4 (y' := 154) (M1 := ev_M m c w) (la := lv_args 0 [.ref 0, .int x1, .int x2]) (rest := []) (pc' := 6) (lv' := [(0, .ref 0), (1, .int x1), (2, .int x2), (3, .int x3)]) (fun n => rfl) (ok_fX10_mayPlay hr1) ?_
  show Ev XL xs _ 150 (ev_M r1.2 c w) 6 [(0, .ref 0), (1, .int x1), (2, .int x2), (3, .int x3)] [.int r1.1] _
  refine ev_i 1 (M1 := ev_M r1.2 c w) (pc1 := 14) (lv1 := [(0, .ref 0), (1, .int x1), (2, .int x2), (3, .int x3)]) (st1 := []) (M2 := ev_M r1.2 c w) (pc2 := 9) (lv2 := [(0, .ref 0), (1, .int x1), (2, .int x2), (3, .int x3)]) (st2 := []) (fun n => rfl) h (fun hc2 h => ?_) (fun hc2 h => ?_)
  · refine ev_sub (lv := []) (mn_of rfl (by repeat (first | exact trivial | refine And.intro rfl ?_))) ?_
    exact ok_fX10_rests_c14 h
  · refine ev_i 3 (M1 := ev_M r1.2 c w) (pc1 := 14) (lv1 := [(0, .ref 0), (1, .int x1), (2, .int x2), (3, .int x3)]) (st1 := []) (M2 := ev_M r1.2 c w) (pc2 := 16) (lv2 := [(0, .ref 0), (1, .int x1), (2, .int x2), (3, .int x3)]) (st2 := []) (fun n => rfl) h (fun hc3 h => ?_) (fun hc3 h => ?_)
    · refine ev_sub (lv := []) (mn_of rfl (by repeat (first | exact trivial | refine And.intro rfl ?_))) ?_
      exact ok_fX10_rests_c14 h
    · refine ev_s 4 (M' := ev_M r1.2 c w) (pc' := 22) (lv' := [(5, .int 0), (4, .int 0), (0, .ref 0), (1, .int x1), (2, .int x2), (3, .int x3)]) (st' := []) (fun n => rfl) ?_
      refine ev_sub (lv := [(0, .ref 0), (1, .int x1), (2, .int x2), (3, .int x3), (4, .int 0), (5, .int 0)]) (mn_of rfl (by repeat (first | exact trivial | refine And.intro rfl ?_))) ?_
      exact ok_fX10_rests_c22 fu _ _ _ _ _ _ _ h
def fX10_thiefMean (m : mm_MM) (x1 : Int32) (x2 : Int32) (x3 : Int32) (x4 : Int32) : Option (Int32 × mm_MM) :=
  (fX10_thiefHas m x1 x2 0 x3).bind fun r1 =>
   (fX10_thiefHas r1.2 x1 x2 1 x3).bind fun r2 =>
    some (((x4 * r1.1) + ((100 - x4) * r2.1)), r2.2)
theorem ok_fX10_thiefMean {m : mm_MM} {x1 : Int32} {x2 : Int32} {x3 : Int32} {x4 : Int32} {q0 : Int32 × mm_MM} (h : fX10_thiefMean m x1 x2 x3 x4 = some q0) : Ev XL xs (d + 4) 152 (ev_M m c w) 0 (lv_args 0 [.ref 0, .int x1, .int x2, .int x3, .int x4]) [] (fr_i c w q0) := by
  unfold fX10_thiefMean at h
  obtain ⟨r1, hr1, h⟩ := Option.bind_eq_some_iff.mp h
  refine ev_c 7 (y' := 156) (M1 := ev_M m c w) (la := lv_args 0 [.ref 0, .int x1, .int x2, .int 0, .int x3]) (rest := [.int x4]) (pc' := 10) (lv' := [(0, .ref 0), (1, .int x1), (2, .int x2), (3, .int x3), (4, .int x4)]) (fun n => rfl) (ok_fX10_thiefHas hr1) ?_
  show Ev XL xs _ 152 (ev_M r1.2 c w) 10 [(0, .ref 0), (1, .int x1), (2, .int x2), (3, .int x3), (4, .int x4)] [.int r1.1, .int x4] _
  obtain ⟨r2, hr2, h⟩ := Option.bind_eq_some_iff.mp h
  refine ev_c 10 (y' := 156) (M1 := ev_M r1.2 c w) (la := lv_args 0 [.ref 0, .int x1, .int x2, .int 1, .int x3]) (rest := [.int (100 - x4), .int (x4 * r1.1)]) (pc' := 24) (lv' := [(0, .ref 0), (1, .int x1), (2, .int x2), (3, .int x3), (4, .int x4)]) (fun n => rfl) (ok_fX10_thiefHas hr2) ?_
  show Ev XL xs _ 152 (ev_M r2.2 c w) 24 [(0, .ref 0), (1, .int x1), (2, .int x2), (3, .int x3), (4, .int x4)] [.int r2.1, .int (100 - x4), .int (x4 * r1.1)] _
  cases h
  exact ev_r 3 (fun n => rfl)
def fX10_safe_c16 (m : mm_MM) : Option (Int32 × mm_MM) :=
  some (((-1000000) : Int32), m)
set_option maxRecDepth 20000 in
theorem ok_fX10_safe_c16 {m : mm_MM} {q0 : Int32 × mm_MM} (h : fX10_safe_c16 m = some q0) : Ev XL xs (d + 5) 151 (ev_M m c w) 16 [] [] (fr_i c w q0) := by
  unfold fX10_safe_c16 at h
  cases h
  exact ev_r 2 (fun n => rfl)
def fX10_safe_c75 (kr30 : mm_MM → Int32 → Int32 → Int32 → Int32 → Int32 → Int32 → Option (Int32 × mm_MM)) (m : mm_MM) (x1 : Int32) (x2 : Int32) (x3 : Int32) (x4 : Int32) (x5 : Int32) (x6 : Int32) : Option (Int32 × mm_MM) :=
  kr30 m x1 x2 x3 x4 x5 (x6 + 1)
set_option maxRecDepth 20000 in
theorem ok_fX10_safe_c75 {kr30 : mm_MM → Int32 → Int32 → Int32 → Int32 → Int32 → Int32 → Option (Int32 × mm_MM)} (hkr30 : ∀ (m : mm_MM) (x1 : Int32) (x2 : Int32) (x3 : Int32) (x4 : Int32) (x5 : Int32) (x6 : Int32) (q0 : Int32 × mm_MM), kr30 m x1 x2 x3 x4 x5 x6 = some q0 → Ev XL xs (d + 5) 151 (ev_M m c w) 30 [(0, .ref 0), (1, .int x1), (2, .int x2), (3, .int x3), (4, .int x4), (5, .int x5), (6, .int x6)] [] (fr_i c w q0)) {m : mm_MM} {x1 : Int32} {x2 : Int32} {x3 : Int32} {x4 : Int32} {x5 : Int32} {x6 : Int32} {q0 : Int32 × mm_MM} (h : fX10_safe_c75 kr30 m x1 x2 x3 x4 x5 x6 = some q0) : Ev XL xs (d + 5) 151 (ev_M m c w) 75 [(0, .ref 0), (1, .int x1), (2, .int x2), (3, .int x3), (4, .int x4), (5, .int x5), (6, .int x6)] [] (fr_i c w q0) := by
  unfold fX10_safe_c75 at h
  refine ev_s 2 (M' := ev_M m c w) (pc' := 30) (lv' := [(6, .int (x6 + 1)), (0, .ref 0), (1, .int x1), (2, .int x2), (3, .int x3), (4, .int x4), (5, .int x5)]) (st' := []) (fun n => rfl) ?_
  refine ev_sub (lv := [(0, .ref 0), (1, .int x1), (2, .int x2), (3, .int x3), (4, .int x4), (5, .int x5), (6, .int (x6 + 1))]) (mn_of rfl (by repeat (first | exact trivial | refine And.intro rfl ?_))) ?_
  exact hkr30 _ _ _ _ _ _ _ _ h
def fX10_safe_c92 (m : mm_MM) (s0 : Int32) : Option (Int32 × mm_MM) :=
  some (s0, m)
set_option maxRecDepth 20000 in
theorem ok_fX10_safe_c92 {m : mm_MM} {s0 : Int32} {q0 : Int32 × mm_MM} (h : fX10_safe_c92 m s0 = some q0) : Ev XL xs (d + 5) 151 (ev_M m c w) 92 [] [.int s0] (fr_i c w q0) := by
  unfold fX10_safe_c92 at h
  cases h
  exact ev_r 1 (fun n => rfl)
def fX10_safe_c30 : Nat → mm_MM → Int32 → Int32 → Int32 → Int32 → Int32 → Int32 → Option (Int32 × mm_MM)
  | 0 => fun _ _ _ _ _ _ _ => none
  | n + 1 => fun m x1 x2 x3 x4 x5 x6 =>
    (if x6 ≤ 100 then
      (fX10_thiefMean m x1 x2 0 x6).bind fun r2 =>
       (fX10_thiefMean r2.2 x1 x2 1 x6).bind fun r3 =>
        (fJ9_max_7cf53 r3.2 r2.1 r3.1).bind fun r4 =>
         (if r4.1 < x5 then
           fX10_safe_c75 (fX10_safe_c30 n) r4.2 x1 x2 x3 x6 r4.1 x6
          else
           fX10_safe_c75 (fX10_safe_c30 n) r4.2 x1 x2 x3 x4 x5 x6)
     else
      (if x3 = 0 then
        fX10_safe_c92 m x4
       else
        fX10_safe_c92 m x5))
set_option maxRecDepth 20000 in
theorem ok_fX10_safe_c30 : ∀ (n : Nat) (m : mm_MM) (x1 : Int32) (x2 : Int32) (x3 : Int32) (x4 : Int32) (x5 : Int32) (x6 : Int32) (q0 : Int32 × mm_MM), fX10_safe_c30 n m x1 x2 x3 x4 x5 x6 = some q0 → Ev XL xs (d + 5) 151 (ev_M m c w) 30 [(0, .ref 0), (1, .int x1), (2, .int x2), (3, .int x3), (4, .int x4), (5, .int x5), (6, .int x6)] [] (fr_i c w q0) := by
  intro n
  induction n with
  | zero => intro m x1 x2 x3 x4 x5 x6 q0 h; exact absurd (show (none : Option (Int32 × mm_MM)) = some q0 from h) (by simp)
  | succ n ih =>
    intro m x1 x2 x3 x4 x5 x6 q0 h
    unfold fX10_safe_c30 at h
    refine ev_i 3 (M1 := ev_M m c w) (pc1 := 37) (lv1 := [(0, .ref 0), (1, .int x1), (2, .int x2), (3, .int x3), (4, .int x4), (5, .int x5), (6, .int x6)]) (st1 := []) (M2 := ev_M m c w) (pc2 := 81) (lv2 := [(0, .ref 0), (1, .int x1), (2, .int x2), (3, .int x3), (4, .int x4), (5, .int x5), (6, .int x6)]) (st2 := []) (fun n => rfl) h (fun hc1 h => ?_) (fun hc1 h => ?_)
    · obtain ⟨r2, hr2, h⟩ := Option.bind_eq_some_iff.mp h
      refine ev_c 6 (y' := 152) (M1 := ev_M m c w) (la := lv_args 0 [.ref 0, .int x1, .int x2, .int 0, .int x6]) (rest := []) (pc' := 46) (lv' := [(0, .ref 0), (1, .int x1), (2, .int x2), (3, .int x3), (4, .int x4), (5, .int x5), (6, .int x6)]) (fun n => rfl) (ok_fX10_thiefMean hr2) ?_
      show Ev XL xs _ 151 (ev_M r2.2 c w) 46 [(0, .ref 0), (1, .int x1), (2, .int x2), (3, .int x3), (4, .int x4), (5, .int x5), (6, .int x6)] [.int r2.1] _
      obtain ⟨r3, hr3, h⟩ := Option.bind_eq_some_iff.mp h
      refine ev_c 6 (y' := 152) (M1 := ev_M r2.2 c w) (la := lv_args 0 [.ref 0, .int x1, .int x2, .int 1, .int x6]) (rest := [.int r2.1]) (pc' := 55) (lv' := [(0, .ref 0), (1, .int x1), (2, .int x2), (3, .int x3), (4, .int x4), (5, .int x5), (6, .int x6)]) (fun n => rfl) (ok_fX10_thiefMean hr3) ?_
      show Ev XL xs _ 151 (ev_M r3.2 c w) 55 [(0, .ref 0), (1, .int x1), (2, .int x2), (3, .int x3), (4, .int x4), (5, .int x5), (6, .int x6)] [.int r3.1, .int r2.1] _
      obtain ⟨r4, hr4, h⟩ := Option.bind_eq_some_iff.mp h
      refine ev_c 1 (y' := 306) (M1 := ev_M r3.2 c w) (la := lv_args 0 [.int r2.1, .int r3.1]) (rest := []) (pc' := 58) (lv' := [(0, .ref 0), (1, .int x1), (2, .int x2), (3, .int x3), (4, .int x4), (5, .int x5), (6, .int x6)]) (fun n => rfl) (ok_fJ9_max_7cf53 hr4) ?_
      show Ev XL xs _ 151 (ev_M r4.2 c w) 58 [(0, .ref 0), (1, .int x1), (2, .int x2), (3, .int x3), (4, .int x4), (5, .int x5), (6, .int x6)] [.int r4.1] _
      refine ev_i 4 (M1 := ev_M r4.2 c w) (pc1 := 67) (lv1 := [(7, .int r4.1), (0, .ref 0), (1, .int x1), (2, .int x2), (3, .int x3), (4, .int x4), (5, .int x5), (6, .int x6)]) (st1 := []) (M2 := ev_M r4.2 c w) (pc2 := 75) (lv2 := [(7, .int r4.1), (0, .ref 0), (1, .int x1), (2, .int x2), (3, .int x3), (4, .int x4), (5, .int x5), (6, .int x6)]) (st2 := []) (fun n => rfl) h (fun hc5 h => ?_) (fun hc5 h => ?_)
      · refine ev_s 4 (M' := ev_M r4.2 c w) (pc' := 75) (lv' := [(4, .int x6), (5, .int r4.1), (7, .int r4.1), (0, .ref 0), (1, .int x1), (2, .int x2), (3, .int x3), (6, .int x6)]) (st' := []) (fun n => rfl) ?_
        refine ev_sub (lv := [(0, .ref 0), (1, .int x1), (2, .int x2), (3, .int x3), (4, .int x6), (5, .int r4.1), (6, .int x6)]) (mn_of rfl (by repeat (first | exact trivial | refine And.intro rfl ?_))) ?_
        exact ok_fX10_safe_c75 ih h
      · refine ev_sub (lv := [(0, .ref 0), (1, .int x1), (2, .int x2), (3, .int x3), (4, .int x4), (5, .int x5), (6, .int x6)]) (mn_of rfl (by repeat (first | exact trivial | refine And.intro rfl ?_))) ?_
        exact ok_fX10_safe_c75 ih h
    · refine ev_i 2 (M1 := ev_M m c w) (pc1 := 85) (lv1 := [(0, .ref 0), (1, .int x1), (2, .int x2), (3, .int x3), (4, .int x4), (5, .int x5), (6, .int x6)]) (st1 := []) (M2 := ev_M m c w) (pc2 := 90) (lv2 := [(0, .ref 0), (1, .int x1), (2, .int x2), (3, .int x3), (4, .int x4), (5, .int x5), (6, .int x6)]) (st2 := []) (fun n => rfl) h (fun hc6 h => ?_) (fun hc6 h => ?_)
      · refine ev_s 2 (M' := ev_M m c w) (pc' := 92) (lv' := [(0, .ref 0), (1, .int x1), (2, .int x2), (3, .int x3), (4, .int x4), (5, .int x5), (6, .int x6)]) (st' := [.int x4]) (fun n => rfl) ?_
        refine ev_sub (lv := []) (mn_of rfl (by repeat (first | exact trivial | refine And.intro rfl ?_))) ?_
        exact ok_fX10_safe_c92 h
      · refine ev_s 1 (M' := ev_M m c w) (pc' := 92) (lv' := [(0, .ref 0), (1, .int x1), (2, .int x2), (3, .int x3), (4, .int x4), (5, .int x5), (6, .int x6)]) (st' := [.int x5]) (fun n => rfl) ?_
        refine ev_sub (lv := []) (mn_of rfl (by repeat (first | exact trivial | refine And.intro rfl ?_))) ?_
        exact ok_fX10_safe_c92 h
def fX10_safe (m : mm_MM) (x1 : Int32) (x2 : Int32) (x3 : Int32) : Option (Int32 × mm_MM) :=
  (fX10_mayPlay m x1 x2).bind fun r1 =>
   (if r1.1 = 0 then
     fX10_safe_c16 r1.2
    else
     (fX10_isBit r1.2 x3).bind fun r3 =>
      (if r3.1 = 0 then
        fX10_safe_c16 r3.2
       else
        fX10_safe_c30 fu r3.2 x1 x2 x3 0 1000000 0))
set_option maxRecDepth 20000 in
theorem ok_fX10_safe {m : mm_MM} {x1 : Int32} {x2 : Int32} {x3 : Int32} {q0 : Int32 × mm_MM} (h : fX10_safe m x1 x2 x3 = some q0) : Ev XL xs (d + 5) 151 (ev_M m c w) 0 (lv_args 0 [.ref 0, .int x1, .int x2, .int x3]) [] (fr_i c w q0) := by
  unfold fX10_safe at h
  obtain ⟨r1, hr1, h⟩ := Option.bind_eq_some_iff.mp h
  refine ev_c 4 (y' := 154) (M1 := ev_M m c w) (la := lv_args 0 [.ref 0, .int x1, .int x2]) (rest := []) (pc' := 6) (lv' := [(0, .ref 0), (1, .int x1), (2, .int x2), (3, .int x3)]) (fun n => rfl) (ok_fX10_mayPlay hr1) ?_
  show Ev XL xs _ 151 (ev_M r1.2 c w) 6 [(0, .ref 0), (1, .int x1), (2, .int x2), (3, .int x3)] [.int r1.1] _
  refine ev_i 1 (M1 := ev_M r1.2 c w) (pc1 := 16) (lv1 := [(0, .ref 0), (1, .int x1), (2, .int x2), (3, .int x3)]) (st1 := []) (M2 := ev_M r1.2 c w) (pc2 := 9) (lv2 := [(0, .ref 0), (1, .int x1), (2, .int x2), (3, .int x3)]) (st2 := []) (fun n => rfl) h (fun hc2 h => ?_) (fun hc2 h => ?_)
  · refine ev_sub (lv := []) (mn_of rfl (by repeat (first | exact trivial | refine And.intro rfl ?_))) ?_
    exact ok_fX10_safe_c16 h
  · obtain ⟨r3, hr3, h⟩ := Option.bind_eq_some_iff.mp h
    refine ev_c 2 (y' := 158) (M1 := ev_M r1.2 c w) (la := lv_args 0 [.int x3]) (rest := []) (pc' := 13) (lv' := [(0, .ref 0), (1, .int x1), (2, .int x2), (3, .int x3)]) (fun n => rfl) (ok_fX10_isBit hr3) ?_
    show Ev XL xs _ 151 (ev_M r3.2 c w) 13 [(0, .ref 0), (1, .int x1), (2, .int x2), (3, .int x3)] [.int r3.1] _
    refine ev_i 1 (M1 := ev_M r3.2 c w) (pc1 := 16) (lv1 := [(0, .ref 0), (1, .int x1), (2, .int x2), (3, .int x3)]) (st1 := []) (M2 := ev_M r3.2 c w) (pc2 := 19) (lv2 := [(0, .ref 0), (1, .int x1), (2, .int x2), (3, .int x3)]) (st2 := []) (fun n => rfl) h (fun hc4 h => ?_) (fun hc4 h => ?_)
    · refine ev_sub (lv := []) (mn_of rfl (by repeat (first | exact trivial | refine And.intro rfl ?_))) ?_
      exact ok_fX10_safe_c16 h
    · refine ev_s 6 (M' := ev_M r3.2 c w) (pc' := 30) (lv' := [(6, .int 0), (5, .int 1000000), (4, .int 0), (0, .ref 0), (1, .int x1), (2, .int x2), (3, .int x3)]) (st' := []) (fun n => rfl) ?_
      refine ev_sub (lv := [(0, .ref 0), (1, .int x1), (2, .int x2), (3, .int x3), (4, .int 0), (5, .int 1000000), (6, .int 0)]) (mn_of rfl (by repeat (first | exact trivial | refine And.intro rfl ?_))) ?_
      exact ok_fX10_safe_c30 fu _ _ _ _ _ _ _ _ h
def fX10_partsOf_c42 (kr7 : mm_MM → Int32 → Int32 → Int32 → Int64 → Int32 → Option (Int64 × mm_MM)) (m : mm_MM) (x0 : Int32) (x1 : Int32) (x2 : Int32) (x5 : Int32) (s0 : Int64) : Option (Int64 × mm_MM) :=
  kr7 m x0 x1 x2 s0 (x5 + 1)
theorem ok_fX10_partsOf_c42 {kr7 : mm_MM → Int32 → Int32 → Int32 → Int64 → Int32 → Option (Int64 × mm_MM)} (hkr7 : ∀ (m : mm_MM) (x0 : Int32) (x1 : Int32) (x2 : Int32) (x3 : Int64) (x5 : Int32) (q0 : Int64 × mm_MM), kr7 m x0 x1 x2 x3 x5 = some q0 → Ev XL xs d 160 (ev_M m c w) 7 [(0, .int x0), (1, .int x1), (2, .int x2), (3, .long x3), (5, .int x5)] [] (fr_l c w q0)) {m : mm_MM} {x0 : Int32} {x1 : Int32} {x2 : Int32} {x5 : Int32} {s0 : Int64} {q0 : Int64 × mm_MM} (h : fX10_partsOf_c42 kr7 m x0 x1 x2 x5 s0 = some q0) : Ev XL xs d 160 (ev_M m c w) 42 [(0, .int x0), (1, .int x1), (2, .int x2), (5, .int x5)] [.long s0] (fr_l c w q0) := by
  unfold fX10_partsOf_c42 at h
  refine ev_s 3 (M' := ev_M m c w) (pc' := 7) (lv' := [(5, .int (x5 + 1)), (3, .long s0), (0, .int x0), (1, .int x1), (2, .int x2)]) (st' := []) (fun n => rfl) ?_
  refine ev_sub (lv := [(0, .int x0), (1, .int x1), (2, .int x2), (3, .long s0), (5, .int (x5 + 1))]) (mn_of rfl (by repeat (first | exact trivial | refine And.intro rfl ?_))) ?_
  exact hkr7 _ _ _ _ _ _ _ h
def fX10_partsOf_c7 : Nat → mm_MM → Int32 → Int32 → Int32 → Int64 → Int32 → Option (Int64 × mm_MM)
  | 0 => fun _ _ _ _ _ _ => none
  | n + 1 => fun m x0 x1 x2 x3 x5 =>
    (if x5 < x1 then
      (if (((x0 : Int32) >>> (x5 &&& 31)) &&& 1) = 1 then
        fX10_partsOf_c42 (fX10_partsOf_c7 n) m x0 x1 x2 x5 (((x3 * (Int32.toInt64 x2)) : Int64) / 100)
       else
        fX10_partsOf_c42 (fX10_partsOf_c7 n) m x0 x1 x2 x5 (x3 - (((x3 * (Int32.toInt64 x2)) : Int64) / 100)))
     else
      some (x3, m))
theorem ok_fX10_partsOf_c7 : ∀ (n : Nat) (m : mm_MM) (x0 : Int32) (x1 : Int32) (x2 : Int32) (x3 : Int64) (x5 : Int32) (q0 : Int64 × mm_MM), fX10_partsOf_c7 n m x0 x1 x2 x3 x5 = some q0 → Ev XL xs d 160 (ev_M m c w) 7 [(0, .int x0), (1, .int x1), (2, .int x2), (3, .long x3), (5, .int x5)] [] (fr_l c w q0) := by
  intro n
  induction n with
  | zero => intro m x0 x1 x2 x3 x5 q0 h; exact absurd (show (none : Option (Int64 × mm_MM)) = some q0 from h) (by simp)
  | succ n ih =>
    intro m x0 x1 x2 x3 x5 q0 h
    unfold fX10_partsOf_c7 at h
    refine ev_i 3 (M1 := ev_M m c w) (pc1 := 13) (lv1 := [(0, .int x0), (1, .int x1), (2, .int x2), (3, .long x3), (5, .int x5)]) (st1 := []) (M2 := ev_M m c w) (pc2 := 49) (lv2 := [(0, .int x0), (1, .int x1), (2, .int x2), (3, .long x3), (5, .int x5)]) (st2 := []) (fun n => rfl) h (fun hc1 h => ?_) (fun hc1 h => ?_)
    · refine ev_i 14 (M1 := ev_M m c w) (pc1 := 33) (lv1 := [(6, .long (((x3 * (Int32.toInt64 x2)) : Int64) / 100)), (0, .int x0), (1, .int x1), (2, .int x2), (3, .long x3), (5, .int x5)]) (st1 := []) (M2 := ev_M m c w) (pc2 := 38) (lv2 := [(6, .long (((x3 * (Int32.toInt64 x2)) : Int64) / 100)), (0, .int x0), (1, .int x1), (2, .int x2), (3, .long x3), (5, .int x5)]) (st2 := []) (fun n => rfl) h (fun hc2 h => ?_) (fun hc2 h => ?_)
      · refine ev_s 2 (M' := ev_M m c w) (pc' := 42) (lv' := [(6, .long (((x3 * (Int32.toInt64 x2)) : Int64) / 100)), (0, .int x0), (1, .int x1), (2, .int x2), (3, .long x3), (5, .int x5)]) (st' := [.long (((x3 * (Int32.toInt64 x2)) : Int64) / 100)]) (fun n => rfl) ?_
        refine ev_sub (lv := [(0, .int x0), (1, .int x1), (2, .int x2), (5, .int x5)]) (mn_of rfl (by repeat (first | exact trivial | refine And.intro rfl ?_))) ?_
        exact ok_fX10_partsOf_c42 ih h
      · refine ev_s 3 (M' := ev_M m c w) (pc' := 42) (lv' := [(6, .long (((x3 * (Int32.toInt64 x2)) : Int64) / 100)), (0, .int x0), (1, .int x1), (2, .int x2), (3, .long x3), (5, .int x5)]) (st' := [.long (x3 - (((x3 * (Int32.toInt64 x2)) : Int64) / 100))]) (fun n => rfl) ?_
        refine ev_sub (lv := [(0, .int x0), (1, .int x1), (2, .int x2), (5, .int x5)]) (mn_of rfl (by repeat (first | exact trivial | refine And.intro rfl ?_))) ?_
        exact ok_fX10_partsOf_c42 ih h
    · cases h
      exact ev_r 2 (fun n => rfl)
def fX10_partsOf (m : mm_MM) (x0 : Int32) (x1 : Int32) (x2 : Int32) : Option (Int64 × mm_MM) :=
  fX10_partsOf_c7 fu m x0 x1 x2 1000000000 0
theorem ok_fX10_partsOf {m : mm_MM} {x0 : Int32} {x1 : Int32} {x2 : Int32} {q0 : Int64 × mm_MM} (h : fX10_partsOf m x0 x1 x2 = some q0) : Ev XL xs d 160 (ev_M m c w) 0 (lv_args 0 [.int x0, .int x1, .int x2]) [] (fr_l c w q0) := by
  unfold fX10_partsOf at h
  refine ev_s 4 (M' := ev_M m c w) (pc' := 7) (lv' := [(5, .int 0), (3, .long 1000000000), (0, .int x0), (1, .int x1), (2, .int x2)]) (st' := []) (fun n => rfl) ?_
  refine ev_sub (lv := [(0, .int x0), (1, .int x1), (2, .int x2), (3, .long 1000000000), (5, .int 0)]) (mn_of rfl (by repeat (first | exact trivial | refine And.intro rfl ?_))) ?_
  exact ok_fX10_partsOf_c7 fu _ _ _ _ _ _ _ h
def fX10_valueByMoles_c37 (kr8 : mm_MM → Int32 → Int32 → Int32 → Option (Int32 × mm_MM)) (m : mm_MM) (x2 : Int32) (x3 : Int32) (x4 : Int32) : Option (Int32 × mm_MM) :=
  (fX10_grow m 1).bind fun r1 =>
   kr8 r1 x2 x3 (x4 + 1)
theorem ok_fX10_valueByMoles_c37 {kr8 : mm_MM → Int32 → Int32 → Int32 → Option (Int32 × mm_MM)} (hkr8 : ∀ (m : mm_MM) (x2 : Int32) (x3 : Int32) (x4 : Int32) (q0 : Int32 × mm_MM), kr8 m x2 x3 x4 = some q0 → Ev XL xs (d + 5) 161 (ev_M m c w) 8 [(0, .ref 0), (2, .int x2), (3, .int x3), (4, .int x4)] [] (fr_i c w q0)) {m : mm_MM} {x2 : Int32} {x3 : Int32} {x4 : Int32} {q0 : Int32 × mm_MM} (h : fX10_valueByMoles_c37 kr8 m x2 x3 x4 = some q0) : Ev XL xs (d + 5) 161 (ev_M m c w) 37 [(0, .ref 0), (2, .int x2), (3, .int x3), (4, .int x4)] [] (fr_i c w q0) := by
  unfold fX10_valueByMoles_c37 at h
  obtain ⟨r1, hr1, h⟩ := Option.bind_eq_some_iff.mp h
  refine ev_c 3 (y' := 121) (M1 := ev_M m c w) (la := lv_args 0 [.ref 0, .int 1]) (rest := []) (pc' := 42) (lv' := [(0, .ref 0), (2, .int x2), (3, .int x3), (4, .int x4)]) (fun n => rfl) (ok_fX10_grow hr1) ?_
  show Ev XL xs _ 161 (ev_M r1 c w) 42 [(0, .ref 0), (2, .int x2), (3, .int x3), (4, .int x4)] [] _
  refine ev_s 2 (M' := ev_M r1 c w) (pc' := 8) (lv' := [(4, .int (x4 + 1)), (0, .ref 0), (2, .int x2), (3, .int x3)]) (st' := []) (fun n => rfl) ?_
  refine ev_sub (lv := [(0, .ref 0), (2, .int x2), (3, .int x3), (4, .int (x4 + 1))]) (mn_of rfl (by repeat (first | exact trivial | refine And.intro rfl ?_))) ?_
  exact hkr8 _ _ _ _ _ h
def fX10_valueByMoles_c8 : Nat → mm_MM → Int32 → Int32 → Int32 → Option (Int32 × mm_MM)
  | 0 => fun _ _ _ _ => none
  | n + 1 => fun m x2 x3 x4 =>
    (if x4 < x3 then
      (if (((x2 : Int32) >>> (x4 &&& 31)) &&& 1) = 1 then
        fX10_valueByMoles_c37 (fX10_valueByMoles_c8 n) (wI m 583 0 ((m.1 583 0 : Int32) / 2)) x2 x3 x4
       else
        fX10_valueByMoles_c37 (fX10_valueByMoles_c8 n) m x2 x3 x4)
     else
      some (m.1 583 0, m))
theorem ok_fX10_valueByMoles_c8 : ∀ (n : Nat) (m : mm_MM) (x2 : Int32) (x3 : Int32) (x4 : Int32) (q0 : Int32 × mm_MM), fX10_valueByMoles_c8 n m x2 x3 x4 = some q0 → Ev XL xs (d + 5) 161 (ev_M m c w) 8 [(0, .ref 0), (2, .int x2), (3, .int x3), (4, .int x4)] [] (fr_i c w q0) := by
  intro n
  induction n with
  | zero => intro m x2 x3 x4 q0 h; exact absurd (show (none : Option (Int32 × mm_MM)) = some q0 from h) (by simp)
  | succ n ih =>
    intro m x2 x3 x4 q0 h
    unfold fX10_valueByMoles_c8 at h
    refine ev_i 3 (M1 := ev_M m c w) (pc1 := 14) (lv1 := [(0, .ref 0), (2, .int x2), (3, .int x3), (4, .int x4)]) (st1 := []) (M2 := ev_M m c w) (pc2 := 48) (lv2 := [(0, .ref 0), (2, .int x2), (3, .int x3), (4, .int x4)]) (st2 := []) (fun n => rfl) h (fun hc1 h => ?_) (fun hc1 h => ?_)
    · refine ev_i 7 (M1 := ev_M m c w) (pc1 := 24) (lv1 := [(0, .ref 0), (2, .int x2), (3, .int x3), (4, .int x4)]) (st1 := []) (M2 := ev_M m c w) (pc2 := 37) (lv2 := [(0, .ref 0), (2, .int x2), (3, .int x3), (4, .int x4)]) (st2 := []) (fun n => rfl) h (fun hc2 h => ?_) (fun hc2 h => ?_)
      · refine ev_s 7 (M' := ev_M (wI m 583 0 ((m.1 583 0 : Int32) / 2)) c w) (pc' := 37) (lv' := [(0, .ref 0), (2, .int x2), (3, .int x3), (4, .int x4)]) (st' := []) (fun n => rfl) ?_
        exact ok_fX10_valueByMoles_c37 ih h
      · exact ok_fX10_valueByMoles_c37 ih h
    · cases h
      exact ev_r 4 (fun n => rfl)
def fX10_valueByMoles (m : mm_MM) (t1 : Nat) (x2 : Int32) (x3 : Int32) : Option (Int32 × mm_MM) :=
  (fX10_startFrom m t1).bind fun r1 =>
   fX10_valueByMoles_c8 fu r1 x2 x3 0
theorem ok_fX10_valueByMoles {m : mm_MM} {t1 : Nat} {x2 : Int32} {x3 : Int32} {q0 : Int32 × mm_MM} (hk_t1 : mm_kd t1 = (9, 6)) (h : fX10_valueByMoles m t1 x2 x3 = some q0) : Ev XL xs (d + 5) 161 (ev_M m c w) 0 (lv_args 0 [.ref 0, .ref t1, .int x2, .int x3]) [] (fr_i c w q0) := by
  unfold fX10_valueByMoles at h
  obtain ⟨r1, hr1, h⟩ := Option.bind_eq_some_iff.mp h
  refine ev_c 3 (y' := 120) (M1 := ev_M m c w) (la := lv_args 0 [.ref 0, .ref t1]) (rest := []) (pc' := 5) (lv' := [(0, .ref 0), (1, .ref t1), (2, .int x2), (3, .int x3)]) (fun n => rfl) (ok_fX10_startFrom hk_t1 hr1) ?_
  show Ev XL xs _ 161 (ev_M r1 c w) 5 [(0, .ref 0), (1, .ref t1), (2, .int x2), (3, .int x3)] [] _
  refine ev_s 2 (M' := ev_M r1 c w) (pc' := 8) (lv' := [(4, .int 0), (0, .ref 0), (1, .ref t1), (2, .int x2), (3, .int x3)]) (st' := []) (fun n => rfl) ?_
  refine ev_sub (lv := [(0, .ref 0), (2, .int x2), (3, .int x3), (4, .int 0)]) (mn_of rfl (by repeat (first | exact trivial | refine And.intro rfl ?_))) ?_
  exact ok_fX10_valueByMoles_c8 fu _ _ _ _ _ h
def fX10_odds_c60 (m : mm_MM) : Option (Int32 × mm_MM) :=
  some (((-1) : Int32), m)
set_option maxRecDepth 20000 in
theorem ok_fX10_odds_c60 {m : mm_MM} {q0 : Int32 × mm_MM} (h : fX10_odds_c60 m = some q0) : Ev XL xs (d + 6) 159 (ev_M m c w) 60 [] [] (fr_i c w q0) := by
  unfold fX10_odds_c60 at h
  cases h
  exact ev_r 2 (fun n => rfl)
def fX10_odds_c113 (kr68 : mm_MM → Int32 → Int32 → Int32 → Nat → Int64 → Int32 → Option (Int32 × mm_MM)) (m : mm_MM) (x2 : Int32) (x3 : Int32) (x4 : Int32) (t5 : Nat) (x7 : Int64) (x9 : Int32) : Option (Int32 × mm_MM) :=
  kr68 m x2 x3 x4 t5 x7 (x9 + 1)
set_option maxRecDepth 20000 in
theorem ok_fX10_odds_c113 {kr68 : mm_MM → Int32 → Int32 → Int32 → Nat → Int64 → Int32 → Option (Int32 × mm_MM)} (hkr68 : ∀ (m : mm_MM) (x2 : Int32) (x3 : Int32) (x4 : Int32) (t5 : Nat) (x7 : Int64) (x9 : Int32) (q0 : Int32 × mm_MM) (hk_t5 : mm_kd t5 = (9, 6)), kr68 m x2 x3 x4 t5 x7 x9 = some q0 → Ev XL xs (d + 6) 159 (ev_M m c w) 68 [(0, .ref 0), (2, .int x2), (3, .int x3), (4, .int x4), (5, .ref t5), (7, .long x7), (9, .int x9)] [] (fr_i c w q0)) {m : mm_MM} {x2 : Int32} {x3 : Int32} {x4 : Int32} {t5 : Nat} {x7 : Int64} {x9 : Int32} {q0 : Int32 × mm_MM} (hk_t5 : mm_kd t5 = (9, 6)) (h : fX10_odds_c113 kr68 m x2 x3 x4 t5 x7 x9 = some q0) : Ev XL xs (d + 6) 159 (ev_M m c w) 113 [(0, .ref 0), (2, .int x2), (3, .int x3), (4, .int x4), (5, .ref t5), (7, .long x7), (9, .int x9)] [] (fr_i c w q0) := by
  unfold fX10_odds_c113 at h
  refine ev_s 2 (M' := ev_M m c w) (pc' := 68) (lv' := [(9, .int (x9 + 1)), (0, .ref 0), (2, .int x2), (3, .int x3), (4, .int x4), (5, .ref t5), (7, .long x7)]) (st' := []) (fun n => rfl) ?_
  refine ev_sub (lv := [(0, .ref 0), (2, .int x2), (3, .int x3), (4, .int x4), (5, .ref t5), (7, .long x7), (9, .int (x9 + 1))]) (mn_of rfl (by repeat (first | exact trivial | refine And.intro rfl ?_))) ?_
  exact hkr68 _ _ _ _ _ _ _ _ hk_t5 h
def fX10_odds_c68 : Nat → mm_MM → Int32 → Int32 → Int32 → Nat → Int64 → Int32 → Option (Int32 × mm_MM)
  | 0 => fun _ _ _ _ _ _ _ => none
  | n + 1 => fun m x2 x3 x4 t5 x7 x9 =>
    (if x9 < ((1 : Int32) <<< (x2 &&& 31)) then
      (fX10_partsOf m x9 x2 x4).bind fun r2 =>
       (if (lg_cmp r2.1 0) ≤ 0 then
         fX10_odds_c113 (fX10_odds_c68 n) r2.2 x2 x3 x4 t5 x7 x9
        else
         (fX10_valueByMoles r2.2 t5 x9 x2).bind fun r4 =>
          (if r4.1 < x3 then
            fX10_odds_c113 (fX10_odds_c68 n) r4.2 x2 x3 x4 t5 x7 x9
           else
            fX10_odds_c113 (fX10_odds_c68 n) r4.2 x2 x3 x4 t5 (x7 + r2.1) x9))
     else
      some ((Int64.toInt32 x7), m))
set_option maxRecDepth 20000 in
theorem ok_fX10_odds_c68 : ∀ (n : Nat) (m : mm_MM) (x2 : Int32) (x3 : Int32) (x4 : Int32) (t5 : Nat) (x7 : Int64) (x9 : Int32) (q0 : Int32 × mm_MM) (hk_t5 : mm_kd t5 = (9, 6)), fX10_odds_c68 n m x2 x3 x4 t5 x7 x9 = some q0 → Ev XL xs (d + 6) 159 (ev_M m c w) 68 [(0, .ref 0), (2, .int x2), (3, .int x3), (4, .int x4), (5, .ref t5), (7, .long x7), (9, .int x9)] [] (fr_i c w q0) := by
  intro n
  induction n with
  | zero => intro m x2 x3 x4 t5 x7 x9 q0 hk_t5 h; exact absurd (show (none : Option (Int32 × mm_MM)) = some q0 from h) (by simp)
  | succ n ih =>
    intro m x2 x3 x4 t5 x7 x9 q0 hk_t5 h
    unfold fX10_odds_c68 at h
    refine ev_i 5 (M1 := ev_M m c w) (pc1 := 76) (lv1 := [(0, .ref 0), (2, .int x2), (3, .int x3), (4, .int x4), (5, .ref t5), (7, .long x7), (9, .int x9)]) (st1 := []) (M2 := ev_M m c w) (pc2 := 119) (lv2 := [(0, .ref 0), (2, .int x2), (3, .int x3), (4, .int x4), (5, .ref t5), (7, .long x7), (9, .int x9)]) (st2 := []) (fun n => rfl) h (fun hc1 h => ?_) (fun hc1 h => ?_)
    · obtain ⟨r2, hr2, h⟩ := Option.bind_eq_some_iff.mp h
      refine ev_c 4 (y' := 160) (M1 := ev_M m c w) (la := lv_args 0 [.int x9, .int x2, .int x4]) (rest := []) (pc' := 84) (lv' := [(0, .ref 0), (2, .int x2), (3, .int x3), (4, .int x4), (5, .ref t5), (7, .long x7), (9, .int x9)]) (fun n => rfl) (ok_fX10_partsOf hr2) ?_
      show Ev XL xs _ 159 (ev_M r2.2 c w) 84 [(0, .ref 0), (2, .int x2), (3, .int x3), (4, .int x4), (5, .ref t5), (7, .long x7), (9, .int x9)] [.long r2.1] _
      refine ev_i 5 (M1 := ev_M r2.2 c w) (pc1 := 113) (lv1 := [(10, .long r2.1), (0, .ref 0), (2, .int x2), (3, .int x3), (4, .int x4), (5, .ref t5), (7, .long x7), (9, .int x9)]) (st1 := []) (M2 := ev_M r2.2 c w) (pc2 := 93) (lv2 := [(10, .long r2.1), (0, .ref 0), (2, .int x2), (3, .int x3), (4, .int x4), (5, .ref t5), (7, .long x7), (9, .int x9)]) (st2 := []) (fun n => rfl) h (fun hc3 h => ?_) (fun hc3 h => ?_)
      · refine ev_sub (lv := [(0, .ref 0), (2, .int x2), (3, .int x3), (4, .int x4), (5, .ref t5), (7, .long x7), (9, .int x9)]) (mn_of rfl (by repeat (first | exact trivial | refine And.intro rfl ?_))) ?_
        exact ok_fX10_odds_c113 ih hk_t5 h
      · obtain ⟨r4, hr4, h⟩ := Option.bind_eq_some_iff.mp h
        refine ev_c 5 (y' := 161) (M1 := ev_M r2.2 c w) (la := lv_args 0 [.ref 0, .ref t5, .int x9, .int x2]) (rest := []) (pc' := 102) (lv' := [(10, .long r2.1), (0, .ref 0), (2, .int x2), (3, .int x3), (4, .int x4), (5, .ref t5), (7, .long x7), (9, .int x9)]) (fun n => rfl) (ok_fX10_valueByMoles hk_t5 hr4) ?_
        show Ev XL xs _ 159 (ev_M r4.2 c w) 102 [(10, .long r2.1), (0, .ref 0), (2, .int x2), (3, .int x3), (4, .int x4), (5, .ref t5), (7, .long x7), (9, .int x9)] [.int r4.1] _
        refine ev_i 2 (M1 := ev_M r4.2 c w) (pc1 := 113) (lv1 := [(10, .long r2.1), (0, .ref 0), (2, .int x2), (3, .int x3), (4, .int x4), (5, .ref t5), (7, .long x7), (9, .int x9)]) (st1 := []) (M2 := ev_M r4.2 c w) (pc2 := 106) (lv2 := [(10, .long r2.1), (0, .ref 0), (2, .int x2), (3, .int x3), (4, .int x4), (5, .ref t5), (7, .long x7), (9, .int x9)]) (st2 := []) (fun n => rfl) h (fun hc5 h => ?_) (fun hc5 h => ?_)
        · refine ev_sub (lv := [(0, .ref 0), (2, .int x2), (3, .int x3), (4, .int x4), (5, .ref t5), (7, .long x7), (9, .int x9)]) (mn_of rfl (by repeat (first | exact trivial | refine And.intro rfl ?_))) ?_
          exact ok_fX10_odds_c113 ih hk_t5 h
        · refine ev_s 4 (M' := ev_M r4.2 c w) (pc' := 113) (lv' := [(7, .long (x7 + r2.1)), (10, .long r2.1), (0, .ref 0), (2, .int x2), (3, .int x3), (4, .int x4), (5, .ref t5), (9, .int x9)]) (st' := []) (fun n => rfl) ?_
          refine ev_sub (lv := [(0, .ref 0), (2, .int x2), (3, .int x3), (4, .int x4), (5, .ref t5), (7, .long (x7 + r2.1)), (9, .int x9)]) (mn_of rfl (by repeat (first | exact trivial | refine And.intro rfl ?_))) ?_
          exact ok_fX10_odds_c113 ih hk_t5 h
    · cases h
      exact ev_r 3 (fun n => rfl)
def fX10_odds_c48 (m : mm_MM) (x2 : Int32) (x3 : Int32) (x4 : Int32) (t5 : Option Nat) (s0 : Int32) : Option (Int32 × mm_MM) :=
  match t5 with
  | none =>
    fX10_odds_c60 m
  | some u1 =>
    if mm_kd u1 = (9, 6) then
      (if s0 = 0 then
        fX10_odds_c60 m
       else
        fX10_odds_c68 fu m x2 x3 x4 u1 0 0)
    else none
set_option maxRecDepth 20000 in
theorem ok_fX10_odds_c48 {m : mm_MM} {x2 : Int32} {x3 : Int32} {x4 : Int32} {t5 : Option Nat} {s0 : Int32} {q0 : Int32 × mm_MM} (h : fX10_odds_c48 m x2 x3 x4 t5 s0 = some q0) : Ev XL xs (d + 6) 159 (ev_M m c w) 48 [(0, .ref 0), (2, .int x2), (3, .int x3), (4, .int x4), (5, va_rf t5)] [.int s0] (fr_i c w q0) := by
  unfold fX10_odds_c48 at h
  cases t5 with
  | none =>
    refine ev_s 3 (M' := ev_M m c w) (pc' := 60) (lv' := [(6, .int s0), (0, .ref 0), (2, .int x2), (3, .int x3), (4, .int x4), (5, .null)]) (st' := []) (fun n => rfl) ?_
    refine ev_sub (lv := []) (mn_of rfl (by repeat (first | exact trivial | refine And.intro rfl ?_))) ?_
    exact ok_fX10_odds_c60 h
  | some u1 =>
    obtain ⟨hk_u1, h⟩ := sd_ift h
    refine ev_i 5 (M1 := ev_M m c w) (pc1 := 60) (lv1 := [(6, .int s0), (0, .ref 0), (2, .int x2), (3, .int x3), (4, .int x4), (5, .ref u1)]) (st1 := []) (M2 := ev_M m c w) (pc2 := 62) (lv2 := [(6, .int s0), (0, .ref 0), (2, .int x2), (3, .int x3), (4, .int x4), (5, .ref u1)]) (st2 := []) (fun n => rfl) h (fun hc2 h => ?_) (fun hc2 h => ?_)
    · refine ev_sub (lv := []) (mn_of rfl (by repeat (first | exact trivial | refine And.intro rfl ?_))) ?_
      exact ok_fX10_odds_c60 h
    · refine ev_s 4 (M' := ev_M m c w) (pc' := 68) (lv' := [(9, .int 0), (7, .long 0), (6, .int s0), (0, .ref 0), (2, .int x2), (3, .int x3), (4, .int x4), (5, .ref u1)]) (st' := []) (fun n => rfl) ?_
      refine ev_sub (lv := [(0, .ref 0), (2, .int x2), (3, .int x3), (4, .int x4), (5, .ref u1), (7, .long 0), (9, .int 0)]) (mn_of rfl (by repeat (first | exact trivial | refine And.intro rfl ?_))) ?_
      exact ok_fX10_odds_c68 fu _ _ _ _ _ _ _ _ hk_u1 h
def fX10_odds_c47 (m : mm_MM) (x2 : Int32) (x3 : Int32) (x4 : Int32) (t5 : Option Nat) : Option (Int32 × mm_MM) :=
  match t5 with
  | none =>
    fX10_odds_c48 m x2 x3 x4 none 0
  | some u1 =>
    if mm_kd u1 = (9, 6) then
      fX10_odds_c48 m x2 x3 x4 (some u1) 0
    else none
set_option maxRecDepth 20000 in
theorem ok_fX10_odds_c47 {m : mm_MM} {x2 : Int32} {x3 : Int32} {x4 : Int32} {t5 : Option Nat} {q0 : Int32 × mm_MM} (h : fX10_odds_c47 m x2 x3 x4 t5 = some q0) : Ev XL xs (d + 6) 159 (ev_M m c w) 47 [(0, .ref 0), (2, .int x2), (3, .int x3), (4, .int x4), (5, va_rf t5)] [] (fr_i c w q0) := by
  unfold fX10_odds_c47 at h
  cases t5 with
  | none =>
    refine ev_s 1 (M' := ev_M m c w) (pc' := 48) (lv' := [(0, .ref 0), (2, .int x2), (3, .int x3), (4, .int x4), (5, .null)]) (st' := [.int 0]) (fun n => rfl) ?_
    refine ev_sub (lv := [(0, .ref 0), (2, .int x2), (3, .int x3), (4, .int x4), (5, va_rf none)]) (mn_of rfl (by repeat (first | exact trivial | refine And.intro rfl ?_))) ?_
    exact ok_fX10_odds_c48 h
  | some u1 =>
    obtain ⟨hk_u1, h⟩ := sd_ift h
    refine ev_s 1 (M' := ev_M m c w) (pc' := 48) (lv' := [(0, .ref 0), (2, .int x2), (3, .int x3), (4, .int x4), (5, .ref u1)]) (st' := [.int 0]) (fun n => rfl) ?_
    refine ev_sub (lv := [(0, .ref 0), (2, .int x2), (3, .int x3), (4, .int x4), (5, va_rf (some u1))]) (mn_of rfl (by repeat (first | exact trivial | refine And.intro rfl ?_))) ?_
    exact ok_fX10_odds_c48 h
def fX10_odds (m : mm_MM) (x1 : Int32) (x2 : Int32) (x3 : Int32) (x4 : Int32) : Option (Int32 × mm_MM) :=
  (fX7_findLying m 29 x1).bind fun r1 =>
   match r1.1 with
   | none =>
     (if x2 < 0 then
       fX10_odds_c47 r1.2 x2 x3 x4 none
      else
       (if x2 ≤ 6 then
         (if x3 < 0 then
           fX10_odds_c47 r1.2 x2 x3 x4 none
          else
           (if x3 ≤ 200 then
             (if x4 < 0 then
               fX10_odds_c47 r1.2 x2 x3 x4 none
              else
               (if x4 ≤ 100 then
                 fX10_odds_c48 r1.2 x2 x3 x4 none 1
                else
                 fX10_odds_c47 r1.2 x2 x3 x4 none))
            else
             fX10_odds_c47 r1.2 x2 x3 x4 none))
        else
         fX10_odds_c47 r1.2 x2 x3 x4 none))
   | some u2 =>
     if mm_kd u2 = (9, 6) then
       (if x2 < 0 then
         fX10_odds_c47 r1.2 x2 x3 x4 (some u2)
        else
         (if x2 ≤ 6 then
           (if x3 < 0 then
             fX10_odds_c47 r1.2 x2 x3 x4 (some u2)
            else
             (if x3 ≤ 200 then
               (if x4 < 0 then
                 fX10_odds_c47 r1.2 x2 x3 x4 (some u2)
                else
                 (if x4 ≤ 100 then
                   fX10_odds_c48 r1.2 x2 x3 x4 (some u2) 1
                  else
                   fX10_odds_c47 r1.2 x2 x3 x4 (some u2)))
              else
               fX10_odds_c47 r1.2 x2 x3 x4 (some u2)))
          else
           fX10_odds_c47 r1.2 x2 x3 x4 (some u2)))
     else none
set_option maxRecDepth 20000 in
theorem ok_fX10_odds {m : mm_MM} {x1 : Int32} {x2 : Int32} {x3 : Int32} {x4 : Int32} {q0 : Int32 × mm_MM} (h : fX10_odds m x1 x2 x3 x4 = some q0) : Ev XL xs (d + 6) 159 (ev_M m c w) 0 (lv_args 0 [.ref 0, .int x1, .int x2, .int x3, .int x4]) [] (fr_i c w q0) := by
  unfold fX10_odds at h
  obtain ⟨r1, hr1, h⟩ := Option.bind_eq_some_iff.mp h
  refine ev_c 4 (y' := 70) (M1 := ev_M m c w) (la := lv_args 0 [.ref 29, .int x1]) (rest := []) (pc' := 8) (lv' := [(0, .ref 0), (1, .int x1), (2, .int x2), (3, .int x3), (4, .int x4)]) (fun n => rfl) (ok_fX7_findLying (rfl : mm_kd 29 = (7, 8)) hr1) ?_
  show Ev XL xs _ 159 (ev_M r1.2 c w) 8 [(0, .ref 0), (1, .int x1), (2, .int x2), (3, .int x3), (4, .int x4)] [va_rf r1.1] _
  generalize r1.1 = o15 at h ⊢
  cases o15 with
  | none =>
    refine ev_i 3 (M1 := ev_M r1.2 c w) (pc1 := 47) (lv1 := [(5, .null), (0, .ref 0), (1, .int x1), (2, .int x2), (3, .int x3), (4, .int x4)]) (st1 := []) (M2 := ev_M r1.2 c w) (pc2 := 14) (lv2 := [(5, .null), (0, .ref 0), (1, .int x1), (2, .int x2), (3, .int x3), (4, .int x4)]) (st2 := []) (fun n => rfl) h (fun hc3 h => ?_) (fun hc3 h => ?_)
    · refine ev_sub (lv := [(0, .ref 0), (2, .int x2), (3, .int x3), (4, .int x4), (5, va_rf none)]) (mn_of rfl (by repeat (first | exact trivial | refine And.intro rfl ?_))) ?_
      exact ok_fX10_odds_c47 h
    · refine ev_i 3 (M1 := ev_M r1.2 c w) (pc1 := 20) (lv1 := [(5, .null), (0, .ref 0), (1, .int x1), (2, .int x2), (3, .int x3), (4, .int x4)]) (st1 := []) (M2 := ev_M r1.2 c w) (pc2 := 47) (lv2 := [(5, .null), (0, .ref 0), (1, .int x1), (2, .int x2), (3, .int x3), (4, .int x4)]) (st2 := []) (fun n => rfl) h (fun hc4 h => ?_) (fun hc4 h => ?_)
      · refine ev_i 2 (M1 := ev_M r1.2 c w) (pc1 := 47) (lv1 := [(5, .null), (0, .ref 0), (1, .int x1), (2, .int x2), (3, .int x3), (4, .int x4)]) (st1 := []) (M2 := ev_M r1.2 c w) (pc2 := 24) (lv2 := [(5, .null), (0, .ref 0), (1, .int x1), (2, .int x2), (3, .int x3), (4, .int x4)]) (st2 := []) (fun n => rfl) h (fun hc5 h => ?_) (fun hc5 h => ?_)
        · refine ev_sub (lv := [(0, .ref 0), (2, .int x2), (3, .int x3), (4, .int x4), (5, va_rf none)]) (mn_of rfl (by repeat (first | exact trivial | refine And.intro rfl ?_))) ?_
          exact ok_fX10_odds_c47 h
        · refine ev_i 3 (M1 := ev_M r1.2 c w) (pc1 := 31) (lv1 := [(5, .null), (0, .ref 0), (1, .int x1), (2, .int x2), (3, .int x3), (4, .int x4)]) (st1 := []) (M2 := ev_M r1.2 c w) (pc2 := 47) (lv2 := [(5, .null), (0, .ref 0), (1, .int x1), (2, .int x2), (3, .int x3), (4, .int x4)]) (st2 := []) (fun n => rfl) h (fun hc6 h => ?_) (fun hc6 h => ?_)
          · refine ev_i 2 (M1 := ev_M r1.2 c w) (pc1 := 47) (lv1 := [(5, .null), (0, .ref 0), (1, .int x1), (2, .int x2), (3, .int x3), (4, .int x4)]) (st1 := []) (M2 := ev_M r1.2 c w) (pc2 := 36) (lv2 := [(5, .null), (0, .ref 0), (1, .int x1), (2, .int x2), (3, .int x3), (4, .int x4)]) (st2 := []) (fun n => rfl) h (fun hc7 h => ?_) (fun hc7 h => ?_)
            · refine ev_sub (lv := [(0, .ref 0), (2, .int x2), (3, .int x3), (4, .int x4), (5, va_rf none)]) (mn_of rfl (by repeat (first | exact trivial | refine And.intro rfl ?_))) ?_
              exact ok_fX10_odds_c47 h
            · refine ev_i 3 (M1 := ev_M r1.2 c w) (pc1 := 43) (lv1 := [(5, .null), (0, .ref 0), (1, .int x1), (2, .int x2), (3, .int x3), (4, .int x4)]) (st1 := []) (M2 := ev_M r1.2 c w) (pc2 := 47) (lv2 := [(5, .null), (0, .ref 0), (1, .int x1), (2, .int x2), (3, .int x3), (4, .int x4)]) (st2 := []) (fun n => rfl) h (fun hc8 h => ?_) (fun hc8 h => ?_)
              · refine ev_s 2 (M' := ev_M r1.2 c w) (pc' := 48) (lv' := [(5, .null), (0, .ref 0), (1, .int x1), (2, .int x2), (3, .int x3), (4, .int x4)]) (st' := [.int 1]) (fun n => rfl) ?_
                refine ev_sub (lv := [(0, .ref 0), (2, .int x2), (3, .int x3), (4, .int x4), (5, va_rf none)]) (mn_of rfl (by repeat (first | exact trivial | refine And.intro rfl ?_))) ?_
                exact ok_fX10_odds_c48 h
              · refine ev_sub (lv := [(0, .ref 0), (2, .int x2), (3, .int x3), (4, .int x4), (5, va_rf none)]) (mn_of rfl (by repeat (first | exact trivial | refine And.intro rfl ?_))) ?_
                exact ok_fX10_odds_c47 h
          · refine ev_sub (lv := [(0, .ref 0), (2, .int x2), (3, .int x3), (4, .int x4), (5, va_rf none)]) (mn_of rfl (by repeat (first | exact trivial | refine And.intro rfl ?_))) ?_
            exact ok_fX10_odds_c47 h
      · refine ev_sub (lv := [(0, .ref 0), (2, .int x2), (3, .int x3), (4, .int x4), (5, va_rf none)]) (mn_of rfl (by repeat (first | exact trivial | refine And.intro rfl ?_))) ?_
        exact ok_fX10_odds_c47 h
  | some u2 =>
    obtain ⟨hk_u2, h⟩ := sd_ift h
    refine ev_i 3 (M1 := ev_M r1.2 c w) (pc1 := 47) (lv1 := [(5, .ref u2), (0, .ref 0), (1, .int x1), (2, .int x2), (3, .int x3), (4, .int x4)]) (st1 := []) (M2 := ev_M r1.2 c w) (pc2 := 14) (lv2 := [(5, .ref u2), (0, .ref 0), (1, .int x1), (2, .int x2), (3, .int x3), (4, .int x4)]) (st2 := []) (fun n => rfl) h (fun hc9 h => ?_) (fun hc9 h => ?_)
    · refine ev_sub (lv := [(0, .ref 0), (2, .int x2), (3, .int x3), (4, .int x4), (5, va_rf (some u2))]) (mn_of rfl (by repeat (first | exact trivial | refine And.intro rfl ?_))) ?_
      exact ok_fX10_odds_c47 h
    · refine ev_i 3 (M1 := ev_M r1.2 c w) (pc1 := 20) (lv1 := [(5, .ref u2), (0, .ref 0), (1, .int x1), (2, .int x2), (3, .int x3), (4, .int x4)]) (st1 := []) (M2 := ev_M r1.2 c w) (pc2 := 47) (lv2 := [(5, .ref u2), (0, .ref 0), (1, .int x1), (2, .int x2), (3, .int x3), (4, .int x4)]) (st2 := []) (fun n => rfl) h (fun hc10 h => ?_) (fun hc10 h => ?_)
      · refine ev_i 2 (M1 := ev_M r1.2 c w) (pc1 := 47) (lv1 := [(5, .ref u2), (0, .ref 0), (1, .int x1), (2, .int x2), (3, .int x3), (4, .int x4)]) (st1 := []) (M2 := ev_M r1.2 c w) (pc2 := 24) (lv2 := [(5, .ref u2), (0, .ref 0), (1, .int x1), (2, .int x2), (3, .int x3), (4, .int x4)]) (st2 := []) (fun n => rfl) h (fun hc11 h => ?_) (fun hc11 h => ?_)
        · refine ev_sub (lv := [(0, .ref 0), (2, .int x2), (3, .int x3), (4, .int x4), (5, va_rf (some u2))]) (mn_of rfl (by repeat (first | exact trivial | refine And.intro rfl ?_))) ?_
          exact ok_fX10_odds_c47 h
        · refine ev_i 3 (M1 := ev_M r1.2 c w) (pc1 := 31) (lv1 := [(5, .ref u2), (0, .ref 0), (1, .int x1), (2, .int x2), (3, .int x3), (4, .int x4)]) (st1 := []) (M2 := ev_M r1.2 c w) (pc2 := 47) (lv2 := [(5, .ref u2), (0, .ref 0), (1, .int x1), (2, .int x2), (3, .int x3), (4, .int x4)]) (st2 := []) (fun n => rfl) h (fun hc12 h => ?_) (fun hc12 h => ?_)
          · refine ev_i 2 (M1 := ev_M r1.2 c w) (pc1 := 47) (lv1 := [(5, .ref u2), (0, .ref 0), (1, .int x1), (2, .int x2), (3, .int x3), (4, .int x4)]) (st1 := []) (M2 := ev_M r1.2 c w) (pc2 := 36) (lv2 := [(5, .ref u2), (0, .ref 0), (1, .int x1), (2, .int x2), (3, .int x3), (4, .int x4)]) (st2 := []) (fun n => rfl) h (fun hc13 h => ?_) (fun hc13 h => ?_)
            · refine ev_sub (lv := [(0, .ref 0), (2, .int x2), (3, .int x3), (4, .int x4), (5, va_rf (some u2))]) (mn_of rfl (by repeat (first | exact trivial | refine And.intro rfl ?_))) ?_
              exact ok_fX10_odds_c47 h
            · refine ev_i 3 (M1 := ev_M r1.2 c w) (pc1 := 43) (lv1 := [(5, .ref u2), (0, .ref 0), (1, .int x1), (2, .int x2), (3, .int x3), (4, .int x4)]) (st1 := []) (M2 := ev_M r1.2 c w) (pc2 := 47) (lv2 := [(5, .ref u2), (0, .ref 0), (1, .int x1), (2, .int x2), (3, .int x3), (4, .int x4)]) (st2 := []) (fun n => rfl) h (fun hc14 h => ?_) (fun hc14 h => ?_)
              · refine ev_s 2 (M' := ev_M r1.2 c w) (pc' := 48) (lv' := [(5, .ref u2), (0, .ref 0), (1, .int x1), (2, .int x2), (3, .int x3), (4, .int x4)]) (st' := [.int 1]) (fun n => rfl) ?_
                refine ev_sub (lv := [(0, .ref 0), (2, .int x2), (3, .int x3), (4, .int x4), (5, va_rf (some u2))]) (mn_of rfl (by repeat (first | exact trivial | refine And.intro rfl ?_))) ?_
                exact ok_fX10_odds_c48 h
              · refine ev_sub (lv := [(0, .ref 0), (2, .int x2), (3, .int x3), (4, .int x4), (5, va_rf (some u2))]) (mn_of rfl (by repeat (first | exact trivial | refine And.intro rfl ?_))) ?_
                exact ok_fX10_odds_c47 h
          · refine ev_sub (lv := [(0, .ref 0), (2, .int x2), (3, .int x3), (4, .int x4), (5, va_rf (some u2))]) (mn_of rfl (by repeat (first | exact trivial | refine And.intro rfl ?_))) ?_
            exact ok_fX10_odds_c47 h
      · refine ev_sub (lv := [(0, .ref 0), (2, .int x2), (3, .int x3), (4, .int x4), (5, va_rf (some u2))]) (mn_of rfl (by repeat (first | exact trivial | refine And.intro rfl ?_))) ?_
        exact ok_fX10_odds_c47 h
def fX10_valueOfAll_c4 : Nat → mm_MM → Int32 → Int32 → Option (Int32 × mm_MM)
  | 0 => fun _ _ _ => none
  | n + 1 => fun m x1 x2 =>
    (if x2 < 8 then
      (fX10_valueAt m x2).bind fun r2 =>
       fX10_valueOfAll_c4 n r2.2 (x1 + r2.1) (x2 + 1)
     else
      some (x1, m))
theorem ok_fX10_valueOfAll_c4 : ∀ (n : Nat) (m : mm_MM) (x1 : Int32) (x2 : Int32) (q0 : Int32 × mm_MM), fX10_valueOfAll_c4 n m x1 x2 = some q0 → Ev XL xs (d + 3) 163 (ev_M m c w) 4 [(0, .ref 0), (1, .int x1), (2, .int x2)] [] (fr_i c w q0) := by
  intro n
  induction n with
  | zero => intro m x1 x2 q0 h; exact absurd (show (none : Option (Int32 × mm_MM)) = some q0 from h) (by simp)
  | succ n ih =>
    intro m x1 x2 q0 h
    unfold fX10_valueOfAll_c4 at h
    refine ev_i 3 (M1 := ev_M m c w) (pc1 := 10) (lv1 := [(0, .ref 0), (1, .int x1), (2, .int x2)]) (st1 := []) (M2 := ev_M m c w) (pc2 := 24) (lv2 := [(0, .ref 0), (1, .int x1), (2, .int x2)]) (st2 := []) (fun n => rfl) h (fun hc1 h => ?_) (fun hc1 h => ?_)
    · obtain ⟨r2, hr2, h⟩ := Option.bind_eq_some_iff.mp h
      refine ev_c 4 (y' := 157) (M1 := ev_M m c w) (la := lv_args 0 [.ref 0, .int x2]) (rest := [.int x1]) (pc' := 16) (lv' := [(0, .ref 0), (1, .int x1), (2, .int x2)]) (fun n => rfl) (ok_fX10_valueAt hr2) ?_
      show Ev XL xs _ 163 (ev_M r2.2 c w) 16 [(0, .ref 0), (1, .int x1), (2, .int x2)] [.int r2.1, .int x1] _
      refine ev_s 4 (M' := ev_M r2.2 c w) (pc' := 4) (lv' := [(2, .int (x2 + 1)), (1, .int (x1 + r2.1)), (0, .ref 0)]) (st' := []) (fun n => rfl) ?_
      refine ev_sub (lv := [(0, .ref 0), (1, .int (x1 + r2.1)), (2, .int (x2 + 1))]) (mn_of rfl (by repeat (first | exact trivial | refine And.intro rfl ?_))) ?_
      exact ih _ _ _ _ h
    · cases h
      exact ev_r 2 (fun n => rfl)
def fX10_valueOfAll (m : mm_MM) : Option (Int32 × mm_MM) :=
  fX10_valueOfAll_c4 fu m 0 0
theorem ok_fX10_valueOfAll {m : mm_MM} {q0 : Int32 × mm_MM} (h : fX10_valueOfAll m = some q0) : Ev XL xs (d + 3) 163 (ev_M m c w) 0 (lv_args 0 [.ref 0]) [] (fr_i c w q0) := by
  unfold fX10_valueOfAll at h
  refine ev_s 4 (M' := ev_M m c w) (pc' := 4) (lv' := [(2, .int 0), (1, .int 0), (0, .ref 0)]) (st' := []) (fun n => rfl) ?_
  refine ev_sub (lv := [(0, .ref 0), (1, .int 0), (2, .int 0)]) (mn_of rfl (by repeat (first | exact trivial | refine And.intro rfl ?_))) ?_
  exact ok_fX10_valueOfAll_c4 fu _ _ _ _ h
def fX10_shares_c24 (m : mm_MM) : Option (Int32 × mm_MM) :=
  some (((-1) : Int32), m)
theorem ok_fX10_shares_c24 {m : mm_MM} {q0 : Int32 × mm_MM} (h : fX10_shares_c24 m = some q0) : Ev XL xs (d + 4) 162 (ev_M m c w) 24 [] [] (fr_i c w q0) := by
  unfold fX10_shares_c24 at h
  cases h
  exact ev_r 2 (fun n => rfl)
def fX10_shares_c50 (m : mm_MM) (s0 : Int32) : Option (Int32 × mm_MM) :=
  some (s0, m)
theorem ok_fX10_shares_c50 {m : mm_MM} {s0 : Int32} {q0 : Int32 × mm_MM} (h : fX10_shares_c50 m s0 = some q0) : Ev XL xs (d + 4) 162 (ev_M m c w) 50 [] [.int s0] (fr_i c w q0) := by
  unfold fX10_shares_c50 at h
  cases h
  exact ev_r 1 (fun n => rfl)
def fX10_shares (m : mm_MM) (x1 : Int32) (x2 : Int32) : Option (Int32 × mm_MM) :=
  (fX7_find m 29 x1).bind fun r1 =>
   match r1.1 with
   | none =>
     fX10_shares_c24 r1.2
   | some u2 =>
     if mm_kd u2 = (9, 6) then
       (if x2 < 0 then
         fX10_shares_c24 r1.2
        else
         (if x2 ≤ 999 then
           (fX10_valueOfAll r1.2).bind fun r5 =>
            (if r5.1 ≤ 0 then
              fX10_shares_c50 r5.2 0
             else
              (if r5.1 = (0 : Int32) then none else
               fX10_shares_c50 r5.2 (((x2 * r5.2.1 u2 1) : Int32) / r5.1)))
          else
           fX10_shares_c24 r1.2))
     else none
theorem ok_fX10_shares {m : mm_MM} {x1 : Int32} {x2 : Int32} {q0 : Int32 × mm_MM} (h : fX10_shares m x1 x2 = some q0) : Ev XL xs (d + 4) 162 (ev_M m c w) 0 (lv_args 0 [.ref 0, .int x1, .int x2]) [] (fr_i c w q0) := by
  unfold fX10_shares at h
  obtain ⟨r1, hr1, h⟩ := Option.bind_eq_some_iff.mp h
  refine ev_c 4 (y' := 69) (M1 := ev_M m c w) (la := lv_args 0 [.ref 29, .int x1]) (rest := []) (pc' := 8) (lv' := [(0, .ref 0), (1, .int x1), (2, .int x2)]) (fun n => rfl) (ok_fX7_find (rfl : mm_kd 29 = (7, 8)) hr1) ?_
  show Ev XL xs _ 162 (ev_M r1.2 c w) 8 [(0, .ref 0), (1, .int x1), (2, .int x2)] [va_rf r1.1] _
  generalize r1.1 = o7 at h ⊢
  cases o7 with
  | none =>
    refine ev_s 3 (M' := ev_M r1.2 c w) (pc' := 24) (lv' := [(3, .null), (0, .ref 0), (1, .int x1), (2, .int x2)]) (st' := []) (fun n => rfl) ?_
    refine ev_sub (lv := []) (mn_of rfl (by repeat (first | exact trivial | refine And.intro rfl ?_))) ?_
    exact ok_fX10_shares_c24 h
  | some u2 =>
    obtain ⟨hk_u2, h⟩ := sd_ift h
    refine ev_i 5 (M1 := ev_M r1.2 c w) (pc1 := 24) (lv1 := [(3, .ref u2), (0, .ref 0), (1, .int x1), (2, .int x2)]) (st1 := []) (M2 := ev_M r1.2 c w) (pc2 := 17) (lv2 := [(3, .ref u2), (0, .ref 0), (1, .int x1), (2, .int x2)]) (st2 := []) (fun n => rfl) h (fun hc3 h => ?_) (fun hc3 h => ?_)
    · refine ev_sub (lv := []) (mn_of rfl (by repeat (first | exact trivial | refine And.intro rfl ?_))) ?_
      exact ok_fX10_shares_c24 h
    · refine ev_i 3 (M1 := ev_M r1.2 c w) (pc1 := 26) (lv1 := [(3, .ref u2), (0, .ref 0), (1, .int x1), (2, .int x2)]) (st1 := []) (M2 := ev_M r1.2 c w) (pc2 := 24) (lv2 := [(3, .ref u2), (0, .ref 0), (1, .int x1), (2, .int x2)]) (st2 := []) (fun n => rfl) h (fun hc4 h => ?_) (fun hc4 h => ?_)
      · obtain ⟨r5, hr5, h⟩ := Option.bind_eq_some_iff.mp h
        refine ev_c 2 (y' := 163) (M1 := ev_M r1.2 c w) (la := lv_args 0 [.ref 0]) (rest := []) (pc' := 30) (lv' := [(3, .ref u2), (0, .ref 0), (1, .int x1), (2, .int x2)]) (fun n => rfl) (ok_fX10_valueOfAll hr5) ?_
        show Ev XL xs _ 162 (ev_M r5.2 c w) 30 [(3, .ref u2), (0, .ref 0), (1, .int x1), (2, .int x2)] [.int r5.1] _
        refine ev_i 3 (M1 := ev_M r5.2 c w) (pc1 := 49) (lv1 := [(4, .int r5.1), (3, .ref u2), (0, .ref 0), (1, .int x1), (2, .int x2)]) (st1 := []) (M2 := ev_M r5.2 c w) (pc2 := 37) (lv2 := [(4, .int r5.1), (3, .ref u2), (0, .ref 0), (1, .int x1), (2, .int x2)]) (st2 := []) (fun n => rfl) h (fun hc6 h => ?_) (fun hc6 h => ?_)
        · refine ev_s 1 (M' := ev_M r5.2 c w) (pc' := 50) (lv' := [(4, .int r5.1), (3, .ref u2), (0, .ref 0), (1, .int x1), (2, .int x2)]) (st' := [.int 0]) (fun n => rfl) ?_
          refine ev_sub (lv := []) (mn_of rfl (by repeat (first | exact trivial | refine And.intro rfl ?_))) ?_
          exact ok_fX10_shares_c50 h
        · refine ev_s 2 (M' := ev_M r5.2 c w) (pc' := 39) (lv' := [(4, .int r5.1), (3, .ref u2), (0, .ref 0), (1, .int x1), (2, .int x2)]) (st' := [.ref u2, .int x2]) (fun n => rfl) ?_
          refine ev_gf (x := .int (r5.2.1 u2 1)) rfl (congrArg Prod.fst hk_u2) rfl rfl ?_
          refine ev_g 3 (M1 := ev_M r5.2 c w) (pc1 := 46) (lv1 := [(4, .int r5.1), (3, .ref u2), (0, .ref 0), (1, .int x1), (2, .int x2)]) (st1 := [.int (((x2 * r5.2.1 u2 1) : Int32) / r5.1)]) (fun n => rfl) h (fun _ h => ?_)
          refine ev_s 1 (M' := ev_M r5.2 c w) (pc' := 50) (lv' := [(4, .int r5.1), (3, .ref u2), (0, .ref 0), (1, .int x1), (2, .int x2)]) (st' := [.int (((x2 * r5.2.1 u2 1) : Int32) / r5.1)]) (fun n => rfl) ?_
          refine ev_sub (lv := []) (mn_of rfl (by repeat (first | exact trivial | refine And.intro rfl ?_))) ?_
          exact ok_fX10_shares_c50 h
      · refine ev_sub (lv := []) (mn_of rfl (by repeat (first | exact trivial | refine And.intro rfl ?_))) ?_
        exact ok_fX10_shares_c24 h
def fX10_placeWithMost_c72 (kr7 : mm_MM → Int32 → Int32 → Int32 → Int32 → Option (Int32 × mm_MM)) (m : mm_MM) (x1 : Int32) (x2 : Int32) (x3 : Int32) (x4 : Int32) : Option (Int32 × mm_MM) :=
  kr7 m x1 x2 x3 (x4 + 1)
theorem ok_fX10_placeWithMost_c72 {kr7 : mm_MM → Int32 → Int32 → Int32 → Int32 → Option (Int32 × mm_MM)} (hkr7 : ∀ (m : mm_MM) (x1 : Int32) (x2 : Int32) (x3 : Int32) (x4 : Int32) (q0 : Int32 × mm_MM), kr7 m x1 x2 x3 x4 = some q0 → Ev XL xs (d + 2) 165 (ev_M m c w) 7 [(0, .ref 0), (1, .int x1), (2, .int x2), (3, .int x3), (4, .int x4)] [] (fr_i c w q0)) {m : mm_MM} {x1 : Int32} {x2 : Int32} {x3 : Int32} {x4 : Int32} {q0 : Int32 × mm_MM} (h : fX10_placeWithMost_c72 kr7 m x1 x2 x3 x4 = some q0) : Ev XL xs (d + 2) 165 (ev_M m c w) 72 [(0, .ref 0), (1, .int x1), (2, .int x2), (3, .int x3), (4, .int x4)] [] (fr_i c w q0) := by
  unfold fX10_placeWithMost_c72 at h
  refine ev_s 2 (M' := ev_M m c w) (pc' := 7) (lv' := [(4, .int (x4 + 1)), (0, .ref 0), (1, .int x1), (2, .int x2), (3, .int x3)]) (st' := []) (fun n => rfl) ?_
  refine ev_sub (lv := [(0, .ref 0), (1, .int x1), (2, .int x2), (3, .int x3), (4, .int (x4 + 1))]) (mn_of rfl (by repeat (first | exact trivial | refine And.intro rfl ?_))) ?_
  exact hkr7 _ _ _ _ _ _ h
def fX10_placeWithMost_c68 (kr7 : mm_MM → Int32 → Int32 → Int32 → Int32 → Option (Int32 × mm_MM)) (m : mm_MM) (x1 : Int32) (x4 : Int32) (s0 : Int32) : Option (Int32 × mm_MM) :=
  fX10_placeWithMost_c72 kr7 m x1 x4 s0 x4
theorem ok_fX10_placeWithMost_c68 {kr7 : mm_MM → Int32 → Int32 → Int32 → Int32 → Option (Int32 × mm_MM)} (hkr7 : ∀ (m : mm_MM) (x1 : Int32) (x2 : Int32) (x3 : Int32) (x4 : Int32) (q0 : Int32 × mm_MM), kr7 m x1 x2 x3 x4 = some q0 → Ev XL xs (d + 2) 165 (ev_M m c w) 7 [(0, .ref 0), (1, .int x1), (2, .int x2), (3, .int x3), (4, .int x4)] [] (fr_i c w q0)) {m : mm_MM} {x1 : Int32} {x4 : Int32} {s0 : Int32} {q0 : Int32 × mm_MM} (h : fX10_placeWithMost_c68 kr7 m x1 x4 s0 = some q0) : Ev XL xs (d + 2) 165 (ev_M m c w) 68 [(0, .ref 0), (1, .int x1), (4, .int x4)] [.int s0] (fr_i c w q0) := by
  unfold fX10_placeWithMost_c68 at h
  refine ev_s 3 (M' := ev_M m c w) (pc' := 72) (lv' := [(2, .int x4), (3, .int s0), (0, .ref 0), (1, .int x1), (4, .int x4)]) (st' := []) (fun n => rfl) ?_
  refine ev_sub (lv := [(0, .ref 0), (1, .int x1), (2, .int x4), (3, .int s0), (4, .int x4)]) (mn_of rfl (by repeat (first | exact trivial | refine And.intro rfl ?_))) ?_
  exact ok_fX10_placeWithMost_c72 hkr7 h
def fX10_placeWithMost_c47 (kr7 : mm_MM → Int32 → Int32 → Int32 → Int32 → Option (Int32 × mm_MM)) (m : mm_MM) (x1 : Int32) (x2 : Int32) (x3 : Int32) (x4 : Int32) (t5 : Nat) (s0 : Int32) : Option (Int32 × mm_MM) :=
  (if s0 ≤ x3 then
    fX10_placeWithMost_c72 kr7 m x1 x2 x3 x4
   else
    (if x1 = 0 then
      fX10_placeWithMost_c68 kr7 m x1 x4 (m.1 t5 4)
     else
      fX10_placeWithMost_c68 kr7 m x1 x4 (m.1 t5 1)))
theorem ok_fX10_placeWithMost_c47 {kr7 : mm_MM → Int32 → Int32 → Int32 → Int32 → Option (Int32 × mm_MM)} (hkr7 : ∀ (m : mm_MM) (x1 : Int32) (x2 : Int32) (x3 : Int32) (x4 : Int32) (q0 : Int32 × mm_MM), kr7 m x1 x2 x3 x4 = some q0 → Ev XL xs (d + 2) 165 (ev_M m c w) 7 [(0, .ref 0), (1, .int x1), (2, .int x2), (3, .int x3), (4, .int x4)] [] (fr_i c w q0)) {m : mm_MM} {x1 : Int32} {x2 : Int32} {x3 : Int32} {x4 : Int32} {t5 : Nat} {s0 : Int32} {q0 : Int32 × mm_MM} (hk_t5 : mm_kd t5 = (9, 6)) (h : fX10_placeWithMost_c47 kr7 m x1 x2 x3 x4 t5 s0 = some q0) : Ev XL xs (d + 2) 165 (ev_M m c w) 47 [(0, .ref 0), (1, .int x1), (2, .int x2), (3, .int x3), (4, .int x4), (5, .ref t5)] [.int s0] (fr_i c w q0) := by
  unfold fX10_placeWithMost_c47 at h
  refine ev_i 2 (M1 := ev_M m c w) (pc1 := 72) (lv1 := [(0, .ref 0), (1, .int x1), (2, .int x2), (3, .int x3), (4, .int x4), (5, .ref t5)]) (st1 := []) (M2 := ev_M m c w) (pc2 := 51) (lv2 := [(0, .ref 0), (1, .int x1), (2, .int x2), (3, .int x3), (4, .int x4), (5, .ref t5)]) (st2 := []) (fun n => rfl) h (fun hc1 h => ?_) (fun hc1 h => ?_)
  · refine ev_sub (lv := [(0, .ref 0), (1, .int x1), (2, .int x2), (3, .int x3), (4, .int x4)]) (mn_of rfl (by repeat (first | exact trivial | refine And.intro rfl ?_))) ?_
    exact ok_fX10_placeWithMost_c72 hkr7 h
  · refine ev_i 2 (M1 := ev_M m c w) (pc1 := 63) (lv1 := [(0, .ref 0), (1, .int x1), (2, .int x2), (3, .int x3), (4, .int x4), (5, .ref t5)]) (st1 := []) (M2 := ev_M m c w) (pc2 := 55) (lv2 := [(0, .ref 0), (1, .int x1), (2, .int x2), (3, .int x3), (4, .int x4), (5, .ref t5)]) (st2 := []) (fun n => rfl) h (fun hc2 h => ?_) (fun hc2 h => ?_)
    · refine ev_s 1 (M' := ev_M m c w) (pc' := 65) (lv' := [(0, .ref 0), (1, .int x1), (2, .int x2), (3, .int x3), (4, .int x4), (5, .ref t5)]) (st' := [.ref t5]) (fun n => rfl) ?_
      refine ev_gf (x := .int (m.1 t5 4)) rfl (congrArg Prod.fst hk_t5) rfl rfl ?_
      refine ev_sub (lv := [(0, .ref 0), (1, .int x1), (4, .int x4)]) (mn_of rfl (by repeat (first | exact trivial | refine And.intro rfl ?_))) ?_
      exact ok_fX10_placeWithMost_c68 hkr7 h
    · refine ev_s 1 (M' := ev_M m c w) (pc' := 57) (lv' := [(0, .ref 0), (1, .int x1), (2, .int x2), (3, .int x3), (4, .int x4), (5, .ref t5)]) (st' := [.ref t5]) (fun n => rfl) ?_
      refine ev_gf (x := .int (m.1 t5 1)) rfl (congrArg Prod.fst hk_t5) rfl rfl ?_
      refine ev_s 1 (M' := ev_M m c w) (pc' := 68) (lv' := [(0, .ref 0), (1, .int x1), (2, .int x2), (3, .int x3), (4, .int x4), (5, .ref t5)]) (st' := [.int (m.1 t5 1)]) (fun n => rfl) ?_
      refine ev_sub (lv := [(0, .ref 0), (1, .int x1), (4, .int x4)]) (mn_of rfl (by repeat (first | exact trivial | refine And.intro rfl ?_))) ?_
      exact ok_fX10_placeWithMost_c68 hkr7 h
def fX10_placeWithMost_c7 : Nat → mm_MM → Int32 → Int32 → Int32 → Int32 → Option (Int32 × mm_MM)
  | 0 => fun _ _ _ _ _ => none
  | n + 1 => fun m x1 x2 x3 x4 =>
    (if x4 < 8 then
      (fX7_find m 29 x4).bind fun r2 =>
       match r2.1 with
       | none =>
         fX10_placeWithMost_c72 (fX10_placeWithMost_c7 n) r2.2 x1 x2 x3 x4
       | some u3 =>
         if mm_kd u3 = (9, 6) then
           (if x1 = 0 then
             fX10_placeWithMost_c47 (fX10_placeWithMost_c7 n) r2.2 x1 x2 x3 x4 u3 (r2.2.1 u3 4)
            else
             fX10_placeWithMost_c47 (fX10_placeWithMost_c7 n) r2.2 x1 x2 x3 x4 u3 (r2.2.1 u3 1))
         else none
     else
      some (x2, m))
theorem ok_fX10_placeWithMost_c7 : ∀ (n : Nat) (m : mm_MM) (x1 : Int32) (x2 : Int32) (x3 : Int32) (x4 : Int32) (q0 : Int32 × mm_MM), fX10_placeWithMost_c7 n m x1 x2 x3 x4 = some q0 → Ev XL xs (d + 2) 165 (ev_M m c w) 7 [(0, .ref 0), (1, .int x1), (2, .int x2), (3, .int x3), (4, .int x4)] [] (fr_i c w q0) := by
  intro n
  induction n with
  | zero => intro m x1 x2 x3 x4 q0 h; exact absurd (show (none : Option (Int32 × mm_MM)) = some q0 from h) (by simp)
  | succ n ih =>
    intro m x1 x2 x3 x4 q0 h
    unfold fX10_placeWithMost_c7 at h
    refine ev_i 3 (M1 := ev_M m c w) (pc1 := 14) (lv1 := [(0, .ref 0), (1, .int x1), (2, .int x2), (3, .int x3), (4, .int x4)]) (st1 := []) (M2 := ev_M m c w) (pc2 := 78) (lv2 := [(0, .ref 0), (1, .int x1), (2, .int x2), (3, .int x3), (4, .int x4)]) (st2 := []) (fun n => rfl) h (fun hc1 h => ?_) (fun hc1 h => ?_)
    · obtain ⟨r2, hr2, h⟩ := Option.bind_eq_some_iff.mp h
      refine ev_c 4 (y' := 69) (M1 := ev_M m c w) (la := lv_args 0 [.ref 29, .int x4]) (rest := []) (pc' := 23) (lv' := [(0, .ref 0), (1, .int x1), (2, .int x2), (3, .int x3), (4, .int x4)]) (fun n => rfl) (ok_fX7_find (rfl : mm_kd 29 = (7, 8)) hr2) ?_
      show Ev XL xs _ 165 (ev_M r2.2 c w) 23 [(0, .ref 0), (1, .int x1), (2, .int x2), (3, .int x3), (4, .int x4)] [va_rf r2.1] _
      generalize r2.1 = o5 at h ⊢
      cases o5 with
      | none =>
        refine ev_s 3 (M' := ev_M r2.2 c w) (pc' := 72) (lv' := [(5, .null), (0, .ref 0), (1, .int x1), (2, .int x2), (3, .int x3), (4, .int x4)]) (st' := []) (fun n => rfl) ?_
        refine ev_sub (lv := [(0, .ref 0), (1, .int x1), (2, .int x2), (3, .int x3), (4, .int x4)]) (mn_of rfl (by repeat (first | exact trivial | refine And.intro rfl ?_))) ?_
        exact ok_fX10_placeWithMost_c72 ih h
      | some u3 =>
        obtain ⟨hk_u3, h⟩ := sd_ift h
        refine ev_i 5 (M1 := ev_M r2.2 c w) (pc1 := 42) (lv1 := [(5, .ref u3), (0, .ref 0), (1, .int x1), (2, .int x2), (3, .int x3), (4, .int x4)]) (st1 := []) (M2 := ev_M r2.2 c w) (pc2 := 34) (lv2 := [(5, .ref u3), (0, .ref 0), (1, .int x1), (2, .int x2), (3, .int x3), (4, .int x4)]) (st2 := []) (fun n => rfl) h (fun hc4 h => ?_) (fun hc4 h => ?_)
        · refine ev_s 1 (M' := ev_M r2.2 c w) (pc' := 44) (lv' := [(5, .ref u3), (0, .ref 0), (1, .int x1), (2, .int x2), (3, .int x3), (4, .int x4)]) (st' := [.ref u3]) (fun n => rfl) ?_
          refine ev_gf (x := .int (r2.2.1 u3 4)) rfl (congrArg Prod.fst hk_u3) rfl rfl ?_
          refine ev_sub (lv := [(0, .ref 0), (1, .int x1), (2, .int x2), (3, .int x3), (4, .int x4), (5, .ref u3)]) (mn_of rfl (by repeat (first | exact trivial | refine And.intro rfl ?_))) ?_
          exact ok_fX10_placeWithMost_c47 ih hk_u3 h
        · refine ev_s 1 (M' := ev_M r2.2 c w) (pc' := 36) (lv' := [(5, .ref u3), (0, .ref 0), (1, .int x1), (2, .int x2), (3, .int x3), (4, .int x4)]) (st' := [.ref u3]) (fun n => rfl) ?_
          refine ev_gf (x := .int (r2.2.1 u3 1)) rfl (congrArg Prod.fst hk_u3) rfl rfl ?_
          refine ev_s 1 (M' := ev_M r2.2 c w) (pc' := 47) (lv' := [(5, .ref u3), (0, .ref 0), (1, .int x1), (2, .int x2), (3, .int x3), (4, .int x4)]) (st' := [.int (r2.2.1 u3 1)]) (fun n => rfl) ?_
          refine ev_sub (lv := [(0, .ref 0), (1, .int x1), (2, .int x2), (3, .int x3), (4, .int x4), (5, .ref u3)]) (mn_of rfl (by repeat (first | exact trivial | refine And.intro rfl ?_))) ?_
          exact ok_fX10_placeWithMost_c47 ih hk_u3 h
    · cases h
      exact ev_r 2 (fun n => rfl)
def fX10_placeWithMost (m : mm_MM) (x1 : Int32) : Option (Int32 × mm_MM) :=
  fX10_placeWithMost_c7 fu m x1 ((-1) : Int32) ((-1) : Int32) 0
theorem ok_fX10_placeWithMost {m : mm_MM} {x1 : Int32} {q0 : Int32 × mm_MM} (h : fX10_placeWithMost m x1 = some q0) : Ev XL xs (d + 2) 165 (ev_M m c w) 0 (lv_args 0 [.ref 0, .int x1]) [] (fr_i c w q0) := by
  unfold fX10_placeWithMost at h
  refine ev_s 6 (M' := ev_M m c w) (pc' := 7) (lv' := [(4, .int 0), (3, .int ((-1) : Int32)), (2, .int ((-1) : Int32)), (0, .ref 0), (1, .int x1)]) (st' := []) (fun n => rfl) ?_
  refine ev_sub (lv := [(0, .ref 0), (1, .int x1), (2, .int ((-1) : Int32)), (3, .int ((-1) : Int32)), (4, .int 0)]) (mn_of rfl (by repeat (first | exact trivial | refine And.intro rfl ?_))) ?_
  exact ok_fX10_placeWithMost_c7 fu _ _ _ _ _ _ h
def fX10_richestRow_c73 (kr6 : mm_MM → Int32 → Int32 → Int32 → Option (Int32 × mm_MM)) (kr23 : mm_MM → Int32 → Int32 → Int32 → Int32 → Int32 → Option (Int32 × mm_MM)) (m : mm_MM) (x1 : Int32) (x2 : Int32) (x3 : Int32) (x5 : Int32) (s0 : Int32) (s1 : Int32) : Option (Int32 × mm_MM) :=
  kr23 m x1 x2 x3 (s0 + s1) (x5 + 1)
set_option maxRecDepth 20000 in
theorem ok_fX10_richestRow_c73 {kr6 : mm_MM → Int32 → Int32 → Int32 → Option (Int32 × mm_MM)} (hkr6 : ∀ (m : mm_MM) (x1 : Int32) (x2 : Int32) (x3 : Int32) (q0 : Int32 × mm_MM), kr6 m x1 x2 x3 = some q0 → Ev XL xs (d + 3) 166 (ev_M m c w) 6 [(0, .ref 0), (1, .int x1), (2, .int x2), (3, .int x3)] [] (fr_i c w q0)) {kr23 : mm_MM → Int32 → Int32 → Int32 → Int32 → Int32 → Option (Int32 × mm_MM)} (hkr23 : ∀ (m : mm_MM) (x1 : Int32) (x2 : Int32) (x3 : Int32) (x4 : Int32) (x5 : Int32) (q0 : Int32 × mm_MM), kr23 m x1 x2 x3 x4 x5 = some q0 → Ev XL xs (d + 3) 166 (ev_M m c w) 23 [(0, .ref 0), (1, .int x1), (2, .int x2), (3, .int x3), (4, .int x4), (5, .int x5)] [] (fr_i c w q0)) {m : mm_MM} {x1 : Int32} {x2 : Int32} {x3 : Int32} {x5 : Int32} {s0 : Int32} {s1 : Int32} {q0 : Int32 × mm_MM} (h : fX10_richestRow_c73 kr6 kr23 m x1 x2 x3 x5 s0 s1 = some q0) : Ev XL xs (d + 3) 166 (ev_M m c w) 73 [(0, .ref 0), (1, .int x1), (2, .int x2), (3, .int x3), (5, .int x5)] [.int s1, .int s0] (fr_i c w q0) := by
  unfold fX10_richestRow_c73 at h
  refine ev_s 4 (M' := ev_M m c w) (pc' := 23) (lv' := [(5, .int (x5 + 1)), (4, .int (s0 + s1)), (0, .ref 0), (1, .int x1), (2, .int x2), (3, .int x3)]) (st' := []) (fun n => rfl) ?_
  refine ev_sub (lv := [(0, .ref 0), (1, .int x1), (2, .int x2), (3, .int x3), (4, .int (s0 + s1)), (5, .int (x5 + 1))]) (mn_of rfl (by repeat (first | exact trivial | refine And.intro rfl ?_))) ?_
  exact hkr23 _ _ _ _ _ _ _ h
def fX10_richestRow_c72 (kr6 : mm_MM → Int32 → Int32 → Int32 → Option (Int32 × mm_MM)) (kr23 : mm_MM → Int32 → Int32 → Int32 → Int32 → Int32 → Option (Int32 × mm_MM)) (m : mm_MM) (x1 : Int32) (x2 : Int32) (x3 : Int32) (x5 : Int32) (s0 : Int32) : Option (Int32 × mm_MM) :=
  fX10_richestRow_c73 kr6 kr23 m x1 x2 x3 x5 s0 0
set_option maxRecDepth 20000 in
theorem ok_fX10_richestRow_c72 {kr6 : mm_MM → Int32 → Int32 → Int32 → Option (Int32 × mm_MM)} (hkr6 : ∀ (m : mm_MM) (x1 : Int32) (x2 : Int32) (x3 : Int32) (q0 : Int32 × mm_MM), kr6 m x1 x2 x3 = some q0 → Ev XL xs (d + 3) 166 (ev_M m c w) 6 [(0, .ref 0), (1, .int x1), (2, .int x2), (3, .int x3)] [] (fr_i c w q0)) {kr23 : mm_MM → Int32 → Int32 → Int32 → Int32 → Int32 → Option (Int32 × mm_MM)} (hkr23 : ∀ (m : mm_MM) (x1 : Int32) (x2 : Int32) (x3 : Int32) (x4 : Int32) (x5 : Int32) (q0 : Int32 × mm_MM), kr23 m x1 x2 x3 x4 x5 = some q0 → Ev XL xs (d + 3) 166 (ev_M m c w) 23 [(0, .ref 0), (1, .int x1), (2, .int x2), (3, .int x3), (4, .int x4), (5, .int x5)] [] (fr_i c w q0)) {m : mm_MM} {x1 : Int32} {x2 : Int32} {x3 : Int32} {x5 : Int32} {s0 : Int32} {q0 : Int32 × mm_MM} (h : fX10_richestRow_c72 kr6 kr23 m x1 x2 x3 x5 s0 = some q0) : Ev XL xs (d + 3) 166 (ev_M m c w) 72 [(0, .ref 0), (1, .int x1), (2, .int x2), (3, .int x3), (5, .int x5)] [.int s0] (fr_i c w q0) := by
  unfold fX10_richestRow_c72 at h
  refine ev_s 1 (M' := ev_M m c w) (pc' := 73) (lv' := [(0, .ref 0), (1, .int x1), (2, .int x2), (3, .int x3), (5, .int x5)]) (st' := [.int 0, .int s0]) (fun n => rfl) ?_
  exact ok_fX10_richestRow_c73 hkr6 hkr23 h
def fX10_richestRow_c93 (kr6 : mm_MM → Int32 → Int32 → Int32 → Option (Int32 × mm_MM)) (m : mm_MM) (x1 : Int32) (x2 : Int32) (x3 : Int32) : Option (Int32 × mm_MM) :=
  kr6 m x1 x2 (x3 + 1)
set_option maxRecDepth 20000 in
theorem ok_fX10_richestRow_c93 {kr6 : mm_MM → Int32 → Int32 → Int32 → Option (Int32 × mm_MM)} (hkr6 : ∀ (m : mm_MM) (x1 : Int32) (x2 : Int32) (x3 : Int32) (q0 : Int32 × mm_MM), kr6 m x1 x2 x3 = some q0 → Ev XL xs (d + 3) 166 (ev_M m c w) 6 [(0, .ref 0), (1, .int x1), (2, .int x2), (3, .int x3)] [] (fr_i c w q0)) {m : mm_MM} {x1 : Int32} {x2 : Int32} {x3 : Int32} {q0 : Int32 × mm_MM} (h : fX10_richestRow_c93 kr6 m x1 x2 x3 = some q0) : Ev XL xs (d + 3) 166 (ev_M m c w) 93 [(0, .ref 0), (1, .int x1), (2, .int x2), (3, .int x3)] [] (fr_i c w q0) := by
  unfold fX10_richestRow_c93 at h
  refine ev_s 2 (M' := ev_M m c w) (pc' := 6) (lv' := [(3, .int (x3 + 1)), (0, .ref 0), (1, .int x1), (2, .int x2)]) (st' := []) (fun n => rfl) ?_
  refine ev_sub (lv := [(0, .ref 0), (1, .int x1), (2, .int x2), (3, .int (x3 + 1))]) (mn_of rfl (by repeat (first | exact trivial | refine And.intro rfl ?_))) ?_
  exact hkr6 _ _ _ _ _ h
def fX10_richestRow_c23 (kr6 : mm_MM → Int32 → Int32 → Int32 → Option (Int32 × mm_MM)) : Nat → mm_MM → Int32 → Int32 → Int32 → Int32 → Int32 → Option (Int32 × mm_MM)
  | 0 => fun _ _ _ _ _ _ => none
  | n + 1 => fun m x1 x2 x3 x4 x5 =>
    (if x5 < 8 then
      (fX7_findLying m 29 x5).bind fun r2 =>
       match r2.1 with
       | none =>
         fX10_richestRow_c72 kr6 (fX10_richestRow_c23 kr6 n) r2.2 x1 x2 x3 x5 x4
       | some u3 =>
         if mm_kd u3 = (9, 6) then
           (fX1_rowOf r2.2 14 (r2.2.1 u3 3)).bind fun r4 =>
            (if r4.1 = x3 then
              fX10_richestRow_c73 kr6 (fX10_richestRow_c23 kr6 n) r4.2 x1 x2 x3 x5 x4 (r4.2.1 u3 1)
             else
              fX10_richestRow_c72 kr6 (fX10_richestRow_c23 kr6 n) r4.2 x1 x2 x3 x5 x4)
         else none
     else
      (if x4 ≤ x2 then
        fX10_richestRow_c93 kr6 m x1 x2 x3
       else
        fX10_richestRow_c93 kr6 m x3 x4 x3))
set_option maxRecDepth 20000 in
theorem ok_fX10_richestRow_c23 {kr6 : mm_MM → Int32 → Int32 → Int32 → Option (Int32 × mm_MM)} (hkr6 : ∀ (m : mm_MM) (x1 : Int32) (x2 : Int32) (x3 : Int32) (q0 : Int32 × mm_MM), kr6 m x1 x2 x3 = some q0 → Ev XL xs (d + 3) 166 (ev_M m c w) 6 [(0, .ref 0), (1, .int x1), (2, .int x2), (3, .int x3)] [] (fr_i c w q0)) : ∀ (n : Nat) (m : mm_MM) (x1 : Int32) (x2 : Int32) (x3 : Int32) (x4 : Int32) (x5 : Int32) (q0 : Int32 × mm_MM), fX10_richestRow_c23 kr6 n m x1 x2 x3 x4 x5 = some q0 → Ev XL xs (d + 3) 166 (ev_M m c w) 23 [(0, .ref 0), (1, .int x1), (2, .int x2), (3, .int x3), (4, .int x4), (5, .int x5)] [] (fr_i c w q0) := by
  intro n
  induction n with
  | zero => intro m x1 x2 x3 x4 x5 q0 h; exact absurd (show (none : Option (Int32 × mm_MM)) = some q0 from h) (by simp)
  | succ n ih =>
    intro m x1 x2 x3 x4 x5 q0 h
    unfold fX10_richestRow_c23 at h
    refine ev_i 3 (M1 := ev_M m c w) (pc1 := 30) (lv1 := [(0, .ref 0), (1, .int x1), (2, .int x2), (3, .int x3), (4, .int x4), (5, .int x5)]) (st1 := []) (M2 := ev_M m c w) (pc2 := 82) (lv2 := [(0, .ref 0), (1, .int x1), (2, .int x2), (3, .int x3), (4, .int x4), (5, .int x5)]) (st2 := []) (fun n => rfl) h (fun hc1 h => ?_) (fun hc1 h => ?_)
    · obtain ⟨r2, hr2, h⟩ := Option.bind_eq_some_iff.mp h
      refine ev_c 4 (y' := 70) (M1 := ev_M m c w) (la := lv_args 0 [.ref 29, .int x5]) (rest := []) (pc' := 39) (lv' := [(0, .ref 0), (1, .int x1), (2, .int x2), (3, .int x3), (4, .int x4), (5, .int x5)]) (fun n => rfl) (ok_fX7_findLying (rfl : mm_kd 29 = (7, 8)) hr2) ?_
      show Ev XL xs _ 166 (ev_M r2.2 c w) 39 [(0, .ref 0), (1, .int x1), (2, .int x2), (3, .int x3), (4, .int x4), (5, .int x5)] [va_rf r2.1] _
      generalize r2.1 = o6 at h ⊢
      cases o6 with
      | none =>
        refine ev_s 4 (M' := ev_M r2.2 c w) (pc' := 72) (lv' := [(6, .null), (0, .ref 0), (1, .int x1), (2, .int x2), (3, .int x3), (4, .int x4), (5, .int x5)]) (st' := [.int x4]) (fun n => rfl) ?_
        refine ev_sub (lv := [(0, .ref 0), (1, .int x1), (2, .int x2), (3, .int x3), (5, .int x5)]) (mn_of rfl (by repeat (first | exact trivial | refine And.intro rfl ?_))) ?_
        exact ok_fX10_richestRow_c72 hkr6 ih h
      | some u3 =>
        obtain ⟨hk_u3, h⟩ := sd_ift h
        refine ev_s 7 (M' := ev_M r2.2 c w) (pc' := 54) (lv' := [(6, .ref u3), (0, .ref 0), (1, .int x1), (2, .int x2), (3, .int x3), (4, .int x4), (5, .int x5)]) (st' := [.ref u3, .ref 14, .int x4]) (fun n => rfl) ?_
        refine ev_gf (x := .int (r2.2.1 u3 3)) rfl (congrArg Prod.fst hk_u3) rfl rfl ?_
        obtain ⟨r4, hr4, h⟩ := Option.bind_eq_some_iff.mp h
        refine ev_c 1 (y' := 5) (M1 := ev_M r2.2 c w) (la := lv_args 0 [.ref 14, .int (r2.2.1 u3 3)]) (rest := [.int x4]) (pc' := 60) (lv' := [(6, .ref u3), (0, .ref 0), (1, .int x1), (2, .int x2), (3, .int x3), (4, .int x4), (5, .int x5)]) (fun n => rfl) (ok_fX1_rowOf (rfl : mm_kd 14 = (1, 10)) hr4) ?_
        show Ev XL xs _ 166 (ev_M r4.2 c w) 60 [(6, .ref u3), (0, .ref 0), (1, .int x1), (2, .int x2), (3, .int x3), (4, .int x4), (5, .int x5)] [.int r4.1, .int x4] _
        refine ev_i 2 (M1 := ev_M r4.2 c w) (pc1 := 64) (lv1 := [(6, .ref u3), (0, .ref 0), (1, .int x1), (2, .int x2), (3, .int x3), (4, .int x4), (5, .int x5)]) (st1 := [.int x4]) (M2 := ev_M r4.2 c w) (pc2 := 72) (lv2 := [(6, .ref u3), (0, .ref 0), (1, .int x1), (2, .int x2), (3, .int x3), (4, .int x4), (5, .int x5)]) (st2 := [.int x4]) (fun n => rfl) h (fun hc5 h => ?_) (fun hc5 h => ?_)
        · refine ev_s 1 (M' := ev_M r4.2 c w) (pc' := 66) (lv' := [(6, .ref u3), (0, .ref 0), (1, .int x1), (2, .int x2), (3, .int x3), (4, .int x4), (5, .int x5)]) (st' := [.ref u3, .int x4]) (fun n => rfl) ?_
          refine ev_gf (x := .int (r4.2.1 u3 1)) rfl (congrArg Prod.fst hk_u3) rfl rfl ?_
          refine ev_s 1 (M' := ev_M r4.2 c w) (pc' := 73) (lv' := [(6, .ref u3), (0, .ref 0), (1, .int x1), (2, .int x2), (3, .int x3), (4, .int x4), (5, .int x5)]) (st' := [.int (r4.2.1 u3 1), .int x4]) (fun n => rfl) ?_
          refine ev_sub (lv := [(0, .ref 0), (1, .int x1), (2, .int x2), (3, .int x3), (5, .int x5)]) (mn_of rfl (by repeat (first | exact trivial | refine And.intro rfl ?_))) ?_
          exact ok_fX10_richestRow_c73 hkr6 ih h
        · refine ev_sub (lv := [(0, .ref 0), (1, .int x1), (2, .int x2), (3, .int x3), (5, .int x5)]) (mn_of rfl (by repeat (first | exact trivial | refine And.intro rfl ?_))) ?_
          exact ok_fX10_richestRow_c72 hkr6 ih h
    · refine ev_i 3 (M1 := ev_M m c w) (pc1 := 93) (lv1 := [(0, .ref 0), (1, .int x1), (2, .int x2), (3, .int x3), (4, .int x4), (5, .int x5)]) (st1 := []) (M2 := ev_M m c w) (pc2 := 88) (lv2 := [(0, .ref 0), (1, .int x1), (2, .int x2), (3, .int x3), (4, .int x4), (5, .int x5)]) (st2 := []) (fun n => rfl) h (fun hc7 h => ?_) (fun hc7 h => ?_)
      · refine ev_sub (lv := [(0, .ref 0), (1, .int x1), (2, .int x2), (3, .int x3)]) (mn_of rfl (by repeat (first | exact trivial | refine And.intro rfl ?_))) ?_
        exact ok_fX10_richestRow_c93 hkr6 h
      · refine ev_s 4 (M' := ev_M m c w) (pc' := 93) (lv' := [(1, .int x3), (2, .int x4), (0, .ref 0), (3, .int x3), (4, .int x4), (5, .int x5)]) (st' := []) (fun n => rfl) ?_
        refine ev_sub (lv := [(0, .ref 0), (1, .int x3), (2, .int x4), (3, .int x3)]) (mn_of rfl (by repeat (first | exact trivial | refine And.intro rfl ?_))) ?_
        exact ok_fX10_richestRow_c93 hkr6 h
def fX10_richestRow_c6 : Nat → mm_MM → Int32 → Int32 → Int32 → Option (Int32 × mm_MM)
  | 0 => fun _ _ _ _ => none
  | n + 1 => fun m x1 x2 x3 =>
    (if x3 < m.1 14 4 then
      fX10_richestRow_c23 (fX10_richestRow_c6 n) fu m x1 x2 x3 0 0
     else
      some (x1, m))
set_option maxRecDepth 20000 in
theorem ok_fX10_richestRow_c6 : ∀ (n : Nat) (m : mm_MM) (x1 : Int32) (x2 : Int32) (x3 : Int32) (q0 : Int32 × mm_MM), fX10_richestRow_c6 n m x1 x2 x3 = some q0 → Ev XL xs (d + 3) 166 (ev_M m c w) 6 [(0, .ref 0), (1, .int x1), (2, .int x2), (3, .int x3)] [] (fr_i c w q0) := by
  intro n
  induction n with
  | zero => intro m x1 x2 x3 q0 h; exact absurd (show (none : Option (Int32 × mm_MM)) = some q0 from h) (by simp)
  | succ n ih =>
    intro m x1 x2 x3 q0 h
    unfold fX10_richestRow_c6 at h
    refine ev_i 5 (M1 := ev_M m c w) (pc1 := 17) (lv1 := [(0, .ref 0), (1, .int x1), (2, .int x2), (3, .int x3)]) (st1 := []) (M2 := ev_M m c w) (pc2 := 99) (lv2 := [(0, .ref 0), (1, .int x1), (2, .int x2), (3, .int x3)]) (st2 := []) (fun n => rfl) h (fun hc1 h => ?_) (fun hc1 h => ?_)
    · refine ev_s 4 (M' := ev_M m c w) (pc' := 23) (lv' := [(5, .int 0), (4, .int 0), (0, .ref 0), (1, .int x1), (2, .int x2), (3, .int x3)]) (st' := []) (fun n => rfl) ?_
      refine ev_sub (lv := [(0, .ref 0), (1, .int x1), (2, .int x2), (3, .int x3), (4, .int 0), (5, .int 0)]) (mn_of rfl (by repeat (first | exact trivial | refine And.intro rfl ?_))) ?_
      exact ok_fX10_richestRow_c23 ih fu _ _ _ _ _ _ _ h
    · cases h
      exact ev_r 2 (fun n => rfl)
def fX10_richestRow (m : mm_MM) : Option (Int32 × mm_MM) :=
  fX10_richestRow_c6 fu m 0 ((-1) : Int32) 0
set_option maxRecDepth 20000 in
theorem ok_fX10_richestRow {m : mm_MM} {q0 : Int32 × mm_MM} (h : fX10_richestRow m = some q0) : Ev XL xs (d + 3) 166 (ev_M m c w) 0 (lv_args 0 [.ref 0]) [] (fr_i c w q0) := by
  unfold fX10_richestRow at h
  refine ev_s 6 (M' := ev_M m c w) (pc' := 6) (lv' := [(3, .int 0), (2, .int ((-1) : Int32)), (1, .int 0), (0, .ref 0)]) (st' := []) (fun n => rfl) ?_
  refine ev_sub (lv := [(0, .ref 0), (1, .int 0), (2, .int ((-1) : Int32)), (3, .int 0)]) (mn_of rfl (by repeat (first | exact trivial | refine And.intro rfl ?_))) ?_
  exact ok_fX10_richestRow_c6 fu _ _ _ _ _ h
def fX10_dampestRow_c42 (kr4 : mm_MM → Int32 → Int32 → Option (Int32 × mm_MM)) (m : mm_MM) (x1 : Int32) (x2 : Int32) : Option (Int32 × mm_MM) :=
  kr4 m x1 (x2 + 1)
theorem ok_fX10_dampestRow_c42 {kr4 : mm_MM → Int32 → Int32 → Option (Int32 × mm_MM)} (hkr4 : ∀ (m : mm_MM) (x1 : Int32) (x2 : Int32) (q0 : Int32 × mm_MM), kr4 m x1 x2 = some q0 → Ev XL xs (d + 1) 167 (ev_M m c w) 4 [(0, .ref 0), (1, .int x1), (2, .int x2)] [] (fr_i c w q0)) {m : mm_MM} {x1 : Int32} {x2 : Int32} {q0 : Int32 × mm_MM} (h : fX10_dampestRow_c42 kr4 m x1 x2 = some q0) : Ev XL xs (d + 1) 167 (ev_M m c w) 42 [(0, .ref 0), (1, .int x1), (2, .int x2)] [] (fr_i c w q0) := by
  unfold fX10_dampestRow_c42 at h
  refine ev_s 2 (M' := ev_M m c w) (pc' := 4) (lv' := [(2, .int (x2 + 1)), (0, .ref 0), (1, .int x1)]) (st' := []) (fun n => rfl) ?_
  refine ev_sub (lv := [(0, .ref 0), (1, .int x1), (2, .int (x2 + 1))]) (mn_of rfl (by repeat (first | exact trivial | refine And.intro rfl ?_))) ?_
  exact hkr4 _ _ _ _ h
def fX10_dampestRow_c4 : Nat → mm_MM → Int32 → Int32 → Option (Int32 × mm_MM)
  | 0 => fun _ _ _ => none
  | n + 1 => fun m x1 x2 =>
    (if x2 < m.1 14 4 then
      (fX10_pick m 15 x2).bind fun r2 =>
       (fX10_pick r2.2 15 x1).bind fun r3 =>
        (if r2.1 ≤ r3.1 then
          fX10_dampestRow_c42 (fX10_dampestRow_c4 n) r3.2 x1 x2
         else
          fX10_dampestRow_c42 (fX10_dampestRow_c4 n) r3.2 x2 x2)
     else
      some (x1, m))
theorem ok_fX10_dampestRow_c4 : ∀ (n : Nat) (m : mm_MM) (x1 : Int32) (x2 : Int32) (q0 : Int32 × mm_MM), fX10_dampestRow_c4 n m x1 x2 = some q0 → Ev XL xs (d + 1) 167 (ev_M m c w) 4 [(0, .ref 0), (1, .int x1), (2, .int x2)] [] (fr_i c w q0) := by
  intro n
  induction n with
  | zero => intro m x1 x2 q0 h; exact absurd (show (none : Option (Int32 × mm_MM)) = some q0 from h) (by simp)
  | succ n ih =>
    intro m x1 x2 q0 h
    unfold fX10_dampestRow_c4 at h
    refine ev_i 5 (M1 := ev_M m c w) (pc1 := 15) (lv1 := [(0, .ref 0), (1, .int x1), (2, .int x2)]) (st1 := []) (M2 := ev_M m c w) (pc2 := 48) (lv2 := [(0, .ref 0), (1, .int x1), (2, .int x2)]) (st2 := []) (fun n => rfl) h (fun hc1 h => ?_) (fun hc1 h => ?_)
    · obtain ⟨r2, hr2, h⟩ := Option.bind_eq_some_iff.mp h
      refine ev_c 5 (y' := 175) (M1 := ev_M m c w) (la := lv_args 0 [.ref 15, .int x2]) (rest := []) (pc' := 26) (lv' := [(0, .ref 0), (1, .int x1), (2, .int x2)]) (fun n => rfl) (ok_fX10_pick (congrArg Prod.fst (rfl : mm_kd 15 = (20, 4))) hr2) ?_
      show Ev XL xs _ 167 (ev_M r2.2 c w) 26 [(0, .ref 0), (1, .int x1), (2, .int x2)] [.int r2.1] _
      obtain ⟨r3, hr3, h⟩ := Option.bind_eq_some_iff.mp h
      refine ev_c 5 (y' := 175) (M1 := ev_M r2.2 c w) (la := lv_args 0 [.ref 15, .int x1]) (rest := [.int r2.1]) (pc' := 37) (lv' := [(0, .ref 0), (1, .int x1), (2, .int x2)]) (fun n => rfl) (ok_fX10_pick (congrArg Prod.fst (rfl : mm_kd 15 = (20, 4))) hr3) ?_
      show Ev XL xs _ 167 (ev_M r3.2 c w) 37 [(0, .ref 0), (1, .int x1), (2, .int x2)] [.int r3.1, .int r2.1] _
      refine ev_i 1 (M1 := ev_M r3.2 c w) (pc1 := 42) (lv1 := [(0, .ref 0), (1, .int x1), (2, .int x2)]) (st1 := []) (M2 := ev_M r3.2 c w) (pc2 := 40) (lv2 := [(0, .ref 0), (1, .int x1), (2, .int x2)]) (st2 := []) (fun n => rfl) h (fun hc4 h => ?_) (fun hc4 h => ?_)
      · exact ok_fX10_dampestRow_c42 ih h
      · refine ev_s 2 (M' := ev_M r3.2 c w) (pc' := 42) (lv' := [(1, .int x2), (0, .ref 0), (2, .int x2)]) (st' := []) (fun n => rfl) ?_
        refine ev_sub (lv := [(0, .ref 0), (1, .int x2), (2, .int x2)]) (mn_of rfl (by repeat (first | exact trivial | refine And.intro rfl ?_))) ?_
        exact ok_fX10_dampestRow_c42 ih h
    · cases h
      exact ev_r 2 (fun n => rfl)
def fX10_dampestRow (m : mm_MM) : Option (Int32 × mm_MM) :=
  fX10_dampestRow_c4 fu m 0 1
theorem ok_fX10_dampestRow {m : mm_MM} {q0 : Int32 × mm_MM} (h : fX10_dampestRow m = some q0) : Ev XL xs (d + 1) 167 (ev_M m c w) 0 (lv_args 0 [.ref 0]) [] (fr_i c w q0) := by
  unfold fX10_dampestRow at h
  refine ev_s 4 (M' := ev_M m c w) (pc' := 4) (lv' := [(2, .int 1), (1, .int 0), (0, .ref 0)]) (st' := []) (fun n => rfl) ?_
  refine ev_sub (lv := [(0, .ref 0), (1, .int 0), (2, .int 1)]) (mn_of rfl (by repeat (first | exact trivial | refine And.intro rfl ?_))) ?_
  exact ok_fX10_dampestRow_c4 fu _ _ _ _ h
def fX10_isSo_c41 (m : mm_MM) (s0 : Int32) : Option (Int32 × mm_MM) :=
  (if s0 = 0 ∨ s0 = 1 then some (s0, m) else none)
theorem ok_fX10_isSo_c41 {m : mm_MM} {s0 : Int32} {q0 : Int32 × mm_MM} (h : fX10_isSo_c41 m s0 = some q0) : Ev XL xs (d + 1) 169 (ev_M m c w) 41 [] [.int s0] (fr_i c w q0) := by
  unfold fX10_isSo_c41 at h
  exact ev_rg 1 (f := fr_i c w) (fun n => rfl) h
def fX10_isSo_c68 (m : mm_MM) (s0 : Int32) : Option (Int32 × mm_MM) :=
  (if s0 = 0 ∨ s0 = 1 then some (s0, m) else none)
theorem ok_fX10_isSo_c68 {m : mm_MM} {s0 : Int32} {q0 : Int32 × mm_MM} (h : fX10_isSo_c68 m s0 = some q0) : Ev XL xs (d + 1) 169 (ev_M m c w) 68 [] [.int s0] (fr_i c w q0) := by
  unfold fX10_isSo_c68 at h
  exact ev_rg 1 (f := fr_i c w) (fun n => rfl) h
def fX10_isSo_c67 (m : mm_MM) : Option (Int32 × mm_MM) :=
  fX10_isSo_c68 m 0
theorem ok_fX10_isSo_c67 {m : mm_MM} {q0 : Int32 × mm_MM} (h : fX10_isSo_c67 m = some q0) : Ev XL xs (d + 1) 169 (ev_M m c w) 67 [] [] (fr_i c w q0) := by
  unfold fX10_isSo_c67 at h
  refine ev_s 1 (M' := ev_M m c w) (pc' := 68) (lv' := []) (st' := [.int 0]) (fun n => rfl) ?_
  exact ok_fX10_isSo_c68 h
def fX10_isSo (m : mm_MM) (t1 : Nat) (x2 : Int32) : Option (Int32 × mm_MM) :=
  (if x2 = 5 then
    (if m.1 t1 3 = ((-1) : Int32) then
      fX10_isSo_c41 m 0
     else
      fX10_isSo_c41 m 1)
   else (if x2 = 6 then
    (fX10_isRipe m t1).bind fun r3 =>
     (if r3.1 = 0 ∨ r3.1 = 1 then some (r3.1, r3.2) else none)
   else (if x2 = 7 then
    (if m.1 t1 3 = ((-1) : Int32) then
      fX10_isSo_c67 m
     else
      (if m.1 t1 5 = 0 then
        fX10_isSo_c68 m 1
       else
        fX10_isSo_c67 m))
   else some (1, m))))
theorem ok_fX10_isSo {m : mm_MM} {t1 : Nat} {x2 : Int32} {q0 : Int32 × mm_MM} (hk_t1 : mm_kd t1 = (9, 6)) (h : fX10_isSo m t1 x2 = some q0) : Ev XL xs (d + 1) 169 (ev_M m c w) 0 (lv_args 0 [.ref 0, .ref t1, .int x2]) [] (fr_i c w q0) := by
  unfold fX10_isSo at h
  refine ev_s 1 (M' := ev_M m c w) (pc' := 1) (lv' := [(0, .ref 0), (1, .ref t1), (2, .int x2)]) (st' := [.int x2]) (fun n => rfl) ?_
  refine ev_e 5 h (fun hv2 h => ?_) (fun hv2 h => ?_)
  · refine ev_s 1 (M' := ev_M m c w) (pc' := 28) (lv' := [(0, .ref 0), (1, .ref t1), (2, .int x2)]) (st' := []) (fun n => by rw [hv2]; rfl) ?_
    refine ev_s 1 (M' := ev_M m c w) (pc' := 29) (lv' := [(0, .ref 0), (1, .ref t1), (2, .int x2)]) (st' := [.ref t1]) (fun n => rfl) ?_
    refine ev_gf (x := .int (m.1 t1 3)) rfl (congrArg Prod.fst hk_t1) rfl rfl ?_
    refine ev_i 2 (M1 := ev_M m c w) (pc1 := 40) (lv1 := [(0, .ref 0), (1, .ref t1), (2, .int x2)]) (st1 := []) (M2 := ev_M m c w) (pc2 := 36) (lv2 := [(0, .ref 0), (1, .ref t1), (2, .int x2)]) (st2 := []) (fun n => rfl) h (fun hc1 h => ?_) (fun hc1 h => ?_)
    · refine ev_s 1 (M' := ev_M m c w) (pc' := 41) (lv' := [(0, .ref 0), (1, .ref t1), (2, .int x2)]) (st' := [.int 0]) (fun n => rfl) ?_
      refine ev_sub (lv := []) (mn_of rfl (by repeat (first | exact trivial | refine And.intro rfl ?_))) ?_
      exact ok_fX10_isSo_c41 h
    · refine ev_s 2 (M' := ev_M m c w) (pc' := 41) (lv' := [(0, .ref 0), (1, .ref t1), (2, .int x2)]) (st' := [.int 1]) (fun n => rfl) ?_
      refine ev_sub (lv := []) (mn_of rfl (by repeat (first | exact trivial | refine And.intro rfl ?_))) ?_
      exact ok_fX10_isSo_c41 h
  refine ev_e 6 h (fun hv4 h => ?_) (fun hv4 h => ?_)
  · refine ev_s 1 (M' := ev_M m c w) (pc' := 42) (lv' := [(0, .ref 0), (1, .ref t1), (2, .int x2)]) (st' := []) (fun n => by rw [hv4]; rfl) ?_
    obtain ⟨r3, hr3, h⟩ := Option.bind_eq_some_iff.mp h
    refine ev_c 3 (y' := 106) (M1 := ev_M m c w) (la := lv_args 0 [.ref 0, .ref t1]) (rest := []) (pc' := 47) (lv' := [(0, .ref 0), (1, .ref t1), (2, .int x2)]) (fun n => rfl) (ok_fX10_isRipe hk_t1 hr3) ?_
    show Ev XL xs _ 169 (ev_M r3.2 c w) 47 [(0, .ref 0), (1, .ref t1), (2, .int x2)] [.int r3.1] _
    exact ev_rg 1 (f := fr_i c w) (fun n => rfl) h
  refine ev_e 7 h (fun hv7 h => ?_) (fun hv7 h => ?_)
  · refine ev_s 1 (M' := ev_M m c w) (pc' := 48) (lv' := [(0, .ref 0), (1, .ref t1), (2, .int x2)]) (st' := []) (fun n => by rw [hv7]; rfl) ?_
    refine ev_s 1 (M' := ev_M m c w) (pc' := 49) (lv' := [(0, .ref 0), (1, .ref t1), (2, .int x2)]) (st' := [.ref t1]) (fun n => rfl) ?_
    refine ev_gf (x := .int (m.1 t1 3)) rfl (congrArg Prod.fst hk_t1) rfl rfl ?_
    refine ev_i 2 (M1 := ev_M m c w) (pc1 := 67) (lv1 := [(0, .ref 0), (1, .ref t1), (2, .int x2)]) (st1 := []) (M2 := ev_M m c w) (pc2 := 56) (lv2 := [(0, .ref 0), (1, .ref t1), (2, .int x2)]) (st2 := []) (fun n => rfl) h (fun hc5 h => ?_) (fun hc5 h => ?_)
    · refine ev_sub (lv := []) (mn_of rfl (by repeat (first | exact trivial | refine And.intro rfl ?_))) ?_
      exact ok_fX10_isSo_c67 h
    · refine ev_s 1 (M' := ev_M m c w) (pc' := 57) (lv' := [(0, .ref 0), (1, .ref t1), (2, .int x2)]) (st' := [.ref t1]) (fun n => rfl) ?_
      refine ev_gf (x := .int (m.1 t1 5)) rfl (congrArg Prod.fst hk_t1) rfl rfl ?_
      refine ev_i 1 (M1 := ev_M m c w) (pc1 := 63) (lv1 := [(0, .ref 0), (1, .ref t1), (2, .int x2)]) (st1 := []) (M2 := ev_M m c w) (pc2 := 67) (lv2 := [(0, .ref 0), (1, .ref t1), (2, .int x2)]) (st2 := []) (fun n => rfl) h (fun hc6 h => ?_) (fun hc6 h => ?_)
      · refine ev_s 2 (M' := ev_M m c w) (pc' := 68) (lv' := [(0, .ref 0), (1, .ref t1), (2, .int x2)]) (st' := [.int 1]) (fun n => rfl) ?_
        refine ev_sub (lv := []) (mn_of rfl (by repeat (first | exact trivial | refine And.intro rfl ?_))) ?_
        exact ok_fX10_isSo_c68 h
      · refine ev_sub (lv := []) (mn_of rfl (by repeat (first | exact trivial | refine And.intro rfl ?_))) ?_
        exact ok_fX10_isSo_c67 h
  have ghv2 : (x2 : Int32).toInt ≠ 5 := fun z => hv2 (Int32.toInt_inj.mp (z.trans rfl))
  have ghv4 : (x2 : Int32).toInt ≠ 6 := fun z => hv4 (Int32.toInt_inj.mp (z.trans rfl))
  have ghv7 : (x2 : Int32).toInt ≠ 7 := fun z => hv7 (Int32.toInt_inj.mp (z.trans rfl))
  refine ev_td (M' := ev_M m c w) (pc' := 69) (lv' := [(0, .ref 0), (1, .ref t1), (2, .int x2)]) (st' := []) rfl (by omega) rfl ?_
  cases h
  exact ev_r 2 (fun n => rfl)
def fX10_placesThatAre_c41 (kr4 : mm_MM → Int32 → Int32 → Int32 → Option (Int32 × mm_MM)) (m : mm_MM) (x1 : Int32) (x2 : Int32) (x3 : Int32) : Option (Int32 × mm_MM) :=
  kr4 m x1 x2 (x3 + 1)
theorem ok_fX10_placesThatAre_c41 {kr4 : mm_MM → Int32 → Int32 → Int32 → Option (Int32 × mm_MM)} (hkr4 : ∀ (m : mm_MM) (x1 : Int32) (x2 : Int32) (x3 : Int32) (q0 : Int32 × mm_MM), kr4 m x1 x2 x3 = some q0 → Ev XL xs (d + 2) 168 (ev_M m c w) 4 [(0, .ref 0), (1, .int x1), (2, .int x2), (3, .int x3)] [] (fr_i c w q0)) {m : mm_MM} {x1 : Int32} {x2 : Int32} {x3 : Int32} {q0 : Int32 × mm_MM} (h : fX10_placesThatAre_c41 kr4 m x1 x2 x3 = some q0) : Ev XL xs (d + 2) 168 (ev_M m c w) 41 [(0, .ref 0), (1, .int x1), (2, .int x2), (3, .int x3)] [] (fr_i c w q0) := by
  unfold fX10_placesThatAre_c41 at h
  refine ev_s 2 (M' := ev_M m c w) (pc' := 4) (lv' := [(3, .int (x3 + 1)), (0, .ref 0), (1, .int x1), (2, .int x2)]) (st' := []) (fun n => rfl) ?_
  refine ev_sub (lv := [(0, .ref 0), (1, .int x1), (2, .int x2), (3, .int (x3 + 1))]) (mn_of rfl (by repeat (first | exact trivial | refine And.intro rfl ?_))) ?_
  exact hkr4 _ _ _ _ _ h
def fX10_placesThatAre_c4 : Nat → mm_MM → Int32 → Int32 → Int32 → Option (Int32 × mm_MM)
  | 0 => fun _ _ _ _ => none
  | n + 1 => fun m x1 x2 x3 =>
    (if x3 < 8 then
      (fX7_find m 29 x3).bind fun r2 =>
       match r2.1 with
       | none =>
         fX10_placesThatAre_c41 (fX10_placesThatAre_c4 n) r2.2 x1 x2 x3
       | some u3 =>
         if mm_kd u3 = (9, 6) then
           (fX10_isSo r2.2 u3 x1).bind fun r4 =>
            (if r4.1 = 0 then
              fX10_placesThatAre_c41 (fX10_placesThatAre_c4 n) r4.2 x1 x2 x3
             else
              fX10_placesThatAre_c41 (fX10_placesThatAre_c4 n) r4.2 x1 (x2 ||| ((1 : Int32) <<< (x3 &&& 31))) x3)
         else none
     else
      some (x2, m))
theorem ok_fX10_placesThatAre_c4 : ∀ (n : Nat) (m : mm_MM) (x1 : Int32) (x2 : Int32) (x3 : Int32) (q0 : Int32 × mm_MM), fX10_placesThatAre_c4 n m x1 x2 x3 = some q0 → Ev XL xs (d + 2) 168 (ev_M m c w) 4 [(0, .ref 0), (1, .int x1), (2, .int x2), (3, .int x3)] [] (fr_i c w q0) := by
  intro n
  induction n with
  | zero => intro m x1 x2 x3 q0 h; exact absurd (show (none : Option (Int32 × mm_MM)) = some q0 from h) (by simp)
  | succ n ih =>
    intro m x1 x2 x3 q0 h
    unfold fX10_placesThatAre_c4 at h
    refine ev_i 3 (M1 := ev_M m c w) (pc1 := 10) (lv1 := [(0, .ref 0), (1, .int x1), (2, .int x2), (3, .int x3)]) (st1 := []) (M2 := ev_M m c w) (pc2 := 47) (lv2 := [(0, .ref 0), (1, .int x1), (2, .int x2), (3, .int x3)]) (st2 := []) (fun n => rfl) h (fun hc1 h => ?_) (fun hc1 h => ?_)
    · obtain ⟨r2, hr2, h⟩ := Option.bind_eq_some_iff.mp h
      refine ev_c 4 (y' := 69) (M1 := ev_M m c w) (la := lv_args 0 [.ref 29, .int x3]) (rest := []) (pc' := 18) (lv' := [(0, .ref 0), (1, .int x1), (2, .int x2), (3, .int x3)]) (fun n => rfl) (ok_fX7_find (rfl : mm_kd 29 = (7, 8)) hr2) ?_
      show Ev XL xs _ 168 (ev_M r2.2 c w) 18 [(0, .ref 0), (1, .int x1), (2, .int x2), (3, .int x3)] [va_rf r2.1] _
      generalize r2.1 = o6 at h ⊢
      cases o6 with
      | none =>
        refine ev_s 3 (M' := ev_M r2.2 c w) (pc' := 41) (lv' := [(4, .null), (0, .ref 0), (1, .int x1), (2, .int x2), (3, .int x3)]) (st' := []) (fun n => rfl) ?_
        refine ev_sub (lv := [(0, .ref 0), (1, .int x1), (2, .int x2), (3, .int x3)]) (mn_of rfl (by repeat (first | exact trivial | refine And.intro rfl ?_))) ?_
        exact ok_fX10_placesThatAre_c41 ih h
      | some u3 =>
        obtain ⟨hk_u3, h⟩ := sd_ift h
        obtain ⟨r4, hr4, h⟩ := Option.bind_eq_some_iff.mp h
        refine ev_c 7 (y' := 169) (M1 := ev_M r2.2 c w) (la := lv_args 0 [.ref 0, .ref u3, .int x1]) (rest := []) (pc' := 32) (lv' := [(4, .ref u3), (0, .ref 0), (1, .int x1), (2, .int x2), (3, .int x3)]) (fun n => rfl) (ok_fX10_isSo hk_u3 hr4) ?_
        show Ev XL xs _ 168 (ev_M r4.2 c w) 32 [(4, .ref u3), (0, .ref 0), (1, .int x1), (2, .int x2), (3, .int x3)] [.int r4.1] _
        refine ev_i 1 (M1 := ev_M r4.2 c w) (pc1 := 41) (lv1 := [(4, .ref u3), (0, .ref 0), (1, .int x1), (2, .int x2), (3, .int x3)]) (st1 := []) (M2 := ev_M r4.2 c w) (pc2 := 35) (lv2 := [(4, .ref u3), (0, .ref 0), (1, .int x1), (2, .int x2), (3, .int x3)]) (st2 := []) (fun n => rfl) h (fun hc5 h => ?_) (fun hc5 h => ?_)
        · refine ev_sub (lv := [(0, .ref 0), (1, .int x1), (2, .int x2), (3, .int x3)]) (mn_of rfl (by repeat (first | exact trivial | refine And.intro rfl ?_))) ?_
          exact ok_fX10_placesThatAre_c41 ih h
        · refine ev_s 6 (M' := ev_M r4.2 c w) (pc' := 41) (lv' := [(2, .int (x2 ||| ((1 : Int32) <<< (x3 &&& 31)))), (4, .ref u3), (0, .ref 0), (1, .int x1), (3, .int x3)]) (st' := []) (fun n => rfl) ?_
          refine ev_sub (lv := [(0, .ref 0), (1, .int x1), (2, .int (x2 ||| ((1 : Int32) <<< (x3 &&& 31)))), (3, .int x3)]) (mn_of rfl (by repeat (first | exact trivial | refine And.intro rfl ?_))) ?_
          exact ok_fX10_placesThatAre_c41 ih h
    · cases h
      exact ev_r 2 (fun n => rfl)
def fX10_placesThatAre (m : mm_MM) (x1 : Int32) : Option (Int32 × mm_MM) :=
  fX10_placesThatAre_c4 fu m x1 0 0
theorem ok_fX10_placesThatAre {m : mm_MM} {x1 : Int32} {q0 : Int32 × mm_MM} (h : fX10_placesThatAre m x1 = some q0) : Ev XL xs (d + 2) 168 (ev_M m c w) 0 (lv_args 0 [.ref 0, .int x1]) [] (fr_i c w q0) := by
  unfold fX10_placesThatAre at h
  refine ev_s 4 (M' := ev_M m c w) (pc' := 4) (lv' := [(3, .int 0), (2, .int 0), (0, .ref 0), (1, .int x1)]) (st' := []) (fun n => rfl) ?_
  refine ev_sub (lv := [(0, .ref 0), (1, .int x1), (2, .int 0), (3, .int 0)]) (mn_of rfl (by repeat (first | exact trivial | refine And.intro rfl ?_))) ?_
  exact ok_fX10_placesThatAre_c4 fu _ _ _ _ _ h
def fX10_lawfulCoins_c54 (kr10 : mm_MM → Int32 → Int32 → Option (Int32 × mm_MM)) (m : mm_MM) (x2 : Int32) (s0 : Int32) (s1 : Int32) : Option (Int32 × mm_MM) :=
  kr10 m (s0 + s1) (x2 + 1)
theorem ok_fX10_lawfulCoins_c54 {kr10 : mm_MM → Int32 → Int32 → Option (Int32 × mm_MM)} (hkr10 : ∀ (m : mm_MM) (x1 : Int32) (x2 : Int32) (q0 : Int32 × mm_MM), kr10 m x1 x2 = some q0 → Ev XL xs (d + 2) 170 (ev_M m c w) 10 [(0, .ref 0), (1, .int x1), (2, .int x2)] [] (fr_i c w q0)) {m : mm_MM} {x2 : Int32} {s0 : Int32} {s1 : Int32} {q0 : Int32 × mm_MM} (h : fX10_lawfulCoins_c54 kr10 m x2 s0 s1 = some q0) : Ev XL xs (d + 2) 170 (ev_M m c w) 54 [(0, .ref 0), (2, .int x2)] [.int s1, .int s0] (fr_i c w q0) := by
  unfold fX10_lawfulCoins_c54 at h
  refine ev_s 4 (M' := ev_M m c w) (pc' := 10) (lv' := [(2, .int (x2 + 1)), (1, .int (s0 + s1)), (0, .ref 0)]) (st' := []) (fun n => rfl) ?_
  refine ev_sub (lv := [(0, .ref 0), (1, .int (s0 + s1)), (2, .int (x2 + 1))]) (mn_of rfl (by repeat (first | exact trivial | refine And.intro rfl ?_))) ?_
  exact hkr10 _ _ _ _ h
def fX10_lawfulCoins_c53 (kr10 : mm_MM → Int32 → Int32 → Option (Int32 × mm_MM)) (m : mm_MM) (x2 : Int32) (s0 : Int32) : Option (Int32 × mm_MM) :=
  fX10_lawfulCoins_c54 kr10 m x2 s0 0
theorem ok_fX10_lawfulCoins_c53 {kr10 : mm_MM → Int32 → Int32 → Option (Int32 × mm_MM)} (hkr10 : ∀ (m : mm_MM) (x1 : Int32) (x2 : Int32) (q0 : Int32 × mm_MM), kr10 m x1 x2 = some q0 → Ev XL xs (d + 2) 170 (ev_M m c w) 10 [(0, .ref 0), (1, .int x1), (2, .int x2)] [] (fr_i c w q0)) {m : mm_MM} {x2 : Int32} {s0 : Int32} {q0 : Int32 × mm_MM} (h : fX10_lawfulCoins_c53 kr10 m x2 s0 = some q0) : Ev XL xs (d + 2) 170 (ev_M m c w) 53 [(0, .ref 0), (2, .int x2)] [.int s0] (fr_i c w q0) := by
  unfold fX10_lawfulCoins_c53 at h
  refine ev_s 1 (M' := ev_M m c w) (pc' := 54) (lv' := [(0, .ref 0), (2, .int x2)]) (st' := [.int 0, .int s0]) (fun n => rfl) ?_
  exact ok_fX10_lawfulCoins_c54 hkr10 h
def fX10_lawfulCoins_c10 : Nat → mm_MM → Int32 → Int32 → Option (Int32 × mm_MM)
  | 0 => fun _ _ _ => none
  | n + 1 => fun m x1 x2 =>
    (if x2 < 8 then
      (fX7_find m 29 x2).bind fun r2 =>
       match r2.1 with
       | none =>
         fX10_lawfulCoins_c53 (fX10_lawfulCoins_c10 n) r2.2 x2 x1
       | some u3 =>
         if mm_kd u3 = (9, 6) then
           (if r2.2.1 u3 3 = ((-1) : Int32) then
             (fX10_isRipe r2.2 u3).bind fun r5 =>
              (if r5.1 = 0 then
                fX10_lawfulCoins_c53 (fX10_lawfulCoins_c10 n) r5.2 x2 x1
               else
                fX10_lawfulCoins_c54 (fX10_lawfulCoins_c10 n) r5.2 x2 x1 (r5.2.1 u3 1))
            else
             fX10_lawfulCoins_c53 (fX10_lawfulCoins_c10 n) r2.2 x2 x1)
         else none
     else
      (fJ9_min_7cf53 m 999 x1).bind fun r8 =>
       some (r8.1, r8.2))
theorem ok_fX10_lawfulCoins_c10 : ∀ (n : Nat) (m : mm_MM) (x1 : Int32) (x2 : Int32) (q0 : Int32 × mm_MM), fX10_lawfulCoins_c10 n m x1 x2 = some q0 → Ev XL xs (d + 2) 170 (ev_M m c w) 10 [(0, .ref 0), (1, .int x1), (2, .int x2)] [] (fr_i c w q0) := by
  intro n
  induction n with
  | zero => intro m x1 x2 q0 h; exact absurd (show (none : Option (Int32 × mm_MM)) = some q0 from h) (by simp)
  | succ n ih =>
    intro m x1 x2 q0 h
    unfold fX10_lawfulCoins_c10 at h
    refine ev_i 3 (M1 := ev_M m c w) (pc1 := 16) (lv1 := [(0, .ref 0), (1, .int x1), (2, .int x2)]) (st1 := []) (M2 := ev_M m c w) (pc2 := 62) (lv2 := [(0, .ref 0), (1, .int x1), (2, .int x2)]) (st2 := []) (fun n => rfl) h (fun hc1 h => ?_) (fun hc1 h => ?_)
    · obtain ⟨r2, hr2, h⟩ := Option.bind_eq_some_iff.mp h
      refine ev_c 4 (y' := 69) (M1 := ev_M m c w) (la := lv_args 0 [.ref 29, .int x2]) (rest := []) (pc' := 24) (lv' := [(0, .ref 0), (1, .int x1), (2, .int x2)]) (fun n => rfl) (ok_fX7_find (rfl : mm_kd 29 = (7, 8)) hr2) ?_
      show Ev XL xs _ 170 (ev_M r2.2 c w) 24 [(0, .ref 0), (1, .int x1), (2, .int x2)] [va_rf r2.1] _
      generalize r2.1 = o7 at h ⊢
      cases o7 with
      | none =>
        refine ev_s 4 (M' := ev_M r2.2 c w) (pc' := 53) (lv' := [(3, .null), (0, .ref 0), (1, .int x1), (2, .int x2)]) (st' := [.int x1]) (fun n => rfl) ?_
        refine ev_sub (lv := [(0, .ref 0), (2, .int x2)]) (mn_of rfl (by repeat (first | exact trivial | refine And.intro rfl ?_))) ?_
        exact ok_fX10_lawfulCoins_c53 ih h
      | some u3 =>
        obtain ⟨hk_u3, h⟩ := sd_ift h
        refine ev_s 5 (M' := ev_M r2.2 c w) (pc' := 31) (lv' := [(3, .ref u3), (0, .ref 0), (1, .int x1), (2, .int x2)]) (st' := [.ref u3, .int x1]) (fun n => rfl) ?_
        refine ev_gf (x := .int (r2.2.1 u3 3)) rfl (congrArg Prod.fst hk_u3) rfl rfl ?_
        refine ev_i 2 (M1 := ev_M r2.2 c w) (pc1 := 38) (lv1 := [(3, .ref u3), (0, .ref 0), (1, .int x1), (2, .int x2)]) (st1 := [.int x1]) (M2 := ev_M r2.2 c w) (pc2 := 53) (lv2 := [(3, .ref u3), (0, .ref 0), (1, .int x1), (2, .int x2)]) (st2 := [.int x1]) (fun n => rfl) h (fun hc4 h => ?_) (fun hc4 h => ?_)
        · obtain ⟨r5, hr5, h⟩ := Option.bind_eq_some_iff.mp h
          refine ev_c 3 (y' := 106) (M1 := ev_M r2.2 c w) (la := lv_args 0 [.ref 0, .ref u3]) (rest := [.int x1]) (pc' := 43) (lv' := [(3, .ref u3), (0, .ref 0), (1, .int x1), (2, .int x2)]) (fun n => rfl) (ok_fX10_isRipe hk_u3 hr5) ?_
          show Ev XL xs _ 170 (ev_M r5.2 c w) 43 [(3, .ref u3), (0, .ref 0), (1, .int x1), (2, .int x2)] [.int r5.1, .int x1] _
          refine ev_i 1 (M1 := ev_M r5.2 c w) (pc1 := 53) (lv1 := [(3, .ref u3), (0, .ref 0), (1, .int x1), (2, .int x2)]) (st1 := [.int x1]) (M2 := ev_M r5.2 c w) (pc2 := 46) (lv2 := [(3, .ref u3), (0, .ref 0), (1, .int x1), (2, .int x2)]) (st2 := [.int x1]) (fun n => rfl) h (fun hc6 h => ?_) (fun hc6 h => ?_)
          · refine ev_sub (lv := [(0, .ref 0), (2, .int x2)]) (mn_of rfl (by repeat (first | exact trivial | refine And.intro rfl ?_))) ?_
            exact ok_fX10_lawfulCoins_c53 ih h
          · refine ev_s 1 (M' := ev_M r5.2 c w) (pc' := 47) (lv' := [(3, .ref u3), (0, .ref 0), (1, .int x1), (2, .int x2)]) (st' := [.ref u3, .int x1]) (fun n => rfl) ?_
            refine ev_gf (x := .int (r5.2.1 u3 1)) rfl (congrArg Prod.fst hk_u3) rfl rfl ?_
            refine ev_s 1 (M' := ev_M r5.2 c w) (pc' := 54) (lv' := [(3, .ref u3), (0, .ref 0), (1, .int x1), (2, .int x2)]) (st' := [.int (r5.2.1 u3 1), .int x1]) (fun n => rfl) ?_
            refine ev_sub (lv := [(0, .ref 0), (2, .int x2)]) (mn_of rfl (by repeat (first | exact trivial | refine And.intro rfl ?_))) ?_
            exact ok_fX10_lawfulCoins_c54 ih h
        · refine ev_sub (lv := [(0, .ref 0), (2, .int x2)]) (mn_of rfl (by repeat (first | exact trivial | refine And.intro rfl ?_))) ?_
          exact ok_fX10_lawfulCoins_c53 ih h
    · obtain ⟨r8, hr8, h⟩ := Option.bind_eq_some_iff.mp h
      refine ev_c 3 (y' := 308) (M1 := ev_M m c w) (la := lv_args 0 [.int 999, .int x1]) (rest := []) (pc' := 69) (lv' := [(0, .ref 0), (1, .int x1), (2, .int x2)]) (fun n => rfl) (ok_fJ9_min_7cf53 hr8) ?_
      show Ev XL xs _ 170 (ev_M r8.2 c w) 69 [(0, .ref 0), (1, .int x1), (2, .int x2)] [.int r8.1] _
      cases h
      exact ev_r 1 (fun n => rfl)
def fX10_lawfulCoins (m : mm_MM) : Option (Int32 × mm_MM) :=
  fX10_lawfulCoins_c10 fu m (m.1 29 6) 0
theorem ok_fX10_lawfulCoins {m : mm_MM} {q0 : Int32 × mm_MM} (h : fX10_lawfulCoins m = some q0) : Ev XL xs (d + 2) 170 (ev_M m c w) 0 (lv_args 0 [.ref 0]) [] (fr_i c w q0) := by
  unfold fX10_lawfulCoins at h
  refine ev_s 6 (M' := ev_M m c w) (pc' := 10) (lv' := [(2, .int 0), (1, .int (m.1 29 6)), (0, .ref 0)]) (st' := []) (fun n => rfl) ?_
  refine ev_sub (lv := [(0, .ref 0), (1, .int (m.1 29 6)), (2, .int 0)]) (mn_of rfl (by repeat (first | exact trivial | refine And.intro rfl ?_))) ?_
  exact ok_fX10_lawfulCoins_c10 fu _ _ _ _ h
def fX10_pairsBeside_c36 (kr4 : mm_MM → Int32 → Int32 → Option (Int32 × mm_MM)) (m : mm_MM) (x2 : Int32) (s0 : Int32) (s1 : Int32) : Option (Int32 × mm_MM) :=
  kr4 m (s0 + s1) (x2 + 1)
theorem ok_fX10_pairsBeside_c36 {kr4 : mm_MM → Int32 → Int32 → Option (Int32 × mm_MM)} (hkr4 : ∀ (m : mm_MM) (x1 : Int32) (x2 : Int32) (q0 : Int32 × mm_MM), kr4 m x1 x2 = some q0 → Ev XL xs (d + 4) 171 (ev_M m c w) 4 [(0, .ref 0), (1, .int x1), (2, .int x2)] [] (fr_i c w q0)) {m : mm_MM} {x2 : Int32} {s0 : Int32} {s1 : Int32} {q0 : Int32 × mm_MM} (h : fX10_pairsBeside_c36 kr4 m x2 s0 s1 = some q0) : Ev XL xs (d + 4) 171 (ev_M m c w) 36 [(0, .ref 0), (2, .int x2)] [.int s1, .int s0] (fr_i c w q0) := by
  unfold fX10_pairsBeside_c36 at h
  refine ev_s 4 (M' := ev_M m c w) (pc' := 4) (lv' := [(2, .int (x2 + 1)), (1, .int (s0 + s1)), (0, .ref 0)]) (st' := []) (fun n => rfl) ?_
  refine ev_sub (lv := [(0, .ref 0), (1, .int (s0 + s1)), (2, .int (x2 + 1))]) (mn_of rfl (by repeat (first | exact trivial | refine And.intro rfl ?_))) ?_
  exact hkr4 _ _ _ _ h
def fX10_pairsBeside_c4 : Nat → mm_MM → Int32 → Int32 → Option (Int32 × mm_MM)
  | 0 => fun _ _ _ => none
  | n + 1 => fun m x1 x2 =>
    (if x2 < 8 then
      (fX7_findLying m 29 x2).bind fun r2 =>
       match r2.1 with
       | none =>
         fX10_pairsBeside_c36 (fX10_pairsBeside_c4 n) r2.2 x2 x1 0
       | some u3 =>
         if mm_kd u3 = (9, 6) then
           (fX10_countBeside r2.2 (r2.2.1 u3 3)).bind fun r4 =>
            fX10_pairsBeside_c36 (fX10_pairsBeside_c4 n) r4.2 x2 x1 r4.1
         else none
     else
      some (((x1 : Int32) / 2), m))
theorem ok_fX10_pairsBeside_c4 : ∀ (n : Nat) (m : mm_MM) (x1 : Int32) (x2 : Int32) (q0 : Int32 × mm_MM), fX10_pairsBeside_c4 n m x1 x2 = some q0 → Ev XL xs (d + 4) 171 (ev_M m c w) 4 [(0, .ref 0), (1, .int x1), (2, .int x2)] [] (fr_i c w q0) := by
  intro n
  induction n with
  | zero => intro m x1 x2 q0 h; exact absurd (show (none : Option (Int32 × mm_MM)) = some q0 from h) (by simp)
  | succ n ih =>
    intro m x1 x2 q0 h
    unfold fX10_pairsBeside_c4 at h
    refine ev_i 3 (M1 := ev_M m c w) (pc1 := 10) (lv1 := [(0, .ref 0), (1, .int x1), (2, .int x2)]) (st1 := []) (M2 := ev_M m c w) (pc2 := 44) (lv2 := [(0, .ref 0), (1, .int x1), (2, .int x2)]) (st2 := []) (fun n => rfl) h (fun hc1 h => ?_) (fun hc1 h => ?_)
    · obtain ⟨r2, hr2, h⟩ := Option.bind_eq_some_iff.mp h
      refine ev_c 4 (y' := 70) (M1 := ev_M m c w) (la := lv_args 0 [.ref 29, .int x2]) (rest := []) (pc' := 18) (lv' := [(0, .ref 0), (1, .int x1), (2, .int x2)]) (fun n => rfl) (ok_fX7_findLying (rfl : mm_kd 29 = (7, 8)) hr2) ?_
      show Ev XL xs _ 171 (ev_M r2.2 c w) 18 [(0, .ref 0), (1, .int x1), (2, .int x2)] [va_rf r2.1] _
      generalize r2.1 = o5 at h ⊢
      cases o5 with
      | none =>
        refine ev_s 5 (M' := ev_M r2.2 c w) (pc' := 36) (lv' := [(3, .null), (0, .ref 0), (1, .int x1), (2, .int x2)]) (st' := [.int 0, .int x1]) (fun n => rfl) ?_
        refine ev_sub (lv := [(0, .ref 0), (2, .int x2)]) (mn_of rfl (by repeat (first | exact trivial | refine And.intro rfl ?_))) ?_
        exact ok_fX10_pairsBeside_c36 ih h
      | some u3 =>
        obtain ⟨hk_u3, h⟩ := sd_ift h
        refine ev_s 6 (M' := ev_M r2.2 c w) (pc' := 26) (lv' := [(3, .ref u3), (0, .ref 0), (1, .int x1), (2, .int x2)]) (st' := [.ref u3, .ref 0, .int x1]) (fun n => rfl) ?_
        refine ev_gf (x := .int (r2.2.1 u3 3)) rfl (congrArg Prod.fst hk_u3) rfl rfl ?_
        obtain ⟨r4, hr4, h⟩ := Option.bind_eq_some_iff.mp h
        refine ev_c 1 (y' := 126) (M1 := ev_M r2.2 c w) (la := lv_args 0 [.ref 0, .int (r2.2.1 u3 3)]) (rest := [.int x1]) (pc' := 32) (lv' := [(3, .ref u3), (0, .ref 0), (1, .int x1), (2, .int x2)]) (fun n => rfl) (ok_fX10_countBeside hr4) ?_
        show Ev XL xs _ 171 (ev_M r4.2 c w) 32 [(3, .ref u3), (0, .ref 0), (1, .int x1), (2, .int x2)] [.int r4.1, .int x1] _
        refine ev_s 1 (M' := ev_M r4.2 c w) (pc' := 36) (lv' := [(3, .ref u3), (0, .ref 0), (1, .int x1), (2, .int x2)]) (st' := [.int r4.1, .int x1]) (fun n => rfl) ?_
        refine ev_sub (lv := [(0, .ref 0), (2, .int x2)]) (mn_of rfl (by repeat (first | exact trivial | refine And.intro rfl ?_))) ?_
        exact ok_fX10_pairsBeside_c36 ih h
    · cases h
      exact ev_r 4 (fun n => rfl)
def fX10_pairsBeside (m : mm_MM) : Option (Int32 × mm_MM) :=
  fX10_pairsBeside_c4 fu m 0 0
theorem ok_fX10_pairsBeside {m : mm_MM} {q0 : Int32 × mm_MM} (h : fX10_pairsBeside m = some q0) : Ev XL xs (d + 4) 171 (ev_M m c w) 0 (lv_args 0 [.ref 0]) [] (fr_i c w q0) := by
  unfold fX10_pairsBeside at h
  refine ev_s 4 (M' := ev_M m c w) (pc' := 4) (lv' := [(2, .int 0), (1, .int 0), (0, .ref 0)]) (st' := []) (fun n => rfl) ?_
  refine ev_sub (lv := [(0, .ref 0), (1, .int 0), (2, .int 0)]) (mn_of rfl (by repeat (first | exact trivial | refine And.intro rfl ?_))) ?_
  exact ok_fX10_pairsBeside_c4 fu _ _ _ _ h
def fX10_most (m : mm_MM) (x1 : Int32) : Option (Int32 × mm_MM) :=
  (if m.1 0 14 = 0 then
    some (((-1) : Int32), m)
   else
    (if x1 = 0 then
      (fX10_placeWithMost m 1).bind fun r2 =>
       some (r2.1, r2.2)
     else (if x1 = 1 then
      (fX10_placeWithMost m 0).bind fun r4 =>
       some (r4.1, r4.2)
     else (if x1 = 2 then
      (fX10_richestRow m).bind fun r6 =>
       some (r6.1, r6.2)
     else (if x1 = 3 then
      (fX10_dampestRow m).bind fun r8 =>
       some (r8.1, r8.2)
     else (if x1 = 4 then
      (fX10_placesThatAre m x1).bind fun r10 =>
       some (r10.1, r10.2)
     else (if x1 = 5 then
      (fX10_placesThatAre m x1).bind fun r12 =>
       some (r12.1, r12.2)
     else (if x1 = 6 then
      (fX10_placesThatAre m x1).bind fun r14 =>
       some (r14.1, r14.2)
     else (if x1 = 7 then
      (fX10_placesThatAre m x1).bind fun r16 =>
       some (r16.1, r16.2)
     else (if x1 = 8 then
      (fX1_plots m 14).bind fun r18 =>
       (fX10_placesThatAre r18.2 5).bind fun r19 =>
        (fJ6_bitCount_0f7a4 r19.2 r19.1).bind fun r20 =>
         some ((r18.1 - r20.1), r20.2)
     else (if x1 = 9 then
      (fX10_valueOfAll m).bind fun r22 =>
       some (r22.1, r22.2)
     else (if x1 = 10 then
      (fX10_lawfulCoins m).bind fun r24 =>
       some (r24.1, r24.2)
     else (if x1 = 11 then
      (fX10_pairsBeside m).bind fun r26 =>
       some (r26.1, r26.2)
     else some (((-1) : Int32), m))))))))))))))
set_option maxRecDepth 20000 in
theorem ok_fX10_most {m : mm_MM} {x1 : Int32} {q0 : Int32 × mm_MM} (h : fX10_most m x1 = some q0) : Ev XL xs (d + 5) 164 (ev_M m c w) 0 (lv_args 0 [.ref 0, .int x1]) [] (fr_i c w q0) := by
  unfold fX10_most at h
  refine ev_i 3 (M1 := ev_M m c w) (pc1 := 7) (lv1 := [(0, .ref 0), (1, .int x1)]) (st1 := []) (M2 := ev_M m c w) (pc2 := 9) (lv2 := [(0, .ref 0), (1, .int x1)]) (st2 := []) (fun n => rfl) h (fun hc1 h => ?_) (fun hc1 h => ?_)
  · cases h
    exact ev_r 2 (fun n => rfl)
  · refine ev_s 1 (M' := ev_M m c w) (pc' := 10) (lv' := [(0, .ref 0), (1, .int x1)]) (st' := [.int x1]) (fun n => rfl) ?_
    refine ev_e 0 h (fun hv3 h => ?_) (fun hv3 h => ?_)
    · refine ev_s 1 (M' := ev_M m c w) (pc' := 72) (lv' := [(0, .ref 0), (1, .int x1)]) (st' := []) (fun n => by rw [hv3]; rfl) ?_
      obtain ⟨r2, hr2, h⟩ := Option.bind_eq_some_iff.mp h
      refine ev_c 3 (y' := 165) (M1 := ev_M m c w) (la := lv_args 0 [.ref 0, .int 1]) (rest := []) (pc' := 77) (lv' := [(0, .ref 0), (1, .int x1)]) (fun n => rfl) (ok_fX10_placeWithMost hr2) ?_
      show Ev XL xs _ 164 (ev_M r2.2 c w) 77 [(0, .ref 0), (1, .int x1)] [.int r2.1] _
      cases h
      exact ev_r 1 (fun n => rfl)
    refine ev_e 1 h (fun hv5 h => ?_) (fun hv5 h => ?_)
    · refine ev_s 1 (M' := ev_M m c w) (pc' := 78) (lv' := [(0, .ref 0), (1, .int x1)]) (st' := []) (fun n => by rw [hv5]; rfl) ?_
      obtain ⟨r4, hr4, h⟩ := Option.bind_eq_some_iff.mp h
      refine ev_c 3 (y' := 165) (M1 := ev_M m c w) (la := lv_args 0 [.ref 0, .int 0]) (rest := []) (pc' := 83) (lv' := [(0, .ref 0), (1, .int x1)]) (fun n => rfl) (ok_fX10_placeWithMost hr4) ?_
      show Ev XL xs _ 164 (ev_M r4.2 c w) 83 [(0, .ref 0), (1, .int x1)] [.int r4.1] _
      cases h
      exact ev_r 1 (fun n => rfl)
    refine ev_e 2 h (fun hv7 h => ?_) (fun hv7 h => ?_)
    · refine ev_s 1 (M' := ev_M m c w) (pc' := 84) (lv' := [(0, .ref 0), (1, .int x1)]) (st' := []) (fun n => by rw [hv7]; rfl) ?_
      obtain ⟨r6, hr6, h⟩ := Option.bind_eq_some_iff.mp h
      refine ev_c 2 (y' := 166) (M1 := ev_M m c w) (la := lv_args 0 [.ref 0]) (rest := []) (pc' := 88) (lv' := [(0, .ref 0), (1, .int x1)]) (fun n => rfl) (ok_fX10_richestRow hr6) ?_
      show Ev XL xs _ 164 (ev_M r6.2 c w) 88 [(0, .ref 0), (1, .int x1)] [.int r6.1] _
      cases h
      exact ev_r 1 (fun n => rfl)
    refine ev_e 3 h (fun hv9 h => ?_) (fun hv9 h => ?_)
    · refine ev_s 1 (M' := ev_M m c w) (pc' := 89) (lv' := [(0, .ref 0), (1, .int x1)]) (st' := []) (fun n => by rw [hv9]; rfl) ?_
      obtain ⟨r8, hr8, h⟩ := Option.bind_eq_some_iff.mp h
      refine ev_c 2 (y' := 167) (M1 := ev_M m c w) (la := lv_args 0 [.ref 0]) (rest := []) (pc' := 93) (lv' := [(0, .ref 0), (1, .int x1)]) (fun n => rfl) (ok_fX10_dampestRow hr8) ?_
      show Ev XL xs _ 164 (ev_M r8.2 c w) 93 [(0, .ref 0), (1, .int x1)] [.int r8.1] _
      cases h
      exact ev_r 1 (fun n => rfl)
    refine ev_e 4 h (fun hv11 h => ?_) (fun hv11 h => ?_)
    · refine ev_s 1 (M' := ev_M m c w) (pc' := 94) (lv' := [(0, .ref 0), (1, .int x1)]) (st' := []) (fun n => by rw [hv11]; rfl) ?_
      obtain ⟨r10, hr10, h⟩ := Option.bind_eq_some_iff.mp h
      refine ev_c 3 (y' := 168) (M1 := ev_M m c w) (la := lv_args 0 [.ref 0, .int x1]) (rest := []) (pc' := 99) (lv' := [(0, .ref 0), (1, .int x1)]) (fun n => rfl) (ok_fX10_placesThatAre hr10) ?_
      show Ev XL xs _ 164 (ev_M r10.2 c w) 99 [(0, .ref 0), (1, .int x1)] [.int r10.1] _
      cases h
      exact ev_r 1 (fun n => rfl)
    refine ev_e 5 h (fun hv13 h => ?_) (fun hv13 h => ?_)
    · refine ev_s 1 (M' := ev_M m c w) (pc' := 94) (lv' := [(0, .ref 0), (1, .int x1)]) (st' := []) (fun n => by rw [hv13]; rfl) ?_
      obtain ⟨r12, hr12, h⟩ := Option.bind_eq_some_iff.mp h
      refine ev_c 3 (y' := 168) (M1 := ev_M m c w) (la := lv_args 0 [.ref 0, .int x1]) (rest := []) (pc' := 99) (lv' := [(0, .ref 0), (1, .int x1)]) (fun n => rfl) (ok_fX10_placesThatAre hr12) ?_
      show Ev XL xs _ 164 (ev_M r12.2 c w) 99 [(0, .ref 0), (1, .int x1)] [.int r12.1] _
      cases h
      exact ev_r 1 (fun n => rfl)
    refine ev_e 6 h (fun hv15 h => ?_) (fun hv15 h => ?_)
    · refine ev_s 1 (M' := ev_M m c w) (pc' := 94) (lv' := [(0, .ref 0), (1, .int x1)]) (st' := []) (fun n => by rw [hv15]; rfl) ?_
      obtain ⟨r14, hr14, h⟩ := Option.bind_eq_some_iff.mp h
      refine ev_c 3 (y' := 168) (M1 := ev_M m c w) (la := lv_args 0 [.ref 0, .int x1]) (rest := []) (pc' := 99) (lv' := [(0, .ref 0), (1, .int x1)]) (fun n => rfl) (ok_fX10_placesThatAre hr14) ?_
      show Ev XL xs _ 164 (ev_M r14.2 c w) 99 [(0, .ref 0), (1, .int x1)] [.int r14.1] _
      cases h
      exact ev_r 1 (fun n => rfl)
    refine ev_e 7 h (fun hv17 h => ?_) (fun hv17 h => ?_)
    · refine ev_s 1 (M' := ev_M m c w) (pc' := 94) (lv' := [(0, .ref 0), (1, .int x1)]) (st' := []) (fun n => by rw [hv17]; rfl) ?_
      obtain ⟨r16, hr16, h⟩ := Option.bind_eq_some_iff.mp h
      refine ev_c 3 (y' := 168) (M1 := ev_M m c w) (la := lv_args 0 [.ref 0, .int x1]) (rest := []) (pc' := 99) (lv' := [(0, .ref 0), (1, .int x1)]) (fun n => rfl) (ok_fX10_placesThatAre hr16) ?_
      show Ev XL xs _ 164 (ev_M r16.2 c w) 99 [(0, .ref 0), (1, .int x1)] [.int r16.1] _
      cases h
      exact ev_r 1 (fun n => rfl)
    refine ev_e 8 h (fun hv21 h => ?_) (fun hv21 h => ?_)
    · refine ev_s 1 (M' := ev_M m c w) (pc' := 100) (lv' := [(0, .ref 0), (1, .int x1)]) (st' := []) (fun n => by rw [hv21]; rfl) ?_
      obtain ⟨r18, hr18, h⟩ := Option.bind_eq_some_iff.mp h
      refine ev_c 3 (y' := 4) (M1 := ev_M m c w) (la := lv_args 0 [.ref 14]) (rest := []) (pc' := 107) (lv' := [(0, .ref 0), (1, .int x1)]) (fun n => rfl) (ok_fX1_plots (rfl : mm_kd 14 = (1, 10)) hr18) ?_
      show Ev XL xs _ 164 (ev_M r18.2 c w) 107 [(0, .ref 0), (1, .int x1)] [.int r18.1] _
      obtain ⟨r19, hr19, h⟩ := Option.bind_eq_some_iff.mp h
      refine ev_c 3 (y' := 168) (M1 := ev_M r18.2 c w) (la := lv_args 0 [.ref 0, .int 5]) (rest := [.int r18.1]) (pc' := 112) (lv' := [(0, .ref 0), (1, .int x1)]) (fun n => rfl) (ok_fX10_placesThatAre hr19) ?_
      show Ev XL xs _ 164 (ev_M r19.2 c w) 112 [(0, .ref 0), (1, .int x1)] [.int r19.1, .int r18.1] _
      obtain ⟨r20, hr20, h⟩ := Option.bind_eq_some_iff.mp h
      refine ev_c 1 (y' := 302) (M1 := ev_M r19.2 c w) (la := lv_args 0 [.int r19.1]) (rest := [.int r18.1]) (pc' := 115) (lv' := [(0, .ref 0), (1, .int x1)]) (fun n => rfl) (ok_fJ6_bitCount_0f7a4 hr20) ?_
      show Ev XL xs _ 164 (ev_M r20.2 c w) 115 [(0, .ref 0), (1, .int x1)] [.int r20.1, .int r18.1] _
      cases h
      exact ev_r 2 (fun n => rfl)
    refine ev_e 9 h (fun hv23 h => ?_) (fun hv23 h => ?_)
    · refine ev_s 1 (M' := ev_M m c w) (pc' := 117) (lv' := [(0, .ref 0), (1, .int x1)]) (st' := []) (fun n => by rw [hv23]; rfl) ?_
      obtain ⟨r22, hr22, h⟩ := Option.bind_eq_some_iff.mp h
      refine ev_c 2 (y' := 163) (M1 := ev_M m c w) (la := lv_args 0 [.ref 0]) (rest := []) (pc' := 121) (lv' := [(0, .ref 0), (1, .int x1)]) (fun n => rfl) (ok_fX10_valueOfAll hr22) ?_
      show Ev XL xs _ 164 (ev_M r22.2 c w) 121 [(0, .ref 0), (1, .int x1)] [.int r22.1] _
      cases h
      exact ev_r 1 (fun n => rfl)
    refine ev_e 10 h (fun hv25 h => ?_) (fun hv25 h => ?_)
    · refine ev_s 1 (M' := ev_M m c w) (pc' := 122) (lv' := [(0, .ref 0), (1, .int x1)]) (st' := []) (fun n => by rw [hv25]; rfl) ?_
      obtain ⟨r24, hr24, h⟩ := Option.bind_eq_some_iff.mp h
      refine ev_c 2 (y' := 170) (M1 := ev_M m c w) (la := lv_args 0 [.ref 0]) (rest := []) (pc' := 126) (lv' := [(0, .ref 0), (1, .int x1)]) (fun n => rfl) (ok_fX10_lawfulCoins hr24) ?_
      show Ev XL xs _ 164 (ev_M r24.2 c w) 126 [(0, .ref 0), (1, .int x1)] [.int r24.1] _
      cases h
      exact ev_r 1 (fun n => rfl)
    refine ev_e 11 h (fun hv27 h => ?_) (fun hv27 h => ?_)
    · refine ev_s 1 (M' := ev_M m c w) (pc' := 127) (lv' := [(0, .ref 0), (1, .int x1)]) (st' := []) (fun n => by rw [hv27]; rfl) ?_
      obtain ⟨r26, hr26, h⟩ := Option.bind_eq_some_iff.mp h
      refine ev_c 2 (y' := 171) (M1 := ev_M m c w) (la := lv_args 0 [.ref 0]) (rest := []) (pc' := 131) (lv' := [(0, .ref 0), (1, .int x1)]) (fun n => rfl) (ok_fX10_pairsBeside hr26) ?_
      show Ev XL xs _ 164 (ev_M r26.2 c w) 131 [(0, .ref 0), (1, .int x1)] [.int r26.1] _
      cases h
      exact ev_r 1 (fun n => rfl)
    have ghv3 : (x1 : Int32).toInt ≠ 0 := fun z => hv3 (Int32.toInt_inj.mp (z.trans rfl))
    have ghv5 : (x1 : Int32).toInt ≠ 1 := fun z => hv5 (Int32.toInt_inj.mp (z.trans rfl))
    have ghv7 : (x1 : Int32).toInt ≠ 2 := fun z => hv7 (Int32.toInt_inj.mp (z.trans rfl))
    have ghv9 : (x1 : Int32).toInt ≠ 3 := fun z => hv9 (Int32.toInt_inj.mp (z.trans rfl))
    have ghv11 : (x1 : Int32).toInt ≠ 4 := fun z => hv11 (Int32.toInt_inj.mp (z.trans rfl))
    have ghv13 : (x1 : Int32).toInt ≠ 5 := fun z => hv13 (Int32.toInt_inj.mp (z.trans rfl))
    have ghv15 : (x1 : Int32).toInt ≠ 6 := fun z => hv15 (Int32.toInt_inj.mp (z.trans rfl))
    have ghv17 : (x1 : Int32).toInt ≠ 7 := fun z => hv17 (Int32.toInt_inj.mp (z.trans rfl))
    have ghv21 : (x1 : Int32).toInt ≠ 8 := fun z => hv21 (Int32.toInt_inj.mp (z.trans rfl))
    have ghv23 : (x1 : Int32).toInt ≠ 9 := fun z => hv23 (Int32.toInt_inj.mp (z.trans rfl))
    have ghv25 : (x1 : Int32).toInt ≠ 10 := fun z => hv25 (Int32.toInt_inj.mp (z.trans rfl))
    have ghv27 : (x1 : Int32).toInt ≠ 11 := fun z => hv27 (Int32.toInt_inj.mp (z.trans rfl))
    refine ev_td (M' := ev_M m c w) (pc' := 132) (lv' := [(0, .ref 0), (1, .int x1)]) (st' := []) rfl (by omega) rfl ?_
    cases h
    exact ev_r 2 (fun n => rfl)
def fX10_image (m : mm_MM) : Option (Int32 × mm_MM) :=
  (if m.1 0 14 = 0 then
    some (((-1) : Int32), m)
   else
    (fX7_copy m 42 29).bind fun r2 =>
     some (r2.1 29 7, (wI r2 0 15 1)))
theorem ok_fX10_image {m : mm_MM} {q0 : Int32 × mm_MM} (h : fX10_image m = some q0) : Ev XL xs (d + 2) 172 (ev_M m c w) 0 (lv_args 0 [.ref 0]) [] (fr_i c w q0) := by
  unfold fX10_image at h
  refine ev_i 3 (M1 := ev_M m c w) (pc1 := 7) (lv1 := [(0, .ref 0)]) (st1 := []) (M2 := ev_M m c w) (pc2 := 9) (lv2 := [(0, .ref 0)]) (st2 := []) (fun n => rfl) h (fun hc1 h => ?_) (fun hc1 h => ?_)
  · cases h
    exact ev_r 2 (fun n => rfl)
  · obtain ⟨r2, hr2, h⟩ := Option.bind_eq_some_iff.mp h
    refine ev_c 5 (y' := 74) (M1 := ev_M m c w) (la := lv_args 0 [.ref 42, .ref 29]) (rest := []) (pc' := 20) (lv' := [(0, .ref 0)]) (fun n => rfl) (ok_fX7_copy (rfl : mm_kd 42 = (7, 8)) (rfl : mm_kd 29 = (7, 8)) hr2) ?_
    show Ev XL xs _ 172 (ev_M r2 c w) 20 [(0, .ref 0)] [] _
    cases h
    exact ev_r 7 (fun n => rfl)
def fX10_back (m : mm_MM) : Option (Int32 × mm_MM) :=
  (if m.1 0 15 = 0 then
    some (((-1) : Int32), m)
   else
    (fX7_copy m 29 42).bind fun r2 =>
     (fX3_forget r2).bind fun r3 =>
      some (r3.1 29 7, r3))
theorem ok_fX10_back {m : mm_MM} {q0 : Int32 × mm_MM} (h : fX10_back m = some q0) : Ev XL xs (d + 2) 173 (ev_M m c w) 0 (lv_args 0 [.ref 0]) [] (fr_i c w q0) := by
  unfold fX10_back at h
  refine ev_i 3 (M1 := ev_M m c w) (pc1 := 7) (lv1 := [(0, .ref 0)]) (st1 := []) (M2 := ev_M m c w) (pc2 := 9) (lv2 := [(0, .ref 0)]) (st2 := []) (fun n => rfl) h (fun hc1 h => ?_) (fun hc1 h => ?_)
  · cases h
    exact ev_r 2 (fun n => rfl)
  · obtain ⟨r2, hr2, h⟩ := Option.bind_eq_some_iff.mp h
    refine ev_c 5 (y' := 74) (M1 := ev_M m c w) (la := lv_args 0 [.ref 29, .ref 42]) (rest := []) (pc' := 20) (lv' := [(0, .ref 0)]) (fun n => rfl) (ok_fX7_copy (rfl : mm_kd 29 = (7, 8)) (rfl : mm_kd 42 = (7, 8)) hr2) ?_
    show Ev XL xs _ 173 (ev_M r2 c w) 20 [(0, .ref 0)] [] _
    obtain ⟨r3, hr3, h⟩ := Option.bind_eq_some_iff.mp h
    refine ev_c 3 (y' := 40) (M1 := ev_M r2 c w) (la := lv_args 0 [.ref 55]) (rest := []) (pc' := 27) (lv' := [(0, .ref 0)]) (fun n => rfl) (ok_fX3_forget hr3) ?_
    show Ev XL xs _ 173 (ev_M r3 c w) 27 [(0, .ref 0)] [] _
    cases h
    exact ev_r 4 (fun n => rfl)
def fX10_count_c74 (m : mm_MM) (s0 : Int32) : Option (Int32 × mm_MM) :=
  some (s0, m)
set_option maxRecDepth 20000 in
theorem ok_fX10_count_c74 {m : mm_MM} {s0 : Int32} {q0 : Int32 × mm_MM} (h : fX10_count_c74 m s0 = some q0) : Ev XL xs (d + 3) 174 (ev_M m c w) 74 [] [.int s0] (fr_i c w q0) := by
  unfold fX10_count_c74 at h
  cases h
  exact ev_r 1 (fun n => rfl)
def fX10_count (m : mm_MM) (x1 : Int32) : Option (Int32 × mm_MM) :=
  (if x1 = 0 then
    (if m.1 0 14 = 0 then
      fX10_count_c74 m 0
     else
      fX10_count_c74 m (m.1 14 9))
   else (if x1 = 1 then
    (fX10_placesThatAre m 4).bind fun r3 =>
     (fJ6_bitCount_0f7a4 r3.2 r3.1).bind fun r4 =>
      some (r4.1, r4.2)
   else (if x1 = 2 then
    some (m.1 0 16, m)
   else (if x1 = 3 then
    (fX8_size m).bind fun r7 =>
     some (r7.1, r7.2)
   else (if x1 = 4 then
    some (m.1 0 17, m)
   else (if x1 = 5 then
    some (m.1 29 7, m)
   else (if x1 = 6 then
    some (m.1 0 18, m)
   else (if x1 = 7 then
    (fX5_size m).bind fun r12 =>
     some (r12.1, r12.2)
   else (if x1 = 8 then
    some (m.1 29 4, m)
   else (if x1 = 9 then
    (fX3_size m).bind fun r15 =>
     some (r15.1, r15.2)
   else some (((-1000000) : Int32), m)))))))))))
set_option maxRecDepth 20000 in
theorem ok_fX10_count {m : mm_MM} {x1 : Int32} {q0 : Int32 × mm_MM} (h : fX10_count m x1 = some q0) : Ev XL xs (d + 3) 174 (ev_M m c w) 0 (lv_args 0 [.ref 0, .int x1]) [] (fr_i c w q0) := by
  unfold fX10_count at h
  refine ev_s 1 (M' := ev_M m c w) (pc' := 1) (lv' := [(0, .ref 0), (1, .int x1)]) (st' := [.int x1]) (fun n => rfl) ?_
  refine ev_e 0 h (fun hv2 h => ?_) (fun hv2 h => ?_)
  · refine ev_s 1 (M' := ev_M m c w) (pc' := 56) (lv' := [(0, .ref 0), (1, .int x1)]) (st' := []) (fun n => by rw [hv2]; rfl) ?_
    refine ev_i 3 (M1 := ev_M m c w) (pc1 := 73) (lv1 := [(0, .ref 0), (1, .int x1)]) (st1 := []) (M2 := ev_M m c w) (pc2 := 63) (lv2 := [(0, .ref 0), (1, .int x1)]) (st2 := []) (fun n => rfl) h (fun hc1 h => ?_) (fun hc1 h => ?_)
    · refine ev_s 1 (M' := ev_M m c w) (pc' := 74) (lv' := [(0, .ref 0), (1, .int x1)]) (st' := [.int 0]) (fun n => rfl) ?_
      refine ev_sub (lv := []) (mn_of rfl (by repeat (first | exact trivial | refine And.intro rfl ?_))) ?_
      exact ok_fX10_count_c74 h
    · refine ev_s 4 (M' := ev_M m c w) (pc' := 74) (lv' := [(0, .ref 0), (1, .int x1)]) (st' := [.int (m.1 14 9)]) (fun n => rfl) ?_
      refine ev_sub (lv := []) (mn_of rfl (by repeat (first | exact trivial | refine And.intro rfl ?_))) ?_
      exact ok_fX10_count_c74 h
  refine ev_e 1 h (fun hv5 h => ?_) (fun hv5 h => ?_)
  · refine ev_s 1 (M' := ev_M m c w) (pc' := 75) (lv' := [(0, .ref 0), (1, .int x1)]) (st' := []) (fun n => by rw [hv5]; rfl) ?_
    obtain ⟨r3, hr3, h⟩ := Option.bind_eq_some_iff.mp h
    refine ev_c 3 (y' := 168) (M1 := ev_M m c w) (la := lv_args 0 [.ref 0, .int 4]) (rest := []) (pc' := 80) (lv' := [(0, .ref 0), (1, .int x1)]) (fun n => rfl) (ok_fX10_placesThatAre hr3) ?_
    show Ev XL xs _ 174 (ev_M r3.2 c w) 80 [(0, .ref 0), (1, .int x1)] [.int r3.1] _
    obtain ⟨r4, hr4, h⟩ := Option.bind_eq_some_iff.mp h
    refine ev_c 1 (y' := 302) (M1 := ev_M r3.2 c w) (la := lv_args 0 [.int r3.1]) (rest := []) (pc' := 83) (lv' := [(0, .ref 0), (1, .int x1)]) (fun n => rfl) (ok_fJ6_bitCount_0f7a4 hr4) ?_
    show Ev XL xs _ 174 (ev_M r4.2 c w) 83 [(0, .ref 0), (1, .int x1)] [.int r4.1] _
    cases h
    exact ev_r 1 (fun n => rfl)
  refine ev_e 2 h (fun hv6 h => ?_) (fun hv6 h => ?_)
  · refine ev_s 1 (M' := ev_M m c w) (pc' := 84) (lv' := [(0, .ref 0), (1, .int x1)]) (st' := []) (fun n => by rw [hv6]; rfl) ?_
    cases h
    exact ev_r 3 (fun n => rfl)
  refine ev_e 3 h (fun hv8 h => ?_) (fun hv8 h => ?_)
  · refine ev_s 1 (M' := ev_M m c w) (pc' := 89) (lv' := [(0, .ref 0), (1, .int x1)]) (st' := []) (fun n => by rw [hv8]; rfl) ?_
    obtain ⟨r7, hr7, h⟩ := Option.bind_eq_some_iff.mp h
    refine ev_c 3 (y' := 79) (M1 := ev_M m c w) (la := lv_args 0 [.ref 1]) (rest := []) (pc' := 96) (lv' := [(0, .ref 0), (1, .int x1)]) (fun n => rfl) (ok_fX8_size hr7) ?_
    show Ev XL xs _ 174 (ev_M r7.2 c w) 96 [(0, .ref 0), (1, .int x1)] [.int r7.1] _
    cases h
    exact ev_r 1 (fun n => rfl)
  refine ev_e 4 h (fun hv9 h => ?_) (fun hv9 h => ?_)
  · refine ev_s 1 (M' := ev_M m c w) (pc' := 97) (lv' := [(0, .ref 0), (1, .int x1)]) (st' := []) (fun n => by rw [hv9]; rfl) ?_
    cases h
    exact ev_r 3 (fun n => rfl)
  refine ev_e 5 h (fun hv10 h => ?_) (fun hv10 h => ?_)
  · refine ev_s 1 (M' := ev_M m c w) (pc' := 102) (lv' := [(0, .ref 0), (1, .int x1)]) (st' := []) (fun n => by rw [hv10]; rfl) ?_
    cases h
    exact ev_r 4 (fun n => rfl)
  refine ev_e 6 h (fun hv11 h => ?_) (fun hv11 h => ?_)
  · refine ev_s 1 (M' := ev_M m c w) (pc' := 110) (lv' := [(0, .ref 0), (1, .int x1)]) (st' := []) (fun n => by rw [hv11]; rfl) ?_
    cases h
    exact ev_r 3 (fun n => rfl)
  refine ev_e 7 h (fun hv13 h => ?_) (fun hv13 h => ?_)
  · refine ev_s 1 (M' := ev_M m c w) (pc' := 115) (lv' := [(0, .ref 0), (1, .int x1)]) (st' := []) (fun n => by rw [hv13]; rfl) ?_
    obtain ⟨r12, hr12, h⟩ := Option.bind_eq_some_iff.mp h
    refine ev_c 3 (y' := 59) (M1 := ev_M m c w) (la := lv_args 0 [.ref 577]) (rest := []) (pc' := 122) (lv' := [(0, .ref 0), (1, .int x1)]) (fun n => rfl) (ok_fX5_size hr12) ?_
    show Ev XL xs _ 174 (ev_M r12.2 c w) 122 [(0, .ref 0), (1, .int x1)] [.int r12.1] _
    cases h
    exact ev_r 1 (fun n => rfl)
  refine ev_e 8 h (fun hv14 h => ?_) (fun hv14 h => ?_)
  · refine ev_s 1 (M' := ev_M m c w) (pc' := 123) (lv' := [(0, .ref 0), (1, .int x1)]) (st' := []) (fun n => by rw [hv14]; rfl) ?_
    cases h
    exact ev_r 4 (fun n => rfl)
  refine ev_e 9 h (fun hv16 h => ?_) (fun hv16 h => ?_)
  · refine ev_s 1 (M' := ev_M m c w) (pc' := 131) (lv' := [(0, .ref 0), (1, .int x1)]) (st' := []) (fun n => by rw [hv16]; rfl) ?_
    obtain ⟨r15, hr15, h⟩ := Option.bind_eq_some_iff.mp h
    refine ev_c 3 (y' := 39) (M1 := ev_M m c w) (la := lv_args 0 [.ref 55]) (rest := []) (pc' := 138) (lv' := [(0, .ref 0), (1, .int x1)]) (fun n => rfl) (ok_fX3_size hr15) ?_
    show Ev XL xs _ 174 (ev_M r15.2 c w) 138 [(0, .ref 0), (1, .int x1)] [.int r15.1] _
    cases h
    exact ev_r 1 (fun n => rfl)
  have ghv2 : (x1 : Int32).toInt ≠ 0 := fun z => hv2 (Int32.toInt_inj.mp (z.trans rfl))
  have ghv5 : (x1 : Int32).toInt ≠ 1 := fun z => hv5 (Int32.toInt_inj.mp (z.trans rfl))
  have ghv6 : (x1 : Int32).toInt ≠ 2 := fun z => hv6 (Int32.toInt_inj.mp (z.trans rfl))
  have ghv8 : (x1 : Int32).toInt ≠ 3 := fun z => hv8 (Int32.toInt_inj.mp (z.trans rfl))
  have ghv9 : (x1 : Int32).toInt ≠ 4 := fun z => hv9 (Int32.toInt_inj.mp (z.trans rfl))
  have ghv10 : (x1 : Int32).toInt ≠ 5 := fun z => hv10 (Int32.toInt_inj.mp (z.trans rfl))
  have ghv11 : (x1 : Int32).toInt ≠ 6 := fun z => hv11 (Int32.toInt_inj.mp (z.trans rfl))
  have ghv13 : (x1 : Int32).toInt ≠ 7 := fun z => hv13 (Int32.toInt_inj.mp (z.trans rfl))
  have ghv14 : (x1 : Int32).toInt ≠ 8 := fun z => hv14 (Int32.toInt_inj.mp (z.trans rfl))
  have ghv16 : (x1 : Int32).toInt ≠ 9 := fun z => hv16 (Int32.toInt_inj.mp (z.trans rfl))
  refine ev_td (M' := ev_M m c w) (pc' := 139) (lv' := [(0, .ref 0), (1, .int x1)]) (st' := []) rfl (by omega) rfl ?_
  cases h
  exact ev_r 2 (fun n => rfl)
end EV
