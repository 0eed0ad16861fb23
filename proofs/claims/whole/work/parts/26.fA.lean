section EV
variable {XL : Nat} {xs : Nat → Int32} {d c w : Nat}

def fX0_begin (m : mm_MM) (t1 : Nat) (x2 : Int32) (x3 : Int32) : Option (mm_MM) :=
  some (wI (wI (wI (wI (wI (wI m 583 0 (m.1 t1 1)) 583 1 ((wI m 583 0 (m.1 t1 1)).1 t1 2)) 583 2 ((wI (wI m 583 0 (m.1 t1 1)) 583 1 ((wI m 583 0 (m.1 t1 1)).1 t1 2)).1 t1 4)) 583 3 x2) 583 4 0) 583 5 x3)
theorem ok_fX0_begin {m : mm_MM} {t1 : Nat} {x2 : Int32} {x3 : Int32} {q0 : mm_MM} (hk_t1 : mm_kd t1 = (9, 6)) (h : fX0_begin m t1 x2 x3 = some q0) : Ev XL xs d 1 (ev_M m c w) 0 (lv_args 0 [.ref 583, .ref t1, .int x2, .int x3]) [] (fr_v c w q0) := by
  unfold fX0_begin at h
  refine ev_s 2 (M' := ev_M m c w) (pc' := 2) (lv' := [(0, .ref 583), (1, .ref t1), (2, .int x2), (3, .int x3)]) (st' := [.ref t1, .ref 583]) (fun n => rfl) ?_
  refine ev_gf (x := .int (m.1 t1 1)) rfl (congrArg Prod.fst hk_t1) rfl rfl ?_
  refine ev_s 3 (M' := ev_M (wI m 583 0 (m.1 t1 1)) c w) (pc' := 10) (lv' := [(0, .ref 583), (1, .ref t1), (2, .int x2), (3, .int x3)]) (st' := [.ref t1, .ref 583]) (fun n => rfl) ?_
  refine ev_gf (x := .int ((wI m 583 0 (m.1 t1 1)).1 t1 2)) rfl (congrArg Prod.fst hk_t1) rfl rfl ?_
  refine ev_s 3 (M' := ev_M (wI (wI m 583 0 (m.1 t1 1)) 583 1 ((wI m 583 0 (m.1 t1 1)).1 t1 2)) c w) (pc' := 18) (lv' := [(0, .ref 583), (1, .ref t1), (2, .int x2), (3, .int x3)]) (st' := [.ref t1, .ref 583]) (fun n => rfl) ?_
  refine ev_gf (x := .int ((wI (wI m 583 0 (m.1 t1 1)) 583 1 ((wI m 583 0 (m.1 t1 1)).1 t1 2)).1 t1 4)) rfl (congrArg Prod.fst hk_t1) rfl rfl ?_
  cases h
  exact ev_r 11 (fun n => rfl)
def fX1_thingAt_c23 (m : mm_MM) (s0 : Option Nat) : Option (Option Nat × mm_MM) :=
  match s0 with
  | none =>
    some (none, m)
  | some u1 =>
    if mm_kd u1 = (9, 6) then
      some (some u1, m)
    else none
theorem ok_fX1_thingAt_c23 {m : mm_MM} {s0 : Option Nat} {q0 : Option Nat × mm_MM} (h : fX1_thingAt_c23 m s0 = some q0) : Ev XL xs d 3 (ev_M m c w) 23 [] [va_rf s0] (fr_r c w q0) := by
  unfold fX1_thingAt_c23 at h
  cases s0 with
  | none =>
    cases h
    exact ev_r 1 (fun n => rfl)
  | some u1 =>
    obtain ⟨hk_u1, h⟩ := sd_ift h
    cases h
    exact ev_r 1 (fun n => rfl)
def fX1_thingAt_c22 (m : mm_MM) : Option (Option Nat × mm_MM) :=
  fX1_thingAt_c23 m none
theorem ok_fX1_thingAt_c22 {m : mm_MM} {q0 : Option Nat × mm_MM} (h : fX1_thingAt_c22 m = some q0) : Ev XL xs d 3 (ev_M m c w) 22 [] [] (fr_r c w q0) := by
  unfold fX1_thingAt_c22 at h
  refine ev_s 1 (M' := ev_M m c w) (pc' := 23) (lv' := []) (st' := [va_rf none]) (fun n => rfl) ?_
  exact ok_fX1_thingAt_c23 h
def fX1_thingAt (m : mm_MM) (t0 : Nat) (x1 : Int32) : Option (Option Nat × mm_MM) :=
  (if x1 < 0 then
    fX1_thingAt_c22 m
   else
    (if x1 < 8 then
      (if x1 < 0 ∨ 8 ≤ x1.toNatClampNeg then none else
       fX1_thingAt_c23 m (some (t0 + 3 + x1.toNatClampNeg)))
     else
      fX1_thingAt_c22 m))
theorem ok_fX1_thingAt {m : mm_MM} {t0 : Nat} {x1 : Int32} {q0 : Option Nat × mm_MM} (hk_t0 : mm_kd t0 = (1, 10)) (h : fX1_thingAt m t0 x1 = some q0) : Ev XL xs d 3 (ev_M m c w) 0 (lv_args 0 [.ref t0, .int x1]) [] (fr_r c w q0) := by
  unfold fX1_thingAt at h
  refine ev_i 2 (M1 := ev_M m c w) (pc1 := 22) (lv1 := [(0, .ref t0), (1, .int x1)]) (st1 := []) (M2 := ev_M m c w) (pc2 := 4) (lv2 := [(0, .ref t0), (1, .int x1)]) (st2 := []) (fun n => rfl) h (fun hc1 h => ?_) (fun hc1 h => ?_)
  · refine ev_sub (lv := []) (mn_of rfl (by repeat (first | exact trivial | refine And.intro rfl ?_))) ?_
    exact ok_fX1_thingAt_c22 h
  · refine ev_s 2 (M' := ev_M m c w) (pc' := 6) (lv' := [(0, .ref t0), (1, .int x1)]) (st' := [.ref t0, .int x1]) (fun n => rfl) ?_
    refine ev_gf (x := .ref (t0 + 2)) rfl (congrArg Prod.fst hk_t0) rfl (congrArg va_rf (tr_Lx1 hk_t0)) ?_
    refine ev_al (n := 8) rfl (by rw [(congrArg Prod.fst (kd_L2 hk_t0))]; decide) (congrArg Prod.snd (kd_L2 hk_t0)) ?_
    refine ev_i 1 (M1 := ev_M m c w) (pc1 := 13) (lv1 := [(0, .ref t0), (1, .int x1)]) (st1 := []) (M2 := ev_M m c w) (pc2 := 22) (lv2 := [(0, .ref t0), (1, .int x1)]) (st2 := []) (fun n => rfl) h (fun hc2 h => ?_) (fun hc2 h => ?_)
    · refine ev_s 1 (M' := ev_M m c w) (pc' := 14) (lv' := [(0, .ref t0), (1, .int x1)]) (st' := [.ref t0]) (fun n => rfl) ?_
      refine ev_gf (x := .ref (t0 + 2)) rfl (congrArg Prod.fst hk_t0) rfl (congrArg va_rf (tr_Lx1 hk_t0)) ?_
      refine ev_s 1 (M' := ev_M m c w) (pc' := 18) (lv' := [(0, .ref t0), (1, .int x1)]) (st' := [.int x1, .ref (t0 + 2)]) (fun n => rfl) ?_
      refine ev_aa (n := 8) (b := (t0 + 3 + x1.toNatClampNeg)) rfl (by rw [(congrArg Prod.fst (kd_L2 hk_t0))]; decide) (congrArg Prod.snd (kd_L2 hk_t0)) h (fun hj => tr_Le hk_t0 hj) (fun hx3 h => ?_)
      refine ev_s 1 (M' := ev_M m c w) (pc' := 23) (lv' := [(0, .ref t0), (1, .int x1)]) (st' := [va_rf (some (t0 + 3 + x1.toNatClampNeg))]) (fun n => rfl) ?_
      refine ev_sub (lv := []) (mn_of rfl (by repeat (first | exact trivial | refine And.intro rfl ?_))) ?_
      exact ok_fX1_thingAt_c23 h
    · refine ev_sub (lv := []) (mn_of rfl (by repeat (first | exact trivial | refine And.intro rfl ?_))) ?_
      exact ok_fX1_thingAt_c22 h
def fX1_plots (m : mm_MM) (t0 : Nat) : Option (Int32 × mm_MM) :=
  some ((m.1 t0 3 * m.1 t0 4), m)
theorem ok_fX1_plots {m : mm_MM} {t0 : Nat} {q0 : Int32 × mm_MM} (hk_t0 : mm_kd t0 = (1, 10)) (h : fX1_plots m t0 = some q0) : Ev XL xs d 4 (ev_M m c w) 0 (lv_args 0 [.ref t0]) [] (fr_i c w q0) := by
  unfold fX1_plots at h
  refine ev_s 1 (M' := ev_M m c w) (pc' := 1) (lv' := [(0, .ref t0)]) (st' := [.ref t0]) (fun n => rfl) ?_
  refine ev_gf (x := .int (m.1 t0 3)) rfl (congrArg Prod.fst hk_t0) rfl rfl ?_
  refine ev_s 1 (M' := ev_M m c w) (pc' := 5) (lv' := [(0, .ref t0)]) (st' := [.ref t0, .int (m.1 t0 3)]) (fun n => rfl) ?_
  refine ev_gf (x := .int (m.1 t0 4)) rfl (congrArg Prod.fst hk_t0) rfl rfl ?_
  cases h
  exact ev_r 2 (fun n => rfl)
def fX1_rowOf_c17 (m : mm_MM) (s0 : Int32) : Option (Int32 × mm_MM) :=
  some (s0, m)
theorem ok_fX1_rowOf_c17 {m : mm_MM} {s0 : Int32} {q0 : Int32 × mm_MM} (h : fX1_rowOf_c17 m s0 = some q0) : Ev XL xs d 5 (ev_M m c w) 17 [] [.int s0] (fr_i c w q0) := by
  unfold fX1_rowOf_c17 at h
  cases h
  exact ev_r 1 (fun n => rfl)
def fX1_rowOf (m : mm_MM) (t0 : Nat) (x1 : Int32) : Option (Int32 × mm_MM) :=
  (if m.1 t0 3 ≤ 0 then
    fX1_rowOf_c17 m 0
   else
    (if m.1 t0 3 = (0 : Int32) then none else
     fX1_rowOf_c17 m ((x1 : Int32) / m.1 t0 3)))
theorem ok_fX1_rowOf {m : mm_MM} {t0 : Nat} {x1 : Int32} {q0 : Int32 × mm_MM} (hk_t0 : mm_kd t0 = (1, 10)) (h : fX1_rowOf m t0 x1 = some q0) : Ev XL xs d 5 (ev_M m c w) 0 (lv_args 0 [.ref t0, .int x1]) [] (fr_i c w q0) := by
  unfold fX1_rowOf at h
  refine ev_s 1 (M' := ev_M m c w) (pc' := 1) (lv' := [(0, .ref t0), (1, .int x1)]) (st' := [.ref t0]) (fun n => rfl) ?_
  refine ev_gf (x := .int (m.1 t0 3)) rfl (congrArg Prod.fst hk_t0) rfl rfl ?_
  refine ev_i 1 (M1 := ev_M m c w) (pc1 := 16) (lv1 := [(0, .ref t0), (1, .int x1)]) (st1 := []) (M2 := ev_M m c w) (pc2 := 7) (lv2 := [(0, .ref t0), (1, .int x1)]) (st2 := []) (fun n => rfl) h (fun hc1 h => ?_) (fun hc1 h => ?_)
  · refine ev_s 1 (M' := ev_M m c w) (pc' := 17) (lv' := [(0, .ref t0), (1, .int x1)]) (st' := [.int 0]) (fun n => rfl) ?_
    refine ev_sub (lv := []) (mn_of rfl (by repeat (first | exact trivial | refine And.intro rfl ?_))) ?_
    exact ok_fX1_rowOf_c17 h
  · refine ev_s 2 (M' := ev_M m c w) (pc' := 9) (lv' := [(0, .ref t0), (1, .int x1)]) (st' := [.ref t0, .int x1]) (fun n => rfl) ?_
    refine ev_gf (x := .int (m.1 t0 3)) rfl (congrArg Prod.fst hk_t0) rfl rfl ?_
    refine ev_g 1 (M1 := ev_M m c w) (pc1 := 13) (lv1 := [(0, .ref t0), (1, .int x1)]) (st1 := [.int ((x1 : Int32) / m.1 t0 3)]) (fun n => rfl) h (fun _ h => ?_)
    refine ev_s 1 (M' := ev_M m c w) (pc' := 17) (lv' := [(0, .ref t0), (1, .int x1)]) (st' := [.int ((x1 : Int32) / m.1 t0 3)]) (fun n => rfl) ?_
    refine ev_sub (lv := []) (mn_of rfl (by repeat (first | exact trivial | refine And.intro rfl ?_))) ?_
    exact ok_fX1_rowOf_c17 h
def fJ9_abs_0f7a4_c10 (m : mm_MM) (s0 : Int32) : Option (Int32 × mm_MM) :=
  some (s0, m)
theorem ok_fJ9_abs_0f7a4_c10 {m : mm_MM} {s0 : Int32} {q0 : Int32 × mm_MM} (h : fJ9_abs_0f7a4_c10 m s0 = some q0) : Ev XL xs d 305 (ev_M m c w) 10 [] [.int s0] (fr_i c w q0) := by
  unfold fJ9_abs_0f7a4_c10 at h
  cases h
  exact ev_r 1 (fun n => rfl)
def fJ9_abs_0f7a4 (m : mm_MM) (x0 : Int32) : Option (Int32 × mm_MM) :=
  (if x0 < 0 then
    fJ9_abs_0f7a4_c10 m (-x0)
   else
    fJ9_abs_0f7a4_c10 m x0)
theorem ok_fJ9_abs_0f7a4 {m : mm_MM} {x0 : Int32} {q0 : Int32 × mm_MM} (h : fJ9_abs_0f7a4 m x0 = some q0) : Ev XL xs d 305 (ev_M m c w) 0 (lv_args 0 [.int x0]) [] (fr_i c w q0) := by
  unfold fJ9_abs_0f7a4 at h
  refine ev_i 2 (M1 := ev_M m c w) (pc1 := 4) (lv1 := [(0, .int x0)]) (st1 := []) (M2 := ev_M m c w) (pc2 := 9) (lv2 := [(0, .int x0)]) (st2 := []) (fun n => rfl) h (fun hc1 h => ?_) (fun hc1 h => ?_)
  · refine ev_s 3 (M' := ev_M m c w) (pc' := 10) (lv' := [(0, .int x0)]) (st' := [.int (-x0)]) (fun n => rfl) ?_
    refine ev_sub (lv := []) (mn_of rfl (by repeat (first | exact trivial | refine And.intro rfl ?_))) ?_
    exact ok_fJ9_abs_0f7a4_c10 h
  · refine ev_s 1 (M' := ev_M m c w) (pc' := 10) (lv' := [(0, .int x0)]) (st' := [.int x0]) (fun n => rfl) ?_
    refine ev_sub (lv := []) (mn_of rfl (by repeat (first | exact trivial | refine And.intro rfl ?_))) ?_
    exact ok_fJ9_abs_0f7a4_c10 h
def fX1_steps_c24 (m : mm_MM) (t0 : Nat) (x1 : Int32) (x2 : Int32) (s0 : Int32) : Option (Int32 × mm_MM) :=
  (fX1_rowOf m t0 x1).bind fun r1 =>
   (fX1_rowOf r1.2 t0 x2).bind fun r2 =>
    (fJ9_abs_0f7a4 r2.2 (r1.1 - r2.1)).bind fun r3 =>
     (fJ9_abs_0f7a4 r3.2 s0).bind fun r4 =>
      some ((r3.1 + r4.1), r4.2)
theorem ok_fX1_steps_c24 {m : mm_MM} {t0 : Nat} {x1 : Int32} {x2 : Int32} {s0 : Int32} {q0 : Int32 × mm_MM} (hk_t0 : mm_kd t0 = (1, 10)) (h : fX1_steps_c24 m t0 x1 x2 s0 = some q0) : Ev XL xs (d + 1) 6 (ev_M m c w) 24 [(0, .ref t0), (1, .int x1), (2, .int x2)] [.int s0] (fr_i c w q0) := by
  unfold fX1_steps_c24 at h
  refine ev_s 3 (M' := ev_M m c w) (pc' := 27) (lv' := [(3, .int s0), (0, .ref t0), (1, .int x1), (2, .int x2)]) (st' := [.int x1, .ref t0]) (fun n => rfl) ?_
  obtain ⟨r1, hr1, h⟩ := Option.bind_eq_some_iff.mp h
  refine ev_cv (rest := []) rfl rfl (congrArg Prod.fst hk_t0) rfl (ok_fX1_rowOf hk_t0 hr1) ?_
  show Ev XL xs _ 6 (ev_M r1.2 c w) 30 [(3, .int s0), (0, .ref t0), (1, .int x1), (2, .int x2)] [.int r1.1] _
  refine ev_s 2 (M' := ev_M r1.2 c w) (pc' := 32) (lv' := [(3, .int s0), (0, .ref t0), (1, .int x1), (2, .int x2)]) (st' := [.int x2, .ref t0, .int r1.1]) (fun n => rfl) ?_
  obtain ⟨r2, hr2, h⟩ := Option.bind_eq_some_iff.mp h
  refine ev_cv (rest := [.int r1.1]) rfl rfl (congrArg Prod.fst hk_t0) rfl (ok_fX1_rowOf hk_t0 hr2) ?_
  show Ev XL xs _ 6 (ev_M r2.2 c w) 35 [(3, .int s0), (0, .ref t0), (1, .int x1), (2, .int x2)] [.int r2.1, .int r1.1] _
  obtain ⟨r3, hr3, h⟩ := Option.bind_eq_some_iff.mp h
  refine ev_c 2 (y' := 305) (M1 := ev_M r2.2 c w) (la := lv_args 0 [.int (r1.1 - r2.1)]) (rest := []) (pc' := 39) (lv' := [(3, .int s0), (0, .ref t0), (1, .int x1), (2, .int x2)]) (fun n => rfl) (ok_fJ9_abs_0f7a4 hr3) ?_
  show Ev XL xs _ 6 (ev_M r3.2 c w) 39 [(3, .int s0), (0, .ref t0), (1, .int x1), (2, .int x2)] [.int r3.1] _
  obtain ⟨r4, hr4, h⟩ := Option.bind_eq_some_iff.mp h
  refine ev_c 2 (y' := 305) (M1 := ev_M r3.2 c w) (la := lv_args 0 [.int s0]) (rest := [.int r3.1]) (pc' := 43) (lv' := [(3, .int s0), (0, .ref t0), (1, .int x1), (2, .int x2)]) (fun n => rfl) (ok_fJ9_abs_0f7a4 hr4) ?_
  show Ev XL xs _ 6 (ev_M r4.2 c w) 43 [(3, .int s0), (0, .ref t0), (1, .int x1), (2, .int x2)] [.int r4.1, .int r3.1] _
  cases h
  exact ev_r 2 (fun n => rfl)
def fX1_steps (m : mm_MM) (t0 : Nat) (x1 : Int32) (x2 : Int32) : Option (Int32 × mm_MM) :=
  (if m.1 t0 3 ≤ 0 then
    fX1_steps_c24 m t0 x1 x2 0
   else
    (if m.1 t0 3 = (0 : Int32) then none else
     (if m.1 t0 3 = (0 : Int32) then none else
      fX1_steps_c24 m t0 x1 x2 (((x1 : Int32) - x1 / m.1 t0 3 * m.1 t0 3) - ((x2 : Int32) - x2 / m.1 t0 3 * m.1 t0 3)))))
theorem ok_fX1_steps {m : mm_MM} {t0 : Nat} {x1 : Int32} {x2 : Int32} {q0 : Int32 × mm_MM} (hk_t0 : mm_kd t0 = (1, 10)) (h : fX1_steps m t0 x1 x2 = some q0) : Ev XL xs (d + 1) 6 (ev_M m c w) 0 (lv_args 0 [.ref t0, .int x1, .int x2]) [] (fr_i c w q0) := by
  unfold fX1_steps at h
  refine ev_s 1 (M' := ev_M m c w) (pc' := 1) (lv' := [(0, .ref t0), (1, .int x1), (2, .int x2)]) (st' := [.ref t0]) (fun n => rfl) ?_
  refine ev_gf (x := .int (m.1 t0 3)) rfl (congrArg Prod.fst hk_t0) rfl rfl ?_
  refine ev_i 1 (M1 := ev_M m c w) (pc1 := 23) (lv1 := [(0, .ref t0), (1, .int x1), (2, .int x2)]) (st1 := []) (M2 := ev_M m c w) (pc2 := 7) (lv2 := [(0, .ref t0), (1, .int x1), (2, .int x2)]) (st2 := []) (fun n => rfl) h (fun hc1 h => ?_) (fun hc1 h => ?_)
  · refine ev_s 1 (M' := ev_M m c w) (pc' := 24) (lv' := [(0, .ref t0), (1, .int x1), (2, .int x2)]) (st' := [.int 0]) (fun n => rfl) ?_
    exact ok_fX1_steps_c24 hk_t0 h
  · refine ev_s 2 (M' := ev_M m c w) (pc' := 9) (lv' := [(0, .ref t0), (1, .int x1), (2, .int x2)]) (st' := [.ref t0, .int x1]) (fun n => rfl) ?_
    refine ev_gf (x := .int (m.1 t0 3)) rfl (congrArg Prod.fst hk_t0) rfl rfl ?_
    refine ev_g 1 (M1 := ev_M m c w) (pc1 := 13) (lv1 := [(0, .ref t0), (1, .int x1), (2, .int x2)]) (st1 := [.int ((x1 : Int32) - x1 / m.1 t0 3 * m.1 t0 3)]) (fun n => rfl) h (fun _ h => ?_)
    refine ev_s 2 (M' := ev_M m c w) (pc' := 15) (lv' := [(0, .ref t0), (1, .int x1), (2, .int x2)]) (st' := [.ref t0, .int x2, .int ((x1 : Int32) - x1 / m.1 t0 3 * m.1 t0 3)]) (fun n => rfl) ?_
    refine ev_gf (x := .int (m.1 t0 3)) rfl (congrArg Prod.fst hk_t0) rfl rfl ?_
    refine ev_g 1 (M1 := ev_M m c w) (pc1 := 19) (lv1 := [(0, .ref t0), (1, .int x1), (2, .int x2)]) (st1 := [.int ((x2 : Int32) - x2 / m.1 t0 3 * m.1 t0 3), .int ((x1 : Int32) - x1 / m.1 t0 3 * m.1 t0 3)]) (fun n => rfl) h (fun _ h => ?_)
    refine ev_s 2 (M' := ev_M m c w) (pc' := 24) (lv' := [(0, .ref t0), (1, .int x1), (2, .int x2)]) (st' := [.int (((x1 : Int32) - x1 / m.1 t0 3 * m.1 t0 3) - ((x2 : Int32) - x2 / m.1 t0 3 * m.1 t0 3))]) (fun n => rfl) ?_
    exact ok_fX1_steps_c24 hk_t0 h
def fX9_copy (m : mm_MM) (t0 : Nat) (t1 : Nat) : Option (mm_MM) :=
  (if m.1 t1 0 = 0 ∨ m.1 t1 0 = 1 then
    (if (wI (wI (wI (wI (wI m t0 0 (m.1 t1 0)) t0 1 ((wI m t0 0 (m.1 t1 0)).1 t1 1)) t0 2 ((wI (wI m t0 0 (m.1 t1 0)) t0 1 ((wI m t0 0 (m.1 t1 0)).1 t1 1)).1 t1 2)) t0 3 ((wI (wI (wI m t0 0 (m.1 t1 0)) t0 1 ((wI m t0 0 (m.1 t1 0)).1 t1 1)) t0 2 ((wI (wI m t0 0 (m.1 t1 0)) t0 1 ((wI m t0 0 (m.1 t1 0)).1 t1 1)).1 t1 2)).1 t1 3)) t0 4 ((wI (wI (wI (wI m t0 0 (m.1 t1 0)) t0 1 ((wI m t0 0 (m.1 t1 0)).1 t1 1)) t0 2 ((wI (wI m t0 0 (m.1 t1 0)) t0 1 ((wI m t0 0 (m.1 t1 0)).1 t1 1)).1 t1 2)) t0 3 ((wI (wI (wI m t0 0 (m.1 t1 0)) t0 1 ((wI m t0 0 (m.1 t1 0)).1 t1 1)) t0 2 ((wI (wI m t0 0 (m.1 t1 0)) t0 1 ((wI m t0 0 (m.1 t1 0)).1 t1 1)).1 t1 2)).1 t1 3)).1 t1 4)).1 t1 5 = 0 ∨ (wI (wI (wI (wI (wI m t0 0 (m.1 t1 0)) t0 1 ((wI m t0 0 (m.1 t1 0)).1 t1 1)) t0 2 ((wI (wI m t0 0 (m.1 t1 0)) t0 1 ((wI m t0 0 (m.1 t1 0)).1 t1 1)).1 t1 2)) t0 3 ((wI (wI (wI m t0 0 (m.1 t1 0)) t0 1 ((wI m t0 0 (m.1 t1 0)).1 t1 1)) t0 2 ((wI (wI m t0 0 (m.1 t1 0)) t0 1 ((wI m t0 0 (m.1 t1 0)).1 t1 1)).1 t1 2)).1 t1 3)) t0 4 ((wI (wI (wI (wI m t0 0 (m.1 t1 0)) t0 1 ((wI m t0 0 (m.1 t1 0)).1 t1 1)) t0 2 ((wI (wI m t0 0 (m.1 t1 0)) t0 1 ((wI m t0 0 (m.1 t1 0)).1 t1 1)).1 t1 2)) t0 3 ((wI (wI (wI m t0 0 (m.1 t1 0)) t0 1 ((wI m t0 0 (m.1 t1 0)).1 t1 1)) t0 2 ((wI (wI m t0 0 (m.1 t1 0)) t0 1 ((wI m t0 0 (m.1 t1 0)).1 t1 1)).1 t1 2)).1 t1 3)).1 t1 4)).1 t1 5 = 1 then
      some (wI (wI (wI (wI (wI (wI m t0 0 (m.1 t1 0)) t0 1 ((wI m t0 0 (m.1 t1 0)).1 t1 1)) t0 2 ((wI (wI m t0 0 (m.1 t1 0)) t0 1 ((wI m t0 0 (m.1 t1 0)).1 t1 1)).1 t1 2)) t0 3 ((wI (wI (wI m t0 0 (m.1 t1 0)) t0 1 ((wI m t0 0 (m.1 t1 0)).1 t1 1)) t0 2 ((wI (wI m t0 0 (m.1 t1 0)) t0 1 ((wI m t0 0 (m.1 t1 0)).1 t1 1)).1 t1 2)).1 t1 3)) t0 4 ((wI (wI (wI (wI m t0 0 (m.1 t1 0)) t0 1 ((wI m t0 0 (m.1 t1 0)).1 t1 1)) t0 2 ((wI (wI m t0 0 (m.1 t1 0)) t0 1 ((wI m t0 0 (m.1 t1 0)).1 t1 1)).1 t1 2)) t0 3 ((wI (wI (wI m t0 0 (m.1 t1 0)) t0 1 ((wI m t0 0 (m.1 t1 0)).1 t1 1)) t0 2 ((wI (wI m t0 0 (m.1 t1 0)) t0 1 ((wI m t0 0 (m.1 t1 0)).1 t1 1)).1 t1 2)).1 t1 3)).1 t1 4)) t0 5 ((wI (wI (wI (wI (wI m t0 0 (m.1 t1 0)) t0 1 ((wI m t0 0 (m.1 t1 0)).1 t1 1)) t0 2 ((wI (wI m t0 0 (m.1 t1 0)) t0 1 ((wI m t0 0 (m.1 t1 0)).1 t1 1)).1 t1 2)) t0 3 ((wI (wI (wI m t0 0 (m.1 t1 0)) t0 1 ((wI m t0 0 (m.1 t1 0)).1 t1 1)) t0 2 ((wI (wI m t0 0 (m.1 t1 0)) t0 1 ((wI m t0 0 (m.1 t1 0)).1 t1 1)).1 t1 2)).1 t1 3)) t0 4 ((wI (wI (wI (wI m t0 0 (m.1 t1 0)) t0 1 ((wI m t0 0 (m.1 t1 0)).1 t1 1)) t0 2 ((wI (wI m t0 0 (m.1 t1 0)) t0 1 ((wI m t0 0 (m.1 t1 0)).1 t1 1)).1 t1 2)) t0 3 ((wI (wI (wI m t0 0 (m.1 t1 0)) t0 1 ((wI m t0 0 (m.1 t1 0)).1 t1 1)) t0 2 ((wI (wI m t0 0 (m.1 t1 0)) t0 1 ((wI m t0 0 (m.1 t1 0)).1 t1 1)).1 t1 2)).1 t1 3)).1 t1 4)).1 t1 5))
     else none)
   else none)
theorem ok_fX9_copy {m : mm_MM} {t0 : Nat} {t1 : Nat} {q0 : mm_MM} (hk_t0 : mm_kd t0 = (9, 6)) (hk_t1 : mm_kd t1 = (9, 6)) (h : fX9_copy m t0 t1 = some q0) : Ev XL xs d 91 (ev_M m c w) 0 (lv_args 0 [.ref t0, .ref t1]) [] (fr_v c w q0) := by
  unfold fX9_copy at h
  refine ev_s 2 (M' := ev_M m c w) (pc' := 2) (lv' := [(0, .ref t0), (1, .ref t1)]) (st' := [.ref t1, .ref t0]) (fun n => rfl) ?_
  refine ev_gf (x := .int (m.1 t1 0)) rfl (congrArg Prod.fst hk_t1) rfl rfl ?_
  refine ev_pfz rfl (congrArg Prod.fst hk_t0) rfl rfl rfl h (fun h => ?_)
  refine ev_s 2 (M' := ev_M (wI m t0 0 (m.1 t1 0)) c w) (pc' := 10) (lv' := [(0, .ref t0), (1, .ref t1)]) (st' := [.ref t1, .ref t0]) (fun n => rfl) ?_
  refine ev_gf (x := .int ((wI m t0 0 (m.1 t1 0)).1 t1 1)) rfl (congrArg Prod.fst hk_t1) rfl rfl ?_
  refine ev_pfi rfl (congrArg Prod.fst hk_t0) rfl rfl rfl ?_
  refine ev_s 2 (M' := ev_M (wI (wI m t0 0 (m.1 t1 0)) t0 1 ((wI m t0 0 (m.1 t1 0)).1 t1 1)) c w) (pc' := 18) (lv' := [(0, .ref t0), (1, .ref t1)]) (st' := [.ref t1, .ref t0]) (fun n => rfl) ?_
  refine ev_gf (x := .int ((wI (wI m t0 0 (m.1 t1 0)) t0 1 ((wI m t0 0 (m.1 t1 0)).1 t1 1)).1 t1 2)) rfl (congrArg Prod.fst hk_t1) rfl rfl ?_
  refine ev_pfi rfl (congrArg Prod.fst hk_t0) rfl rfl rfl ?_
  refine ev_s 2 (M' := ev_M (wI (wI (wI m t0 0 (m.1 t1 0)) t0 1 ((wI m t0 0 (m.1 t1 0)).1 t1 1)) t0 2 ((wI (wI m t0 0 (m.1 t1 0)) t0 1 ((wI m t0 0 (m.1 t1 0)).1 t1 1)).1 t1 2)) c w) (pc' := 26) (lv' := [(0, .ref t0), (1, .ref t1)]) (st' := [.ref t1, .ref t0]) (fun n => rfl) ?_
  refine ev_gf (x := .int ((wI (wI (wI m t0 0 (m.1 t1 0)) t0 1 ((wI m t0 0 (m.1 t1 0)).1 t1 1)) t0 2 ((wI (wI m t0 0 (m.1 t1 0)) t0 1 ((wI m t0 0 (m.1 t1 0)).1 t1 1)).1 t1 2)).1 t1 3)) rfl (congrArg Prod.fst hk_t1) rfl rfl ?_
  refine ev_pfi rfl (congrArg Prod.fst hk_t0) rfl rfl rfl ?_
  refine ev_s 2 (M' := ev_M (wI (wI (wI (wI m t0 0 (m.1 t1 0)) t0 1 ((wI m t0 0 (m.1 t1 0)).1 t1 1)) t0 2 ((wI (wI m t0 0 (m.1 t1 0)) t0 1 ((wI m t0 0 (m.1 t1 0)).1 t1 1)).1 t1 2)) t0 3 ((wI (wI (wI m t0 0 (m.1 t1 0)) t0 1 ((wI m t0 0 (m.1 t1 0)).1 t1 1)) t0 2 ((wI (wI m t0 0 (m.1 t1 0)) t0 1 ((wI m t0 0 (m.1 t1 0)).1 t1 1)).1 t1 2)).1 t1 3)) c w) (pc' := 34) (lv' := [(0, .ref t0), (1, .ref t1)]) (st' := [.ref t1, .ref t0]) (fun n => rfl) ?_
  refine ev_gf (x := .int ((wI (wI (wI (wI m t0 0 (m.1 t1 0)) t0 1 ((wI m t0 0 (m.1 t1 0)).1 t1 1)) t0 2 ((wI (wI m t0 0 (m.1 t1 0)) t0 1 ((wI m t0 0 (m.1 t1 0)).1 t1 1)).1 t1 2)) t0 3 ((wI (wI (wI m t0 0 (m.1 t1 0)) t0 1 ((wI m t0 0 (m.1 t1 0)).1 t1 1)) t0 2 ((wI (wI m t0 0 (m.1 t1 0)) t0 1 ((wI m t0 0 (m.1 t1 0)).1 t1 1)).1 t1 2)).1 t1 3)).1 t1 4)) rfl (congrArg Prod.fst hk_t1) rfl rfl ?_
  refine ev_pfi rfl (congrArg Prod.fst hk_t0) rfl rfl rfl ?_
  refine ev_s 2 (M' := ev_M (wI (wI (wI (wI (wI m t0 0 (m.1 t1 0)) t0 1 ((wI m t0 0 (m.1 t1 0)).1 t1 1)) t0 2 ((wI (wI m t0 0 (m.1 t1 0)) t0 1 ((wI m t0 0 (m.1 t1 0)).1 t1 1)).1 t1 2)) t0 3 ((wI (wI (wI m t0 0 (m.1 t1 0)) t0 1 ((wI m t0 0 (m.1 t1 0)).1 t1 1)) t0 2 ((wI (wI m t0 0 (m.1 t1 0)) t0 1 ((wI m t0 0 (m.1 t1 0)).1 t1 1)).1 t1 2)).1 t1 3)) t0 4 ((wI (wI (wI (wI m t0 0 (m.1 t1 0)) t0 1 ((wI m t0 0 (m.1 t1 0)).1 t1 1)) t0 2 ((wI (wI m t0 0 (m.1 t1 0)) t0 1 ((wI m t0 0 (m.1 t1 0)).1 t1 1)).1 t1 2)) t0 3 ((wI (wI (wI m t0 0 (m.1 t1 0)) t0 1 ((wI m t0 0 (m.1 t1 0)).1 t1 1)) t0 2 ((wI (wI m t0 0 (m.1 t1 0)) t0 1 ((wI m t0 0 (m.1 t1 0)).1 t1 1)).1 t1 2)).1 t1 3)).1 t1 4)) c w) (pc' := 42) (lv' := [(0, .ref t0), (1, .ref t1)]) (st' := [.ref t1, .ref t0]) (fun n => rfl) ?_
  refine ev_gf (x := .int ((wI (wI (wI (wI (wI m t0 0 (m.1 t1 0)) t0 1 ((wI m t0 0 (m.1 t1 0)).1 t1 1)) t0 2 ((wI (wI m t0 0 (m.1 t1 0)) t0 1 ((wI m t0 0 (m.1 t1 0)).1 t1 1)).1 t1 2)) t0 3 ((wI (wI (wI m t0 0 (m.1 t1 0)) t0 1 ((wI m t0 0 (m.1 t1 0)).1 t1 1)) t0 2 ((wI (wI m t0 0 (m.1 t1 0)) t0 1 ((wI m t0 0 (m.1 t1 0)).1 t1 1)).1 t1 2)).1 t1 3)) t0 4 ((wI (wI (wI (wI m t0 0 (m.1 t1 0)) t0 1 ((wI m t0 0 (m.1 t1 0)).1 t1 1)) t0 2 ((wI (wI m t0 0 (m.1 t1 0)) t0 1 ((wI m t0 0 (m.1 t1 0)).1 t1 1)).1 t1 2)) t0 3 ((wI (wI (wI m t0 0 (m.1 t1 0)) t0 1 ((wI m t0 0 (m.1 t1 0)).1 t1 1)) t0 2 ((wI (wI m t0 0 (m.1 t1 0)) t0 1 ((wI m t0 0 (m.1 t1 0)).1 t1 1)).1 t1 2)).1 t1 3)).1 t1 4)).1 t1 5)) rfl (congrArg Prod.fst hk_t1) rfl rfl ?_
  refine ev_pfz rfl (congrArg Prod.fst hk_t0) rfl rfl rfl h (fun h => ?_)
  cases h
  exact ev_r 1 (fun n => rfl)
def fX10_copyRow_c26 (m : mm_MM) : Option (mm_MM) :=
  some m
theorem ok_fX10_copyRow_c26 {m : mm_MM} {q0 : mm_MM} (h : fX10_copyRow_c26 m = some q0) : Ev XL xs d 177 (ev_M m c w) 26 [] [] (fr_v c w q0) := by
  unfold fX10_copyRow_c26 at h
  cases h
  exact ev_r 1 (fun n => rfl)
def fX10_copyRow_c2 : Nat → mm_MM → Nat → Nat → Int32 → Option (mm_MM)
  | 0 => fun _ _ _ _ => none
  | n + 1 => fun m t0 t1 x2 =>
    (if x2 < (Int32.ofNat (mm_kd t0).2) then
      (if x2 < (Int32.ofNat (mm_kd t1).2) then
        (if x2 < 0 ∨ (mm_kd t0).2 ≤ x2.toNatClampNeg then none else
         (if x2 < 0 ∨ (mm_kd t1).2 ≤ x2.toNatClampNeg then none else
          fX10_copyRow_c2 n (wI m t1 x2.toNatClampNeg (m.1 t0 x2.toNatClampNeg)) t0 t1 (x2 + 1)))
       else
        fX10_copyRow_c26 m)
     else
      fX10_copyRow_c26 m)
theorem ok_fX10_copyRow_c2 : ∀ (n : Nat) (m : mm_MM) (t0 : Nat) (t1 : Nat) (x2 : Int32) (q0 : mm_MM) (hk_t0 : (mm_kd t0).1 = 20) (hk_t1 : (mm_kd t1).1 = 20), fX10_copyRow_c2 n m t0 t1 x2 = some q0 → Ev XL xs d 177 (ev_M m c w) 2 [(0, .ref t0), (1, .ref t1), (2, .int x2)] [] (fr_v c w q0) := by
  intro n
  induction n with
  | zero => intro m t0 t1 x2 q0 hk_t0 hk_t1 h; exact absurd (show (none : Option (mm_MM)) = some q0 from h) (by simp)
  | succ n ih =>
    intro m t0 t1 x2 q0 hk_t0 hk_t1 h
    unfold fX10_copyRow_c2 at h
    refine ev_s 2 (M' := ev_M m c w) (pc' := 4) (lv' := [(0, .ref t0), (1, .ref t1), (2, .int x2)]) (st' := [.ref t0, .int x2]) (fun n => rfl) ?_
    refine ev_al (n := (mm_kd t0).2) rfl (by rw [hk_t0]; decide) rfl ?_
    refine ev_i 1 (M1 := ev_M m c w) (pc1 := 8) (lv1 := [(0, .ref t0), (1, .ref t1), (2, .int x2)]) (st1 := []) (M2 := ev_M m c w) (pc2 := 26) (lv2 := [(0, .ref t0), (1, .ref t1), (2, .int x2)]) (st2 := []) (fun n => rfl) h (fun hc1 h => ?_) (fun hc1 h => ?_)
    · refine ev_s 2 (M' := ev_M m c w) (pc' := 10) (lv' := [(0, .ref t0), (1, .ref t1), (2, .int x2)]) (st' := [.ref t1, .int x2]) (fun n => rfl) ?_
      refine ev_al (n := (mm_kd t1).2) rfl (by rw [hk_t1]; decide) rfl ?_
      refine ev_i 1 (M1 := ev_M m c w) (pc1 := 14) (lv1 := [(0, .ref t0), (1, .ref t1), (2, .int x2)]) (st1 := []) (M2 := ev_M m c w) (pc2 := 26) (lv2 := [(0, .ref t0), (1, .ref t1), (2, .int x2)]) (st2 := []) (fun n => rfl) h (fun hc2 h => ?_) (fun hc2 h => ?_)
      · refine ev_s 4 (M' := ev_M m c w) (pc' := 18) (lv' := [(0, .ref t0), (1, .ref t1), (2, .int x2)]) (st' := [.int x2, .ref t0, .int x2, .ref t1]) (fun n => rfl) ?_
        refine ev_ia (n := (mm_kd t0).2) rfl hk_t0 rfl h (fun _ h => ?_)
        refine ev_is (n := (mm_kd t1).2) rfl hk_t1 rfl h (fun _ h => ?_)
        refine ev_s 2 (M' := ev_M (wI m t1 x2.toNatClampNeg (m.1 t0 x2.toNatClampNeg)) c w) (pc' := 2) (lv' := [(2, .int (x2 + 1)), (0, .ref t0), (1, .ref t1)]) (st' := []) (fun n => rfl) ?_
        refine ev_sub (lv := [(0, .ref t0), (1, .ref t1), (2, .int (x2 + 1))]) (mn_of rfl (by repeat (first | exact trivial | refine And.intro rfl ?_))) ?_
        exact ih _ _ _ _ _ hk_t0 hk_t1 h
      · refine ev_sub (lv := []) (mn_of rfl (by repeat (first | exact trivial | refine And.intro rfl ?_))) ?_
        exact ok_fX10_copyRow_c26 h
    · refine ev_sub (lv := []) (mn_of rfl (by repeat (first | exact trivial | refine And.intro rfl ?_))) ?_
      exact ok_fX10_copyRow_c26 h
def fX10_copyRow (m : mm_MM) (t0 : Nat) (t1 : Nat) : Option (mm_MM) :=
  fX10_copyRow_c2 fu m t0 t1 0
theorem ok_fX10_copyRow {m : mm_MM} {t0 : Nat} {t1 : Nat} {q0 : mm_MM} (hk_t0 : (mm_kd t0).1 = 20) (hk_t1 : (mm_kd t1).1 = 20) (h : fX10_copyRow m t0 t1 = some q0) : Ev XL xs d 177 (ev_M m c w) 0 (lv_args 0 [.ref t0, .ref t1]) [] (fr_v c w q0) := by
  unfold fX10_copyRow at h
  refine ev_s 2 (M' := ev_M m c w) (pc' := 2) (lv' := [(2, .int 0), (0, .ref t0), (1, .ref t1)]) (st' := []) (fun n => rfl) ?_
  refine ev_sub (lv := [(0, .ref t0), (1, .ref t1), (2, .int 0)]) (mn_of rfl (by repeat (first | exact trivial | refine And.intro rfl ?_))) ?_
  exact ok_fX10_copyRow_c2 fu _ _ _ _ _ hk_t0 hk_t1 h
def fX1_copy_c51 (kr13 : mm_MM → Nat → Nat → Int32 → Option (mm_MM)) (m : mm_MM) (t0 : Nat) (t1 : Nat) (x2 : Int32) : Option (mm_MM) :=
  kr13 m t0 t1 (x2 + 1)
set_option maxRecDepth 20000 in
theorem ok_fX1_copy_c51 {kr13 : mm_MM → Nat → Nat → Int32 → Option (mm_MM)} (hkr13 : ∀ (m : mm_MM) (t0 : Nat) (t1 : Nat) (x2 : Int32) (q0 : mm_MM) (hk_t0 : mm_kd t0 = (1, 10)) (hk_t1 : mm_kd t1 = (1, 10)), kr13 m t0 t1 x2 = some q0 → Ev XL xs (d + 1) 7 (ev_M m c w) 13 [(0, .ref t0), (1, .ref t1), (2, .int x2)] [] (fr_v c w q0)) {m : mm_MM} {t0 : Nat} {t1 : Nat} {x2 : Int32} {q0 : mm_MM} (hk_t0 : mm_kd t0 = (1, 10)) (hk_t1 : mm_kd t1 = (1, 10)) (h : fX1_copy_c51 kr13 m t0 t1 x2 = some q0) : Ev XL xs (d + 1) 7 (ev_M m c w) 51 [(0, .ref t0), (1, .ref t1), (2, .int x2)] [] (fr_v c w q0) := by
  unfold fX1_copy_c51 at h
  refine ev_s 2 (M' := ev_M m c w) (pc' := 13) (lv' := [(2, .int (x2 + 1)), (0, .ref t0), (1, .ref t1)]) (st' := []) (fun n => rfl) ?_
  refine ev_sub (lv := [(0, .ref t0), (1, .ref t1), (2, .int (x2 + 1))]) (mn_of rfl (by repeat (first | exact trivial | refine And.intro rfl ?_))) ?_
  exact hkr13 _ _ _ _ _ hk_t0 hk_t1 h
def fX1_copy_c13 : Nat → mm_MM → Nat → Nat → Int32 → Option (mm_MM)
  | 0 => fun _ _ _ _ => none
  | n + 1 => fun m t0 t1 x2 =>
    (if x2 < 8 then
      (if x2 < 0 ∨ 8 ≤ x2.toNatClampNeg then none else
       (fX1_thingAt m t1 x2).bind fun r3 =>
        match r3.1 with
        | none =>
          fX1_copy_c51 (fX1_copy_c13 n) r3.2 t0 t1 x2
        | some u4 =>
          if mm_kd u4 = (9, 6) then
            (fX9_copy r3.2 (t0 + 3 + x2.toNatClampNeg) u4).bind fun r5 =>
             fX1_copy_c51 (fX1_copy_c13 n) r5 t0 t1 x2
          else none)
     else
      (if m.1 t1 2 = 0 ∨ m.1 t1 2 = 1 then
        some (wI (wI (wI (wI (wI (wI (wI (wI m t0 2 (m.1 t1 2)) t0 3 ((wI m t0 2 (m.1 t1 2)).1 t1 3)) t0 4 ((wI (wI m t0 2 (m.1 t1 2)) t0 3 ((wI m t0 2 (m.1 t1 2)).1 t1 3)).1 t1 4)) t0 5 ((wI (wI (wI m t0 2 (m.1 t1 2)) t0 3 ((wI m t0 2 (m.1 t1 2)).1 t1 3)) t0 4 ((wI (wI m t0 2 (m.1 t1 2)) t0 3 ((wI m t0 2 (m.1 t1 2)).1 t1 3)).1 t1 4)).1 t1 5)) t0 6 ((wI (wI (wI (wI m t0 2 (m.1 t1 2)) t0 3 ((wI m t0 2 (m.1 t1 2)).1 t1 3)) t0 4 ((wI (wI m t0 2 (m.1 t1 2)) t0 3 ((wI m t0 2 (m.1 t1 2)).1 t1 3)).1 t1 4)) t0 5 ((wI (wI (wI m t0 2 (m.1 t1 2)) t0 3 ((wI m t0 2 (m.1 t1 2)).1 t1 3)) t0 4 ((wI (wI m t0 2 (m.1 t1 2)) t0 3 ((wI m t0 2 (m.1 t1 2)).1 t1 3)).1 t1 4)).1 t1 5)).1 t1 6)) t0 7 ((wI (wI (wI (wI (wI m t0 2 (m.1 t1 2)) t0 3 ((wI m t0 2 (m.1 t1 2)).1 t1 3)) t0 4 ((wI (wI m t0 2 (m.1 t1 2)) t0 3 ((wI m t0 2 (m.1 t1 2)).1 t1 3)).1 t1 4)) t0 5 ((wI (wI (wI m t0 2 (m.1 t1 2)) t0 3 ((wI m t0 2 (m.1 t1 2)).1 t1 3)) t0 4 ((wI (wI m t0 2 (m.1 t1 2)) t0 3 ((wI m t0 2 (m.1 t1 2)).1 t1 3)).1 t1 4)).1 t1 5)) t0 6 ((wI (wI (wI (wI m t0 2 (m.1 t1 2)) t0 3 ((wI m t0 2 (m.1 t1 2)).1 t1 3)) t0 4 ((wI (wI m t0 2 (m.1 t1 2)) t0 3 ((wI m t0 2 (m.1 t1 2)).1 t1 3)).1 t1 4)) t0 5 ((wI (wI (wI m t0 2 (m.1 t1 2)) t0 3 ((wI m t0 2 (m.1 t1 2)).1 t1 3)) t0 4 ((wI (wI m t0 2 (m.1 t1 2)) t0 3 ((wI m t0 2 (m.1 t1 2)).1 t1 3)).1 t1 4)).1 t1 5)).1 t1 6)).1 t1 7)) t0 8 ((wI (wI (wI (wI (wI (wI m t0 2 (m.1 t1 2)) t0 3 ((wI m t0 2 (m.1 t1 2)).1 t1 3)) t0 4 ((wI (wI m t0 2 (m.1 t1 2)) t0 3 ((wI m t0 2 (m.1 t1 2)).1 t1 3)).1 t1 4)) t0 5 ((wI (wI (wI m t0 2 (m.1 t1 2)) t0 3 ((wI m t0 2 (m.1 t1 2)).1 t1 3)) t0 4 ((wI (wI m t0 2 (m.1 t1 2)) t0 3 ((wI m t0 2 (m.1 t1 2)).1 t1 3)).1 t1 4)).1 t1 5)) t0 6 ((wI (wI (wI (wI m t0 2 (m.1 t1 2)) t0 3 ((wI m t0 2 (m.1 t1 2)).1 t1 3)) t0 4 ((wI (wI m t0 2 (m.1 t1 2)) t0 3 ((wI m t0 2 (m.1 t1 2)).1 t1 3)).1 t1 4)) t0 5 ((wI (wI (wI m t0 2 (m.1 t1 2)) t0 3 ((wI m t0 2 (m.1 t1 2)).1 t1 3)) t0 4 ((wI (wI m t0 2 (m.1 t1 2)) t0 3 ((wI m t0 2 (m.1 t1 2)).1 t1 3)).1 t1 4)).1 t1 5)).1 t1 6)) t0 7 ((wI (wI (wI (wI (wI m t0 2 (m.1 t1 2)) t0 3 ((wI m t0 2 (m.1 t1 2)).1 t1 3)) t0 4 ((wI (wI m t0 2 (m.1 t1 2)) t0 3 ((wI m t0 2 (m.1 t1 2)).1 t1 3)).1 t1 4)) t0 5 ((wI (wI (wI m t0 2 (m.1 t1 2)) t0 3 ((wI m t0 2 (m.1 t1 2)).1 t1 3)) t0 4 ((wI (wI m t0 2 (m.1 t1 2)) t0 3 ((wI m t0 2 (m.1 t1 2)).1 t1 3)).1 t1 4)).1 t1 5)) t0 6 ((wI (wI (wI (wI m t0 2 (m.1 t1 2)) t0 3 ((wI m t0 2 (m.1 t1 2)).1 t1 3)) t0 4 ((wI (wI m t0 2 (m.1 t1 2)) t0 3 ((wI m t0 2 (m.1 t1 2)).1 t1 3)).1 t1 4)) t0 5 ((wI (wI (wI m t0 2 (m.1 t1 2)) t0 3 ((wI m t0 2 (m.1 t1 2)).1 t1 3)) t0 4 ((wI (wI m t0 2 (m.1 t1 2)) t0 3 ((wI m t0 2 (m.1 t1 2)).1 t1 3)).1 t1 4)).1 t1 5)).1 t1 6)).1 t1 7)).1 t1 8)) t0 9 ((wI (wI (wI (wI (wI (wI (wI m t0 2 (m.1 t1 2)) t0 3 ((wI m t0 2 (m.1 t1 2)).1 t1 3)) t0 4 ((wI (wI m t0 2 (m.1 t1 2)) t0 3 ((wI m t0 2 (m.1 t1 2)).1 t1 3)).1 t1 4)) t0 5 ((wI (wI (wI m t0 2 (m.1 t1 2)) t0 3 ((wI m t0 2 (m.1 t1 2)).1 t1 3)) t0 4 ((wI (wI m t0 2 (m.1 t1 2)) t0 3 ((wI m t0 2 (m.1 t1 2)).1 t1 3)).1 t1 4)).1 t1 5)) t0 6 ((wI (wI (wI (wI m t0 2 (m.1 t1 2)) t0 3 ((wI m t0 2 (m.1 t1 2)).1 t1 3)) t0 4 ((wI (wI m t0 2 (m.1 t1 2)) t0 3 ((wI m t0 2 (m.1 t1 2)).1 t1 3)).1 t1 4)) t0 5 ((wI (wI (wI m t0 2 (m.1 t1 2)) t0 3 ((wI m t0 2 (m.1 t1 2)).1 t1 3)) t0 4 ((wI (wI m t0 2 (m.1 t1 2)) t0 3 ((wI m t0 2 (m.1 t1 2)).1 t1 3)).1 t1 4)).1 t1 5)).1 t1 6)) t0 7 ((wI (wI (wI (wI (wI m t0 2 (m.1 t1 2)) t0 3 ((wI m t0 2 (m.1 t1 2)).1 t1 3)) t0 4 ((wI (wI m t0 2 (m.1 t1 2)) t0 3 ((wI m t0 2 (m.1 t1 2)).1 t1 3)).1 t1 4)) t0 5 ((wI (wI (wI m t0 2 (m.1 t1 2)) t0 3 ((wI m t0 2 (m.1 t1 2)).1 t1 3)) t0 4 ((wI (wI m t0 2 (m.1 t1 2)) t0 3 ((wI m t0 2 (m.1 t1 2)).1 t1 3)).1 t1 4)).1 t1 5)) t0 6 ((wI (wI (wI (wI m t0 2 (m.1 t1 2)) t0 3 ((wI m t0 2 (m.1 t1 2)).1 t1 3)) t0 4 ((wI (wI m t0 2 (m.1 t1 2)) t0 3 ((wI m t0 2 (m.1 t1 2)).1 t1 3)).1 t1 4)) t0 5 ((wI (wI (wI m t0 2 (m.1 t1 2)) t0 3 ((wI m t0 2 (m.1 t1 2)).1 t1 3)) t0 4 ((wI (wI m t0 2 (m.1 t1 2)) t0 3 ((wI m t0 2 (m.1 t1 2)).1 t1 3)).1 t1 4)).1 t1 5)).1 t1 6)).1 t1 7)) t0 8 ((wI (wI (wI (wI (wI (wI m t0 2 (m.1 t1 2)) t0 3 ((wI m t0 2 (m.1 t1 2)).1 t1 3)) t0 4 ((wI (wI m t0 2 (m.1 t1 2)) t0 3 ((wI m t0 2 (m.1 t1 2)).1 t1 3)).1 t1 4)) t0 5 ((wI (wI (wI m t0 2 (m.1 t1 2)) t0 3 ((wI m t0 2 (m.1 t1 2)).1 t1 3)) t0 4 ((wI (wI m t0 2 (m.1 t1 2)) t0 3 ((wI m t0 2 (m.1 t1 2)).1 t1 3)).1 t1 4)).1 t1 5)) t0 6 ((wI (wI (wI (wI m t0 2 (m.1 t1 2)) t0 3 ((wI m t0 2 (m.1 t1 2)).1 t1 3)) t0 4 ((wI (wI m t0 2 (m.1 t1 2)) t0 3 ((wI m t0 2 (m.1 t1 2)).1 t1 3)).1 t1 4)) t0 5 ((wI (wI (wI m t0 2 (m.1 t1 2)) t0 3 ((wI m t0 2 (m.1 t1 2)).1 t1 3)) t0 4 ((wI (wI m t0 2 (m.1 t1 2)) t0 3 ((wI m t0 2 (m.1 t1 2)).1 t1 3)).1 t1 4)).1 t1 5)).1 t1 6)) t0 7 ((wI (wI (wI (wI (wI m t0 2 (m.1 t1 2)) t0 3 ((wI m t0 2 (m.1 t1 2)).1 t1 3)) t0 4 ((wI (wI m t0 2 (m.1 t1 2)) t0 3 ((wI m t0 2 (m.1 t1 2)).1 t1 3)).1 t1 4)) t0 5 ((wI (wI (wI m t0 2 (m.1 t1 2)) t0 3 ((wI m t0 2 (m.1 t1 2)).1 t1 3)) t0 4 ((wI (wI m t0 2 (m.1 t1 2)) t0 3 ((wI m t0 2 (m.1 t1 2)).1 t1 3)).1 t1 4)).1 t1 5)) t0 6 ((wI (wI (wI (wI m t0 2 (m.1 t1 2)) t0 3 ((wI m t0 2 (m.1 t1 2)).1 t1 3)) t0 4 ((wI (wI m t0 2 (m.1 t1 2)) t0 3 ((wI m t0 2 (m.1 t1 2)).1 t1 3)).1 t1 4)) t0 5 ((wI (wI (wI m t0 2 (m.1 t1 2)) t0 3 ((wI m t0 2 (m.1 t1 2)).1 t1 3)) t0 4 ((wI (wI m t0 2 (m.1 t1 2)) t0 3 ((wI m t0 2 (m.1 t1 2)).1 t1 3)).1 t1 4)).1 t1 5)).1 t1 6)).1 t1 7)).1 t1 8)).1 t1 9))
       else none))
set_option maxRecDepth 20000 in
theorem ok_fX1_copy_c13 : ∀ (n : Nat) (m : mm_MM) (t0 : Nat) (t1 : Nat) (x2 : Int32) (q0 : mm_MM) (hk_t0 : mm_kd t0 = (1, 10)) (hk_t1 : mm_kd t1 = (1, 10)), fX1_copy_c13 n m t0 t1 x2 = some q0 → Ev XL xs (d + 1) 7 (ev_M m c w) 13 [(0, .ref t0), (1, .ref t1), (2, .int x2)] [] (fr_v c w q0) := by
  intro n
  induction n with
  | zero => intro m t0 t1 x2 q0 hk_t0 hk_t1 h; exact absurd (show (none : Option (mm_MM)) = some q0 from h) (by simp)
  | succ n ih =>
    intro m t0 t1 x2 q0 hk_t0 hk_t1 h
    unfold fX1_copy_c13 at h
    refine ev_s 2 (M' := ev_M m c w) (pc' := 15) (lv' := [(0, .ref t0), (1, .ref t1), (2, .int x2)]) (st' := [.ref t0, .int x2]) (fun n => rfl) ?_
    refine ev_gf (x := .ref (t0 + 2)) rfl (congrArg Prod.fst hk_t0) rfl (congrArg va_rf (tr_Lx1 hk_t0)) ?_
    refine ev_al (n := 8) rfl (by rw [(congrArg Prod.fst (kd_L2 hk_t0))]; decide) (congrArg Prod.snd (kd_L2 hk_t0)) ?_
    refine ev_i 1 (M1 := ev_M m c w) (pc1 := 22) (lv1 := [(0, .ref t0), (1, .ref t1), (2, .int x2)]) (st1 := []) (M2 := ev_M m c w) (pc2 := 57) (lv2 := [(0, .ref t0), (1, .ref t1), (2, .int x2)]) (st2 := []) (fun n => rfl) h (fun hc1 h => ?_) (fun hc1 h => ?_)
    · refine ev_s 1 (M' := ev_M m c w) (pc' := 23) (lv' := [(0, .ref t0), (1, .ref t1), (2, .int x2)]) (st' := [.ref t0]) (fun n => rfl) ?_
      refine ev_gf (x := .ref (t0 + 2)) rfl (congrArg Prod.fst hk_t0) rfl (congrArg va_rf (tr_Lx1 hk_t0)) ?_
      refine ev_s 1 (M' := ev_M m c w) (pc' := 27) (lv' := [(0, .ref t0), (1, .ref t1), (2, .int x2)]) (st' := [.int x2, .ref (t0 + 2)]) (fun n => rfl) ?_
      refine ev_aa (n := 8) (b := (t0 + 3 + x2.toNatClampNeg)) rfl (by rw [(congrArg Prod.fst (kd_L2 hk_t0))]; decide) (congrArg Prod.snd (kd_L2 hk_t0)) h (fun hj => tr_Le hk_t0 hj) (fun hx2 h => ?_)
      refine ev_s 3 (M' := ev_M m c w) (pc' := 31) (lv' := [(3, .ref (t0 + 3 + x2.toNatClampNeg)), (0, .ref t0), (1, .ref t1), (2, .int x2)]) (st' := [.int x2, .ref t1]) (fun n => rfl) ?_
      obtain ⟨r3, hr3, h⟩ := Option.bind_eq_some_iff.mp h
      refine ev_cv (rest := []) rfl rfl (congrArg Prod.fst hk_t1) rfl (ok_fX1_thingAt hk_t1 hr3) ?_
      show Ev XL xs _ 7 (ev_M r3.2 c w) 34 [(3, .ref (t0 + 3 + x2.toNatClampNeg)), (0, .ref t0), (1, .ref t1), (2, .int x2)] [va_rf r3.1] _
      generalize r3.1 = o6 at h ⊢
      cases o6 with
      | none =>
        refine ev_s 5 (M' := ev_M r3.2 c w) (pc' := 51) (lv' := [(4, .null), (3, .ref (t0 + 3 + x2.toNatClampNeg)), (0, .ref t0), (1, .ref t1), (2, .int x2)]) (st' := []) (fun n => rfl) ?_
        refine ev_sub (lv := [(0, .ref t0), (1, .ref t1), (2, .int x2)]) (mn_of rfl (by repeat (first | exact trivial | refine And.intro rfl ?_))) ?_
        exact ok_fX1_copy_c51 ih hk_t0 hk_t1 h
      | some u4 =>
        obtain ⟨hk_u4, h⟩ := sd_ift h
        refine ev_s 7 (M' := ev_M r3.2 c w) (pc' := 48) (lv' := [(4, .ref u4), (3, .ref (t0 + 3 + x2.toNatClampNeg)), (0, .ref t0), (1, .ref t1), (2, .int x2)]) (st' := [.ref u4, .ref (t0 + 3 + x2.toNatClampNeg)]) (fun n => rfl) ?_
        obtain ⟨r5, hr5, h⟩ := Option.bind_eq_some_iff.mp h
        refine ev_cv (rest := []) rfl rfl (congrArg Prod.fst (kd_Le hk_t0 (Nat.not_le.mp fun z => hx2 (Or.inr z)))) rfl (ok_fX9_copy (kd_Le hk_t0 (Nat.not_le.mp fun z => hx2 (Or.inr z))) hk_u4 hr5) ?_
        show Ev XL xs _ 7 (ev_M r5 c w) 51 [(4, .ref u4), (3, .ref (t0 + 3 + x2.toNatClampNeg)), (0, .ref t0), (1, .ref t1), (2, .int x2)] [] _
        refine ev_sub (lv := [(0, .ref t0), (1, .ref t1), (2, .int x2)]) (mn_of rfl (by repeat (first | exact trivial | refine And.intro rfl ?_))) ?_
        exact ok_fX1_copy_c51 ih hk_t0 hk_t1 h
    · refine ev_s 2 (M' := ev_M m c w) (pc' := 59) (lv' := [(0, .ref t0), (1, .ref t1), (2, .int x2)]) (st' := [.ref t1, .ref t0]) (fun n => rfl) ?_
      refine ev_gf (x := .int (m.1 t1 2)) rfl (congrArg Prod.fst hk_t1) rfl rfl ?_
      refine ev_pfz rfl (congrArg Prod.fst hk_t0) rfl rfl rfl h (fun h => ?_)
      refine ev_s 2 (M' := ev_M (wI m t0 2 (m.1 t1 2)) c w) (pc' := 67) (lv' := [(0, .ref t0), (1, .ref t1), (2, .int x2)]) (st' := [.ref t1, .ref t0]) (fun n => rfl) ?_
      refine ev_gf (x := .int ((wI m t0 2 (m.1 t1 2)).1 t1 3)) rfl (congrArg Prod.fst hk_t1) rfl rfl ?_
      refine ev_pfi rfl (congrArg Prod.fst hk_t0) rfl rfl rfl ?_
      refine ev_s 2 (M' := ev_M (wI (wI m t0 2 (m.1 t1 2)) t0 3 ((wI m t0 2 (m.1 t1 2)).1 t1 3)) c w) (pc' := 75) (lv' := [(0, .ref t0), (1, .ref t1), (2, .int x2)]) (st' := [.ref t1, .ref t0]) (fun n => rfl) ?_
      refine ev_gf (x := .int ((wI (wI m t0 2 (m.1 t1 2)) t0 3 ((wI m t0 2 (m.1 t1 2)).1 t1 3)).1 t1 4)) rfl (congrArg Prod.fst hk_t1) rfl rfl ?_
      refine ev_pfi rfl (congrArg Prod.fst hk_t0) rfl rfl rfl ?_
      refine ev_s 2 (M' := ev_M (wI (wI (wI m t0 2 (m.1 t1 2)) t0 3 ((wI m t0 2 (m.1 t1 2)).1 t1 3)) t0 4 ((wI (wI m t0 2 (m.1 t1 2)) t0 3 ((wI m t0 2 (m.1 t1 2)).1 t1 3)).1 t1 4)) c w) (pc' := 83) (lv' := [(0, .ref t0), (1, .ref t1), (2, .int x2)]) (st' := [.ref t1, .ref t0]) (fun n => rfl) ?_
      refine ev_gf (x := .int ((wI (wI (wI m t0 2 (m.1 t1 2)) t0 3 ((wI m t0 2 (m.1 t1 2)).1 t1 3)) t0 4 ((wI (wI m t0 2 (m.1 t1 2)) t0 3 ((wI m t0 2 (m.1 t1 2)).1 t1 3)).1 t1 4)).1 t1 5)) rfl (congrArg Prod.fst hk_t1) rfl rfl ?_
      refine ev_pfi rfl (congrArg Prod.fst hk_t0) rfl rfl rfl ?_
      refine ev_s 2 (M' := ev_M (wI (wI (wI (wI m t0 2 (m.1 t1 2)) t0 3 ((wI m t0 2 (m.1 t1 2)).1 t1 3)) t0 4 ((wI (wI m t0 2 (m.1 t1 2)) t0 3 ((wI m t0 2 (m.1 t1 2)).1 t1 3)).1 t1 4)) t0 5 ((wI (wI (wI m t0 2 (m.1 t1 2)) t0 3 ((wI m t0 2 (m.1 t1 2)).1 t1 3)) t0 4 ((wI (wI m t0 2 (m.1 t1 2)) t0 3 ((wI m t0 2 (m.1 t1 2)).1 t1 3)).1 t1 4)).1 t1 5)) c w) (pc' := 91) (lv' := [(0, .ref t0), (1, .ref t1), (2, .int x2)]) (st' := [.ref t1, .ref t0]) (fun n => rfl) ?_
      refine ev_gf (x := .int ((wI (wI (wI (wI m t0 2 (m.1 t1 2)) t0 3 ((wI m t0 2 (m.1 t1 2)).1 t1 3)) t0 4 ((wI (wI m t0 2 (m.1 t1 2)) t0 3 ((wI m t0 2 (m.1 t1 2)).1 t1 3)).1 t1 4)) t0 5 ((wI (wI (wI m t0 2 (m.1 t1 2)) t0 3 ((wI m t0 2 (m.1 t1 2)).1 t1 3)) t0 4 ((wI (wI m t0 2 (m.1 t1 2)) t0 3 ((wI m t0 2 (m.1 t1 2)).1 t1 3)).1 t1 4)).1 t1 5)).1 t1 6)) rfl (congrArg Prod.fst hk_t1) rfl rfl ?_
      refine ev_pfi rfl (congrArg Prod.fst hk_t0) rfl rfl rfl ?_
      refine ev_s 2 (M' := ev_M (wI (wI (wI (wI (wI m t0 2 (m.1 t1 2)) t0 3 ((wI m t0 2 (m.1 t1 2)).1 t1 3)) t0 4 ((wI (wI m t0 2 (m.1 t1 2)) t0 3 ((wI m t0 2 (m.1 t1 2)).1 t1 3)).1 t1 4)) t0 5 ((wI (wI (wI m t0 2 (m.1 t1 2)) t0 3 ((wI m t0 2 (m.1 t1 2)).1 t1 3)) t0 4 ((wI (wI m t0 2 (m.1 t1 2)) t0 3 ((wI m t0 2 (m.1 t1 2)).1 t1 3)).1 t1 4)).1 t1 5)) t0 6 ((wI (wI (wI (wI m t0 2 (m.1 t1 2)) t0 3 ((wI m t0 2 (m.1 t1 2)).1 t1 3)) t0 4 ((wI (wI m t0 2 (m.1 t1 2)) t0 3 ((wI m t0 2 (m.1 t1 2)).1 t1 3)).1 t1 4)) t0 5 ((wI (wI (wI m t0 2 (m.1 t1 2)) t0 3 ((wI m t0 2 (m.1 t1 2)).1 t1 3)) t0 4 ((wI (wI m t0 2 (m.1 t1 2)) t0 3 ((wI m t0 2 (m.1 t1 2)).1 t1 3)).1 t1 4)).1 t1 5)).1 t1 6)) c w) (pc' := 99) (lv' := [(0, .ref t0), (1, .ref t1), (2, .int x2)]) (st' := [.ref t1, .ref t0]) (fun n => rfl) ?_
      refine ev_gf (x := .int ((wI (wI (wI (wI (wI m t0 2 (m.1 t1 2)) t0 3 ((wI m t0 2 (m.1 t1 2)).1 t1 3)) t0 4 ((wI (wI m t0 2 (m.1 t1 2)) t0 3 ((wI m t0 2 (m.1 t1 2)).1 t1 3)).1 t1 4)) t0 5 ((wI (wI (wI m t0 2 (m.1 t1 2)) t0 3 ((wI m t0 2 (m.1 t1 2)).1 t1 3)) t0 4 ((wI (wI m t0 2 (m.1 t1 2)) t0 3 ((wI m t0 2 (m.1 t1 2)).1 t1 3)).1 t1 4)).1 t1 5)) t0 6 ((wI (wI (wI (wI m t0 2 (m.1 t1 2)) t0 3 ((wI m t0 2 (m.1 t1 2)).1 t1 3)) t0 4 ((wI (wI m t0 2 (m.1 t1 2)) t0 3 ((wI m t0 2 (m.1 t1 2)).1 t1 3)).1 t1 4)) t0 5 ((wI (wI (wI m t0 2 (m.1 t1 2)) t0 3 ((wI m t0 2 (m.1 t1 2)).1 t1 3)) t0 4 ((wI (wI m t0 2 (m.1 t1 2)) t0 3 ((wI m t0 2 (m.1 t1 2)).1 t1 3)).1 t1 4)).1 t1 5)).1 t1 6)).1 t1 7)) rfl (congrArg Prod.fst hk_t1) rfl rfl ?_
      refine ev_pfi rfl (congrArg Prod.fst hk_t0) rfl rfl rfl ?_
      refine ev_s 2 (M' := ev_M (wI (wI (wI (wI (wI (wI m t0 2 (m.1 t1 2)) t0 3 ((wI m t0 2 (m.1 t1 2)).1 t1 3)) t0 4 ((wI (wI m t0 2 (m.1 t1 2)) t0 3 ((wI m t0 2 (m.1 t1 2)).1 t1 3)).1 t1 4)) t0 5 ((wI (wI (wI m t0 2 (m.1 t1 2)) t0 3 ((wI m t0 2 (m.1 t1 2)).1 t1 3)) t0 4 ((wI (wI m t0 2 (m.1 t1 2)) t0 3 ((wI m t0 2 (m.1 t1 2)).1 t1 3)).1 t1 4)).1 t1 5)) t0 6 ((wI (wI (wI (wI m t0 2 (m.1 t1 2)) t0 3 ((wI m t0 2 (m.1 t1 2)).1 t1 3)) t0 4 ((wI (wI m t0 2 (m.1 t1 2)) t0 3 ((wI m t0 2 (m.1 t1 2)).1 t1 3)).1 t1 4)) t0 5 ((wI (wI (wI m t0 2 (m.1 t1 2)) t0 3 ((wI m t0 2 (m.1 t1 2)).1 t1 3)) t0 4 ((wI (wI m t0 2 (m.1 t1 2)) t0 3 ((wI m t0 2 (m.1 t1 2)).1 t1 3)).1 t1 4)).1 t1 5)).1 t1 6)) t0 7 ((wI (wI (wI (wI (wI m t0 2 (m.1 t1 2)) t0 3 ((wI m t0 2 (m.1 t1 2)).1 t1 3)) t0 4 ((wI (wI m t0 2 (m.1 t1 2)) t0 3 ((wI m t0 2 (m.1 t1 2)).1 t1 3)).1 t1 4)) t0 5 ((wI (wI (wI m t0 2 (m.1 t1 2)) t0 3 ((wI m t0 2 (m.1 t1 2)).1 t1 3)) t0 4 ((wI (wI m t0 2 (m.1 t1 2)) t0 3 ((wI m t0 2 (m.1 t1 2)).1 t1 3)).1 t1 4)).1 t1 5)) t0 6 ((wI (wI (wI (wI m t0 2 (m.1 t1 2)) t0 3 ((wI m t0 2 (m.1 t1 2)).1 t1 3)) t0 4 ((wI (wI m t0 2 (m.1 t1 2)) t0 3 ((wI m t0 2 (m.1 t1 2)).1 t1 3)).1 t1 4)) t0 5 ((wI (wI (wI m t0 2 (m.1 t1 2)) t0 3 ((wI m t0 2 (m.1 t1 2)).1 t1 3)) t0 4 ((wI (wI m t0 2 (m.1 t1 2)) t0 3 ((wI m t0 2 (m.1 t1 2)).1 t1 3)).1 t1 4)).1 t1 5)).1 t1 6)).1 t1 7)) c w) (pc' := 107) (lv' := [(0, .ref t0), (1, .ref t1), (2, .int x2)]) (st' := [.ref t1, .ref t0]) (fun n => rfl) ?_
      refine ev_gf (x := .int ((wI (wI (wI (wI (wI (wI m t0 2 (m.1 t1 2)) t0 3 ((wI m t0 2 (m.1 t1 2)).1 t1 3)) t0 4 ((wI (wI m t0 2 (m.1 t1 2)) t0 3 ((wI m t0 2 (m.1 t1 2)).1 t1 3)).1 t1 4)) t0 5 ((wI (wI (wI m t0 2 (m.1 t1 2)) t0 3 ((wI m t0 2 (m.1 t1 2)).1 t1 3)) t0 4 ((wI (wI m t0 2 (m.1 t1 2)) t0 3 ((wI m t0 2 (m.1 t1 2)).1 t1 3)).1 t1 4)).1 t1 5)) t0 6 ((wI (wI (wI (wI m t0 2 (m.1 t1 2)) t0 3 ((wI m t0 2 (m.1 t1 2)).1 t1 3)) t0 4 ((wI (wI m t0 2 (m.1 t1 2)) t0 3 ((wI m t0 2 (m.1 t1 2)).1 t1 3)).1 t1 4)) t0 5 ((wI (wI (wI m t0 2 (m.1 t1 2)) t0 3 ((wI m t0 2 (m.1 t1 2)).1 t1 3)) t0 4 ((wI (wI m t0 2 (m.1 t1 2)) t0 3 ((wI m t0 2 (m.1 t1 2)).1 t1 3)).1 t1 4)).1 t1 5)).1 t1 6)) t0 7 ((wI (wI (wI (wI (wI m t0 2 (m.1 t1 2)) t0 3 ((wI m t0 2 (m.1 t1 2)).1 t1 3)) t0 4 ((wI (wI m t0 2 (m.1 t1 2)) t0 3 ((wI m t0 2 (m.1 t1 2)).1 t1 3)).1 t1 4)) t0 5 ((wI (wI (wI m t0 2 (m.1 t1 2)) t0 3 ((wI m t0 2 (m.1 t1 2)).1 t1 3)) t0 4 ((wI (wI m t0 2 (m.1 t1 2)) t0 3 ((wI m t0 2 (m.1 t1 2)).1 t1 3)).1 t1 4)).1 t1 5)) t0 6 ((wI (wI (wI (wI m t0 2 (m.1 t1 2)) t0 3 ((wI m t0 2 (m.1 t1 2)).1 t1 3)) t0 4 ((wI (wI m t0 2 (m.1 t1 2)) t0 3 ((wI m t0 2 (m.1 t1 2)).1 t1 3)).1 t1 4)) t0 5 ((wI (wI (wI m t0 2 (m.1 t1 2)) t0 3 ((wI m t0 2 (m.1 t1 2)).1 t1 3)) t0 4 ((wI (wI m t0 2 (m.1 t1 2)) t0 3 ((wI m t0 2 (m.1 t1 2)).1 t1 3)).1 t1 4)).1 t1 5)).1 t1 6)).1 t1 7)).1 t1 8)) rfl (congrArg Prod.fst hk_t1) rfl rfl ?_
      refine ev_pfi rfl (congrArg Prod.fst hk_t0) rfl rfl rfl ?_
      refine ev_s 2 (M' := ev_M (wI (wI (wI (wI (wI (wI (wI m t0 2 (m.1 t1 2)) t0 3 ((wI m t0 2 (m.1 t1 2)).1 t1 3)) t0 4 ((wI (wI m t0 2 (m.1 t1 2)) t0 3 ((wI m t0 2 (m.1 t1 2)).1 t1 3)).1 t1 4)) t0 5 ((wI (wI (wI m t0 2 (m.1 t1 2)) t0 3 ((wI m t0 2 (m.1 t1 2)).1 t1 3)) t0 4 ((wI (wI m t0 2 (m.1 t1 2)) t0 3 ((wI m t0 2 (m.1 t1 2)).1 t1 3)).1 t1 4)).1 t1 5)) t0 6 ((wI (wI (wI (wI m t0 2 (m.1 t1 2)) t0 3 ((wI m t0 2 (m.1 t1 2)).1 t1 3)) t0 4 ((wI (wI m t0 2 (m.1 t1 2)) t0 3 ((wI m t0 2 (m.1 t1 2)).1 t1 3)).1 t1 4)) t0 5 ((wI (wI (wI m t0 2 (m.1 t1 2)) t0 3 ((wI m t0 2 (m.1 t1 2)).1 t1 3)) t0 4 ((wI (wI m t0 2 (m.1 t1 2)) t0 3 ((wI m t0 2 (m.1 t1 2)).1 t1 3)).1 t1 4)).1 t1 5)).1 t1 6)) t0 7 ((wI (wI (wI (wI (wI m t0 2 (m.1 t1 2)) t0 3 ((wI m t0 2 (m.1 t1 2)).1 t1 3)) t0 4 ((wI (wI m t0 2 (m.1 t1 2)) t0 3 ((wI m t0 2 (m.1 t1 2)).1 t1 3)).1 t1 4)) t0 5 ((wI (wI (wI m t0 2 (m.1 t1 2)) t0 3 ((wI m t0 2 (m.1 t1 2)).1 t1 3)) t0 4 ((wI (wI m t0 2 (m.1 t1 2)) t0 3 ((wI m t0 2 (m.1 t1 2)).1 t1 3)).1 t1 4)).1 t1 5)) t0 6 ((wI (wI (wI (wI m t0 2 (m.1 t1 2)) t0 3 ((wI m t0 2 (m.1 t1 2)).1 t1 3)) t0 4 ((wI (wI m t0 2 (m.1 t1 2)) t0 3 ((wI m t0 2 (m.1 t1 2)).1 t1 3)).1 t1 4)) t0 5 ((wI (wI (wI m t0 2 (m.1 t1 2)) t0 3 ((wI m t0 2 (m.1 t1 2)).1 t1 3)) t0 4 ((wI (wI m t0 2 (m.1 t1 2)) t0 3 ((wI m t0 2 (m.1 t1 2)).1 t1 3)).1 t1 4)).1 t1 5)).1 t1 6)).1 t1 7)) t0 8 ((wI (wI (wI (wI (wI (wI m t0 2 (m.1 t1 2)) t0 3 ((wI m t0 2 (m.1 t1 2)).1 t1 3)) t0 4 ((wI (wI m t0 2 (m.1 t1 2)) t0 3 ((wI m t0 2 (m.1 t1 2)).1 t1 3)).1 t1 4)) t0 5 ((wI (wI (wI m t0 2 (m.1 t1 2)) t0 3 ((wI m t0 2 (m.1 t1 2)).1 t1 3)) t0 4 ((wI (wI m t0 2 (m.1 t1 2)) t0 3 ((wI m t0 2 (m.1 t1 2)).1 t1 3)).1 t1 4)).1 t1 5)) t0 6 ((wI (wI (wI (wI m t0 2 (m.1 t1 2)) t0 3 ((wI m t0 2 (m.1 t1 2)).1 t1 3)) t0 4 ((wI (wI m t0 2 (m.1 t1 2)) t0 3 ((wI m t0 2 (m.1 t1 2)).1 t1 3)).1 t1 4)) t0 5 ((wI (wI (wI m t0 2 (m.1 t1 2)) t0 3 ((wI m t0 2 (m.1 t1 2)).1 t1 3)) t0 4 ((wI (wI m t0 2 (m.1 t1 2)) t0 3 ((wI m t0 2 (m.1 t1 2)).1 t1 3)).1 t1 4)).1 t1 5)).1 t1 6)) t0 7 ((wI (wI (wI (wI (wI m t0 2 (m.1 t1 2)) t0 3 ((wI m t0 2 (m.1 t1 2)).1 t1 3)) t0 4 ((wI (wI m t0 2 (m.1 t1 2)) t0 3 ((wI m t0 2 (m.1 t1 2)).1 t1 3)).1 t1 4)) t0 5 ((wI (wI (wI m t0 2 (m.1 t1 2)) t0 3 ((wI m t0 2 (m.1 t1 2)).1 t1 3)) t0 4 ((wI (wI m t0 2 (m.1 t1 2)) t0 3 ((wI m t0 2 (m.1 t1 2)).1 t1 3)).1 t1 4)).1 t1 5)) t0 6 ((wI (wI (wI (wI m t0 2 (m.1 t1 2)) t0 3 ((wI m t0 2 (m.1 t1 2)).1 t1 3)) t0 4 ((wI (wI m t0 2 (m.1 t1 2)) t0 3 ((wI m t0 2 (m.1 t1 2)).1 t1 3)).1 t1 4)) t0 5 ((wI (wI (wI m t0 2 (m.1 t1 2)) t0 3 ((wI m t0 2 (m.1 t1 2)).1 t1 3)) t0 4 ((wI (wI m t0 2 (m.1 t1 2)) t0 3 ((wI m t0 2 (m.1 t1 2)).1 t1 3)).1 t1 4)).1 t1 5)).1 t1 6)).1 t1 7)).1 t1 8)) c w) (pc' := 115) (lv' := [(0, .ref t0), (1, .ref t1), (2, .int x2)]) (st' := [.ref t1, .ref t0]) (fun n => rfl) ?_
      refine ev_gf (x := .int ((wI (wI (wI (wI (wI (wI (wI m t0 2 (m.1 t1 2)) t0 3 ((wI m t0 2 (m.1 t1 2)).1 t1 3)) t0 4 ((wI (wI m t0 2 (m.1 t1 2)) t0 3 ((wI m t0 2 (m.1 t1 2)).1 t1 3)).1 t1 4)) t0 5 ((wI (wI (wI m t0 2 (m.1 t1 2)) t0 3 ((wI m t0 2 (m.1 t1 2)).1 t1 3)) t0 4 ((wI (wI m t0 2 (m.1 t1 2)) t0 3 ((wI m t0 2 (m.1 t1 2)).1 t1 3)).1 t1 4)).1 t1 5)) t0 6 ((wI (wI (wI (wI m t0 2 (m.1 t1 2)) t0 3 ((wI m t0 2 (m.1 t1 2)).1 t1 3)) t0 4 ((wI (wI m t0 2 (m.1 t1 2)) t0 3 ((wI m t0 2 (m.1 t1 2)).1 t1 3)).1 t1 4)) t0 5 ((wI (wI (wI m t0 2 (m.1 t1 2)) t0 3 ((wI m t0 2 (m.1 t1 2)).1 t1 3)) t0 4 ((wI (wI m t0 2 (m.1 t1 2)) t0 3 ((wI m t0 2 (m.1 t1 2)).1 t1 3)).1 t1 4)).1 t1 5)).1 t1 6)) t0 7 ((wI (wI (wI (wI (wI m t0 2 (m.1 t1 2)) t0 3 ((wI m t0 2 (m.1 t1 2)).1 t1 3)) t0 4 ((wI (wI m t0 2 (m.1 t1 2)) t0 3 ((wI m t0 2 (m.1 t1 2)).1 t1 3)).1 t1 4)) t0 5 ((wI (wI (wI m t0 2 (m.1 t1 2)) t0 3 ((wI m t0 2 (m.1 t1 2)).1 t1 3)) t0 4 ((wI (wI m t0 2 (m.1 t1 2)) t0 3 ((wI m t0 2 (m.1 t1 2)).1 t1 3)).1 t1 4)).1 t1 5)) t0 6 ((wI (wI (wI (wI m t0 2 (m.1 t1 2)) t0 3 ((wI m t0 2 (m.1 t1 2)).1 t1 3)) t0 4 ((wI (wI m t0 2 (m.1 t1 2)) t0 3 ((wI m t0 2 (m.1 t1 2)).1 t1 3)).1 t1 4)) t0 5 ((wI (wI (wI m t0 2 (m.1 t1 2)) t0 3 ((wI m t0 2 (m.1 t1 2)).1 t1 3)) t0 4 ((wI (wI m t0 2 (m.1 t1 2)) t0 3 ((wI m t0 2 (m.1 t1 2)).1 t1 3)).1 t1 4)).1 t1 5)).1 t1 6)).1 t1 7)) t0 8 ((wI (wI (wI (wI (wI (wI m t0 2 (m.1 t1 2)) t0 3 ((wI m t0 2 (m.1 t1 2)).1 t1 3)) t0 4 ((wI (wI m t0 2 (m.1 t1 2)) t0 3 ((wI m t0 2 (m.1 t1 2)).1 t1 3)).1 t1 4)) t0 5 ((wI (wI (wI m t0 2 (m.1 t1 2)) t0 3 ((wI m t0 2 (m.1 t1 2)).1 t1 3)) t0 4 ((wI (wI m t0 2 (m.1 t1 2)) t0 3 ((wI m t0 2 (m.1 t1 2)).1 t1 3)).1 t1 4)).1 t1 5)) t0 6 ((wI (wI (wI (wI m t0 2 (m.1 t1 2)) t0 3 ((wI m t0 2 (m.1 t1 2)).1 t1 3)) t0 4 ((wI (wI m t0 2 (m.1 t1 2)) t0 3 ((wI m t0 2 (m.1 t1 2)).1 t1 3)).1 t1 4)) t0 5 ((wI (wI (wI m t0 2 (m.1 t1 2)) t0 3 ((wI m t0 2 (m.1 t1 2)).1 t1 3)) t0 4 ((wI (wI m t0 2 (m.1 t1 2)) t0 3 ((wI m t0 2 (m.1 t1 2)).1 t1 3)).1 t1 4)).1 t1 5)).1 t1 6)) t0 7 ((wI (wI (wI (wI (wI m t0 2 (m.1 t1 2)) t0 3 ((wI m t0 2 (m.1 t1 2)).1 t1 3)) t0 4 ((wI (wI m t0 2 (m.1 t1 2)) t0 3 ((wI m t0 2 (m.1 t1 2)).1 t1 3)).1 t1 4)) t0 5 ((wI (wI (wI m t0 2 (m.1 t1 2)) t0 3 ((wI m t0 2 (m.1 t1 2)).1 t1 3)) t0 4 ((wI (wI m t0 2 (m.1 t1 2)) t0 3 ((wI m t0 2 (m.1 t1 2)).1 t1 3)).1 t1 4)).1 t1 5)) t0 6 ((wI (wI (wI (wI m t0 2 (m.1 t1 2)) t0 3 ((wI m t0 2 (m.1 t1 2)).1 t1 3)) t0 4 ((wI (wI m t0 2 (m.1 t1 2)) t0 3 ((wI m t0 2 (m.1 t1 2)).1 t1 3)).1 t1 4)) t0 5 ((wI (wI (wI m t0 2 (m.1 t1 2)) t0 3 ((wI m t0 2 (m.1 t1 2)).1 t1 3)) t0 4 ((wI (wI m t0 2 (m.1 t1 2)) t0 3 ((wI m t0 2 (m.1 t1 2)).1 t1 3)).1 t1 4)).1 t1 5)).1 t1 6)).1 t1 7)).1 t1 8)).1 t1 9)) rfl (congrArg Prod.fst hk_t1) rfl rfl ?_
      refine ev_pfi rfl (congrArg Prod.fst hk_t0) rfl rfl rfl ?_
      cases h
      exact ev_r 1 (fun n => rfl)
def fX1_copy (m : mm_MM) (t0 : Nat) (t1 : Nat) : Option (mm_MM) :=
  (fX10_copyRow m (t1 + 1) (t0 + 1)).bind fun r1 =>
   fX1_copy_c13 fu r1 t0 t1 0
set_option maxRecDepth 20000 in
theorem ok_fX1_copy {m : mm_MM} {t0 : Nat} {t1 : Nat} {q0 : mm_MM} (hk_t0 : mm_kd t0 = (1, 10)) (hk_t1 : mm_kd t1 = (1, 10)) (h : fX1_copy m t0 t1 = some q0) : Ev XL xs (d + 1) 7 (ev_M m c w) 0 (lv_args 0 [.ref t0, .ref t1]) [] (fr_v c w q0) := by
  unfold fX1_copy at h
  refine ev_s 1 (M' := ev_M m c w) (pc' := 1) (lv' := [(0, .ref t0), (1, .ref t1)]) (st' := [.ref t1]) (fun n => rfl) ?_
  refine ev_gf (x := .ref (t1 + 1)) rfl (congrArg Prod.fst hk_t1) rfl (congrArg va_rf (tr_Lx0 hk_t1)) ?_
  refine ev_s 1 (M' := ev_M m c w) (pc' := 5) (lv' := [(0, .ref t0), (1, .ref t1)]) (st' := [.ref t0, .ref (t1 + 1)]) (fun n => rfl) ?_
  refine ev_gf (x := .ref (t0 + 1)) rfl (congrArg Prod.fst hk_t0) rfl (congrArg va_rf (tr_Lx0 hk_t0)) ?_
  obtain ⟨r1, hr1, h⟩ := Option.bind_eq_some_iff.mp h
  refine ev_c 1 (y' := 177) (M1 := ev_M m c w) (la := lv_args 0 [.ref (t1 + 1), .ref (t0 + 1)]) (rest := []) (pc' := 11) (lv' := [(0, .ref t0), (1, .ref t1)]) (fun n => rfl) (ok_fX10_copyRow (congrArg Prod.fst (kd_L1 hk_t1)) (congrArg Prod.fst (kd_L1 hk_t0)) hr1) ?_
  show Ev XL xs _ 7 (ev_M r1 c w) 11 [(0, .ref t0), (1, .ref t1)] [] _
  refine ev_s 2 (M' := ev_M r1 c w) (pc' := 13) (lv' := [(2, .int 0), (0, .ref t0), (1, .ref t1)]) (st' := []) (fun n => rfl) ?_
  refine ev_sub (lv := [(0, .ref t0), (1, .ref t1), (2, .int 0)]) (mn_of rfl (by repeat (first | exact trivial | refine And.intro rfl ?_))) ?_
  exact ok_fX1_copy_c13 fu _ _ _ _ _ hk_t0 hk_t1 h
def fX9_clear (m : mm_MM) (t0 : Nat) : Option (mm_MM) :=
  some (wI (wI (wI (wI (wI (wI m t0 0 0) t0 1 0) t0 2 0) t0 3 ((-1) : Int32)) t0 4 0) t0 5 0)
theorem ok_fX9_clear {m : mm_MM} {t0 : Nat} {q0 : mm_MM} (hk_t0 : mm_kd t0 = (9, 6)) (h : fX9_clear m t0 = some q0) : Ev XL xs d 90 (ev_M m c w) 0 (lv_args 0 [.ref t0]) [] (fr_v c w q0) := by
  unfold fX9_clear at h
  refine ev_s 2 (M' := ev_M m c w) (pc' := 2) (lv' := [(0, .ref t0)]) (st' := [.int 0, .ref t0]) (fun n => rfl) ?_
  refine ev_pfz (A := some ()) (q0 := ()) rfl (congrArg Prod.fst hk_t0) rfl rfl rfl (if_pos (by decide)) (fun _ => ?_)
  refine ev_s 2 (M' := ev_M (wI m t0 0 0) c w) (pc' := 7) (lv' := [(0, .ref t0)]) (st' := [.int 0, .ref t0]) (fun n => rfl) ?_
  refine ev_pfi rfl (congrArg Prod.fst hk_t0) rfl rfl rfl ?_
  refine ev_s 2 (M' := ev_M (wI (wI m t0 0 0) t0 1 0) c w) (pc' := 12) (lv' := [(0, .ref t0)]) (st' := [.int 0, .ref t0]) (fun n => rfl) ?_
  refine ev_pfi rfl (congrArg Prod.fst hk_t0) rfl rfl rfl ?_
  refine ev_s 2 (M' := ev_M (wI (wI (wI m t0 0 0) t0 1 0) t0 2 0) c w) (pc' := 17) (lv' := [(0, .ref t0)]) (st' := [.int ((-1) : Int32), .ref t0]) (fun n => rfl) ?_
  refine ev_pfi rfl (congrArg Prod.fst hk_t0) rfl rfl rfl ?_
  refine ev_s 2 (M' := ev_M (wI (wI (wI (wI m t0 0 0) t0 1 0) t0 2 0) t0 3 ((-1) : Int32)) c w) (pc' := 22) (lv' := [(0, .ref t0)]) (st' := [.int 0, .ref t0]) (fun n => rfl) ?_
  refine ev_pfi rfl (congrArg Prod.fst hk_t0) rfl rfl rfl ?_
  refine ev_s 2 (M' := ev_M (wI (wI (wI (wI (wI m t0 0 0) t0 1 0) t0 2 0) t0 3 ((-1) : Int32)) t0 4 0) c w) (pc' := 27) (lv' := [(0, .ref t0)]) (st' := [.int 0, .ref t0]) (fun n => rfl) ?_
  refine ev_pfz (A := some ()) (q0 := ()) rfl (congrArg Prod.fst hk_t0) rfl rfl rfl (if_pos (by decide)) (fun _ => ?_)
  cases h
  exact ev_r 1 (fun n => rfl)
def fX10_place_c14 (m : mm_MM) : Option (mm_MM) :=
  some m
theorem ok_fX10_place_c14 {m : mm_MM} {q0 : mm_MM} (h : fX10_place_c14 m = some q0) : Ev XL xs d 176 (ev_M m c w) 14 [] [] (fr_v c w q0) := by
  unfold fX10_place_c14 at h
  cases h
  exact ev_r 1 (fun n => rfl)
def fX10_place (m : mm_MM) (t0 : Nat) (x1 : Int32) (x2 : Int32) : Option (mm_MM) :=
  (if x1 < 0 then
    fX10_place_c14 m
   else
    (if x1 < (Int32.ofNat (mm_kd t0).2) then
      (if x1 < 0 ∨ (mm_kd t0).2 ≤ x1.toNatClampNeg then none else
       fX10_place_c14 (wI m t0 x1.toNatClampNeg x2))
     else
      fX10_place_c14 m))
theorem ok_fX10_place {m : mm_MM} {t0 : Nat} {x1 : Int32} {x2 : Int32} {q0 : mm_MM} (hk_t0 : (mm_kd t0).1 = 20) (h : fX10_place m t0 x1 x2 = some q0) : Ev XL xs d 176 (ev_M m c w) 0 (lv_args 0 [.ref t0, .int x1, .int x2]) [] (fr_v c w q0) := by
  unfold fX10_place at h
  refine ev_i 2 (M1 := ev_M m c w) (pc1 := 14) (lv1 := [(0, .ref t0), (1, .int x1), (2, .int x2)]) (st1 := []) (M2 := ev_M m c w) (pc2 := 4) (lv2 := [(0, .ref t0), (1, .int x1), (2, .int x2)]) (st2 := []) (fun n => rfl) h (fun hc1 h => ?_) (fun hc1 h => ?_)
  · refine ev_sub (lv := []) (mn_of rfl (by repeat (first | exact trivial | refine And.intro rfl ?_))) ?_
    exact ok_fX10_place_c14 h
  · refine ev_s 2 (M' := ev_M m c w) (pc' := 6) (lv' := [(0, .ref t0), (1, .int x1), (2, .int x2)]) (st' := [.ref t0, .int x1]) (fun n => rfl) ?_
    refine ev_al (n := (mm_kd t0).2) rfl (by rw [hk_t0]; decide) rfl ?_
    refine ev_i 1 (M1 := ev_M m c w) (pc1 := 10) (lv1 := [(0, .ref t0), (1, .int x1), (2, .int x2)]) (st1 := []) (M2 := ev_M m c w) (pc2 := 14) (lv2 := [(0, .ref t0), (1, .int x1), (2, .int x2)]) (st2 := []) (fun n => rfl) h (fun hc2 h => ?_) (fun hc2 h => ?_)
    · refine ev_s 3 (M' := ev_M m c w) (pc' := 13) (lv' := [(0, .ref t0), (1, .int x1), (2, .int x2)]) (st' := [.int x2, .int x1, .ref t0]) (fun n => rfl) ?_
      refine ev_is (n := (mm_kd t0).2) rfl hk_t0 rfl h (fun _ h => ?_)
      refine ev_sub (lv := []) (mn_of rfl (by repeat (first | exact trivial | refine And.intro rfl ?_))) ?_
      exact ok_fX10_place_c14 h
    · refine ev_sub (lv := []) (mn_of rfl (by repeat (first | exact trivial | refine And.intro rfl ?_))) ?_
      exact ok_fX10_place_c14 h
def fX1_clear_c48 (kr24 : mm_MM → Nat → Int32 → Option (mm_MM)) (m : mm_MM) (t0 : Nat) (x1 : Int32) : Option (mm_MM) :=
  kr24 m t0 (x1 + 1)
set_option maxRecDepth 20000 in
theorem ok_fX1_clear_c48 {kr24 : mm_MM → Nat → Int32 → Option (mm_MM)} (hkr24 : ∀ (m : mm_MM) (t0 : Nat) (x1 : Int32) (q0 : mm_MM) (hk_t0 : mm_kd t0 = (1, 10)), kr24 m t0 x1 = some q0 → Ev XL xs (d + 1) 8 (ev_M m c w) 24 [(0, .ref t0), (1, .int x1)] [] (fr_v c w q0)) {m : mm_MM} {t0 : Nat} {x1 : Int32} {q0 : mm_MM} (hk_t0 : mm_kd t0 = (1, 10)) (h : fX1_clear_c48 kr24 m t0 x1 = some q0) : Ev XL xs (d + 1) 8 (ev_M m c w) 48 [(0, .ref t0), (1, .int x1)] [] (fr_v c w q0) := by
  unfold fX1_clear_c48 at h
  refine ev_s 2 (M' := ev_M m c w) (pc' := 24) (lv' := [(1, .int (x1 + 1)), (0, .ref t0)]) (st' := []) (fun n => rfl) ?_
  refine ev_sub (lv := [(0, .ref t0), (1, .int (x1 + 1))]) (mn_of rfl (by repeat (first | exact trivial | refine And.intro rfl ?_))) ?_
  exact hkr24 _ _ _ _ hk_t0 h
def fX1_clear_c24 : Nat → mm_MM → Nat → Int32 → Option (mm_MM)
  | 0 => fun _ _ _ => none
  | n + 1 => fun m t0 x1 =>
    (if x1 < 8 then
      (if x1 < 0 ∨ 8 ≤ x1.toNatClampNeg then none else
       (fX9_clear m (t0 + 3 + x1.toNatClampNeg)).bind fun r3 =>
        fX1_clear_c48 (fX1_clear_c24 n) r3 t0 x1)
     else
      some (wI (wI (wI (wI (wI (wI (wI (wI m t0 2 0) t0 3 4) t0 4 3) t0 5 12) t0 6 2) t0 7 30) t0 8 0) t0 9 0))
set_option maxRecDepth 20000 in
theorem ok_fX1_clear_c24 : ∀ (n : Nat) (m : mm_MM) (t0 : Nat) (x1 : Int32) (q0 : mm_MM) (hk_t0 : mm_kd t0 = (1, 10)), fX1_clear_c24 n m t0 x1 = some q0 → Ev XL xs (d + 1) 8 (ev_M m c w) 24 [(0, .ref t0), (1, .int x1)] [] (fr_v c w q0) := by
  intro n
  induction n with
  | zero => intro m t0 x1 q0 hk_t0 h; exact absurd (show (none : Option (mm_MM)) = some q0 from h) (by simp)
  | succ n ih =>
    intro m t0 x1 q0 hk_t0 h
    unfold fX1_clear_c24 at h
    refine ev_s 2 (M' := ev_M m c w) (pc' := 26) (lv' := [(0, .ref t0), (1, .int x1)]) (st' := [.ref t0, .int x1]) (fun n => rfl) ?_
    refine ev_gf (x := .ref (t0 + 2)) rfl (congrArg Prod.fst hk_t0) rfl (congrArg va_rf (tr_Lx1 hk_t0)) ?_
    refine ev_al (n := 8) rfl (by rw [(congrArg Prod.fst (kd_L2 hk_t0))]; decide) (congrArg Prod.snd (kd_L2 hk_t0)) ?_
    refine ev_i 1 (M1 := ev_M m c w) (pc1 := 33) (lv1 := [(0, .ref t0), (1, .int x1)]) (st1 := []) (M2 := ev_M m c w) (pc2 := 54) (lv2 := [(0, .ref t0), (1, .int x1)]) (st2 := []) (fun n => rfl) h (fun hc1 h => ?_) (fun hc1 h => ?_)
    · refine ev_s 1 (M' := ev_M m c w) (pc' := 34) (lv' := [(0, .ref t0), (1, .int x1)]) (st' := [.ref t0]) (fun n => rfl) ?_
      refine ev_gf (x := .ref (t0 + 2)) rfl (congrArg Prod.fst hk_t0) rfl (congrArg va_rf (tr_Lx1 hk_t0)) ?_
      refine ev_s 1 (M' := ev_M m c w) (pc' := 38) (lv' := [(0, .ref t0), (1, .int x1)]) (st' := [.int x1, .ref (t0 + 2)]) (fun n => rfl) ?_
      refine ev_aa (n := 8) (b := (t0 + 3 + x1.toNatClampNeg)) rfl (by rw [(congrArg Prod.fst (kd_L2 hk_t0))]; decide) (congrArg Prod.snd (kd_L2 hk_t0)) h (fun hj => tr_Le hk_t0 hj) (fun hx2 h => ?_)
      refine ev_s 4 (M' := ev_M m c w) (pc' := 45) (lv' := [(2, .ref (t0 + 3 + x1.toNatClampNeg)), (0, .ref t0), (1, .int x1)]) (st' := [.ref (t0 + 3 + x1.toNatClampNeg)]) (fun n => rfl) ?_
      obtain ⟨r3, hr3, h⟩ := Option.bind_eq_some_iff.mp h
      refine ev_cv (rest := []) rfl rfl (congrArg Prod.fst (kd_Le hk_t0 (Nat.not_le.mp fun z => hx2 (Or.inr z)))) rfl (ok_fX9_clear (kd_Le hk_t0 (Nat.not_le.mp fun z => hx2 (Or.inr z))) hr3) ?_
      show Ev XL xs _ 8 (ev_M r3 c w) 48 [(2, .ref (t0 + 3 + x1.toNatClampNeg)), (0, .ref t0), (1, .int x1)] [] _
      refine ev_sub (lv := [(0, .ref t0), (1, .int x1)]) (mn_of rfl (by repeat (first | exact trivial | refine And.intro rfl ?_))) ?_
      exact ok_fX1_clear_c48 ih hk_t0 h
    · refine ev_s 2 (M' := ev_M m c w) (pc' := 56) (lv' := [(0, .ref t0), (1, .int x1)]) (st' := [.int 0, .ref t0]) (fun n => rfl) ?_
      refine ev_pfz (A := some ()) (q0 := ()) rfl (congrArg Prod.fst hk_t0) rfl rfl rfl (if_pos (by decide)) (fun _ => ?_)
      refine ev_s 2 (M' := ev_M (wI m t0 2 0) c w) (pc' := 61) (lv' := [(0, .ref t0), (1, .int x1)]) (st' := [.int 4, .ref t0]) (fun n => rfl) ?_
      refine ev_pfi rfl (congrArg Prod.fst hk_t0) rfl rfl rfl ?_
      refine ev_s 2 (M' := ev_M (wI (wI m t0 2 0) t0 3 4) c w) (pc' := 66) (lv' := [(0, .ref t0), (1, .int x1)]) (st' := [.int 3, .ref t0]) (fun n => rfl) ?_
      refine ev_pfi rfl (congrArg Prod.fst hk_t0) rfl rfl rfl ?_
      refine ev_s 2 (M' := ev_M (wI (wI (wI m t0 2 0) t0 3 4) t0 4 3) c w) (pc' := 72) (lv' := [(0, .ref t0), (1, .int x1)]) (st' := [.int 12, .ref t0]) (fun n => rfl) ?_
      refine ev_pfi rfl (congrArg Prod.fst hk_t0) rfl rfl rfl ?_
      refine ev_s 2 (M' := ev_M (wI (wI (wI (wI m t0 2 0) t0 3 4) t0 4 3) t0 5 12) c w) (pc' := 77) (lv' := [(0, .ref t0), (1, .int x1)]) (st' := [.int 2, .ref t0]) (fun n => rfl) ?_
      refine ev_pfi rfl (congrArg Prod.fst hk_t0) rfl rfl rfl ?_
      refine ev_s 2 (M' := ev_M (wI (wI (wI (wI (wI m t0 2 0) t0 3 4) t0 4 3) t0 5 12) t0 6 2) c w) (pc' := 83) (lv' := [(0, .ref t0), (1, .int x1)]) (st' := [.int 30, .ref t0]) (fun n => rfl) ?_
      refine ev_pfi rfl (congrArg Prod.fst hk_t0) rfl rfl rfl ?_
      refine ev_s 2 (M' := ev_M (wI (wI (wI (wI (wI (wI m t0 2 0) t0 3 4) t0 4 3) t0 5 12) t0 6 2) t0 7 30) c w) (pc' := 88) (lv' := [(0, .ref t0), (1, .int x1)]) (st' := [.int 0, .ref t0]) (fun n => rfl) ?_
      refine ev_pfi rfl (congrArg Prod.fst hk_t0) rfl rfl rfl ?_
      refine ev_s 2 (M' := ev_M (wI (wI (wI (wI (wI (wI (wI m t0 2 0) t0 3 4) t0 4 3) t0 5 12) t0 6 2) t0 7 30) t0 8 0) c w) (pc' := 93) (lv' := [(0, .ref t0), (1, .int x1)]) (st' := [.int 0, .ref t0]) (fun n => rfl) ?_
      refine ev_pfi rfl (congrArg Prod.fst hk_t0) rfl rfl rfl ?_
      cases h
      exact ev_r 1 (fun n => rfl)
def fX1_clear_c2 : Nat → mm_MM → Nat → Int32 → Option (mm_MM)
  | 0 => fun _ _ _ => none
  | n + 1 => fun m t0 x1 =>
    (if x1 < 4 then
      (fX10_place m (t0 + 1) x1 3).bind fun r2 =>
       fX1_clear_c2 n r2 t0 (x1 + 1)
     else
      fX1_clear_c24 fu m t0 0)
set_option maxRecDepth 20000 in
theorem ok_fX1_clear_c2 : ∀ (n : Nat) (m : mm_MM) (t0 : Nat) (x1 : Int32) (q0 : mm_MM) (hk_t0 : mm_kd t0 = (1, 10)), fX1_clear_c2 n m t0 x1 = some q0 → Ev XL xs (d + 1) 8 (ev_M m c w) 2 [(0, .ref t0), (1, .int x1)] [] (fr_v c w q0) := by
  intro n
  induction n with
  | zero => intro m t0 x1 q0 hk_t0 h; exact absurd (show (none : Option (mm_MM)) = some q0 from h) (by simp)
  | succ n ih =>
    intro m t0 x1 q0 hk_t0 h
    unfold fX1_clear_c2 at h
    refine ev_i 3 (M1 := ev_M m c w) (pc1 := 7) (lv1 := [(0, .ref t0), (1, .int x1)]) (st1 := []) (M2 := ev_M m c w) (pc2 := 22) (lv2 := [(0, .ref t0), (1, .int x1)]) (st2 := []) (fun n => rfl) h (fun hc1 h => ?_) (fun hc1 h => ?_)
    · refine ev_s 1 (M' := ev_M m c w) (pc' := 8) (lv' := [(0, .ref t0), (1, .int x1)]) (st' := [.ref t0]) (fun n => rfl) ?_
      refine ev_gf (x := .ref (t0 + 1)) rfl (congrArg Prod.fst hk_t0) rfl (congrArg va_rf (tr_Lx0 hk_t0)) ?_
      obtain ⟨r2, hr2, h⟩ := Option.bind_eq_some_iff.mp h
      refine ev_c 3 (y' := 176) (M1 := ev_M m c w) (la := lv_args 0 [.ref (t0 + 1), .int x1, .int 3]) (rest := []) (pc' := 16) (lv' := [(0, .ref t0), (1, .int x1)]) (fun n => rfl) (ok_fX10_place (congrArg Prod.fst (kd_L1 hk_t0)) hr2) ?_
      show Ev XL xs _ 8 (ev_M r2 c w) 16 [(0, .ref t0), (1, .int x1)] [] _
      refine ev_s 2 (M' := ev_M r2 c w) (pc' := 2) (lv' := [(1, .int (x1 + 1)), (0, .ref t0)]) (st' := []) (fun n => rfl) ?_
      refine ev_sub (lv := [(0, .ref t0), (1, .int (x1 + 1))]) (mn_of rfl (by repeat (first | exact trivial | refine And.intro rfl ?_))) ?_
      exact ih _ _ _ _ hk_t0 h
    · refine ev_s 2 (M' := ev_M m c w) (pc' := 24) (lv' := [(1, .int 0), (0, .ref t0)]) (st' := []) (fun n => rfl) ?_
      refine ev_sub (lv := [(0, .ref t0), (1, .int 0)]) (mn_of rfl (by repeat (first | exact trivial | refine And.intro rfl ?_))) ?_
      exact ok_fX1_clear_c24 fu _ _ _ _ hk_t0 h
def fX1_clear (m : mm_MM) (t0 : Nat) : Option (mm_MM) :=
  fX1_clear_c2 fu m t0 0
set_option maxRecDepth 20000 in
theorem ok_fX1_clear {m : mm_MM} {t0 : Nat} {q0 : mm_MM} (hk_t0 : mm_kd t0 = (1, 10)) (h : fX1_clear m t0 = some q0) : Ev XL xs (d + 1) 8 (ev_M m c w) 0 (lv_args 0 [.ref t0]) [] (fr_v c w q0) := by
  unfold fX1_clear at h
  refine ev_s 2 (M' := ev_M m c w) (pc' := 2) (lv' := [(1, .int 0), (0, .ref t0)]) (st' := []) (fun n => rfl) ?_
  refine ev_sub (lv := [(0, .ref t0), (1, .int 0)]) (mn_of rfl (by repeat (first | exact trivial | refine And.intro rfl ?_))) ?_
  exact ok_fX1_clear_c2 fu _ _ _ _ hk_t0 h
def fX1_opens_c85 (m : mm_MM) (t0 : Nat) : Option (Int32 × mm_MM) :=
  some (1, (wI m t0 9 (m.1 t0 9 + 1)))
set_option maxRecDepth 20000 in
theorem ok_fX1_opens_c85 {m : mm_MM} {t0 : Nat} {q0 : Int32 × mm_MM} (hk_t0 : mm_kd t0 = (1, 10)) (h : fX1_opens_c85 m t0 = some q0) : Ev XL xs (d + 1) 10 (ev_M m c w) 85 [(0, .ref t0)] [] (fr_i c w q0) := by
  unfold fX1_opens_c85 at h
  refine ev_s 2 (M' := ev_M m c w) (pc' := 87) (lv' := [(0, .ref t0)]) (st' := [.ref t0, .ref t0]) (fun n => rfl) ?_
  refine ev_gf (x := .int (m.1 t0 9)) rfl (congrArg Prod.fst hk_t0) rfl rfl ?_
  refine ev_s 2 (M' := ev_M m c w) (pc' := 92) (lv' := [(0, .ref t0)]) (st' := [.int (m.1 t0 9 + 1), .ref t0]) (fun n => rfl) ?_
  refine ev_pfi rfl (congrArg Prod.fst hk_t0) rfl rfl rfl ?_
  cases h
  exact ev_r 2 (fun n => rfl)
def fX1_opens_c97 (m : mm_MM) : Option (Int32 × mm_MM) :=
  some (0, m)
set_option maxRecDepth 20000 in
theorem ok_fX1_opens_c97 {m : mm_MM} {q0 : Int32 × mm_MM} (h : fX1_opens_c97 m = some q0) : Ev XL xs (d + 1) 10 (ev_M m c w) 97 [] [] (fr_i c w q0) := by
  unfold fX1_opens_c97 at h
  cases h
  exact ev_r 2 (fun n => rfl)
def fX1_opens_c46 (m : mm_MM) (t0 : Nat) (x1 : Int32) : Option (Int32 × mm_MM) :=
  (if x1 = 116 then
    (if m.1 t0 9 < 8 then
      (fX1_thingAt m t0 (m.1 t0 9)).bind fun r3 =>
       match r3.1 with
       | none =>
         fX1_opens_c85 r3.2 t0
       | some u4 =>
         if mm_kd u4 = (9, 6) then
           fX1_opens_c85 (wI (wI r3.2 u4 0 1) u4 1 10) t0
         else none
     else
      fX1_opens_c97 m)
   else
    fX1_opens_c97 m)
set_option maxRecDepth 20000 in
theorem ok_fX1_opens_c46 {m : mm_MM} {t0 : Nat} {x1 : Int32} {q0 : Int32 × mm_MM} (hk_t0 : mm_kd t0 = (1, 10)) (h : fX1_opens_c46 m t0 x1 = some q0) : Ev XL xs (d + 1) 10 (ev_M m c w) 46 [(0, .ref t0), (1, .int x1)] [] (fr_i c w q0) := by
  unfold fX1_opens_c46 at h
  refine ev_i 3 (M1 := ev_M m c w) (pc1 := 52) (lv1 := [(0, .ref t0), (1, .int x1)]) (st1 := []) (M2 := ev_M m c w) (pc2 := 97) (lv2 := [(0, .ref t0), (1, .int x1)]) (st2 := []) (fun n => rfl) h (fun hc1 h => ?_) (fun hc1 h => ?_)
  · refine ev_s 1 (M' := ev_M m c w) (pc' := 53) (lv' := [(0, .ref t0), (1, .int x1)]) (st' := [.ref t0]) (fun n => rfl) ?_
    refine ev_gf (x := .int (m.1 t0 9)) rfl (congrArg Prod.fst hk_t0) rfl rfl ?_
    refine ev_i 2 (M1 := ev_M m c w) (pc1 := 61) (lv1 := [(0, .ref t0), (1, .int x1)]) (st1 := []) (M2 := ev_M m c w) (pc2 := 97) (lv2 := [(0, .ref t0), (1, .int x1)]) (st2 := []) (fun n => rfl) h (fun hc2 h => ?_) (fun hc2 h => ?_)
    · refine ev_s 2 (M' := ev_M m c w) (pc' := 63) (lv' := [(0, .ref t0), (1, .int x1)]) (st' := [.ref t0, .ref t0]) (fun n => rfl) ?_
      refine ev_gf (x := .int (m.1 t0 9)) rfl (congrArg Prod.fst hk_t0) rfl rfl ?_
      obtain ⟨r3, hr3, h⟩ := Option.bind_eq_some_iff.mp h
      refine ev_cv (rest := []) rfl rfl (congrArg Prod.fst hk_t0) rfl (ok_fX1_thingAt hk_t0 hr3) ?_
      show Ev XL xs _ 10 (ev_M r3.2 c w) 69 [(0, .ref t0), (1, .int x1)] [va_rf r3.1] _
      generalize r3.1 = o5 at h ⊢
      cases o5 with
      | none =>
        refine ev_s 3 (M' := ev_M r3.2 c w) (pc' := 85) (lv' := [(2, .null), (0, .ref t0), (1, .int x1)]) (st' := []) (fun n => rfl) ?_
        refine ev_sub (lv := [(0, .ref t0)]) (mn_of rfl (by repeat (first | exact trivial | refine And.intro rfl ?_))) ?_
        exact ok_fX1_opens_c85 hk_t0 h
      | some u4 =>
        obtain ⟨hk_u4, h⟩ := sd_ift h
        refine ev_s 5 (M' := ev_M r3.2 c w) (pc' := 76) (lv' := [(2, .ref u4), (0, .ref t0), (1, .int x1)]) (st' := [.int 1, .ref u4]) (fun n => rfl) ?_
        refine ev_pfz (A := some ()) (q0 := ()) rfl (congrArg Prod.fst hk_u4) rfl rfl rfl (if_pos (by decide)) (fun _ => ?_)
        refine ev_s 2 (M' := ev_M (wI r3.2 u4 0 1) c w) (pc' := 82) (lv' := [(2, .ref u4), (0, .ref t0), (1, .int x1)]) (st' := [.int 10, .ref u4]) (fun n => rfl) ?_
        refine ev_pfi rfl (congrArg Prod.fst hk_u4) rfl rfl rfl ?_
        refine ev_sub (lv := [(0, .ref t0)]) (mn_of rfl (by repeat (first | exact trivial | refine And.intro rfl ?_))) ?_
        exact ok_fX1_opens_c85 hk_t0 h
    · refine ev_sub (lv := []) (mn_of rfl (by repeat (first | exact trivial | refine And.intro rfl ?_))) ?_
      exact ok_fX1_opens_c97 h
  · refine ev_sub (lv := []) (mn_of rfl (by repeat (first | exact trivial | refine And.intro rfl ?_))) ?_
    exact ok_fX1_opens_c97 h
def fX1_opens_c20 (m : mm_MM) (t0 : Nat) (x1 : Int32) : Option (Int32 × mm_MM) :=
  (if x1 = 114 then
    (if m.1 t0 8 < 4 then
      some (1, (wI m t0 8 (m.1 t0 8 + 1)))
     else
      fX1_opens_c46 m t0 x1)
   else
    fX1_opens_c46 m t0 x1)
set_option maxRecDepth 20000 in
theorem ok_fX1_opens_c20 {m : mm_MM} {t0 : Nat} {x1 : Int32} {q0 : Int32 × mm_MM} (hk_t0 : mm_kd t0 = (1, 10)) (h : fX1_opens_c20 m t0 x1 = some q0) : Ev XL xs (d + 1) 10 (ev_M m c w) 20 [(0, .ref t0), (1, .int x1)] [] (fr_i c w q0) := by
  unfold fX1_opens_c20 at h
  refine ev_i 3 (M1 := ev_M m c w) (pc1 := 26) (lv1 := [(0, .ref t0), (1, .int x1)]) (st1 := []) (M2 := ev_M m c w) (pc2 := 46) (lv2 := [(0, .ref t0), (1, .int x1)]) (st2 := []) (fun n => rfl) h (fun hc1 h => ?_) (fun hc1 h => ?_)
  · refine ev_s 1 (M' := ev_M m c w) (pc' := 27) (lv' := [(0, .ref t0), (1, .int x1)]) (st' := [.ref t0]) (fun n => rfl) ?_
    refine ev_gf (x := .int (m.1 t0 8)) rfl (congrArg Prod.fst hk_t0) rfl rfl ?_
    refine ev_i 2 (M1 := ev_M m c w) (pc1 := 34) (lv1 := [(0, .ref t0), (1, .int x1)]) (st1 := []) (M2 := ev_M m c w) (pc2 := 46) (lv2 := [(0, .ref t0), (1, .int x1)]) (st2 := []) (fun n => rfl) h (fun hc2 h => ?_) (fun hc2 h => ?_)
    · refine ev_s 2 (M' := ev_M m c w) (pc' := 36) (lv' := [(0, .ref t0), (1, .int x1)]) (st' := [.ref t0, .ref t0]) (fun n => rfl) ?_
      refine ev_gf (x := .int (m.1 t0 8)) rfl (congrArg Prod.fst hk_t0) rfl rfl ?_
      refine ev_s 2 (M' := ev_M m c w) (pc' := 41) (lv' := [(0, .ref t0), (1, .int x1)]) (st' := [.int (m.1 t0 8 + 1), .ref t0]) (fun n => rfl) ?_
      refine ev_pfi rfl (congrArg Prod.fst hk_t0) rfl rfl rfl ?_
      cases h
      exact ev_r 2 (fun n => rfl)
    · exact ok_fX1_opens_c46 hk_t0 h
  · exact ok_fX1_opens_c46 hk_t0 h
def fX1_opens (m : mm_MM) (t0 : Nat) (x1 : Int32) : Option (Int32 × mm_MM) :=
  (if x1 = 115 then
    (if m.1 t0 2 = 0 then
      some (1, (wI m t0 2 1))
     else
      fX1_opens_c20 m t0 x1)
   else
    fX1_opens_c20 m t0 x1)
set_option maxRecDepth 20000 in
theorem ok_fX1_opens {m : mm_MM} {t0 : Nat} {x1 : Int32} {q0 : Int32 × mm_MM} (hk_t0 : mm_kd t0 = (1, 10)) (h : fX1_opens m t0 x1 = some q0) : Ev XL xs (d + 1) 10 (ev_M m c w) 0 (lv_args 0 [.ref t0, .int x1]) [] (fr_i c w q0) := by
  unfold fX1_opens at h
  refine ev_i 3 (M1 := ev_M m c w) (pc1 := 6) (lv1 := [(0, .ref t0), (1, .int x1)]) (st1 := []) (M2 := ev_M m c w) (pc2 := 20) (lv2 := [(0, .ref t0), (1, .int x1)]) (st2 := []) (fun n => rfl) h (fun hc1 h => ?_) (fun hc1 h => ?_)
  · refine ev_s 1 (M' := ev_M m c w) (pc' := 7) (lv' := [(0, .ref t0), (1, .int x1)]) (st' := [.ref t0]) (fun n => rfl) ?_
    refine ev_gf (x := .int (m.1 t0 2)) rfl (congrArg Prod.fst hk_t0) rfl rfl ?_
    refine ev_i 1 (M1 := ev_M m c w) (pc1 := 13) (lv1 := [(0, .ref t0), (1, .int x1)]) (st1 := []) (M2 := ev_M m c w) (pc2 := 20) (lv2 := [(0, .ref t0), (1, .int x1)]) (st2 := []) (fun n => rfl) h (fun hc2 h => ?_) (fun hc2 h => ?_)
    · refine ev_s 2 (M' := ev_M m c w) (pc' := 15) (lv' := [(0, .ref t0), (1, .int x1)]) (st' := [.int 1, .ref t0]) (fun n => rfl) ?_
      refine ev_pfz (A := some ()) (q0 := ()) rfl (congrArg Prod.fst hk_t0) rfl rfl rfl (if_pos (by decide)) (fun _ => ?_)
      cases h
      exact ev_r 2 (fun n => rfl)
    · exact ok_fX1_opens_c20 hk_t0 h
  · exact ok_fX1_opens_c20 hk_t0 h
def fX10_pick_c17 (m : mm_MM) (s0 : Int32) : Option (Int32 × mm_MM) :=
  some (s0, m)
theorem ok_fX10_pick_c17 {m : mm_MM} {s0 : Int32} {q0 : Int32 × mm_MM} (h : fX10_pick_c17 m s0 = some q0) : Ev XL xs d 175 (ev_M m c w) 17 [] [.int s0] (fr_i c w q0) := by
  unfold fX10_pick_c17 at h
  cases h
  exact ev_r 1 (fun n => rfl)
def fX10_pick_c16 (m : mm_MM) : Option (Int32 × mm_MM) :=
  fX10_pick_c17 m 0
theorem ok_fX10_pick_c16 {m : mm_MM} {q0 : Int32 × mm_MM} (h : fX10_pick_c16 m = some q0) : Ev XL xs d 175 (ev_M m c w) 16 [] [] (fr_i c w q0) := by
  unfold fX10_pick_c16 at h
  refine ev_s 1 (M' := ev_M m c w) (pc' := 17) (lv' := []) (st' := [.int 0]) (fun n => rfl) ?_
  exact ok_fX10_pick_c17 h
def fX10_pick (m : mm_MM) (t0 : Nat) (x1 : Int32) : Option (Int32 × mm_MM) :=
  (if x1 < 0 then
    fX10_pick_c16 m
   else
    (if x1 < (Int32.ofNat (mm_kd t0).2) then
      (if x1 < 0 ∨ (mm_kd t0).2 ≤ x1.toNatClampNeg then none else
       fX10_pick_c17 m (m.1 t0 x1.toNatClampNeg))
     else
      fX10_pick_c16 m))
theorem ok_fX10_pick {m : mm_MM} {t0 : Nat} {x1 : Int32} {q0 : Int32 × mm_MM} (hk_t0 : (mm_kd t0).1 = 20) (h : fX10_pick m t0 x1 = some q0) : Ev XL xs d 175 (ev_M m c w) 0 (lv_args 0 [.ref t0, .int x1]) [] (fr_i c w q0) := by
  unfold fX10_pick at h
  refine ev_i 2 (M1 := ev_M m c w) (pc1 := 16) (lv1 := [(0, .ref t0), (1, .int x1)]) (st1 := []) (M2 := ev_M m c w) (pc2 := 4) (lv2 := [(0, .ref t0), (1, .int x1)]) (st2 := []) (fun n => rfl) h (fun hc1 h => ?_) (fun hc1 h => ?_)
  · refine ev_sub (lv := []) (mn_of rfl (by repeat (first | exact trivial | refine And.intro rfl ?_))) ?_
    exact ok_fX10_pick_c16 h
  · refine ev_s 2 (M' := ev_M m c w) (pc' := 6) (lv' := [(0, .ref t0), (1, .int x1)]) (st' := [.ref t0, .int x1]) (fun n => rfl) ?_
    refine ev_al (n := (mm_kd t0).2) rfl (by rw [hk_t0]; decide) rfl ?_
    refine ev_i 1 (M1 := ev_M m c w) (pc1 := 10) (lv1 := [(0, .ref t0), (1, .int x1)]) (st1 := []) (M2 := ev_M m c w) (pc2 := 16) (lv2 := [(0, .ref t0), (1, .int x1)]) (st2 := []) (fun n => rfl) h (fun hc2 h => ?_) (fun hc2 h => ?_)
    · refine ev_s 2 (M' := ev_M m c w) (pc' := 12) (lv' := [(0, .ref t0), (1, .int x1)]) (st' := [.int x1, .ref t0]) (fun n => rfl) ?_
      refine ev_ia (n := (mm_kd t0).2) rfl hk_t0 rfl h (fun _ h => ?_)
      refine ev_s 1 (M' := ev_M m c w) (pc' := 17) (lv' := [(0, .ref t0), (1, .int x1)]) (st' := [.int (m.1 t0 x1.toNatClampNeg)]) (fun n => rfl) ?_
      refine ev_sub (lv := []) (mn_of rfl (by repeat (first | exact trivial | refine And.intro rfl ?_))) ?_
      exact ok_fX10_pick_c17 h
    · refine ev_sub (lv := []) (mn_of rfl (by repeat (first | exact trivial | refine And.intro rfl ?_))) ?_
      exact ok_fX10_pick_c16 h
def fX10_pick_x1_c17 (m : mm_MM) (s0 : Int32) : Option (Int32 × mm_MM) :=
  some (s0, m)
theorem ok_fX10_pick_x1_c17 {m : mm_MM} {s0 : Int32} {q0 : Int32 × mm_MM} (h : fX10_pick_x1_c17 m s0 = some q0) : Ev XL xs d 175 (ev_M m c w) 17 [] [.int s0] (fr_i c w q0) := by
  unfold fX10_pick_x1_c17 at h
  cases h
  exact ev_r 1 (fun n => rfl)
def fX10_pick_x1_c16 (m : mm_MM) : Option (Int32 × mm_MM) :=
  fX10_pick_x1_c17 m 0
theorem ok_fX10_pick_x1_c16 {m : mm_MM} {q0 : Int32 × mm_MM} (h : fX10_pick_x1_c16 m = some q0) : Ev XL xs d 175 (ev_M m c w) 16 [] [] (fr_i c w q0) := by
  unfold fX10_pick_x1_c16 at h
  refine ev_s 1 (M' := ev_M m c w) (pc' := 17) (lv' := []) (st' := [.int 0]) (fun n => rfl) ?_
  exact ok_fX10_pick_x1_c17 h
def fX10_pick_x1 (m : mm_MM) (x1 : Int32) : Option (Int32 × mm_MM) :=
  (if x1 < 0 then
    fX10_pick_x1_c16 m
   else
    (if x1 < 10 then
      (if x1 < 0 ∨ 10 ≤ x1.toNatClampNeg then none else
       fX10_pick_x1_c17 m ((mm_xf 0 (fun _ => 0) 1).2 x1.toNatClampNeg))
     else
      fX10_pick_x1_c16 m))
theorem ok_fX10_pick_x1 {m : mm_MM} {x1 : Int32} {q0 : Int32 × mm_MM} (h : fX10_pick_x1 m x1 = some q0) : Ev XL xs d 175 (ev_M m c w) 0 (lv_args 0 [.ref 1000001, .int x1]) [] (fr_i c w q0) := by
  unfold fX10_pick_x1 at h
  refine ev_i 2 (M1 := ev_M m c w) (pc1 := 16) (lv1 := [(0, .ref 1000001), (1, .int x1)]) (st1 := []) (M2 := ev_M m c w) (pc2 := 4) (lv2 := [(0, .ref 1000001), (1, .int x1)]) (st2 := []) (fun n => rfl) h (fun hc1 h => ?_) (fun hc1 h => ?_)
  · refine ev_sub (lv := []) (mn_of rfl (by repeat (first | exact trivial | refine And.intro rfl ?_))) ?_
    exact ok_fX10_pick_x1_c16 h
  · refine ev_i 4 (M1 := ev_M m c w) (pc1 := 10) (lv1 := [(0, .ref 1000001), (1, .int x1)]) (st1 := []) (M2 := ev_M m c w) (pc2 := 16) (lv2 := [(0, .ref 1000001), (1, .int x1)]) (st2 := []) (fun n => rfl) h (fun hc2 h => ?_) (fun hc2 h => ?_)
    · refine ev_g 3 (M1 := ev_M m c w) (pc1 := 13) (lv1 := [(0, .ref 1000001), (1, .int x1)]) (st1 := [.int ((mm_xf 0 (fun _ => 0) 1).2 x1.toNatClampNeg)]) (fun n => rfl) h (fun _ h => ?_)
      refine ev_s 1 (M' := ev_M m c w) (pc' := 17) (lv' := [(0, .ref 1000001), (1, .int x1)]) (st' := [.int ((mm_xf 0 (fun _ => 0) 1).2 x1.toNatClampNeg)]) (fun n => rfl) ?_
      refine ev_sub (lv := []) (mn_of rfl (by repeat (first | exact trivial | refine And.intro rfl ?_))) ?_
      exact ok_fX10_pick_x1_c17 h
    · refine ev_sub (lv := []) (mn_of rfl (by repeat (first | exact trivial | refine And.intro rfl ?_))) ?_
      exact ok_fX10_pick_x1_c16 h
def fX10_pick_x2_c17 (m : mm_MM) (s0 : Int32) : Option (Int32 × mm_MM) :=
  some (s0, m)
theorem ok_fX10_pick_x2_c17 {m : mm_MM} {s0 : Int32} {q0 : Int32 × mm_MM} (h : fX10_pick_x2_c17 m s0 = some q0) : Ev XL xs d 175 (ev_M m c w) 17 [] [.int s0] (fr_i c w q0) := by
  unfold fX10_pick_x2_c17 at h
  cases h
  exact ev_r 1 (fun n => rfl)
def fX10_pick_x2_c16 (m : mm_MM) : Option (Int32 × mm_MM) :=
  fX10_pick_x2_c17 m 0
theorem ok_fX10_pick_x2_c16 {m : mm_MM} {q0 : Int32 × mm_MM} (h : fX10_pick_x2_c16 m = some q0) : Ev XL xs d 175 (ev_M m c w) 16 [] [] (fr_i c w q0) := by
  unfold fX10_pick_x2_c16 at h
  refine ev_s 1 (M' := ev_M m c w) (pc' := 17) (lv' := []) (st' := [.int 0]) (fun n => rfl) ?_
  exact ok_fX10_pick_x2_c17 h
def fX10_pick_x2 (m : mm_MM) (x1 : Int32) : Option (Int32 × mm_MM) :=
  (if x1 < 0 then
    fX10_pick_x2_c16 m
   else
    (if x1 < 10 then
      (if x1 < 0 ∨ 10 ≤ x1.toNatClampNeg then none else
       fX10_pick_x2_c17 m ((mm_xf 0 (fun _ => 0) 2).2 x1.toNatClampNeg))
     else
      fX10_pick_x2_c16 m))
theorem ok_fX10_pick_x2 {m : mm_MM} {x1 : Int32} {q0 : Int32 × mm_MM} (h : fX10_pick_x2 m x1 = some q0) : Ev XL xs d 175 (ev_M m c w) 0 (lv_args 0 [.ref 1000002, .int x1]) [] (fr_i c w q0) := by
  unfold fX10_pick_x2 at h
  refine ev_i 2 (M1 := ev_M m c w) (pc1 := 16) (lv1 := [(0, .ref 1000002), (1, .int x1)]) (st1 := []) (M2 := ev_M m c w) (pc2 := 4) (lv2 := [(0, .ref 1000002), (1, .int x1)]) (st2 := []) (fun n => rfl) h (fun hc1 h => ?_) (fun hc1 h => ?_)
  · refine ev_sub (lv := []) (mn_of rfl (by repeat (first | exact trivial | refine And.intro rfl ?_))) ?_
    exact ok_fX10_pick_x2_c16 h
  · refine ev_i 4 (M1 := ev_M m c w) (pc1 := 10) (lv1 := [(0, .ref 1000002), (1, .int x1)]) (st1 := []) (M2 := ev_M m c w) (pc2 := 16) (lv2 := [(0, .ref 1000002), (1, .int x1)]) (st2 := []) (fun n => rfl) h (fun hc2 h => ?_) (fun hc2 h => ?_)
    · refine ev_g 3 (M1 := ev_M m c w) (pc1 := 13) (lv1 := [(0, .ref 1000002), (1, .int x1)]) (st1 := [.int ((mm_xf 0 (fun _ => 0) 2).2 x1.toNatClampNeg)]) (fun n => rfl) h (fun _ h => ?_)
      refine ev_s 1 (M' := ev_M m c w) (pc' := 17) (lv' := [(0, .ref 1000002), (1, .int x1)]) (st' := [.int ((mm_xf 0 (fun _ => 0) 2).2 x1.toNatClampNeg)]) (fun n => rfl) ?_
      refine ev_sub (lv := []) (mn_of rfl (by repeat (first | exact trivial | refine And.intro rfl ?_))) ?_
      exact ok_fX10_pick_x2_c17 h
    · refine ev_sub (lv := []) (mn_of rfl (by repeat (first | exact trivial | refine And.intro rfl ?_))) ?_
      exact ok_fX10_pick_x2_c16 h
def fX10_pick_x3_c17 (m : mm_MM) (s0 : Int32) : Option (Int32 × mm_MM) :=
  some (s0, m)
theorem ok_fX10_pick_x3_c17 {m : mm_MM} {s0 : Int32} {q0 : Int32 × mm_MM} (h : fX10_pick_x3_c17 m s0 = some q0) : Ev XL xs d 175 (ev_M m c w) 17 [] [.int s0] (fr_i c w q0) := by
  unfold fX10_pick_x3_c17 at h
  cases h
  exact ev_r 1 (fun n => rfl)
def fX10_pick_x3_c16 (m : mm_MM) : Option (Int32 × mm_MM) :=
  fX10_pick_x3_c17 m 0
theorem ok_fX10_pick_x3_c16 {m : mm_MM} {q0 : Int32 × mm_MM} (h : fX10_pick_x3_c16 m = some q0) : Ev XL xs d 175 (ev_M m c w) 16 [] [] (fr_i c w q0) := by
  unfold fX10_pick_x3_c16 at h
  refine ev_s 1 (M' := ev_M m c w) (pc' := 17) (lv' := []) (st' := [.int 0]) (fun n => rfl) ?_
  exact ok_fX10_pick_x3_c17 h
def fX10_pick_x3 (m : mm_MM) (x1 : Int32) : Option (Int32 × mm_MM) :=
  (if x1 < 0 then
    fX10_pick_x3_c16 m
   else
    (if x1 < 10 then
      (if x1 < 0 ∨ 10 ≤ x1.toNatClampNeg then none else
       fX10_pick_x3_c17 m ((mm_xf 0 (fun _ => 0) 3).2 x1.toNatClampNeg))
     else
      fX10_pick_x3_c16 m))
theorem ok_fX10_pick_x3 {m : mm_MM} {x1 : Int32} {q0 : Int32 × mm_MM} (h : fX10_pick_x3 m x1 = some q0) : Ev XL xs d 175 (ev_M m c w) 0 (lv_args 0 [.ref 1000003, .int x1]) [] (fr_i c w q0) := by
  unfold fX10_pick_x3 at h
  refine ev_i 2 (M1 := ev_M m c w) (pc1 := 16) (lv1 := [(0, .ref 1000003), (1, .int x1)]) (st1 := []) (M2 := ev_M m c w) (pc2 := 4) (lv2 := [(0, .ref 1000003), (1, .int x1)]) (st2 := []) (fun n => rfl) h (fun hc1 h => ?_) (fun hc1 h => ?_)
  · refine ev_sub (lv := []) (mn_of rfl (by repeat (first | exact trivial | refine And.intro rfl ?_))) ?_
    exact ok_fX10_pick_x3_c16 h
  · refine ev_i 4 (M1 := ev_M m c w) (pc1 := 10) (lv1 := [(0, .ref 1000003), (1, .int x1)]) (st1 := []) (M2 := ev_M m c w) (pc2 := 16) (lv2 := [(0, .ref 1000003), (1, .int x1)]) (st2 := []) (fun n => rfl) h (fun hc2 h => ?_) (fun hc2 h => ?_)
    · refine ev_g 3 (M1 := ev_M m c w) (pc1 := 13) (lv1 := [(0, .ref 1000003), (1, .int x1)]) (st1 := [.int ((mm_xf 0 (fun _ => 0) 3).2 x1.toNatClampNeg)]) (fun n => rfl) h (fun _ h => ?_)
      refine ev_s 1 (M' := ev_M m c w) (pc' := 17) (lv' := [(0, .ref 1000003), (1, .int x1)]) (st' := [.int ((mm_xf 0 (fun _ => 0) 3).2 x1.toNatClampNeg)]) (fun n => rfl) ?_
      refine ev_sub (lv := []) (mn_of rfl (by repeat (first | exact trivial | refine And.intro rfl ?_))) ?_
      exact ok_fX10_pick_x3_c17 h
    · refine ev_sub (lv := []) (mn_of rfl (by repeat (first | exact trivial | refine And.intro rfl ?_))) ?_
      exact ok_fX10_pick_x3_c16 h
def fX10_pick_x4_c17 (m : mm_MM) (s0 : Int32) : Option (Int32 × mm_MM) :=
  some (s0, m)
theorem ok_fX10_pick_x4_c17 {m : mm_MM} {s0 : Int32} {q0 : Int32 × mm_MM} (h : fX10_pick_x4_c17 m s0 = some q0) : Ev XL xs d 175 (ev_M m c w) 17 [] [.int s0] (fr_i c w q0) := by
  unfold fX10_pick_x4_c17 at h
  cases h
  exact ev_r 1 (fun n => rfl)
def fX10_pick_x4_c16 (m : mm_MM) : Option (Int32 × mm_MM) :=
  fX10_pick_x4_c17 m 0
theorem ok_fX10_pick_x4_c16 {m : mm_MM} {q0 : Int32 × mm_MM} (h : fX10_pick_x4_c16 m = some q0) : Ev XL xs d 175 (ev_M m c w) 16 [] [] (fr_i c w q0) := by
  unfold fX10_pick_x4_c16 at h
  refine ev_s 1 (M' := ev_M m c w) (pc' := 17) (lv' := []) (st' := [.int 0]) (fun n => rfl) ?_
  exact ok_fX10_pick_x4_c17 h
def fX10_pick_x4 (m : mm_MM) (x1 : Int32) : Option (Int32 × mm_MM) :=
  (if x1 < 0 then
    fX10_pick_x4_c16 m
   else
    (if x1 < 10 then
      (if x1 < 0 ∨ 10 ≤ x1.toNatClampNeg then none else
       fX10_pick_x4_c17 m ((mm_xf 0 (fun _ => 0) 4).2 x1.toNatClampNeg))
     else
      fX10_pick_x4_c16 m))
theorem ok_fX10_pick_x4 {m : mm_MM} {x1 : Int32} {q0 : Int32 × mm_MM} (h : fX10_pick_x4 m x1 = some q0) : Ev XL xs d 175 (ev_M m c w) 0 (lv_args 0 [.ref 1000004, .int x1]) [] (fr_i c w q0) := by
  unfold fX10_pick_x4 at h
  refine ev_i 2 (M1 := ev_M m c w) (pc1 := 16) (lv1 := [(0, .ref 1000004), (1, .int x1)]) (st1 := []) (M2 := ev_M m c w) (pc2 := 4) (lv2 := [(0, .ref 1000004), (1, .int x1)]) (st2 := []) (fun n => rfl) h (fun hc1 h => ?_) (fun hc1 h => ?_)
  · refine ev_sub (lv := []) (mn_of rfl (by repeat (first | exact trivial | refine And.intro rfl ?_))) ?_
    exact ok_fX10_pick_x4_c16 h
  · refine ev_i 4 (M1 := ev_M m c w) (pc1 := 10) (lv1 := [(0, .ref 1000004), (1, .int x1)]) (st1 := []) (M2 := ev_M m c w) (pc2 := 16) (lv2 := [(0, .ref 1000004), (1, .int x1)]) (st2 := []) (fun n => rfl) h (fun hc2 h => ?_) (fun hc2 h => ?_)
    · refine ev_g 3 (M1 := ev_M m c w) (pc1 := 13) (lv1 := [(0, .ref 1000004), (1, .int x1)]) (st1 := [.int ((mm_xf 0 (fun _ => 0) 4).2 x1.toNatClampNeg)]) (fun n => rfl) h (fun _ h => ?_)
      refine ev_s 1 (M' := ev_M m c w) (pc' := 17) (lv' := [(0, .ref 1000004), (1, .int x1)]) (st' := [.int ((mm_xf 0 (fun _ => 0) 4).2 x1.toNatClampNeg)]) (fun n => rfl) ?_
      refine ev_sub (lv := []) (mn_of rfl (by repeat (first | exact trivial | refine And.intro rfl ?_))) ?_
      exact ok_fX10_pick_x4_c17 h
    · refine ev_sub (lv := []) (mn_of rfl (by repeat (first | exact trivial | refine And.intro rfl ?_))) ?_
      exact ok_fX10_pick_x4_c16 h
def fX1_itemOf_c34 (kr2 : mm_MM → Int32 → Int32 → Int32 → Option (Int32 × mm_MM)) (m : mm_MM) (x0 : Int32) (x1 : Int32) (x2 : Int32) : Option (Int32 × mm_MM) :=
  kr2 m x0 x1 (x2 + 1)
theorem ok_fX1_itemOf_c34 {kr2 : mm_MM → Int32 → Int32 → Int32 → Option (Int32 × mm_MM)} (hkr2 : ∀ (m : mm_MM) (x0 : Int32) (x1 : Int32) (x2 : Int32) (q0 : Int32 × mm_MM), kr2 m x0 x1 x2 = some q0 → Ev XL xs (d + 1) 12 (ev_M m c w) 2 [(0, .int x0), (1, .int x1), (2, .int x2)] [] (fr_i c w q0)) {m : mm_MM} {x0 : Int32} {x1 : Int32} {x2 : Int32} {q0 : Int32 × mm_MM} (h : fX1_itemOf_c34 kr2 m x0 x1 x2 = some q0) : Ev XL xs (d + 1) 12 (ev_M m c w) 34 [(0, .int x0), (1, .int x1), (2, .int x2)] [] (fr_i c w q0) := by
  unfold fX1_itemOf_c34 at h
  refine ev_s 2 (M' := ev_M m c w) (pc' := 2) (lv' := [(2, .int (x2 + 1)), (0, .int x0), (1, .int x1)]) (st' := []) (fun n => rfl) ?_
  refine ev_sub (lv := [(0, .int x0), (1, .int x1), (2, .int (x2 + 1))]) (mn_of rfl (by repeat (first | exact trivial | refine And.intro rfl ?_))) ?_
  exact hkr2 _ _ _ _ _ h
def fX1_itemOf_c2 : Nat → mm_MM → Int32 → Int32 → Int32 → Option (Int32 × mm_MM)
  | 0 => fun _ _ _ _ => none
  | n + 1 => fun m x0 x1 x2 =>
    (if x2 < 10 then
      (fX10_pick_x2 m x2).bind fun r2 =>
       (if r2.1 = x0 then
         (fX10_pick_x1 r2.2 x2).bind fun r4 =>
          (if r4.1 = x1 then
            some (x2, r4.2)
           else
            fX1_itemOf_c34 (fX1_itemOf_c2 n) r4.2 x0 x1 x2)
        else
         fX1_itemOf_c34 (fX1_itemOf_c2 n) r2.2 x0 x1 x2)
     else
      some (((-1) : Int32), m))
theorem ok_fX1_itemOf_c2 : ∀ (n : Nat) (m : mm_MM) (x0 : Int32) (x1 : Int32) (x2 : Int32) (q0 : Int32 × mm_MM), fX1_itemOf_c2 n m x0 x1 x2 = some q0 → Ev XL xs (d + 1) 12 (ev_M m c w) 2 [(0, .int x0), (1, .int x1), (2, .int x2)] [] (fr_i c w q0) := by
  intro n
  induction n with
  | zero => intro m x0 x1 x2 q0 h; exact absurd (show (none : Option (Int32 × mm_MM)) = some q0 from h) (by simp)
  | succ n ih =>
    intro m x0 x1 x2 q0 h
    unfold fX1_itemOf_c2 at h
    refine ev_i 4 (M1 := ev_M m c w) (pc1 := 10) (lv1 := [(0, .int x0), (1, .int x1), (2, .int x2)]) (st1 := []) (M2 := ev_M m c w) (pc2 := 40) (lv2 := [(0, .int x0), (1, .int x1), (2, .int x2)]) (st2 := []) (fun n => rfl) h (fun hc1 h => ?_) (fun hc1 h => ?_)
    · obtain ⟨r2, hr2, h⟩ := Option.bind_eq_some_iff.mp h
      refine ev_c 3 (y' := 175) (M1 := ev_M m c w) (la := lv_args 0 [.ref 1000002, .int x2]) (rest := []) (pc' := 17) (lv' := [(0, .int x0), (1, .int x1), (2, .int x2)]) (fun n => rfl) (ok_fX10_pick_x2 hr2) ?_
      show Ev XL xs _ 12 (ev_M r2.2 c w) 17 [(0, .int x0), (1, .int x1), (2, .int x2)] [.int r2.1] _
      refine ev_i 2 (M1 := ev_M r2.2 c w) (pc1 := 21) (lv1 := [(0, .int x0), (1, .int x1), (2, .int x2)]) (st1 := []) (M2 := ev_M r2.2 c w) (pc2 := 34) (lv2 := [(0, .int x0), (1, .int x1), (2, .int x2)]) (st2 := []) (fun n => rfl) h (fun hc3 h => ?_) (fun hc3 h => ?_)
      · obtain ⟨r4, hr4, h⟩ := Option.bind_eq_some_iff.mp h
        refine ev_c 3 (y' := 175) (M1 := ev_M r2.2 c w) (la := lv_args 0 [.ref 1000001, .int x2]) (rest := []) (pc' := 28) (lv' := [(0, .int x0), (1, .int x1), (2, .int x2)]) (fun n => rfl) (ok_fX10_pick_x1 hr4) ?_
        show Ev XL xs _ 12 (ev_M r4.2 c w) 28 [(0, .int x0), (1, .int x1), (2, .int x2)] [.int r4.1] _
        refine ev_i 2 (M1 := ev_M r4.2 c w) (pc1 := 32) (lv1 := [(0, .int x0), (1, .int x1), (2, .int x2)]) (st1 := []) (M2 := ev_M r4.2 c w) (pc2 := 34) (lv2 := [(0, .int x0), (1, .int x1), (2, .int x2)]) (st2 := []) (fun n => rfl) h (fun hc5 h => ?_) (fun hc5 h => ?_)
        · cases h
          exact ev_r 2 (fun n => rfl)
        · exact ok_fX1_itemOf_c34 ih h
      · exact ok_fX1_itemOf_c34 ih h
    · cases h
      exact ev_r 2 (fun n => rfl)
def fX1_itemOf (m : mm_MM) (x0 : Int32) (x1 : Int32) : Option (Int32 × mm_MM) :=
  fX1_itemOf_c2 fu m x0 x1 0
theorem ok_fX1_itemOf {m : mm_MM} {x0 : Int32} {x1 : Int32} {q0 : Int32 × mm_MM} (h : fX1_itemOf m x0 x1 = some q0) : Ev XL xs (d + 1) 12 (ev_M m c w) 0 (lv_args 0 [.int x0, .int x1]) [] (fr_i c w q0) := by
  unfold fX1_itemOf at h
  refine ev_s 2 (M' := ev_M m c w) (pc' := 2) (lv' := [(2, .int 0), (0, .int x0), (1, .int x1)]) (st' := []) (fun n => rfl) ?_
  refine ev_sub (lv := [(0, .int x0), (1, .int x1), (2, .int 0)]) (mn_of rfl (by repeat (first | exact trivial | refine And.intro rfl ?_))) ?_
  exact ok_fX1_itemOf_c2 fu _ _ _ _ _ h
def fX1_tellThing_c66 (m : mm_MM) : Option (mm_MM) :=
  some m
theorem ok_fX1_tellThing_c66 {m : mm_MM} {q0 : mm_MM} (h : fX1_tellThing_c66 m = some q0) : Ev XL xs d 14 (ev_M m c w) 66 [] [] (fr_v c w q0) := by
  unfold fX1_tellThing_c66 at h
  cases h
  exact ev_r 1 (fun n => rfl)
def fX1_tellThing (m : mm_MM) (t0 : Option Nat) (x1 : Int32) (x2 : Int32) : Option (mm_MM) :=
  match t0 with
  | none =>
    fX1_tellThing_c66 m
  | some u1 =>
    if mm_kd u1 = (9, 6) then
      (if x1 = 6 then
        fX1_tellThing_c66 (wI m u1 1 x2)
       else (if x1 = 7 then
        fX1_tellThing_c66 (wI m u1 2 x2)
       else (if x1 = 8 then
        fX1_tellThing_c66 (wI (wI m u1 3 x2) u1 5 1)
       else fX1_tellThing_c66 (wI m u1 4 x2))))
    else none
theorem ok_fX1_tellThing {m : mm_MM} {t0 : Option Nat} {x1 : Int32} {x2 : Int32} {q0 : mm_MM} (h : fX1_tellThing m t0 x1 x2 = some q0) : Ev XL xs d 14 (ev_M m c w) 0 (lv_args 0 [va_rf t0, .int x1, .int x2]) [] (fr_v c w q0) := by
  unfold fX1_tellThing at h
  cases t0 with
  | none =>
    refine ev_s 2 (M' := ev_M m c w) (pc' := 66) (lv' := [(0, .null), (1, .int x1), (2, .int x2)]) (st' := []) (fun n => rfl) ?_
    refine ev_sub (lv := []) (mn_of rfl (by repeat (first | exact trivial | refine And.intro rfl ?_))) ?_
    exact ok_fX1_tellThing_c66 h
  | some u1 =>
    obtain ⟨hk_u1, h⟩ := sd_ift h
    refine ev_s 3 (M' := ev_M m c w) (pc' := 5) (lv' := [(0, .ref u1), (1, .int x1), (2, .int x2)]) (st' := [.int x1]) (fun n => rfl) ?_
    refine ev_e 6 h (fun hv2 h => ?_) (fun hv2 h => ?_)
    · refine ev_s 1 (M' := ev_M m c w) (pc' := 32) (lv' := [(0, .ref u1), (1, .int x1), (2, .int x2)]) (st' := []) (fun n => by rw [hv2]; rfl) ?_
      refine ev_s 2 (M' := ev_M m c w) (pc' := 34) (lv' := [(0, .ref u1), (1, .int x1), (2, .int x2)]) (st' := [.int x2, .ref u1]) (fun n => rfl) ?_
      refine ev_pfi rfl (congrArg Prod.fst hk_u1) rfl rfl rfl ?_
      refine ev_s 1 (M' := ev_M (wI m u1 1 x2) c w) (pc' := 66) (lv' := [(0, .ref u1), (1, .int x1), (2, .int x2)]) (st' := []) (fun n => rfl) ?_
      refine ev_sub (lv := []) (mn_of rfl (by repeat (first | exact trivial | refine And.intro rfl ?_))) ?_
      exact ok_fX1_tellThing_c66 h
    refine ev_e 7 h (fun hv3 h => ?_) (fun hv3 h => ?_)
    · refine ev_s 1 (M' := ev_M m c w) (pc' := 40) (lv' := [(0, .ref u1), (1, .int x1), (2, .int x2)]) (st' := []) (fun n => by rw [hv3]; rfl) ?_
      refine ev_s 2 (M' := ev_M m c w) (pc' := 42) (lv' := [(0, .ref u1), (1, .int x1), (2, .int x2)]) (st' := [.int x2, .ref u1]) (fun n => rfl) ?_
      refine ev_pfi rfl (congrArg Prod.fst hk_u1) rfl rfl rfl ?_
      refine ev_s 1 (M' := ev_M (wI m u1 2 x2) c w) (pc' := 66) (lv' := [(0, .ref u1), (1, .int x1), (2, .int x2)]) (st' := []) (fun n => rfl) ?_
      refine ev_sub (lv := []) (mn_of rfl (by repeat (first | exact trivial | refine And.intro rfl ?_))) ?_
      exact ok_fX1_tellThing_c66 h
    refine ev_e 8 h (fun hv4 h => ?_) (fun hv4 h => ?_)
    · refine ev_s 1 (M' := ev_M m c w) (pc' := 48) (lv' := [(0, .ref u1), (1, .int x1), (2, .int x2)]) (st' := []) (fun n => by rw [hv4]; rfl) ?_
      refine ev_s 2 (M' := ev_M m c w) (pc' := 50) (lv' := [(0, .ref u1), (1, .int x1), (2, .int x2)]) (st' := [.int x2, .ref u1]) (fun n => rfl) ?_
      refine ev_pfi rfl (congrArg Prod.fst hk_u1) rfl rfl rfl ?_
      refine ev_s 2 (M' := ev_M (wI m u1 3 x2) c w) (pc' := 55) (lv' := [(0, .ref u1), (1, .int x1), (2, .int x2)]) (st' := [.int 1, .ref u1]) (fun n => rfl) ?_
      refine ev_pfz (A := some ()) (q0 := ()) rfl (congrArg Prod.fst hk_u1) rfl rfl rfl (if_pos (by decide)) (fun _ => ?_)
      refine ev_s 1 (M' := ev_M (wI (wI m u1 3 x2) u1 5 1) c w) (pc' := 66) (lv' := [(0, .ref u1), (1, .int x1), (2, .int x2)]) (st' := []) (fun n => rfl) ?_
      refine ev_sub (lv := []) (mn_of rfl (by repeat (first | exact trivial | refine And.intro rfl ?_))) ?_
      exact ok_fX1_tellThing_c66 h
    have ghv2 : (x1 : Int32).toInt ≠ 6 := fun z => hv2 (Int32.toInt_inj.mp (z.trans rfl))
    have ghv3 : (x1 : Int32).toInt ≠ 7 := fun z => hv3 (Int32.toInt_inj.mp (z.trans rfl))
    have ghv4 : (x1 : Int32).toInt ≠ 8 := fun z => hv4 (Int32.toInt_inj.mp (z.trans rfl))
    refine ev_td (M' := ev_M m c w) (pc' := 61) (lv' := [(0, .ref u1), (1, .int x1), (2, .int x2)]) (st' := []) rfl (by omega) rfl ?_
    refine ev_s 2 (M' := ev_M m c w) (pc' := 63) (lv' := [(0, .ref u1), (1, .int x1), (2, .int x2)]) (st' := [.int x2, .ref u1]) (fun n => rfl) ?_
    refine ev_pfi rfl (congrArg Prod.fst hk_u1) rfl rfl rfl ?_
    refine ev_sub (lv := []) (mn_of rfl (by repeat (first | exact trivial | refine And.intro rfl ?_))) ?_
    exact ok_fX1_tellThing_c66 h
def fX1_tell_c112 (m : mm_MM) : Option (mm_MM) :=
  some m
set_option maxRecDepth 20000 in
theorem ok_fX1_tell_c112 {m : mm_MM} {q0 : mm_MM} (h : fX1_tell_c112 m = some q0) : Ev XL xs (d + 1) 13 (ev_M m c w) 112 [] [] (fr_v c w q0) := by
  unfold fX1_tell_c112 at h
  cases h
  exact ev_r 1 (fun n => rfl)
def fX1_tell (m : mm_MM) (t0 : Nat) (x1 : Int32) (x2 : Int32) : Option (mm_MM) :=
  (if x1 = 0 then
    fX1_tell_c112 (wI m t0 3 x2)
   else (if x1 = 1 then
    fX1_tell_c112 (wI m t0 4 x2)
   else (if x1 = 2 then
    fX1_tell_c112 (wI m t0 5 x2)
   else (if x1 = 3 then
    fX1_tell_c112 (wI m t0 6 x2)
   else (if x1 = 4 then
    fX1_tell_c112 (wI m t0 7 x2)
   else (if x1 = 5 then
    (fX10_place m (t0 + 1) (m.1 t0 8 - 1) x2).bind fun r6 =>
     fX1_tell_c112 r6
   else (fX1_thingAt m t0 (m.1 t0 9 - 1)).bind fun r8 =>
   match r8.1 with
   | none =>
     (fX1_tellThing r8.2 none x1 x2).bind fun r10 =>
      fX1_tell_c112 r10
   | some u9 =>
     if mm_kd u9 = (9, 6) then
       (fX1_tellThing r8.2 (some u9) x1 x2).bind fun r11 =>
        fX1_tell_c112 r11
     else none))))))
set_option maxRecDepth 20000 in
theorem ok_fX1_tell {m : mm_MM} {t0 : Nat} {x1 : Int32} {x2 : Int32} {q0 : mm_MM} (hk_t0 : mm_kd t0 = (1, 10)) (h : fX1_tell m t0 x1 x2 = some q0) : Ev XL xs (d + 1) 13 (ev_M m c w) 0 (lv_args 0 [.ref t0, .int x1, .int x2]) [] (fr_v c w q0) := by
  unfold fX1_tell at h
  refine ev_s 1 (M' := ev_M m c w) (pc' := 1) (lv' := [(0, .ref t0), (1, .int x1), (2, .int x2)]) (st' := [.int x1]) (fun n => rfl) ?_
  refine ev_e 0 h (fun hv1 h => ?_) (fun hv1 h => ?_)
  · refine ev_s 1 (M' := ev_M m c w) (pc' := 40) (lv' := [(0, .ref t0), (1, .int x1), (2, .int x2)]) (st' := []) (fun n => by rw [hv1]; rfl) ?_
    refine ev_s 2 (M' := ev_M m c w) (pc' := 42) (lv' := [(0, .ref t0), (1, .int x1), (2, .int x2)]) (st' := [.int x2, .ref t0]) (fun n => rfl) ?_
    refine ev_pfi rfl (congrArg Prod.fst hk_t0) rfl rfl rfl ?_
    refine ev_s 1 (M' := ev_M (wI m t0 3 x2) c w) (pc' := 112) (lv' := [(0, .ref t0), (1, .int x1), (2, .int x2)]) (st' := []) (fun n => rfl) ?_
    refine ev_sub (lv := []) (mn_of rfl (by repeat (first | exact trivial | refine And.intro rfl ?_))) ?_
    exact ok_fX1_tell_c112 h
  refine ev_e 1 h (fun hv2 h => ?_) (fun hv2 h => ?_)
  · refine ev_s 1 (M' := ev_M m c w) (pc' := 48) (lv' := [(0, .ref t0), (1, .int x1), (2, .int x2)]) (st' := []) (fun n => by rw [hv2]; rfl) ?_
    refine ev_s 2 (M' := ev_M m c w) (pc' := 50) (lv' := [(0, .ref t0), (1, .int x1), (2, .int x2)]) (st' := [.int x2, .ref t0]) (fun n => rfl) ?_
    refine ev_pfi rfl (congrArg Prod.fst hk_t0) rfl rfl rfl ?_
    refine ev_s 1 (M' := ev_M (wI m t0 4 x2) c w) (pc' := 112) (lv' := [(0, .ref t0), (1, .int x1), (2, .int x2)]) (st' := []) (fun n => rfl) ?_
    refine ev_sub (lv := []) (mn_of rfl (by repeat (first | exact trivial | refine And.intro rfl ?_))) ?_
    exact ok_fX1_tell_c112 h
  refine ev_e 2 h (fun hv3 h => ?_) (fun hv3 h => ?_)
  · refine ev_s 1 (M' := ev_M m c w) (pc' := 56) (lv' := [(0, .ref t0), (1, .int x1), (2, .int x2)]) (st' := []) (fun n => by rw [hv3]; rfl) ?_
    refine ev_s 2 (M' := ev_M m c w) (pc' := 58) (lv' := [(0, .ref t0), (1, .int x1), (2, .int x2)]) (st' := [.int x2, .ref t0]) (fun n => rfl) ?_
    refine ev_pfi rfl (congrArg Prod.fst hk_t0) rfl rfl rfl ?_
    refine ev_s 1 (M' := ev_M (wI m t0 5 x2) c w) (pc' := 112) (lv' := [(0, .ref t0), (1, .int x1), (2, .int x2)]) (st' := []) (fun n => rfl) ?_
    refine ev_sub (lv := []) (mn_of rfl (by repeat (first | exact trivial | refine And.intro rfl ?_))) ?_
    exact ok_fX1_tell_c112 h
  refine ev_e 3 h (fun hv4 h => ?_) (fun hv4 h => ?_)
  · refine ev_s 1 (M' := ev_M m c w) (pc' := 64) (lv' := [(0, .ref t0), (1, .int x1), (2, .int x2)]) (st' := []) (fun n => by rw [hv4]; rfl) ?_
    refine ev_s 2 (M' := ev_M m c w) (pc' := 66) (lv' := [(0, .ref t0), (1, .int x1), (2, .int x2)]) (st' := [.int x2, .ref t0]) (fun n => rfl) ?_
    refine ev_pfi rfl (congrArg Prod.fst hk_t0) rfl rfl rfl ?_
    refine ev_s 1 (M' := ev_M (wI m t0 6 x2) c w) (pc' := 112) (lv' := [(0, .ref t0), (1, .int x1), (2, .int x2)]) (st' := []) (fun n => rfl) ?_
    refine ev_sub (lv := []) (mn_of rfl (by repeat (first | exact trivial | refine And.intro rfl ?_))) ?_
    exact ok_fX1_tell_c112 h
  refine ev_e 4 h (fun hv5 h => ?_) (fun hv5 h => ?_)
  · refine ev_s 1 (M' := ev_M m c w) (pc' := 72) (lv' := [(0, .ref t0), (1, .int x1), (2, .int x2)]) (st' := []) (fun n => by rw [hv5]; rfl) ?_
    refine ev_s 2 (M' := ev_M m c w) (pc' := 74) (lv' := [(0, .ref t0), (1, .int x1), (2, .int x2)]) (st' := [.int x2, .ref t0]) (fun n => rfl) ?_
    refine ev_pfi rfl (congrArg Prod.fst hk_t0) rfl rfl rfl ?_
    refine ev_s 1 (M' := ev_M (wI m t0 7 x2) c w) (pc' := 112) (lv' := [(0, .ref t0), (1, .int x1), (2, .int x2)]) (st' := []) (fun n => rfl) ?_
    refine ev_sub (lv := []) (mn_of rfl (by repeat (first | exact trivial | refine And.intro rfl ?_))) ?_
    exact ok_fX1_tell_c112 h
  refine ev_e 5 h (fun hv7 h => ?_) (fun hv7 h => ?_)
  · refine ev_s 1 (M' := ev_M m c w) (pc' := 80) (lv' := [(0, .ref t0), (1, .int x1), (2, .int x2)]) (st' := []) (fun n => by rw [hv7]; rfl) ?_
    refine ev_s 1 (M' := ev_M m c w) (pc' := 81) (lv' := [(0, .ref t0), (1, .int x1), (2, .int x2)]) (st' := [.ref t0]) (fun n => rfl) ?_
    refine ev_gf (x := .ref (t0 + 1)) rfl (congrArg Prod.fst hk_t0) rfl (congrArg va_rf (tr_Lx0 hk_t0)) ?_
    refine ev_s 1 (M' := ev_M m c w) (pc' := 85) (lv' := [(0, .ref t0), (1, .int x1), (2, .int x2)]) (st' := [.ref t0, .ref (t0 + 1)]) (fun n => rfl) ?_
    refine ev_gf (x := .int (m.1 t0 8)) rfl (congrArg Prod.fst hk_t0) rfl rfl ?_
    obtain ⟨r6, hr6, h⟩ := Option.bind_eq_some_iff.mp h
    refine ev_c 4 (y' := 176) (M1 := ev_M m c w) (la := lv_args 0 [.ref (t0 + 1), .int (m.1 t0 8 - 1), .int x2]) (rest := []) (pc' := 94) (lv' := [(0, .ref t0), (1, .int x1), (2, .int x2)]) (fun n => rfl) (ok_fX10_place (congrArg Prod.fst (kd_L1 hk_t0)) hr6) ?_
    show Ev XL xs _ 13 (ev_M r6 c w) 94 [(0, .ref t0), (1, .int x1), (2, .int x2)] [] _
    refine ev_s 1 (M' := ev_M r6 c w) (pc' := 112) (lv' := [(0, .ref t0), (1, .int x1), (2, .int x2)]) (st' := []) (fun n => rfl) ?_
    refine ev_sub (lv := []) (mn_of rfl (by repeat (first | exact trivial | refine And.intro rfl ?_))) ?_
    exact ok_fX1_tell_c112 h
  have ghv1 : (x1 : Int32).toInt ≠ 0 := fun z => hv1 (Int32.toInt_inj.mp (z.trans rfl))
  have ghv2 : (x1 : Int32).toInt ≠ 1 := fun z => hv2 (Int32.toInt_inj.mp (z.trans rfl))
  have ghv3 : (x1 : Int32).toInt ≠ 2 := fun z => hv3 (Int32.toInt_inj.mp (z.trans rfl))
  have ghv4 : (x1 : Int32).toInt ≠ 3 := fun z => hv4 (Int32.toInt_inj.mp (z.trans rfl))
  have ghv5 : (x1 : Int32).toInt ≠ 4 := fun z => hv5 (Int32.toInt_inj.mp (z.trans rfl))
  have ghv7 : (x1 : Int32).toInt ≠ 5 := fun z => hv7 (Int32.toInt_inj.mp (z.trans rfl))
  refine ev_td (M' := ev_M m c w) (pc' := 97) (lv' := [(0, .ref t0), (1, .int x1), (2, .int x2)]) (st' := []) rfl (by omega) rfl ?_
  refine ev_s 2 (M' := ev_M m c w) (pc' := 99) (lv' := [(0, .ref t0), (1, .int x1), (2, .int x2)]) (st' := [.ref t0, .ref t0]) (fun n => rfl) ?_
  refine ev_gf (x := .int (m.1 t0 9)) rfl (congrArg Prod.fst hk_t0) rfl rfl ?_
  refine ev_s 2 (M' := ev_M m c w) (pc' := 104) (lv' := [(0, .ref t0), (1, .int x1), (2, .int x2)]) (st' := [.int (m.1 t0 9 - 1), .ref t0]) (fun n => rfl) ?_
  obtain ⟨r8, hr8, h⟩ := Option.bind_eq_some_iff.mp h
  refine ev_cv (rest := []) rfl rfl (congrArg Prod.fst hk_t0) rfl (ok_fX1_thingAt hk_t0 hr8) ?_
  show Ev XL xs _ 13 (ev_M r8.2 c w) 107 [(0, .ref t0), (1, .int x1), (2, .int x2)] [va_rf r8.1] _
  generalize r8.1 = o12 at h ⊢
  cases o12 with
  | none =>
    obtain ⟨r10, hr10, h⟩ := Option.bind_eq_some_iff.mp h
    refine ev_c 3 (y' := 14) (M1 := ev_M r8.2 c w) (la := lv_args 0 [.null, .int x1, .int x2]) (rest := []) (pc' := 112) (lv' := [(0, .ref t0), (1, .int x1), (2, .int x2)]) (fun n => rfl) (ok_fX1_tellThing hr10) ?_
    show Ev XL xs _ 13 (ev_M r10 c w) 112 [(0, .ref t0), (1, .int x1), (2, .int x2)] [] _
    refine ev_sub (lv := []) (mn_of rfl (by repeat (first | exact trivial | refine And.intro rfl ?_))) ?_
    exact ok_fX1_tell_c112 h
  | some u9 =>
    obtain ⟨hk_u9, h⟩ := sd_ift h
    obtain ⟨r11, hr11, h⟩ := Option.bind_eq_some_iff.mp h
    refine ev_c 3 (y' := 14) (M1 := ev_M r8.2 c w) (la := lv_args 0 [.ref u9, .int x1, .int x2]) (rest := []) (pc' := 112) (lv' := [(0, .ref t0), (1, .int x1), (2, .int x2)]) (fun n => rfl) (ok_fX1_tellThing hr11) ?_
    show Ev XL xs _ 13 (ev_M r11 c w) 112 [(0, .ref t0), (1, .int x1), (2, .int x2)] [] _
    refine ev_sub (lv := []) (mn_of rfl (by repeat (first | exact trivial | refine And.intro rfl ?_))) ?_
    exact ok_fX1_tell_c112 h
def fX8_head (m : mm_MM) : Option (Int32 × mm_MM) :=
  some (m.1 1 2, m)
theorem ok_fX8_head {m : mm_MM} {q0 : Int32 × mm_MM} (h : fX8_head m = some q0) : Ev XL xs d 82 (ev_M m c w) 0 (lv_args 0 [.ref 1]) [] (fr_i c w q0) := by
  unfold fX8_head at h
  cases h
  exact ev_r 3 (fun n => rfl)
def fX8_raw_c26 (m : mm_MM) (s0 : Int32) : Option (Int32 × mm_MM) :=
  some (s0, m)
theorem ok_fX8_raw_c26 {m : mm_MM} {s0 : Int32} {q0 : Int32 × mm_MM} (h : fX8_raw_c26 m s0 = some q0) : Ev XL xs (d + 1) 84 (ev_M m c w) 26 [] [.int s0] (fr_i c w q0) := by
  unfold fX8_raw_c26 at h
  cases h
  exact ev_r 1 (fun n => rfl)
def fX8_raw (m : mm_MM) : Option (Int32 × mm_MM) :=
  (if m.1 1 2 < m.1 1 1 then
    (fX10_pick m 2 (m.1 1 2)).bind fun r2 =>
     fX8_raw_c26 r2.2 r2.1
   else
    fX8_raw_c26 m ((-1) : Int32))
theorem ok_fX8_raw {m : mm_MM} {q0 : Int32 × mm_MM} (h : fX8_raw m = some q0) : Ev XL xs (d + 1) 84 (ev_M m c w) 0 (lv_args 0 [.ref 1]) [] (fr_i c w q0) := by
  unfold fX8_raw at h
  refine ev_i 5 (M1 := ev_M m c w) (pc1 := 11) (lv1 := [(0, .ref 1)]) (st1 := []) (M2 := ev_M m c w) (pc2 := 25) (lv2 := [(0, .ref 1)]) (st2 := []) (fun n => rfl) h (fun hc1 h => ?_) (fun hc1 h => ?_)
  · obtain ⟨r2, hr2, h⟩ := Option.bind_eq_some_iff.mp h
    refine ev_c 5 (y' := 175) (M1 := ev_M m c w) (la := lv_args 0 [.ref 2, .int (m.1 1 2)]) (rest := []) (pc' := 22) (lv' := [(0, .ref 1)]) (fun n => rfl) (ok_fX10_pick (congrArg Prod.fst (rfl : mm_kd 2 = (20, 240))) hr2) ?_
    show Ev XL xs _ 84 (ev_M r2.2 c w) 22 [(0, .ref 1)] [.int r2.1] _
    refine ev_s 1 (M' := ev_M r2.2 c w) (pc' := 26) (lv' := [(0, .ref 1)]) (st' := [.int r2.1]) (fun n => rfl) ?_
    refine ev_sub (lv := []) (mn_of rfl (by repeat (first | exact trivial | refine And.intro rfl ?_))) ?_
    exact ok_fX8_raw_c26 h
  · refine ev_s 1 (M' := ev_M m c w) (pc' := 26) (lv' := [(0, .ref 1)]) (st' := [.int ((-1) : Int32)]) (fun n => rfl) ?_
    refine ev_sub (lv := []) (mn_of rfl (by repeat (first | exact trivial | refine And.intro rfl ?_))) ?_
    exact ok_fX8_raw_c26 h
def fX8_sign_c40 (m : mm_MM) : Option (Int32 × mm_MM) :=
  (fX8_raw m).bind fun r1 =>
   some (r1.1, r1.2)
theorem ok_fX8_sign_c40 {m : mm_MM} {q0 : Int32 × mm_MM} (h : fX8_sign_c40 m = some q0) : Ev XL xs (d + 2) 83 (ev_M m c w) 40 [(0, .ref 1)] [] (fr_i c w q0) := by
  unfold fX8_sign_c40 at h
  obtain ⟨r1, hr1, h⟩ := Option.bind_eq_some_iff.mp h
  refine ev_c 2 (y' := 84) (M1 := ev_M m c w) (la := lv_args 0 [.ref 1]) (rest := []) (pc' := 44) (lv' := [(0, .ref 1)]) (fun n => rfl) (ok_fX8_raw hr1) ?_
  show Ev XL xs _ 83 (ev_M r1.2 c w) 44 [(0, .ref 1)] [.int r1.1] _
  cases h
  exact ev_r 1 (fun n => rfl)
def fX8_sign_c0 : Nat → mm_MM → Option (Int32 × mm_MM)
  | 0 => fun _ => none
  | n + 1 => fun m =>
    (if m.1 1 2 < m.1 1 1 then
      (fX10_pick m 2 (m.1 1 2)).bind fun r2 =>
       (if r2.1 = 32 then
         fX8_sign_c0 n (wI r2.2 1 2 (r2.2.1 1 2 + 1))
        else
         fX8_sign_c40 r2.2)
     else
      fX8_sign_c40 m)
theorem ok_fX8_sign_c0 : ∀ (n : Nat) (m : mm_MM) (q0 : Int32 × mm_MM), fX8_sign_c0 n m = some q0 → Ev XL xs (d + 2) 83 (ev_M m c w) 0 [(0, .ref 1)] [] (fr_i c w q0) := by
  intro n
  induction n with
  | zero => intro m q0 h; exact absurd (show (none : Option (Int32 × mm_MM)) = some q0 from h) (by simp)
  | succ n ih =>
    intro m q0 h
    unfold fX8_sign_c0 at h
    refine ev_i 5 (M1 := ev_M m c w) (pc1 := 11) (lv1 := [(0, .ref 1)]) (st1 := []) (M2 := ev_M m c w) (pc2 := 40) (lv2 := [(0, .ref 1)]) (st2 := []) (fun n => rfl) h (fun hc1 h => ?_) (fun hc1 h => ?_)
    · obtain ⟨r2, hr2, h⟩ := Option.bind_eq_some_iff.mp h
      refine ev_c 5 (y' := 175) (M1 := ev_M m c w) (la := lv_args 0 [.ref 2, .int (m.1 1 2)]) (rest := []) (pc' := 22) (lv' := [(0, .ref 1)]) (fun n => rfl) (ok_fX10_pick (congrArg Prod.fst (rfl : mm_kd 2 = (20, 240))) hr2) ?_
      show Ev XL xs _ 83 (ev_M r2.2 c w) 22 [(0, .ref 1)] [.int r2.1] _
      refine ev_i 2 (M1 := ev_M r2.2 c w) (pc1 := 27) (lv1 := [(0, .ref 1)]) (st1 := []) (M2 := ev_M r2.2 c w) (pc2 := 40) (lv2 := [(0, .ref 1)]) (st2 := []) (fun n => rfl) h (fun hc3 h => ?_) (fun hc3 h => ?_)
      · refine ev_s 7 (M' := ev_M (wI r2.2 1 2 (r2.2.1 1 2 + 1)) c w) (pc' := 0) (lv' := [(0, .ref 1)]) (st' := []) (fun n => rfl) ?_
        exact ih _ _ h
      · exact ok_fX8_sign_c40 h
    · exact ok_fX8_sign_c40 h
def fX8_sign (m : mm_MM) : Option (Int32 × mm_MM) :=
  fX8_sign_c0 fu m
theorem ok_fX8_sign {m : mm_MM} {q0 : Int32 × mm_MM} (h : fX8_sign m = some q0) : Ev XL xs (d + 2) 83 (ev_M m c w) 0 (lv_args 0 [.ref 1]) [] (fr_i c w q0) := by
  unfold fX8_sign at h
  exact ok_fX8_sign_c0 fu _ _ h
def fX8_skip (m : mm_MM) : Option (mm_MM) :=
  some (wI m 1 2 (m.1 1 2 + 1))
theorem ok_fX8_skip {m : mm_MM} {q0 : mm_MM} (h : fX8_skip m = some q0) : Ev XL xs d 85 (ev_M m c w) 0 (lv_args 0 [.ref 1]) [] (fr_v c w q0) := by
  unfold fX8_skip at h
  cases h
  exact ev_r 7 (fun n => rfl)
def fX8_isDigit_c17 (m : mm_MM) (s0 : Int32) : Option (Int32 × mm_MM) :=
  (if s0 = 0 ∨ s0 = 1 then some (s0, m) else none)
theorem ok_fX8_isDigit_c17 {m : mm_MM} {s0 : Int32} {q0 : Int32 × mm_MM} (h : fX8_isDigit_c17 m s0 = some q0) : Ev XL xs d 88 (ev_M m c w) 17 [] [.int s0] (fr_i c w q0) := by
  unfold fX8_isDigit_c17 at h
  exact ev_rg 1 (f := fr_i c w) (fun n => rfl) h
def fX8_isDigit_c16 (m : mm_MM) : Option (Int32 × mm_MM) :=
  fX8_isDigit_c17 m 0
theorem ok_fX8_isDigit_c16 {m : mm_MM} {q0 : Int32 × mm_MM} (h : fX8_isDigit_c16 m = some q0) : Ev XL xs d 88 (ev_M m c w) 16 [] [] (fr_i c w q0) := by
  unfold fX8_isDigit_c16 at h
  refine ev_s 1 (M' := ev_M m c w) (pc' := 17) (lv' := []) (st' := [.int 0]) (fun n => rfl) ?_
  exact ok_fX8_isDigit_c17 h
def fX8_isDigit (m : mm_MM) (x0 : Int32) : Option (Int32 × mm_MM) :=
  (if x0 < 48 then
    fX8_isDigit_c16 m
   else
    (if x0 ≤ 57 then
      fX8_isDigit_c17 m 1
     else
      fX8_isDigit_c16 m))
theorem ok_fX8_isDigit {m : mm_MM} {x0 : Int32} {q0 : Int32 × mm_MM} (h : fX8_isDigit m x0 = some q0) : Ev XL xs d 88 (ev_M m c w) 0 (lv_args 0 [.int x0]) [] (fr_i c w q0) := by
  unfold fX8_isDigit at h
  refine ev_i 3 (M1 := ev_M m c w) (pc1 := 16) (lv1 := [(0, .int x0)]) (st1 := []) (M2 := ev_M m c w) (pc2 := 6) (lv2 := [(0, .int x0)]) (st2 := []) (fun n => rfl) h (fun hc1 h => ?_) (fun hc1 h => ?_)
  · refine ev_sub (lv := []) (mn_of rfl (by repeat (first | exact trivial | refine And.intro rfl ?_))) ?_
    exact ok_fX8_isDigit_c16 h
  · refine ev_i 3 (M1 := ev_M m c w) (pc1 := 12) (lv1 := [(0, .int x0)]) (st1 := []) (M2 := ev_M m c w) (pc2 := 16) (lv2 := [(0, .int x0)]) (st2 := []) (fun n => rfl) h (fun hc2 h => ?_) (fun hc2 h => ?_)
    · refine ev_s 2 (M' := ev_M m c w) (pc' := 17) (lv' := [(0, .int x0)]) (st' := [.int 1]) (fun n => rfl) ?_
      refine ev_sub (lv := []) (mn_of rfl (by repeat (first | exact trivial | refine And.intro rfl ?_))) ?_
      exact ok_fX8_isDigit_c17 h
    · refine ev_sub (lv := []) (mn_of rfl (by repeat (first | exact trivial | refine And.intro rfl ?_))) ?_
      exact ok_fX8_isDigit_c16 h
def fX8_number_c75 (m : mm_MM) (s0 : Int32) : Option (Int32 × mm_MM) :=
  some (s0, m)
theorem ok_fX8_number_c75 {m : mm_MM} {s0 : Int32} {q0 : Int32 × mm_MM} (h : fX8_number_c75 m s0 = some q0) : Ev XL xs (d + 3) 87 (ev_M m c w) 75 [] [.int s0] (fr_i c w q0) := by
  unfold fX8_number_c75 at h
  cases h
  exact ev_r 1 (fun n => rfl)
def fX8_number_c60 (m : mm_MM) (x2 : Int32) : Option (Int32 × mm_MM) :=
  (fX8_raw m).bind fun r1 =>
   (fX8_isDigit r1.2 r1.1).bind fun r2 =>
    (if r2.1 = 0 then
      fX8_number_c75 r2.2 x2
     else
      fX8_number_c75 r2.2 ((-1) : Int32))
theorem ok_fX8_number_c60 {m : mm_MM} {x2 : Int32} {q0 : Int32 × mm_MM} (h : fX8_number_c60 m x2 = some q0) : Ev XL xs (d + 3) 87 (ev_M m c w) 60 [(0, .ref 1), (2, .int x2)] [] (fr_i c w q0) := by
  unfold fX8_number_c60 at h
  obtain ⟨r1, hr1, h⟩ := Option.bind_eq_some_iff.mp h
  refine ev_c 2 (y' := 84) (M1 := ev_M m c w) (la := lv_args 0 [.ref 1]) (rest := []) (pc' := 64) (lv' := [(0, .ref 1), (2, .int x2)]) (fun n => rfl) (ok_fX8_raw hr1) ?_
  show Ev XL xs _ 87 (ev_M r1.2 c w) 64 [(0, .ref 1), (2, .int x2)] [.int r1.1] _
  obtain ⟨r2, hr2, h⟩ := Option.bind_eq_some_iff.mp h
  refine ev_c 1 (y' := 88) (M1 := ev_M r1.2 c w) (la := lv_args 0 [.int r1.1]) (rest := []) (pc' := 67) (lv' := [(0, .ref 1), (2, .int x2)]) (fun n => rfl) (ok_fX8_isDigit hr2) ?_
  show Ev XL xs _ 87 (ev_M r2.2 c w) 67 [(0, .ref 1), (2, .int x2)] [.int r2.1] _
  refine ev_i 1 (M1 := ev_M r2.2 c w) (pc1 := 74) (lv1 := [(0, .ref 1), (2, .int x2)]) (st1 := []) (M2 := ev_M r2.2 c w) (pc2 := 70) (lv2 := [(0, .ref 1), (2, .int x2)]) (st2 := []) (fun n => rfl) h (fun hc3 h => ?_) (fun hc3 h => ?_)
  · refine ev_s 1 (M' := ev_M r2.2 c w) (pc' := 75) (lv' := [(0, .ref 1), (2, .int x2)]) (st' := [.int x2]) (fun n => rfl) ?_
    refine ev_sub (lv := []) (mn_of rfl (by repeat (first | exact trivial | refine And.intro rfl ?_))) ?_
    exact ok_fX8_number_c75 h
  · refine ev_s 2 (M' := ev_M r2.2 c w) (pc' := 75) (lv' := [(0, .ref 1), (2, .int x2)]) (st' := [.int ((-1) : Int32)]) (fun n => rfl) ?_
    refine ev_sub (lv := []) (mn_of rfl (by repeat (first | exact trivial | refine And.intro rfl ?_))) ?_
    exact ok_fX8_number_c75 h
def fX8_number_c16 : Nat → mm_MM → Int32 → Int32 → Int32 → Option (Int32 × mm_MM)
  | 0 => fun _ _ _ _ => none
  | n + 1 => fun m x1 x2 x3 =>
    (if x3 < x1 then
      (fX8_raw m).bind fun r2 =>
       (fX8_isDigit r2.2 r2.1).bind fun r3 =>
        (if r3.1 = 0 then
          fX8_number_c60 r3.2 x2
         else
          (fX8_raw r3.2).bind fun r5 =>
           fX8_number_c16 n (wI r5.2 1 2 (r5.2.1 1 2 + 1)) x1 (((x2 * 10) + r5.1) - 48) (x3 + 1))
     else
      fX8_number_c60 m x2)
theorem ok_fX8_number_c16 : ∀ (n : Nat) (m : mm_MM) (x1 : Int32) (x2 : Int32) (x3 : Int32) (q0 : Int32 × mm_MM), fX8_number_c16 n m x1 x2 x3 = some q0 → Ev XL xs (d + 3) 87 (ev_M m c w) 16 [(0, .ref 1), (1, .int x1), (2, .int x2), (3, .int x3)] [] (fr_i c w q0) := by
  intro n
  induction n with
  | zero => intro m x1 x2 x3 q0 h; exact absurd (show (none : Option (Int32 × mm_MM)) = some q0 from h) (by simp)
  | succ n ih =>
    intro m x1 x2 x3 q0 h
    unfold fX8_number_c16 at h
    refine ev_i 3 (M1 := ev_M m c w) (pc1 := 21) (lv1 := [(0, .ref 1), (1, .int x1), (2, .int x2), (3, .int x3)]) (st1 := []) (M2 := ev_M m c w) (pc2 := 60) (lv2 := [(0, .ref 1), (1, .int x1), (2, .int x2), (3, .int x3)]) (st2 := []) (fun n => rfl) h (fun hc1 h => ?_) (fun hc1 h => ?_)
    · obtain ⟨r2, hr2, h⟩ := Option.bind_eq_some_iff.mp h
      refine ev_c 2 (y' := 84) (M1 := ev_M m c w) (la := lv_args 0 [.ref 1]) (rest := []) (pc' := 25) (lv' := [(0, .ref 1), (1, .int x1), (2, .int x2), (3, .int x3)]) (fun n => rfl) (ok_fX8_raw hr2) ?_
      show Ev XL xs _ 87 (ev_M r2.2 c w) 25 [(0, .ref 1), (1, .int x1), (2, .int x2), (3, .int x3)] [.int r2.1] _
      obtain ⟨r3, hr3, h⟩ := Option.bind_eq_some_iff.mp h
      refine ev_c 1 (y' := 88) (M1 := ev_M r2.2 c w) (la := lv_args 0 [.int r2.1]) (rest := []) (pc' := 28) (lv' := [(0, .ref 1), (1, .int x1), (2, .int x2), (3, .int x3)]) (fun n => rfl) (ok_fX8_isDigit hr3) ?_
      show Ev XL xs _ 87 (ev_M r3.2 c w) 28 [(0, .ref 1), (1, .int x1), (2, .int x2), (3, .int x3)] [.int r3.1] _
      refine ev_i 1 (M1 := ev_M r3.2 c w) (pc1 := 60) (lv1 := [(0, .ref 1), (1, .int x1), (2, .int x2), (3, .int x3)]) (st1 := []) (M2 := ev_M r3.2 c w) (pc2 := 31) (lv2 := [(0, .ref 1), (1, .int x1), (2, .int x2), (3, .int x3)]) (st2 := []) (fun n => rfl) h (fun hc4 h => ?_) (fun hc4 h => ?_)
      · refine ev_sub (lv := [(0, .ref 1), (2, .int x2)]) (mn_of rfl (by repeat (first | exact trivial | refine And.intro rfl ?_))) ?_
        exact ok_fX8_number_c60 h
      · obtain ⟨r5, hr5, h⟩ := Option.bind_eq_some_iff.mp h
        refine ev_c 5 (y' := 84) (M1 := ev_M r3.2 c w) (la := lv_args 0 [.ref 1]) (rest := [.int (x2 * 10)]) (pc' := 39) (lv' := [(0, .ref 1), (1, .int x1), (2, .int x2), (3, .int x3)]) (fun n => rfl) (ok_fX8_raw hr5) ?_
        show Ev XL xs _ 87 (ev_M r5.2 c w) 39 [(0, .ref 1), (1, .int x1), (2, .int x2), (3, .int x3)] [.int r5.1, .int (x2 * 10)] _
        refine ev_s 12 (M' := ev_M (wI r5.2 1 2 (r5.2.1 1 2 + 1)) c w) (pc' := 16) (lv' := [(3, .int (x3 + 1)), (2, .int (((x2 * 10) + r5.1) - 48)), (0, .ref 1), (1, .int x1)]) (st' := []) (fun n => rfl) ?_
        refine ev_sub (lv := [(0, .ref 1), (1, .int x1), (2, .int (((x2 * 10) + r5.1) - 48)), (3, .int (x3 + 1))]) (mn_of rfl (by repeat (first | exact trivial | refine And.intro rfl ?_))) ?_
        exact ih _ _ _ _ _ h
    · refine ev_sub (lv := [(0, .ref 1), (2, .int x2)]) (mn_of rfl (by repeat (first | exact trivial | refine And.intro rfl ?_))) ?_
      exact ok_fX8_number_c60 h
def fX8_number (m : mm_MM) (x1 : Int32) : Option (Int32 × mm_MM) :=
  (fX8_sign m).bind fun r1 =>
   (fX8_isDigit r1.2 r1.1).bind fun r2 =>
    (if r2.1 = 0 then
      some (((-1) : Int32), r2.2)
     else
      fX8_number_c16 fu r2.2 x1 0 0)
theorem ok_fX8_number {m : mm_MM} {x1 : Int32} {q0 : Int32 × mm_MM} (h : fX8_number m x1 = some q0) : Ev XL xs (d + 3) 87 (ev_M m c w) 0 (lv_args 0 [.ref 1, .int x1]) [] (fr_i c w q0) := by
  unfold fX8_number at h
  obtain ⟨r1, hr1, h⟩ := Option.bind_eq_some_iff.mp h
  refine ev_c 2 (y' := 83) (M1 := ev_M m c w) (la := lv_args 0 [.ref 1]) (rest := []) (pc' := 4) (lv' := [(0, .ref 1), (1, .int x1)]) (fun n => rfl) (ok_fX8_sign hr1) ?_
  show Ev XL xs _ 87 (ev_M r1.2 c w) 4 [(0, .ref 1), (1, .int x1)] [.int r1.1] _
  obtain ⟨r2, hr2, h⟩ := Option.bind_eq_some_iff.mp h
  refine ev_c 1 (y' := 88) (M1 := ev_M r1.2 c w) (la := lv_args 0 [.int r1.1]) (rest := []) (pc' := 7) (lv' := [(0, .ref 1), (1, .int x1)]) (fun n => rfl) (ok_fX8_isDigit hr2) ?_
  show Ev XL xs _ 87 (ev_M r2.2 c w) 7 [(0, .ref 1), (1, .int x1)] [.int r2.1] _
  refine ev_i 1 (M1 := ev_M r2.2 c w) (pc1 := 10) (lv1 := [(0, .ref 1), (1, .int x1)]) (st1 := []) (M2 := ev_M r2.2 c w) (pc2 := 12) (lv2 := [(0, .ref 1), (1, .int x1)]) (st2 := []) (fun n => rfl) h (fun hc3 h => ?_) (fun hc3 h => ?_)
  · cases h
    exact ev_r 2 (fun n => rfl)
  · refine ev_s 4 (M' := ev_M r2.2 c w) (pc' := 16) (lv' := [(3, .int 0), (2, .int 0), (0, .ref 1), (1, .int x1)]) (st' := []) (fun n => rfl) ?_
    refine ev_sub (lv := [(0, .ref 1), (1, .int x1), (2, .int 0), (3, .int 0)]) (mn_of rfl (by repeat (first | exact trivial | refine And.intro rfl ?_))) ?_
    exact ok_fX8_number_c16 fu _ _ _ _ _ h
def fX1_readItems_c33 (m : mm_MM) : Option (Int32 × mm_MM) :=
  some (((-1) : Int32), m)
set_option maxRecDepth 20000 in
theorem ok_fX1_readItems_c33 {m : mm_MM} {q0 : Int32 × mm_MM} (h : fX1_readItems_c33 m = some q0) : Ev XL xs (d + 4) 11 (ev_M m c w) 33 [] [] (fr_i c w q0) := by
  unfold fX1_readItems_c33 at h
  cases h
  exact ev_r 2 (fun n => rfl)
def fX1_readItems_c59 (m : mm_MM) : Option (Int32 × mm_MM) :=
  (fX8_head m).bind fun r1 =>
   some (r1.1, r1.2)
set_option maxRecDepth 20000 in
theorem ok_fX1_readItems_c59 {m : mm_MM} {q0 : Int32 × mm_MM} (h : fX1_readItems_c59 m = some q0) : Ev XL xs (d + 4) 11 (ev_M m c w) 59 [(1, .ref 1)] [] (fr_i c w q0) := by
  unfold fX1_readItems_c59 at h
  obtain ⟨r1, hr1, h⟩ := Option.bind_eq_some_iff.mp h
  refine ev_c 2 (y' := 82) (M1 := ev_M m c w) (la := lv_args 0 [.ref 1]) (rest := []) (pc' := 63) (lv' := [(1, .ref 1)]) (fun n => rfl) (ok_fX8_head hr1) ?_
  show Ev XL xs _ 11 (ev_M r1.2 c w) 63 [(1, .ref 1)] [.int r1.1] _
  cases h
  exact ev_r 1 (fun n => rfl)
def fX1_readItems_c119 (m : mm_MM) : Option (Int32 × mm_MM) :=
  (fX8_head m).bind fun r1 =>
   some ((r1.1 - 1), r1.2)
set_option maxRecDepth 20000 in
theorem ok_fX1_readItems_c119 {m : mm_MM} {q0 : Int32 × mm_MM} (h : fX1_readItems_c119 m = some q0) : Ev XL xs (d + 4) 11 (ev_M m c w) 119 [(1, .ref 1)] [] (fr_i c w q0) := by
  unfold fX1_readItems_c119 at h
  obtain ⟨r1, hr1, h⟩ := Option.bind_eq_some_iff.mp h
  refine ev_c 2 (y' := 82) (M1 := ev_M m c w) (la := lv_args 0 [.ref 1]) (rest := []) (pc' := 123) (lv' := [(1, .ref 1)]) (fun n => rfl) (ok_fX8_head hr1) ?_
  show Ev XL xs _ 11 (ev_M r1.2 c w) 123 [(1, .ref 1)] [.int r1.1] _
  cases h
  exact ev_r 3 (fun n => rfl)
def fX1_readItems_c5 : Nat → mm_MM → Nat → Int32 → Int32 → Int32 → Option (Int32 × mm_MM)
  | 0 => fun _ _ _ _ _ => none
  | n + 1 => fun m t0 x2 x3 x4 =>
    (if x4 ≤ 10 then
      (fX8_sign m).bind fun r2 =>
       (if r2.1 = ((-1) : Int32) then
         fX1_readItems_c33 r2.2
        else
         (if r2.1 = 59 then
           fX1_readItems_c33 r2.2
          else
           (fX1_itemOf r2.2 x2 r2.1).bind fun r5 =>
            (if r5.1 = ((-1) : Int32) then
              fX1_readItems_c59 r5.2
             else
              (if (((x3 : Int32) >>> (r5.1 &&& 31)) &&& 1) = 1 then
                fX1_readItems_c59 r5.2
               else
                (fX8_skip r5.2).bind fun r8 =>
                 (fX8_number r8 2).bind fun r9 =>
                  (if r9.1 = ((-1) : Int32) then
                    (fX8_head r9.2).bind fun r11 =>
                     some (r11.1, r11.2)
                   else
                    (fX10_pick_x3 r9.2 r5.1).bind fun r12 =>
                     (if r9.1 < r12.1 then
                       fX1_readItems_c119 r12.2
                      else
                       (fX10_pick_x4 r12.2 r5.1).bind fun r14 =>
                        (if r9.1 ≤ r14.1 then
                          (fX1_tell r14.2 t0 r5.1 r9.1).bind fun r16 =>
                           fX1_readItems_c5 n r16 t0 x2 (x3 ||| ((1 : Int32) <<< (r5.1 &&& 31))) (x4 + 1)
                         else
                          fX1_readItems_c119 r14.2)))))))
     else
      (fX8_head m).bind fun r17 =>
       some (r17.1, r17.2))
set_option maxRecDepth 20000 in
theorem ok_fX1_readItems_c5 : ∀ (n : Nat) (m : mm_MM) (t0 : Nat) (x2 : Int32) (x3 : Int32) (x4 : Int32) (q0 : Int32 × mm_MM) (hk_t0 : mm_kd t0 = (1, 10)), fX1_readItems_c5 n m t0 x2 x3 x4 = some q0 → Ev XL xs (d + 4) 11 (ev_M m c w) 5 [(0, .ref t0), (1, .ref 1), (2, .int x2), (3, .int x3), (4, .int x4)] [] (fr_i c w q0) := by
  intro n
  induction n with
  | zero => intro m t0 x2 x3 x4 q0 hk_t0 h; exact absurd (show (none : Option (Int32 × mm_MM)) = some q0 from h) (by simp)
  | succ n ih =>
    intro m t0 x2 x3 x4 q0 hk_t0 h
    unfold fX1_readItems_c5 at h
    refine ev_i 4 (M1 := ev_M m c w) (pc1 := 14) (lv1 := [(0, .ref t0), (1, .ref 1), (2, .int x2), (3, .int x3), (4, .int x4)]) (st1 := []) (M2 := ev_M m c w) (pc2 := 140) (lv2 := [(0, .ref t0), (1, .ref 1), (2, .int x2), (3, .int x3), (4, .int x4)]) (st2 := []) (fun n => rfl) h (fun hc1 h => ?_) (fun hc1 h => ?_)
    · obtain ⟨r2, hr2, h⟩ := Option.bind_eq_some_iff.mp h
      refine ev_c 2 (y' := 83) (M1 := ev_M m c w) (la := lv_args 0 [.ref 1]) (rest := []) (pc' := 18) (lv' := [(0, .ref t0), (1, .ref 1), (2, .int x2), (3, .int x3), (4, .int x4)]) (fun n => rfl) (ok_fX8_sign hr2) ?_
      show Ev XL xs _ 11 (ev_M r2.2 c w) 18 [(0, .ref t0), (1, .ref 1), (2, .int x2), (3, .int x3), (4, .int x4)] [.int r2.1] _
      refine ev_i 4 (M1 := ev_M r2.2 c w) (pc1 := 33) (lv1 := [(5, .int r2.1), (0, .ref t0), (1, .ref 1), (2, .int x2), (3, .int x3), (4, .int x4)]) (st1 := []) (M2 := ev_M r2.2 c w) (pc2 := 26) (lv2 := [(5, .int r2.1), (0, .ref t0), (1, .ref 1), (2, .int x2), (3, .int x3), (4, .int x4)]) (st2 := []) (fun n => rfl) h (fun hc3 h => ?_) (fun hc3 h => ?_)
      · refine ev_sub (lv := []) (mn_of rfl (by repeat (first | exact trivial | refine And.intro rfl ?_))) ?_
        exact ok_fX1_readItems_c33 h
      · refine ev_i 3 (M1 := ev_M r2.2 c w) (pc1 := 33) (lv1 := [(5, .int r2.1), (0, .ref t0), (1, .ref 1), (2, .int x2), (3, .int x3), (4, .int x4)]) (st1 := []) (M2 := ev_M r2.2 c w) (pc2 := 35) (lv2 := [(5, .int r2.1), (0, .ref t0), (1, .ref 1), (2, .int x2), (3, .int x3), (4, .int x4)]) (st2 := []) (fun n => rfl) h (fun hc4 h => ?_) (fun hc4 h => ?_)
        · refine ev_sub (lv := []) (mn_of rfl (by repeat (first | exact trivial | refine And.intro rfl ?_))) ?_
          exact ok_fX1_readItems_c33 h
        · obtain ⟨r5, hr5, h⟩ := Option.bind_eq_some_iff.mp h
          refine ev_c 3 (y' := 12) (M1 := ev_M r2.2 c w) (la := lv_args 0 [.int x2, .int r2.1]) (rest := []) (pc' := 41) (lv' := [(5, .int r2.1), (0, .ref t0), (1, .ref 1), (2, .int x2), (3, .int x3), (4, .int x4)]) (fun n => rfl) (ok_fX1_itemOf hr5) ?_
          show Ev XL xs _ 11 (ev_M r5.2 c w) 41 [(5, .int r2.1), (0, .ref t0), (1, .ref 1), (2, .int x2), (3, .int x3), (4, .int x4)] [.int r5.1] _
          refine ev_i 4 (M1 := ev_M r5.2 c w) (pc1 := 59) (lv1 := [(6, .int r5.1), (5, .int r2.1), (0, .ref t0), (1, .ref 1), (2, .int x2), (3, .int x3), (4, .int x4)]) (st1 := []) (M2 := ev_M r5.2 c w) (pc2 := 49) (lv2 := [(6, .int r5.1), (5, .int r2.1), (0, .ref t0), (1, .ref 1), (2, .int x2), (3, .int x3), (4, .int x4)]) (st2 := []) (fun n => rfl) h (fun hc6 h => ?_) (fun hc6 h => ?_)
          · refine ev_sub (lv := [(1, .ref 1)]) (mn_of rfl (by repeat (first | exact trivial | refine And.intro rfl ?_))) ?_
            exact ok_fX1_readItems_c59 h
          · refine ev_i 7 (M1 := ev_M r5.2 c w) (pc1 := 59) (lv1 := [(6, .int r5.1), (5, .int r2.1), (0, .ref t0), (1, .ref 1), (2, .int x2), (3, .int x3), (4, .int x4)]) (st1 := []) (M2 := ev_M r5.2 c w) (pc2 := 64) (lv2 := [(6, .int r5.1), (5, .int r2.1), (0, .ref t0), (1, .ref 1), (2, .int x2), (3, .int x3), (4, .int x4)]) (st2 := []) (fun n => rfl) h (fun hc7 h => ?_) (fun hc7 h => ?_)
            · refine ev_sub (lv := [(1, .ref 1)]) (mn_of rfl (by repeat (first | exact trivial | refine And.intro rfl ?_))) ?_
              exact ok_fX1_readItems_c59 h
            · obtain ⟨r8, hr8, h⟩ := Option.bind_eq_some_iff.mp h
              refine ev_c 8 (y' := 85) (M1 := ev_M r5.2 c w) (la := lv_args 0 [.ref 1]) (rest := []) (pc' := 75) (lv' := [(3, .int (x3 ||| ((1 : Int32) <<< (r5.1 &&& 31)))), (6, .int r5.1), (5, .int r2.1), (0, .ref t0), (1, .ref 1), (2, .int x2), (4, .int x4)]) (fun n => rfl) (ok_fX8_skip hr8) ?_
              show Ev XL xs _ 11 (ev_M r8 c w) 75 [(3, .int (x3 ||| ((1 : Int32) <<< (r5.1 &&& 31)))), (6, .int r5.1), (5, .int r2.1), (0, .ref t0), (1, .ref 1), (2, .int x2), (4, .int x4)] [] _
              obtain ⟨r9, hr9, h⟩ := Option.bind_eq_some_iff.mp h
              refine ev_c 3 (y' := 87) (M1 := ev_M r8 c w) (la := lv_args 0 [.ref 1, .int 2]) (rest := []) (pc' := 80) (lv' := [(3, .int (x3 ||| ((1 : Int32) <<< (r5.1 &&& 31)))), (6, .int r5.1), (5, .int r2.1), (0, .ref t0), (1, .ref 1), (2, .int x2), (4, .int x4)]) (fun n => rfl) (ok_fX8_number hr9) ?_
              show Ev XL xs _ 11 (ev_M r9.2 c w) 80 [(3, .int (x3 ||| ((1 : Int32) <<< (r5.1 &&& 31)))), (6, .int r5.1), (5, .int r2.1), (0, .ref t0), (1, .ref 1), (2, .int x2), (4, .int x4)] [.int r9.1] _
              refine ev_i 4 (M1 := ev_M r9.2 c w) (pc1 := 88) (lv1 := [(7, .int r9.1), (3, .int (x3 ||| ((1 : Int32) <<< (r5.1 &&& 31)))), (6, .int r5.1), (5, .int r2.1), (0, .ref t0), (1, .ref 1), (2, .int x2), (4, .int x4)]) (st1 := []) (M2 := ev_M r9.2 c w) (pc2 := 93) (lv2 := [(7, .int r9.1), (3, .int (x3 ||| ((1 : Int32) <<< (r5.1 &&& 31)))), (6, .int r5.1), (5, .int r2.1), (0, .ref t0), (1, .ref 1), (2, .int x2), (4, .int x4)]) (st2 := []) (fun n => rfl) h (fun hc10 h => ?_) (fun hc10 h => ?_)
              · obtain ⟨r11, hr11, h⟩ := Option.bind_eq_some_iff.mp h
                refine ev_c 2 (y' := 82) (M1 := ev_M r9.2 c w) (la := lv_args 0 [.ref 1]) (rest := []) (pc' := 92) (lv' := [(7, .int r9.1), (3, .int (x3 ||| ((1 : Int32) <<< (r5.1 &&& 31)))), (6, .int r5.1), (5, .int r2.1), (0, .ref t0), (1, .ref 1), (2, .int x2), (4, .int x4)]) (fun n => rfl) (ok_fX8_head hr11) ?_
                show Ev XL xs _ 11 (ev_M r11.2 c w) 92 [(7, .int r9.1), (3, .int (x3 ||| ((1 : Int32) <<< (r5.1 &&& 31)))), (6, .int r5.1), (5, .int r2.1), (0, .ref t0), (1, .ref 1), (2, .int x2), (4, .int x4)] [.int r11.1] _
                cases h
                exact ev_r 1 (fun n => rfl)
              · obtain ⟨r12, hr12, h⟩ := Option.bind_eq_some_iff.mp h
                refine ev_c 4 (y' := 175) (M1 := ev_M r9.2 c w) (la := lv_args 0 [.ref 1000003, .int r5.1]) (rest := [.int r9.1]) (pc' := 103) (lv' := [(7, .int r9.1), (3, .int (x3 ||| ((1 : Int32) <<< (r5.1 &&& 31)))), (6, .int r5.1), (5, .int r2.1), (0, .ref t0), (1, .ref 1), (2, .int x2), (4, .int x4)]) (fun n => rfl) (ok_fX10_pick_x3 hr12) ?_
                show Ev XL xs _ 11 (ev_M r12.2 c w) 103 [(7, .int r9.1), (3, .int (x3 ||| ((1 : Int32) <<< (r5.1 &&& 31)))), (6, .int r5.1), (5, .int r2.1), (0, .ref t0), (1, .ref 1), (2, .int x2), (4, .int x4)] [.int r12.1, .int r9.1] _
                refine ev_i 1 (M1 := ev_M r12.2 c w) (pc1 := 119) (lv1 := [(7, .int r9.1), (3, .int (x3 ||| ((1 : Int32) <<< (r5.1 &&& 31)))), (6, .int r5.1), (5, .int r2.1), (0, .ref t0), (1, .ref 1), (2, .int x2), (4, .int x4)]) (st1 := []) (M2 := ev_M r12.2 c w) (pc2 := 106) (lv2 := [(7, .int r9.1), (3, .int (x3 ||| ((1 : Int32) <<< (r5.1 &&& 31)))), (6, .int r5.1), (5, .int r2.1), (0, .ref t0), (1, .ref 1), (2, .int x2), (4, .int x4)]) (st2 := []) (fun n => rfl) h (fun hc13 h => ?_) (fun hc13 h => ?_)
                · refine ev_sub (lv := [(1, .ref 1)]) (mn_of rfl (by repeat (first | exact trivial | refine And.intro rfl ?_))) ?_
                  exact ok_fX1_readItems_c119 h
                · obtain ⟨r14, hr14, h⟩ := Option.bind_eq_some_iff.mp h
                  refine ev_c 4 (y' := 175) (M1 := ev_M r12.2 c w) (la := lv_args 0 [.ref 1000004, .int r5.1]) (rest := [.int r9.1]) (pc' := 116) (lv' := [(7, .int r9.1), (3, .int (x3 ||| ((1 : Int32) <<< (r5.1 &&& 31)))), (6, .int r5.1), (5, .int r2.1), (0, .ref t0), (1, .ref 1), (2, .int x2), (4, .int x4)]) (fun n => rfl) (ok_fX10_pick_x4 hr14) ?_
                  show Ev XL xs _ 11 (ev_M r14.2 c w) 116 [(7, .int r9.1), (3, .int (x3 ||| ((1 : Int32) <<< (r5.1 &&& 31)))), (6, .int r5.1), (5, .int r2.1), (0, .ref t0), (1, .ref 1), (2, .int x2), (4, .int x4)] [.int r14.1, .int r9.1] _
                  refine ev_i 1 (M1 := ev_M r14.2 c w) (pc1 := 126) (lv1 := [(7, .int r9.1), (3, .int (x3 ||| ((1 : Int32) <<< (r5.1 &&& 31)))), (6, .int r5.1), (5, .int r2.1), (0, .ref t0), (1, .ref 1), (2, .int x2), (4, .int x4)]) (st1 := []) (M2 := ev_M r14.2 c w) (pc2 := 119) (lv2 := [(7, .int r9.1), (3, .int (x3 ||| ((1 : Int32) <<< (r5.1 &&& 31)))), (6, .int r5.1), (5, .int r2.1), (0, .ref t0), (1, .ref 1), (2, .int x2), (4, .int x4)]) (st2 := []) (fun n => rfl) h (fun hc15 h => ?_) (fun hc15 h => ?_)
                  · refine ev_s 3 (M' := ev_M r14.2 c w) (pc' := 131) (lv' := [(7, .int r9.1), (3, .int (x3 ||| ((1 : Int32) <<< (r5.1 &&& 31)))), (6, .int r5.1), (5, .int r2.1), (0, .ref t0), (1, .ref 1), (2, .int x2), (4, .int x4)]) (st' := [.int r9.1, .int r5.1, .ref t0]) (fun n => rfl) ?_
                    obtain ⟨r16, hr16, h⟩ := Option.bind_eq_some_iff.mp h
                    refine ev_cv (rest := []) rfl rfl (congrArg Prod.fst hk_t0) rfl (ok_fX1_tell hk_t0 hr16) ?_
                    show Ev XL xs _ 11 (ev_M r16 c w) 134 [(7, .int r9.1), (3, .int (x3 ||| ((1 : Int32) <<< (r5.1 &&& 31)))), (6, .int r5.1), (5, .int r2.1), (0, .ref t0), (1, .ref 1), (2, .int x2), (4, .int x4)] [] _
                    refine ev_s 2 (M' := ev_M r16 c w) (pc' := 5) (lv' := [(4, .int (x4 + 1)), (7, .int r9.1), (3, .int (x3 ||| ((1 : Int32) <<< (r5.1 &&& 31)))), (6, .int r5.1), (5, .int r2.1), (0, .ref t0), (1, .ref 1), (2, .int x2)]) (st' := []) (fun n => rfl) ?_
                    refine ev_sub (lv := [(0, .ref t0), (1, .ref 1), (2, .int x2), (3, .int (x3 ||| ((1 : Int32) <<< (r5.1 &&& 31)))), (4, .int (x4 + 1))]) (mn_of rfl (by repeat (first | exact trivial | refine And.intro rfl ?_))) ?_
                    exact ih _ _ _ _ _ _ hk_t0 h
                  · refine ev_sub (lv := [(1, .ref 1)]) (mn_of rfl (by repeat (first | exact trivial | refine And.intro rfl ?_))) ?_
                    exact ok_fX1_readItems_c119 h
    · obtain ⟨r17, hr17, h⟩ := Option.bind_eq_some_iff.mp h
      refine ev_c 2 (y' := 82) (M1 := ev_M m c w) (la := lv_args 0 [.ref 1]) (rest := []) (pc' := 144) (lv' := [(0, .ref t0), (1, .ref 1), (2, .int x2), (3, .int x3), (4, .int x4)]) (fun n => rfl) (ok_fX8_head hr17) ?_
      show Ev XL xs _ 11 (ev_M r17.2 c w) 144 [(0, .ref t0), (1, .ref 1), (2, .int x2), (3, .int x3), (4, .int x4)] [.int r17.1] _
      cases h
      exact ev_r 1 (fun n => rfl)
def fX1_readItems (m : mm_MM) (t0 : Nat) (x2 : Int32) : Option (Int32 × mm_MM) :=
  fX1_readItems_c5 fu m t0 x2 0 0
set_option maxRecDepth 20000 in
theorem ok_fX1_readItems {m : mm_MM} {t0 : Nat} {x2 : Int32} {q0 : Int32 × mm_MM} (hk_t0 : mm_kd t0 = (1, 10)) (h : fX1_readItems m t0 x2 = some q0) : Ev XL xs (d + 4) 11 (ev_M m c w) 0 (lv_args 0 [.ref t0, .ref 1, .int x2]) [] (fr_i c w q0) := by
  unfold fX1_readItems at h
  refine ev_s 4 (M' := ev_M m c w) (pc' := 5) (lv' := [(4, .int 0), (3, .int 0), (0, .ref t0), (1, .ref 1), (2, .int x2)]) (st' := []) (fun n => rfl) ?_
  refine ev_sub (lv := [(0, .ref t0), (1, .ref 1), (2, .int x2), (3, .int 0), (4, .int 0)]) (mn_of rfl (by repeat (first | exact trivial | refine And.intro rfl ?_))) ?_
  exact ok_fX1_readItems_c5 fu _ _ _ _ _ _ hk_t0 h
def fX1_isWhole_c53 (m : mm_MM) : Option (Int32 × mm_MM) :=
  some (0, m)
theorem ok_fX1_isWhole_c53 {m : mm_MM} {q0 : Int32 × mm_MM} (h : fX1_isWhole_c53 m = some q0) : Ev XL xs (d + 1) 15 (ev_M m c w) 53 [] [] (fr_i c w q0) := by
  unfold fX1_isWhole_c53 at h
  cases h
  exact ev_r 2 (fun n => rfl)
def fX1_isWhole_c64 (kr4 : mm_MM → Nat → Int32 → Int32 → Option (Int32 × mm_MM)) (m : mm_MM) (t0 : Nat) (x1 : Int32) (x2 : Int32) : Option (Int32 × mm_MM) :=
  kr4 m t0 x1 (x2 + 1)
theorem ok_fX1_isWhole_c64 {kr4 : mm_MM → Nat → Int32 → Int32 → Option (Int32 × mm_MM)} (hkr4 : ∀ (m : mm_MM) (t0 : Nat) (x1 : Int32) (x2 : Int32) (q0 : Int32 × mm_MM) (hk_t0 : mm_kd t0 = (1, 10)), kr4 m t0 x1 x2 = some q0 → Ev XL xs (d + 1) 15 (ev_M m c w) 4 [(0, .ref t0), (1, .int x1), (2, .int x2)] [] (fr_i c w q0)) {m : mm_MM} {t0 : Nat} {x1 : Int32} {x2 : Int32} {q0 : Int32 × mm_MM} (hk_t0 : mm_kd t0 = (1, 10)) (h : fX1_isWhole_c64 kr4 m t0 x1 x2 = some q0) : Ev XL xs (d + 1) 15 (ev_M m c w) 64 [(0, .ref t0), (1, .int x1), (2, .int x2)] [] (fr_i c w q0) := by
  unfold fX1_isWhole_c64 at h
  refine ev_s 2 (M' := ev_M m c w) (pc' := 4) (lv' := [(2, .int (x2 + 1)), (0, .ref t0), (1, .int x1)]) (st' := []) (fun n => rfl) ?_
  refine ev_sub (lv := [(0, .ref t0), (1, .int x1), (2, .int (x2 + 1))]) (mn_of rfl (by repeat (first | exact trivial | refine And.intro rfl ?_))) ?_
  exact hkr4 _ _ _ _ _ hk_t0 h
def fX1_isWhole_c86 (m : mm_MM) (s0 : Int32) : Option (Int32 × mm_MM) :=
  (if s0 = 0 ∨ s0 = 1 then some (s0, m) else none)
theorem ok_fX1_isWhole_c86 {m : mm_MM} {s0 : Int32} {q0 : Int32 × mm_MM} (h : fX1_isWhole_c86 m s0 = some q0) : Ev XL xs (d + 1) 15 (ev_M m c w) 86 [] [.int s0] (fr_i c w q0) := by
  unfold fX1_isWhole_c86 at h
  exact ev_rg 1 (f := fr_i c w) (fun n => rfl) h
def fX1_isWhole_c4 : Nat → mm_MM → Nat → Int32 → Int32 → Option (Int32 × mm_MM)
  | 0 => fun _ _ _ _ => none
  | n + 1 => fun m t0 x1 x2 =>
    (if x2 < m.1 t0 9 then
      (fX1_thingAt m t0 x2).bind fun r2 =>
       match r2.1 with
       | none =>
         fX1_isWhole_c64 (fX1_isWhole_c4 n) r2.2 t0 x1 x2
       | some u3 =>
         if mm_kd u3 = (9, 6) then
           (if r2.2.1 u3 3 = ((-1) : Int32) then
             fX1_isWhole_c64 (fX1_isWhole_c4 n) r2.2 t0 x1 x2
            else
             (fX1_plots r2.2 t0).bind fun r5 =>
              (if r2.2.1 u3 3 < r5.1 then
                (if (((x1 : Int32) >>> (r5.2.1 u3 3 &&& 31)) &&& 1) = 1 then
                  fX1_isWhole_c53 r5.2
                 else
                  fX1_isWhole_c64 (fX1_isWhole_c4 n) r5.2 t0 (x1 ||| ((1 : Int32) <<< (r5.2.1 u3 3 &&& 31))) x2)
               else
                fX1_isWhole_c53 r5.2))
         else none
     else
      (if m.1 t0 8 ≤ m.1 t0 4 then
        fX1_isWhole_c86 m 1
       else
        fX1_isWhole_c86 m 0))
theorem ok_fX1_isWhole_c4 : ∀ (n : Nat) (m : mm_MM) (t0 : Nat) (x1 : Int32) (x2 : Int32) (q0 : Int32 × mm_MM) (hk_t0 : mm_kd t0 = (1, 10)), fX1_isWhole_c4 n m t0 x1 x2 = some q0 → Ev XL xs (d + 1) 15 (ev_M m c w) 4 [(0, .ref t0), (1, .int x1), (2, .int x2)] [] (fr_i c w q0) := by
  intro n
  induction n with
  | zero => intro m t0 x1 x2 q0 hk_t0 h; exact absurd (show (none : Option (Int32 × mm_MM)) = some q0 from h) (by simp)
  | succ n ih =>
    intro m t0 x1 x2 q0 hk_t0 h
    unfold fX1_isWhole_c4 at h
    refine ev_s 2 (M' := ev_M m c w) (pc' := 6) (lv' := [(0, .ref t0), (1, .int x1), (2, .int x2)]) (st' := [.ref t0, .int x2]) (fun n => rfl) ?_
    refine ev_gf (x := .int (m.1 t0 9)) rfl (congrArg Prod.fst hk_t0) rfl rfl ?_
    refine ev_i 1 (M1 := ev_M m c w) (pc1 := 12) (lv1 := [(0, .ref t0), (1, .int x1), (2, .int x2)]) (st1 := []) (M2 := ev_M m c w) (pc2 := 70) (lv2 := [(0, .ref t0), (1, .int x1), (2, .int x2)]) (st2 := []) (fun n => rfl) h (fun hc1 h => ?_) (fun hc1 h => ?_)
    · refine ev_s 2 (M' := ev_M m c w) (pc' := 14) (lv' := [(0, .ref t0), (1, .int x1), (2, .int x2)]) (st' := [.int x2, .ref t0]) (fun n => rfl) ?_
      obtain ⟨r2, hr2, h⟩ := Option.bind_eq_some_iff.mp h
      refine ev_cv (rest := []) rfl rfl (congrArg Prod.fst hk_t0) rfl (ok_fX1_thingAt hk_t0 hr2) ?_
      show Ev XL xs _ 15 (ev_M r2.2 c w) 17 [(0, .ref t0), (1, .int x1), (2, .int x2)] [va_rf r2.1] _
      generalize r2.1 = o8 at h ⊢
      cases o8 with
      | none =>
        refine ev_s 3 (M' := ev_M r2.2 c w) (pc' := 64) (lv' := [(3, .null), (0, .ref t0), (1, .int x1), (2, .int x2)]) (st' := []) (fun n => rfl) ?_
        refine ev_sub (lv := [(0, .ref t0), (1, .int x1), (2, .int x2)]) (mn_of rfl (by repeat (first | exact trivial | refine And.intro rfl ?_))) ?_
        exact ok_fX1_isWhole_c64 ih hk_t0 h
      | some u3 =>
        obtain ⟨hk_u3, h⟩ := sd_ift h
        refine ev_s 4 (M' := ev_M r2.2 c w) (pc' := 23) (lv' := [(3, .ref u3), (0, .ref t0), (1, .int x1), (2, .int x2)]) (st' := [.ref u3]) (fun n => rfl) ?_
        refine ev_gf (x := .int (r2.2.1 u3 3)) rfl (congrArg Prod.fst hk_u3) rfl rfl ?_
        refine ev_i 2 (M1 := ev_M r2.2 c w) (pc1 := 64) (lv1 := [(3, .ref u3), (0, .ref t0), (1, .int x1), (2, .int x2)]) (st1 := []) (M2 := ev_M r2.2 c w) (pc2 := 30) (lv2 := [(3, .ref u3), (0, .ref t0), (1, .int x1), (2, .int x2)]) (st2 := []) (fun n => rfl) h (fun hc4 h => ?_) (fun hc4 h => ?_)
        · refine ev_sub (lv := [(0, .ref t0), (1, .int x1), (2, .int x2)]) (mn_of rfl (by repeat (first | exact trivial | refine And.intro rfl ?_))) ?_
          exact ok_fX1_isWhole_c64 ih hk_t0 h
        · refine ev_s 1 (M' := ev_M r2.2 c w) (pc' := 31) (lv' := [(3, .ref u3), (0, .ref t0), (1, .int x1), (2, .int x2)]) (st' := [.ref u3]) (fun n => rfl) ?_
          refine ev_gf (x := .int (r2.2.1 u3 3)) rfl (congrArg Prod.fst hk_u3) rfl rfl ?_
          refine ev_s 1 (M' := ev_M r2.2 c w) (pc' := 35) (lv' := [(3, .ref u3), (0, .ref t0), (1, .int x1), (2, .int x2)]) (st' := [.ref t0, .int (r2.2.1 u3 3)]) (fun n => rfl) ?_
          obtain ⟨r5, hr5, h⟩ := Option.bind_eq_some_iff.mp h
          refine ev_cv (rest := [.int (r2.2.1 u3 3)]) rfl rfl (congrArg Prod.fst hk_t0) rfl (ok_fX1_plots hk_t0 hr5) ?_
          show Ev XL xs _ 15 (ev_M r5.2 c w) 38 [(3, .ref u3), (0, .ref t0), (1, .int x1), (2, .int x2)] [.int r5.1, .int (r2.2.1 u3 3)] _
          refine ev_i 1 (M1 := ev_M r5.2 c w) (pc1 := 41) (lv1 := [(3, .ref u3), (0, .ref t0), (1, .int x1), (2, .int x2)]) (st1 := []) (M2 := ev_M r5.2 c w) (pc2 := 53) (lv2 := [(3, .ref u3), (0, .ref t0), (1, .int x1), (2, .int x2)]) (st2 := []) (fun n => rfl) h (fun hc6 h => ?_) (fun hc6 h => ?_)
          · refine ev_s 2 (M' := ev_M r5.2 c w) (pc' := 43) (lv' := [(3, .ref u3), (0, .ref t0), (1, .int x1), (2, .int x2)]) (st' := [.ref u3, .int x1]) (fun n => rfl) ?_
            refine ev_gf (x := .int (r5.2.1 u3 3)) rfl (congrArg Prod.fst hk_u3) rfl rfl ?_
            refine ev_i 5 (M1 := ev_M r5.2 c w) (pc1 := 53) (lv1 := [(3, .ref u3), (0, .ref t0), (1, .int x1), (2, .int x2)]) (st1 := []) (M2 := ev_M r5.2 c w) (pc2 := 55) (lv2 := [(3, .ref u3), (0, .ref t0), (1, .int x1), (2, .int x2)]) (st2 := []) (fun n => rfl) h (fun hc7 h => ?_) (fun hc7 h => ?_)
            · refine ev_sub (lv := []) (mn_of rfl (by repeat (first | exact trivial | refine And.intro rfl ?_))) ?_
              exact ok_fX1_isWhole_c53 h
            · refine ev_s 3 (M' := ev_M r5.2 c w) (pc' := 58) (lv' := [(3, .ref u3), (0, .ref t0), (1, .int x1), (2, .int x2)]) (st' := [.ref u3, .int 1, .int x1]) (fun n => rfl) ?_
              refine ev_gf (x := .int (r5.2.1 u3 3)) rfl (congrArg Prod.fst hk_u3) rfl rfl ?_
              refine ev_s 3 (M' := ev_M r5.2 c w) (pc' := 64) (lv' := [(1, .int (x1 ||| ((1 : Int32) <<< (r5.2.1 u3 3 &&& 31)))), (3, .ref u3), (0, .ref t0), (2, .int x2)]) (st' := []) (fun n => rfl) ?_
              refine ev_sub (lv := [(0, .ref t0), (1, .int (x1 ||| ((1 : Int32) <<< (r5.2.1 u3 3 &&& 31)))), (2, .int x2)]) (mn_of rfl (by repeat (first | exact trivial | refine And.intro rfl ?_))) ?_
              exact ok_fX1_isWhole_c64 ih hk_t0 h
          · refine ev_sub (lv := []) (mn_of rfl (by repeat (first | exact trivial | refine And.intro rfl ?_))) ?_
            exact ok_fX1_isWhole_c53 h
    · refine ev_s 1 (M' := ev_M m c w) (pc' := 71) (lv' := [(0, .ref t0), (1, .int x1), (2, .int x2)]) (st' := [.ref t0]) (fun n => rfl) ?_
      refine ev_gf (x := .int (m.1 t0 8)) rfl (congrArg Prod.fst hk_t0) rfl rfl ?_
      refine ev_s 1 (M' := ev_M m c w) (pc' := 75) (lv' := [(0, .ref t0), (1, .int x1), (2, .int x2)]) (st' := [.ref t0, .int (m.1 t0 8)]) (fun n => rfl) ?_
      refine ev_gf (x := .int (m.1 t0 4)) rfl (congrArg Prod.fst hk_t0) rfl rfl ?_
      refine ev_i 1 (M1 := ev_M m c w) (pc1 := 81) (lv1 := [(0, .ref t0), (1, .int x1), (2, .int x2)]) (st1 := []) (M2 := ev_M m c w) (pc2 := 85) (lv2 := [(0, .ref t0), (1, .int x1), (2, .int x2)]) (st2 := []) (fun n => rfl) h (fun hc9 h => ?_) (fun hc9 h => ?_)
      · refine ev_s 2 (M' := ev_M m c w) (pc' := 86) (lv' := [(0, .ref t0), (1, .int x1), (2, .int x2)]) (st' := [.int 1]) (fun n => rfl) ?_
        refine ev_sub (lv := []) (mn_of rfl (by repeat (first | exact trivial | refine And.intro rfl ?_))) ?_
        exact ok_fX1_isWhole_c86 h
      · refine ev_s 1 (M' := ev_M m c w) (pc' := 86) (lv' := [(0, .ref t0), (1, .int x1), (2, .int x2)]) (st' := [.int 0]) (fun n => rfl) ?_
        refine ev_sub (lv := []) (mn_of rfl (by repeat (first | exact trivial | refine And.intro rfl ?_))) ?_
        exact ok_fX1_isWhole_c86 h
def fX1_isWhole (m : mm_MM) (t0 : Nat) : Option (Int32 × mm_MM) :=
  fX1_isWhole_c4 fu m t0 0 0
theorem ok_fX1_isWhole {m : mm_MM} {t0 : Nat} {q0 : Int32 × mm_MM} (hk_t0 : mm_kd t0 = (1, 10)) (h : fX1_isWhole m t0 = some q0) : Ev XL xs (d + 1) 15 (ev_M m c w) 0 (lv_args 0 [.ref t0]) [] (fr_i c w q0) := by
  unfold fX1_isWhole at h
  refine ev_s 4 (M' := ev_M m c w) (pc' := 4) (lv' := [(2, .int 0), (1, .int 0), (0, .ref t0)]) (st' := []) (fun n => rfl) ?_
  refine ev_sub (lv := [(0, .ref t0), (1, .int 0), (2, .int 0)]) (mn_of rfl (by repeat (first | exact trivial | refine And.intro rfl ?_))) ?_
  exact ok_fX1_isWhole_c4 fu _ _ _ _ _ hk_t0 h
def fX8_size (m : mm_MM) : Option (Int32 × mm_MM) :=
  some (m.1 1 1, m)
theorem ok_fX8_size {m : mm_MM} {q0 : Int32 × mm_MM} (h : fX8_size m = some q0) : Ev XL xs d 79 (ev_M m c w) 0 (lv_args 0 [.ref 1]) [] (fr_i c w q0) := by
  unfold fX8_size at h
  cases h
  exact ev_r 3 (fun n => rfl)
def fX8_rewind (m : mm_MM) : Option (mm_MM) :=
  some (wI m 1 2 0)
theorem ok_fX8_rewind {m : mm_MM} {q0 : mm_MM} (h : fX8_rewind m = some q0) : Ev XL xs d 81 (ev_M m c w) 0 (lv_args 0 [.ref 1]) [] (fr_v c w q0) := by
  unfold fX8_rewind at h
  cases h
  exact ev_r 4 (fun n => rfl)
def fX1_read_c79 (m : mm_MM) (s0 : Int32) : Option (Int32 × mm_MM) :=
  some (s0, m)
set_option maxRecDepth 20000 in
theorem ok_fX1_read_c79 {m : mm_MM} {s0 : Int32} {q0 : Int32 × mm_MM} (h : fX1_read_c79 m s0 = some q0) : Ev XL xs (d + 5) 9 (ev_M m c w) 79 [] [.int s0] (fr_i c w q0) := by
  unfold fX1_read_c79 at h
  cases h
  exact ev_r 1 (fun n => rfl)
def fX1_read_c10 : Nat → mm_MM → Nat → Int32 → Option (Int32 × mm_MM)
  | 0 => fun _ _ _ => none
  | n + 1 => fun m t0 x2 =>
    (if x2 < 240 then
      (fX8_sign m).bind fun r2 =>
       (fX1_opens r2.2 t0 r2.1).bind fun r3 =>
        (if r3.1 = 0 then
          (fX8_head r3.2).bind fun r5 =>
           some (r5.1, r5.2)
         else
          (fX8_skip r3.2).bind fun r6 =>
           (fX1_readItems r6 t0 r2.1).bind fun r7 =>
            (if r7.1 = ((-1) : Int32) then
              (fX8_sign r7.2).bind fun r9 =>
               (if r9.1 = ((-1) : Int32) then
                 (fX1_isWhole r9.2 t0).bind fun r11 =>
                  (if r11.1 = 0 then
                    (fX8_size r11.2).bind fun r13 =>
                     fX1_read_c79 r13.2 r13.1
                   else
                    fX1_read_c79 r11.2 ((-1) : Int32))
                else
                 (fX8_skip r9.2).bind fun r14 =>
                  fX1_read_c10 n r14 t0 (x2 + 1))
             else
              some (r7.1, r7.2)))
     else
      (fX8_size m).bind fun r15 =>
       some (r15.1, r15.2))
set_option maxRecDepth 20000 in
theorem ok_fX1_read_c10 : ∀ (n : Nat) (m : mm_MM) (t0 : Nat) (x2 : Int32) (q0 : Int32 × mm_MM) (hk_t0 : mm_kd t0 = (1, 10)), fX1_read_c10 n m t0 x2 = some q0 → Ev XL xs (d + 5) 9 (ev_M m c w) 10 [(0, .ref t0), (1, .ref 1), (2, .int x2)] [] (fr_i c w q0) := by
  intro n
  induction n with
  | zero => intro m t0 x2 q0 hk_t0 h; exact absurd (show (none : Option (Int32 × mm_MM)) = some q0 from h) (by simp)
  | succ n ih =>
    intro m t0 x2 q0 hk_t0 h
    unfold fX1_read_c10 at h
    refine ev_i 3 (M1 := ev_M m c w) (pc1 := 17) (lv1 := [(0, .ref t0), (1, .ref 1), (2, .int x2)]) (st1 := []) (M2 := ev_M m c w) (pc2 := 90) (lv2 := [(0, .ref t0), (1, .ref 1), (2, .int x2)]) (st2 := []) (fun n => rfl) h (fun hc1 h => ?_) (fun hc1 h => ?_)
    · obtain ⟨r2, hr2, h⟩ := Option.bind_eq_some_iff.mp h
      refine ev_c 2 (y' := 83) (M1 := ev_M m c w) (la := lv_args 0 [.ref 1]) (rest := []) (pc' := 21) (lv' := [(0, .ref t0), (1, .ref 1), (2, .int x2)]) (fun n => rfl) (ok_fX8_sign hr2) ?_
      show Ev XL xs _ 9 (ev_M r2.2 c w) 21 [(0, .ref t0), (1, .ref 1), (2, .int x2)] [.int r2.1] _
      refine ev_s 3 (M' := ev_M r2.2 c w) (pc' := 24) (lv' := [(3, .int r2.1), (0, .ref t0), (1, .ref 1), (2, .int x2)]) (st' := [.int r2.1, .ref t0]) (fun n => rfl) ?_
      obtain ⟨r3, hr3, h⟩ := Option.bind_eq_some_iff.mp h
      refine ev_cv (rest := []) rfl rfl (congrArg Prod.fst hk_t0) rfl (ok_fX1_opens hk_t0 hr3) ?_
      show Ev XL xs _ 9 (ev_M r3.2 c w) 27 [(3, .int r2.1), (0, .ref t0), (1, .ref 1), (2, .int x2)] [.int r3.1] _
      refine ev_i 1 (M1 := ev_M r3.2 c w) (pc1 := 30) (lv1 := [(3, .int r2.1), (0, .ref t0), (1, .ref 1), (2, .int x2)]) (st1 := []) (M2 := ev_M r3.2 c w) (pc2 := 35) (lv2 := [(3, .int r2.1), (0, .ref t0), (1, .ref 1), (2, .int x2)]) (st2 := []) (fun n => rfl) h (fun hc4 h => ?_) (fun hc4 h => ?_)
      · obtain ⟨r5, hr5, h⟩ := Option.bind_eq_some_iff.mp h
        refine ev_c 2 (y' := 82) (M1 := ev_M r3.2 c w) (la := lv_args 0 [.ref 1]) (rest := []) (pc' := 34) (lv' := [(3, .int r2.1), (0, .ref t0), (1, .ref 1), (2, .int x2)]) (fun n => rfl) (ok_fX8_head hr5) ?_
        show Ev XL xs _ 9 (ev_M r5.2 c w) 34 [(3, .int r2.1), (0, .ref t0), (1, .ref 1), (2, .int x2)] [.int r5.1] _
        cases h
        exact ev_r 1 (fun n => rfl)
      · obtain ⟨r6, hr6, h⟩ := Option.bind_eq_some_iff.mp h
        refine ev_c 2 (y' := 85) (M1 := ev_M r3.2 c w) (la := lv_args 0 [.ref 1]) (rest := []) (pc' := 39) (lv' := [(3, .int r2.1), (0, .ref t0), (1, .ref 1), (2, .int x2)]) (fun n => rfl) (ok_fX8_skip hr6) ?_
        show Ev XL xs _ 9 (ev_M r6 c w) 39 [(3, .int r2.1), (0, .ref t0), (1, .ref 1), (2, .int x2)] [] _
        refine ev_s 3 (M' := ev_M r6 c w) (pc' := 42) (lv' := [(3, .int r2.1), (0, .ref t0), (1, .ref 1), (2, .int x2)]) (st' := [.int r2.1, .ref 1, .ref t0]) (fun n => rfl) ?_
        obtain ⟨r7, hr7, h⟩ := Option.bind_eq_some_iff.mp h
        refine ev_cv (rest := []) rfl rfl (congrArg Prod.fst hk_t0) rfl (ok_fX1_readItems hk_t0 hr7) ?_
        show Ev XL xs _ 9 (ev_M r7.2 c w) 45 [(3, .int r2.1), (0, .ref t0), (1, .ref 1), (2, .int x2)] [.int r7.1] _
        refine ev_i 4 (M1 := ev_M r7.2 c w) (pc1 := 56) (lv1 := [(4, .int r7.1), (3, .int r2.1), (0, .ref t0), (1, .ref 1), (2, .int x2)]) (st1 := []) (M2 := ev_M r7.2 c w) (pc2 := 53) (lv2 := [(4, .int r7.1), (3, .int r2.1), (0, .ref t0), (1, .ref 1), (2, .int x2)]) (st2 := []) (fun n => rfl) h (fun hc8 h => ?_) (fun hc8 h => ?_)
        · obtain ⟨r9, hr9, h⟩ := Option.bind_eq_some_iff.mp h
          refine ev_c 2 (y' := 83) (M1 := ev_M r7.2 c w) (la := lv_args 0 [.ref 1]) (rest := []) (pc' := 60) (lv' := [(4, .int r7.1), (3, .int r2.1), (0, .ref t0), (1, .ref 1), (2, .int x2)]) (fun n => rfl) (ok_fX8_sign hr9) ?_
          show Ev XL xs _ 9 (ev_M r9.2 c w) 60 [(4, .int r7.1), (3, .int r2.1), (0, .ref t0), (1, .ref 1), (2, .int x2)] [.int r9.1] _
          refine ev_i 2 (M1 := ev_M r9.2 c w) (pc1 := 64) (lv1 := [(4, .int r7.1), (3, .int r2.1), (0, .ref t0), (1, .ref 1), (2, .int x2)]) (st1 := []) (M2 := ev_M r9.2 c w) (pc2 := 80) (lv2 := [(4, .int r7.1), (3, .int r2.1), (0, .ref t0), (1, .ref 1), (2, .int x2)]) (st2 := []) (fun n => rfl) h (fun hc10 h => ?_) (fun hc10 h => ?_)
          · refine ev_s 1 (M' := ev_M r9.2 c w) (pc' := 65) (lv' := [(4, .int r7.1), (3, .int r2.1), (0, .ref t0), (1, .ref 1), (2, .int x2)]) (st' := [.ref t0]) (fun n => rfl) ?_
            obtain ⟨r11, hr11, h⟩ := Option.bind_eq_some_iff.mp h
            refine ev_cv (rest := []) rfl rfl (congrArg Prod.fst hk_t0) rfl (ok_fX1_isWhole hk_t0 hr11) ?_
            show Ev XL xs _ 9 (ev_M r11.2 c w) 68 [(4, .int r7.1), (3, .int r2.1), (0, .ref t0), (1, .ref 1), (2, .int x2)] [.int r11.1] _
            refine ev_i 1 (M1 := ev_M r11.2 c w) (pc1 := 75) (lv1 := [(4, .int r7.1), (3, .int r2.1), (0, .ref t0), (1, .ref 1), (2, .int x2)]) (st1 := []) (M2 := ev_M r11.2 c w) (pc2 := 71) (lv2 := [(4, .int r7.1), (3, .int r2.1), (0, .ref t0), (1, .ref 1), (2, .int x2)]) (st2 := []) (fun n => rfl) h (fun hc12 h => ?_) (fun hc12 h => ?_)
            · obtain ⟨r13, hr13, h⟩ := Option.bind_eq_some_iff.mp h
              refine ev_c 2 (y' := 79) (M1 := ev_M r11.2 c w) (la := lv_args 0 [.ref 1]) (rest := []) (pc' := 79) (lv' := [(4, .int r7.1), (3, .int r2.1), (0, .ref t0), (1, .ref 1), (2, .int x2)]) (fun n => rfl) (ok_fX8_size hr13) ?_
              show Ev XL xs _ 9 (ev_M r13.2 c w) 79 [(4, .int r7.1), (3, .int r2.1), (0, .ref t0), (1, .ref 1), (2, .int x2)] [.int r13.1] _
              refine ev_sub (lv := []) (mn_of rfl (by repeat (first | exact trivial | refine And.intro rfl ?_))) ?_
              exact ok_fX1_read_c79 h
            · refine ev_s 2 (M' := ev_M r11.2 c w) (pc' := 79) (lv' := [(4, .int r7.1), (3, .int r2.1), (0, .ref t0), (1, .ref 1), (2, .int x2)]) (st' := [.int ((-1) : Int32)]) (fun n => rfl) ?_
              refine ev_sub (lv := []) (mn_of rfl (by repeat (first | exact trivial | refine And.intro rfl ?_))) ?_
              exact ok_fX1_read_c79 h
          · obtain ⟨r14, hr14, h⟩ := Option.bind_eq_some_iff.mp h
            refine ev_c 2 (y' := 85) (M1 := ev_M r9.2 c w) (la := lv_args 0 [.ref 1]) (rest := []) (pc' := 84) (lv' := [(4, .int r7.1), (3, .int r2.1), (0, .ref t0), (1, .ref 1), (2, .int x2)]) (fun n => rfl) (ok_fX8_skip hr14) ?_
            show Ev XL xs _ 9 (ev_M r14 c w) 84 [(4, .int r7.1), (3, .int r2.1), (0, .ref t0), (1, .ref 1), (2, .int x2)] [] _
            refine ev_s 2 (M' := ev_M r14 c w) (pc' := 10) (lv' := [(2, .int (x2 + 1)), (4, .int r7.1), (3, .int r2.1), (0, .ref t0), (1, .ref 1)]) (st' := []) (fun n => rfl) ?_
            refine ev_sub (lv := [(0, .ref t0), (1, .ref 1), (2, .int (x2 + 1))]) (mn_of rfl (by repeat (first | exact trivial | refine And.intro rfl ?_))) ?_
            exact ih _ _ _ _ hk_t0 h
        · cases h
          exact ev_r 2 (fun n => rfl)
    · obtain ⟨r15, hr15, h⟩ := Option.bind_eq_some_iff.mp h
      refine ev_c 2 (y' := 79) (M1 := ev_M m c w) (la := lv_args 0 [.ref 1]) (rest := []) (pc' := 94) (lv' := [(0, .ref t0), (1, .ref 1), (2, .int x2)]) (fun n => rfl) (ok_fX8_size hr15) ?_
      show Ev XL xs _ 9 (ev_M r15.2 c w) 94 [(0, .ref t0), (1, .ref 1), (2, .int x2)] [.int r15.1] _
      cases h
      exact ev_r 1 (fun n => rfl)
def fX1_read (m : mm_MM) (t0 : Nat) : Option (Int32 × mm_MM) :=
  (fX1_clear m t0).bind fun r1 =>
   (fX8_rewind r1).bind fun r2 =>
    fX1_read_c10 fu r2 t0 0
set_option maxRecDepth 20000 in
theorem ok_fX1_read {m : mm_MM} {t0 : Nat} {q0 : Int32 × mm_MM} (hk_t0 : mm_kd t0 = (1, 10)) (h : fX1_read m t0 = some q0) : Ev XL xs (d + 5) 9 (ev_M m c w) 0 (lv_args 0 [.ref t0, .ref 1]) [] (fr_i c w q0) := by
  unfold fX1_read at h
  refine ev_s 1 (M' := ev_M m c w) (pc' := 1) (lv' := [(0, .ref t0), (1, .ref 1)]) (st' := [.ref t0]) (fun n => rfl) ?_
  obtain ⟨r1, hr1, h⟩ := Option.bind_eq_some_iff.mp h
  refine ev_cv (rest := []) rfl rfl (congrArg Prod.fst hk_t0) rfl (ok_fX1_clear hk_t0 hr1) ?_
  show Ev XL xs _ 9 (ev_M r1 c w) 4 [(0, .ref t0), (1, .ref 1)] [] _
  obtain ⟨r2, hr2, h⟩ := Option.bind_eq_some_iff.mp h
  refine ev_c 2 (y' := 81) (M1 := ev_M r1 c w) (la := lv_args 0 [.ref 1]) (rest := []) (pc' := 8) (lv' := [(0, .ref t0), (1, .ref 1)]) (fun n => rfl) (ok_fX8_rewind hr2) ?_
  show Ev XL xs _ 9 (ev_M r2 c w) 8 [(0, .ref t0), (1, .ref 1)] [] _
  refine ev_s 2 (M' := ev_M r2 c w) (pc' := 10) (lv' := [(2, .int 0), (0, .ref t0), (1, .ref 1)]) (st' := []) (fun n => rfl) ?_
  refine ev_sub (lv := [(0, .ref t0), (1, .ref 1), (2, .int 0)]) (mn_of rfl (by repeat (first | exact trivial | refine And.intro rfl ?_))) ?_
  exact ok_fX1_read_c10 fu _ _ _ _ hk_t0 h
def fX2_copy (m : mm_MM) (t0 : Nat) (t1 : Nat) : Option (mm_MM) :=
  (fX10_copyRow m (t1 + 1) (t0 + 1)).bind fun r1 =>
   some (wI r1 t0 2 (r1.1 t1 2))
theorem ok_fX2_copy {m : mm_MM} {t0 : Nat} {t1 : Nat} {q0 : mm_MM} (hk_t0 : mm_kd t0 = (2, 4)) (hk_t1 : mm_kd t1 = (2, 4)) (h : fX2_copy m t0 t1 = some q0) : Ev XL xs (d + 1) 17 (ev_M m c w) 0 (lv_args 0 [.ref t0, .ref t1]) [] (fr_v c w q0) := by
  unfold fX2_copy at h
  refine ev_s 1 (M' := ev_M m c w) (pc' := 1) (lv' := [(0, .ref t0), (1, .ref t1)]) (st' := [.ref t1]) (fun n => rfl) ?_
  refine ev_gf (x := .ref (t1 + 1)) rfl (congrArg Prod.fst hk_t1) rfl (congrArg va_rf (tr_Wx0 hk_t1)) ?_
  refine ev_s 1 (M' := ev_M m c w) (pc' := 5) (lv' := [(0, .ref t0), (1, .ref t1)]) (st' := [.ref t0, .ref (t1 + 1)]) (fun n => rfl) ?_
  refine ev_gf (x := .ref (t0 + 1)) rfl (congrArg Prod.fst hk_t0) rfl (congrArg va_rf (tr_Wx0 hk_t0)) ?_
  obtain ⟨r1, hr1, h⟩ := Option.bind_eq_some_iff.mp h
  refine ev_c 1 (y' := 177) (M1 := ev_M m c w) (la := lv_args 0 [.ref (t1 + 1), .ref (t0 + 1)]) (rest := []) (pc' := 11) (lv' := [(0, .ref t0), (1, .ref t1)]) (fun n => rfl) (ok_fX10_copyRow (congrArg Prod.fst (kd_W1 hk_t1)) (congrArg Prod.fst (kd_W1 hk_t0)) hr1) ?_
  show Ev XL xs _ 17 (ev_M r1 c w) 11 [(0, .ref t0), (1, .ref t1)] [] _
  refine ev_s 2 (M' := ev_M r1 c w) (pc' := 13) (lv' := [(0, .ref t0), (1, .ref t1)]) (st' := [.ref t1, .ref t0]) (fun n => rfl) ?_
  refine ev_gf (x := .int (r1.1 t1 2)) rfl (congrArg Prod.fst hk_t1) rfl rfl ?_
  refine ev_pfi rfl (congrArg Prod.fst hk_t0) rfl rfl rfl ?_
  cases h
  exact ev_r 1 (fun n => rfl)
def fX2_emit_c32 (m : mm_MM) : Option (mm_MM) :=
  some m
theorem ok_fX2_emit_c32 {m : mm_MM} {q0 : mm_MM} (h : fX2_emit_c32 m = some q0) : Ev XL xs (d + 1) 19 (ev_M m c w) 32 [] [] (fr_v c w q0) := by
  unfold fX2_emit_c32 at h
  cases h
  exact ev_r 1 (fun n => rfl)
def fX2_emit (m : mm_MM) (t0 : Nat) (x1 : Int32) : Option (mm_MM) :=
  (if m.1 t0 2 < 240 then
    (fX10_place m (t0 + 1) (m.1 t0 2) x1).bind fun r2 =>
     fX2_emit_c32 (wI r2 t0 2 (r2.1 t0 2 + 1))
   else
    fX2_emit_c32 m)
theorem ok_fX2_emit {m : mm_MM} {t0 : Nat} {x1 : Int32} {q0 : mm_MM} (hk_t0 : mm_kd t0 = (2, 4)) (h : fX2_emit m t0 x1 = some q0) : Ev XL xs (d + 1) 19 (ev_M m c w) 0 (lv_args 0 [.ref t0, .int x1]) [] (fr_v c w q0) := by
  unfold fX2_emit at h
  refine ev_s 1 (M' := ev_M m c w) (pc' := 1) (lv' := [(0, .ref t0), (1, .int x1)]) (st' := [.ref t0]) (fun n => rfl) ?_
  refine ev_gf (x := .int (m.1 t0 2)) rfl (congrArg Prod.fst hk_t0) rfl rfl ?_
  refine ev_i 2 (M1 := ev_M m c w) (pc1 := 10) (lv1 := [(0, .ref t0), (1, .int x1)]) (st1 := []) (M2 := ev_M m c w) (pc2 := 32) (lv2 := [(0, .ref t0), (1, .int x1)]) (st2 := []) (fun n => rfl) h (fun hc1 h => ?_) (fun hc1 h => ?_)
  · refine ev_s 1 (M' := ev_M m c w) (pc' := 11) (lv' := [(0, .ref t0), (1, .int x1)]) (st' := [.ref t0]) (fun n => rfl) ?_
    refine ev_gf (x := .ref (t0 + 1)) rfl (congrArg Prod.fst hk_t0) rfl (congrArg va_rf (tr_Wx0 hk_t0)) ?_
    refine ev_s 1 (M' := ev_M m c w) (pc' := 15) (lv' := [(0, .ref t0), (1, .int x1)]) (st' := [.ref t0, .ref (t0 + 1)]) (fun n => rfl) ?_
    refine ev_gf (x := .int (m.1 t0 2)) rfl (congrArg Prod.fst hk_t0) rfl rfl ?_
    obtain ⟨r2, hr2, h⟩ := Option.bind_eq_some_iff.mp h
    refine ev_c 2 (y' := 176) (M1 := ev_M m c w) (la := lv_args 0 [.ref (t0 + 1), .int (m.1 t0 2), .int x1]) (rest := []) (pc' := 22) (lv' := [(0, .ref t0), (1, .int x1)]) (fun n => rfl) (ok_fX10_place (congrArg Prod.fst (kd_W1 hk_t0)) hr2) ?_
    show Ev XL xs _ 19 (ev_M r2 c w) 22 [(0, .ref t0), (1, .int x1)] [] _
    refine ev_s 2 (M' := ev_M r2 c w) (pc' := 24) (lv' := [(0, .ref t0), (1, .int x1)]) (st' := [.ref t0, .ref t0]) (fun n => rfl) ?_
    refine ev_gf (x := .int (r2.1 t0 2)) rfl (congrArg Prod.fst hk_t0) rfl rfl ?_
    refine ev_s 2 (M' := ev_M r2 c w) (pc' := 29) (lv' := [(0, .ref t0), (1, .int x1)]) (st' := [.int (r2.1 t0 2 + 1), .ref t0]) (fun n => rfl) ?_
    refine ev_pfi rfl (congrArg Prod.fst hk_t0) rfl rfl rfl ?_
    refine ev_sub (lv := []) (mn_of rfl (by repeat (first | exact trivial | refine And.intro rfl ?_))) ?_
    exact ok_fX2_emit_c32 h
  · refine ev_sub (lv := []) (mn_of rfl (by repeat (first | exact trivial | refine And.intro rfl ?_))) ?_
    exact ok_fX2_emit_c32 h
def fX2_isLetter (m : mm_MM) (x0 : Int32) : Option (Int32 × mm_MM) :=
  (if x0 = 100 then
    some (1, m)
   else (if x0 = 101 then
    some (0, m)
   else (if x0 = 102 then
    some (0, m)
   else (if x0 = 103 then
    some (0, m)
   else (if x0 = 104 then
    some (0, m)
   else (if x0 = 105 then
    some (0, m)
   else (if x0 = 106 then
    some (0, m)
   else (if x0 = 107 then
    some (0, m)
   else (if x0 = 108 then
    some (0, m)
   else (if x0 = 109 then
    some (1, m)
   else (if x0 = 110 then
    some (1, m)
   else (if x0 = 111 then
    some (0, m)
   else (if x0 = 112 then
    some (0, m)
   else (if x0 = 113 then
    some (0, m)
   else (if x0 = 114 then
    some (0, m)
   else (if x0 = 115 then
    some (1, m)
   else (if x0 = 116 then
    some (1, m)
   else (if x0 = 117 then
    some (0, m)
   else (if x0 = 118 then
    some (1, m)
   else some (0, m))))))))))))))))))))
set_option maxRecDepth 20000 in
theorem ok_fX2_isLetter {m : mm_MM} {x0 : Int32} {q0 : Int32 × mm_MM} (h : fX2_isLetter m x0 = some q0) : Ev XL xs d 31 (ev_M m c w) 0 (lv_args 0 [.int x0]) [] (fr_i c w q0) := by
  unfold fX2_isLetter at h
  refine ev_s 1 (M' := ev_M m c w) (pc' := 1) (lv' := [(0, .int x0)]) (st' := [.int x0]) (fun n => rfl) ?_
  refine ev_e 100 h (fun hv1 h => ?_) (fun hv1 h => ?_)
  · refine ev_s 1 (M' := ev_M m c w) (pc' := 92) (lv' := [(0, .int x0)]) (st' := []) (fun n => by rw [hv1]; rfl) ?_
    cases h
    exact ev_r 2 (fun n => rfl)
  refine ev_e 101 h (fun hv2 h => ?_) (fun hv2 h => ?_)
  · refine ev_s 1 (M' := ev_M m c w) (pc' := 94) (lv' := [(0, .int x0)]) (st' := []) (fun n => by rw [hv2]; rfl) ?_
    cases h
    exact ev_r 2 (fun n => rfl)
  refine ev_e 102 h (fun hv3 h => ?_) (fun hv3 h => ?_)
  · refine ev_s 1 (M' := ev_M m c w) (pc' := 94) (lv' := [(0, .int x0)]) (st' := []) (fun n => by rw [hv3]; rfl) ?_
    cases h
    exact ev_r 2 (fun n => rfl)
  refine ev_e 103 h (fun hv4 h => ?_) (fun hv4 h => ?_)
  · refine ev_s 1 (M' := ev_M m c w) (pc' := 94) (lv' := [(0, .int x0)]) (st' := []) (fun n => by rw [hv4]; rfl) ?_
    cases h
    exact ev_r 2 (fun n => rfl)
  refine ev_e 104 h (fun hv5 h => ?_) (fun hv5 h => ?_)
  · refine ev_s 1 (M' := ev_M m c w) (pc' := 94) (lv' := [(0, .int x0)]) (st' := []) (fun n => by rw [hv5]; rfl) ?_
    cases h
    exact ev_r 2 (fun n => rfl)
  refine ev_e 105 h (fun hv6 h => ?_) (fun hv6 h => ?_)
  · refine ev_s 1 (M' := ev_M m c w) (pc' := 94) (lv' := [(0, .int x0)]) (st' := []) (fun n => by rw [hv6]; rfl) ?_
    cases h
    exact ev_r 2 (fun n => rfl)
  refine ev_e 106 h (fun hv7 h => ?_) (fun hv7 h => ?_)
  · refine ev_s 1 (M' := ev_M m c w) (pc' := 94) (lv' := [(0, .int x0)]) (st' := []) (fun n => by rw [hv7]; rfl) ?_
    cases h
    exact ev_r 2 (fun n => rfl)
  refine ev_e 107 h (fun hv8 h => ?_) (fun hv8 h => ?_)
  · refine ev_s 1 (M' := ev_M m c w) (pc' := 94) (lv' := [(0, .int x0)]) (st' := []) (fun n => by rw [hv8]; rfl) ?_
    cases h
    exact ev_r 2 (fun n => rfl)
  refine ev_e 108 h (fun hv9 h => ?_) (fun hv9 h => ?_)
  · refine ev_s 1 (M' := ev_M m c w) (pc' := 94) (lv' := [(0, .int x0)]) (st' := []) (fun n => by rw [hv9]; rfl) ?_
    cases h
    exact ev_r 2 (fun n => rfl)
  refine ev_e 109 h (fun hv10 h => ?_) (fun hv10 h => ?_)
  · refine ev_s 1 (M' := ev_M m c w) (pc' := 92) (lv' := [(0, .int x0)]) (st' := []) (fun n => by rw [hv10]; rfl) ?_
    cases h
    exact ev_r 2 (fun n => rfl)
  refine ev_e 110 h (fun hv11 h => ?_) (fun hv11 h => ?_)
  · refine ev_s 1 (M' := ev_M m c w) (pc' := 92) (lv' := [(0, .int x0)]) (st' := []) (fun n => by rw [hv11]; rfl) ?_
    cases h
    exact ev_r 2 (fun n => rfl)
  refine ev_e 111 h (fun hv12 h => ?_) (fun hv12 h => ?_)
  · refine ev_s 1 (M' := ev_M m c w) (pc' := 94) (lv' := [(0, .int x0)]) (st' := []) (fun n => by rw [hv12]; rfl) ?_
    cases h
    exact ev_r 2 (fun n => rfl)
  refine ev_e 112 h (fun hv13 h => ?_) (fun hv13 h => ?_)
  · refine ev_s 1 (M' := ev_M m c w) (pc' := 94) (lv' := [(0, .int x0)]) (st' := []) (fun n => by rw [hv13]; rfl) ?_
    cases h
    exact ev_r 2 (fun n => rfl)
  refine ev_e 113 h (fun hv14 h => ?_) (fun hv14 h => ?_)
  · refine ev_s 1 (M' := ev_M m c w) (pc' := 94) (lv' := [(0, .int x0)]) (st' := []) (fun n => by rw [hv14]; rfl) ?_
    cases h
    exact ev_r 2 (fun n => rfl)
  refine ev_e 114 h (fun hv15 h => ?_) (fun hv15 h => ?_)
  · refine ev_s 1 (M' := ev_M m c w) (pc' := 94) (lv' := [(0, .int x0)]) (st' := []) (fun n => by rw [hv15]; rfl) ?_
    cases h
    exact ev_r 2 (fun n => rfl)
  refine ev_e 115 h (fun hv16 h => ?_) (fun hv16 h => ?_)
  · refine ev_s 1 (M' := ev_M m c w) (pc' := 92) (lv' := [(0, .int x0)]) (st' := []) (fun n => by rw [hv16]; rfl) ?_
    cases h
    exact ev_r 2 (fun n => rfl)
  refine ev_e 116 h (fun hv17 h => ?_) (fun hv17 h => ?_)
  · refine ev_s 1 (M' := ev_M m c w) (pc' := 92) (lv' := [(0, .int x0)]) (st' := []) (fun n => by rw [hv17]; rfl) ?_
    cases h
    exact ev_r 2 (fun n => rfl)
  refine ev_e 117 h (fun hv18 h => ?_) (fun hv18 h => ?_)
  · refine ev_s 1 (M' := ev_M m c w) (pc' := 94) (lv' := [(0, .int x0)]) (st' := []) (fun n => by rw [hv18]; rfl) ?_
    cases h
    exact ev_r 2 (fun n => rfl)
  refine ev_e 118 h (fun hv19 h => ?_) (fun hv19 h => ?_)
  · refine ev_s 1 (M' := ev_M m c w) (pc' := 92) (lv' := [(0, .int x0)]) (st' := []) (fun n => by rw [hv19]; rfl) ?_
    cases h
    exact ev_r 2 (fun n => rfl)
  have ghv1 : (x0 : Int32).toInt ≠ 100 := fun z => hv1 (Int32.toInt_inj.mp (z.trans rfl))
  have ghv2 : (x0 : Int32).toInt ≠ 101 := fun z => hv2 (Int32.toInt_inj.mp (z.trans rfl))
  have ghv3 : (x0 : Int32).toInt ≠ 102 := fun z => hv3 (Int32.toInt_inj.mp (z.trans rfl))
  have ghv4 : (x0 : Int32).toInt ≠ 103 := fun z => hv4 (Int32.toInt_inj.mp (z.trans rfl))
  have ghv5 : (x0 : Int32).toInt ≠ 104 := fun z => hv5 (Int32.toInt_inj.mp (z.trans rfl))
  have ghv6 : (x0 : Int32).toInt ≠ 105 := fun z => hv6 (Int32.toInt_inj.mp (z.trans rfl))
  have ghv7 : (x0 : Int32).toInt ≠ 106 := fun z => hv7 (Int32.toInt_inj.mp (z.trans rfl))
  have ghv8 : (x0 : Int32).toInt ≠ 107 := fun z => hv8 (Int32.toInt_inj.mp (z.trans rfl))
  have ghv9 : (x0 : Int32).toInt ≠ 108 := fun z => hv9 (Int32.toInt_inj.mp (z.trans rfl))
  have ghv10 : (x0 : Int32).toInt ≠ 109 := fun z => hv10 (Int32.toInt_inj.mp (z.trans rfl))
  have ghv11 : (x0 : Int32).toInt ≠ 110 := fun z => hv11 (Int32.toInt_inj.mp (z.trans rfl))
  have ghv12 : (x0 : Int32).toInt ≠ 111 := fun z => hv12 (Int32.toInt_inj.mp (z.trans rfl))
  have ghv13 : (x0 : Int32).toInt ≠ 112 := fun z => hv13 (Int32.toInt_inj.mp (z.trans rfl))
  have ghv14 : (x0 : Int32).toInt ≠ 113 := fun z => hv14 (Int32.toInt_inj.mp (z.trans rfl))
  have ghv15 : (x0 : Int32).toInt ≠ 114 := fun z => hv15 (Int32.toInt_inj.mp (z.trans rfl))
  have ghv16 : (x0 : Int32).toInt ≠ 115 := fun z => hv16 (Int32.toInt_inj.mp (z.trans rfl))
  have ghv17 : (x0 : Int32).toInt ≠ 116 := fun z => hv17 (Int32.toInt_inj.mp (z.trans rfl))
  have ghv18 : (x0 : Int32).toInt ≠ 117 := fun z => hv18 (Int32.toInt_inj.mp (z.trans rfl))
  have ghv19 : (x0 : Int32).toInt ≠ 118 := fun z => hv19 (Int32.toInt_inj.mp (z.trans rfl))
  refine ev_td (M' := ev_M m c w) (pc' := 94) (lv' := [(0, .int x0)]) (st' := []) rfl (by omega) rfl ?_
  cases h
  exact ev_r 2 (fun n => rfl)
def fX8_took (m : mm_MM) (x1 : Int32) : Option (Int32 × mm_MM) :=
  (fX8_sign m).bind fun r1 =>
   (if r1.1 = x1 then
     some (1, (wI r1.2 1 2 (r1.2.1 1 2 + 1)))
    else
     some (0, r1.2))
theorem ok_fX8_took {m : mm_MM} {x1 : Int32} {q0 : Int32 × mm_MM} (h : fX8_took m x1 = some q0) : Ev XL xs (d + 3) 86 (ev_M m c w) 0 (lv_args 0 [.ref 1, .int x1]) [] (fr_i c w q0) := by
  unfold fX8_took at h
  obtain ⟨r1, hr1, h⟩ := Option.bind_eq_some_iff.mp h
  refine ev_c 2 (y' := 83) (M1 := ev_M m c w) (la := lv_args 0 [.ref 1]) (rest := []) (pc' := 4) (lv' := [(0, .ref 1), (1, .int x1)]) (fun n => rfl) (ok_fX8_sign hr1) ?_
  show Ev XL xs _ 86 (ev_M r1.2 c w) 4 [(0, .ref 1), (1, .int x1)] [.int r1.1] _
  refine ev_i 2 (M1 := ev_M r1.2 c w) (pc1 := 10) (lv1 := [(0, .ref 1), (1, .int x1)]) (st1 := []) (M2 := ev_M r1.2 c w) (pc2 := 8) (lv2 := [(0, .ref 1), (1, .int x1)]) (st2 := []) (fun n => rfl) h (fun hc2 h => ?_) (fun hc2 h => ?_)
  · cases h
    exact ev_r 8 (fun n => rfl)
  · cases h
    exact ev_r 2 (fun n => rfl)
def fX2_compares_c23 (m : mm_MM) (s0 : Int32) : Option (Int32 × mm_MM) :=
  (if s0 = 0 ∨ s0 = 1 then some (s0, m) else none)
theorem ok_fX2_compares_c23 {m : mm_MM} {s0 : Int32} {q0 : Int32 × mm_MM} (h : fX2_compares_c23 m s0 = some q0) : Ev XL xs d 30 (ev_M m c w) 23 [] [.int s0] (fr_i c w q0) := by
  unfold fX2_compares_c23 at h
  exact ev_rg 1 (f := fr_i c w) (fun n => rfl) h
def fX2_compares_c18 (m : mm_MM) : Option (Int32 × mm_MM) :=
  fX2_compares_c23 m 1
theorem ok_fX2_compares_c18 {m : mm_MM} {q0 : Int32 × mm_MM} (h : fX2_compares_c18 m = some q0) : Ev XL xs d 30 (ev_M m c w) 18 [] [] (fr_i c w q0) := by
  unfold fX2_compares_c18 at h
  refine ev_s 2 (M' := ev_M m c w) (pc' := 23) (lv' := []) (st' := [.int 1]) (fun n => rfl) ?_
  exact ok_fX2_compares_c23 h
def fX2_compares (m : mm_MM) (x0 : Int32) : Option (Int32 × mm_MM) :=
  (if x0 = 61 then
    fX2_compares_c18 m
   else
    (if x0 = 60 then
      fX2_compares_c18 m
     else
      (if x0 = 62 then
        fX2_compares_c18 m
       else
        fX2_compares_c23 m 0)))
theorem ok_fX2_compares {m : mm_MM} {x0 : Int32} {q0 : Int32 × mm_MM} (h : fX2_compares m x0 = some q0) : Ev XL xs d 30 (ev_M m c w) 0 (lv_args 0 [.int x0]) [] (fr_i c w q0) := by
  unfold fX2_compares at h
  refine ev_i 3 (M1 := ev_M m c w) (pc1 := 18) (lv1 := [(0, .int x0)]) (st1 := []) (M2 := ev_M m c w) (pc2 := 6) (lv2 := [(0, .int x0)]) (st2 := []) (fun n => rfl) h (fun hc1 h => ?_) (fun hc1 h => ?_)
  · refine ev_sub (lv := []) (mn_of rfl (by repeat (first | exact trivial | refine And.intro rfl ?_))) ?_
    exact ok_fX2_compares_c18 h
  · refine ev_i 3 (M1 := ev_M m c w) (pc1 := 18) (lv1 := [(0, .int x0)]) (st1 := []) (M2 := ev_M m c w) (pc2 := 12) (lv2 := [(0, .int x0)]) (st2 := []) (fun n => rfl) h (fun hc2 h => ?_) (fun hc2 h => ?_)
    · refine ev_sub (lv := []) (mn_of rfl (by repeat (first | exact trivial | refine And.intro rfl ?_))) ?_
      exact ok_fX2_compares_c18 h
    · refine ev_i 3 (M1 := ev_M m c w) (pc1 := 18) (lv1 := [(0, .int x0)]) (st1 := []) (M2 := ev_M m c w) (pc2 := 22) (lv2 := [(0, .int x0)]) (st2 := []) (fun n => rfl) h (fun hc3 h => ?_) (fun hc3 h => ?_)
      · refine ev_sub (lv := []) (mn_of rfl (by repeat (first | exact trivial | refine And.intro rfl ?_))) ?_
        exact ok_fX2_compares_c18 h
      · refine ev_s 1 (M' := ev_M m c w) (pc' := 23) (lv' := [(0, .int x0)]) (st' := [.int 0]) (fun n => rfl) ?_
        refine ev_sub (lv := []) (mn_of rfl (by repeat (first | exact trivial | refine And.intro rfl ?_))) ?_
        exact ok_fX2_compares_c23 h
def fX2_nests_c17 (m : mm_MM) (s0 : Int32) : Option (Int32 × mm_MM) :=
  (if s0 = 0 ∨ s0 = 1 then some (s0, m) else none)
theorem ok_fX2_nests_c17 {m : mm_MM} {s0 : Int32} {q0 : Int32 × mm_MM} (h : fX2_nests_c17 m s0 = some q0) : Ev XL xs d 29 (ev_M m c w) 17 [] [.int s0] (fr_i c w q0) := by
  unfold fX2_nests_c17 at h
  exact ev_rg 1 (f := fr_i c w) (fun n => rfl) h
def fX2_nests_c12 (m : mm_MM) : Option (Int32 × mm_MM) :=
  fX2_nests_c17 m 1
theorem ok_fX2_nests_c12 {m : mm_MM} {q0 : Int32 × mm_MM} (h : fX2_nests_c12 m = some q0) : Ev XL xs d 29 (ev_M m c w) 12 [] [] (fr_i c w q0) := by
  unfold fX2_nests_c12 at h
  refine ev_s 2 (M' := ev_M m c w) (pc' := 17) (lv' := []) (st' := [.int 1]) (fun n => rfl) ?_
  exact ok_fX2_nests_c17 h
def fX2_nests (m : mm_MM) (x0 : Int32) : Option (Int32 × mm_MM) :=
  (if x0 = 33 then
    fX2_nests_c12 m
   else
    (if x0 = 40 then
      fX2_nests_c12 m
     else
      fX2_nests_c17 m 0))
theorem ok_fX2_nests {m : mm_MM} {x0 : Int32} {q0 : Int32 × mm_MM} (h : fX2_nests m x0 = some q0) : Ev XL xs d 29 (ev_M m c w) 0 (lv_args 0 [.int x0]) [] (fr_i c w q0) := by
  unfold fX2_nests at h
  refine ev_i 3 (M1 := ev_M m c w) (pc1 := 12) (lv1 := [(0, .int x0)]) (st1 := []) (M2 := ev_M m c w) (pc2 := 6) (lv2 := [(0, .int x0)]) (st2 := []) (fun n => rfl) h (fun hc1 h => ?_) (fun hc1 h => ?_)
  · refine ev_sub (lv := []) (mn_of rfl (by repeat (first | exact trivial | refine And.intro rfl ?_))) ?_
    exact ok_fX2_nests_c12 h
  · refine ev_i 3 (M1 := ev_M m c w) (pc1 := 12) (lv1 := [(0, .int x0)]) (st1 := []) (M2 := ev_M m c w) (pc2 := 16) (lv2 := [(0, .int x0)]) (st2 := []) (fun n => rfl) h (fun hc2 h => ?_) (fun hc2 h => ?_)
    · refine ev_sub (lv := []) (mn_of rfl (by repeat (first | exact trivial | refine And.intro rfl ?_))) ?_
      exact ok_fX2_nests_c12 h
    · refine ev_s 1 (M' := ev_M m c w) (pc' := 17) (lv' := [(0, .int x0)]) (st' := [.int 0]) (fun n => rfl) ?_
      refine ev_sub (lv := []) (mn_of rfl (by repeat (first | exact trivial | refine And.intro rfl ?_))) ?_
      exact ok_fX2_nests_c17 h
def fX2_push (m : mm_MM) (t0 : Nat) (x1 : Int32) : Option (mm_MM) :=
  (fX10_place m (t0 + 2) (m.1 t0 3) x1).bind fun r1 =>
   some (wI r1 t0 3 (r1.1 t0 3 + 1))
theorem ok_fX2_push {m : mm_MM} {t0 : Nat} {x1 : Int32} {q0 : mm_MM} (hk_t0 : mm_kd t0 = (2, 4)) (h : fX2_push m t0 x1 = some q0) : Ev XL xs (d + 1) 33 (ev_M m c w) 0 (lv_args 0 [.ref t0, .int x1]) [] (fr_v c w q0) := by
  unfold fX2_push at h
  refine ev_s 1 (M' := ev_M m c w) (pc' := 1) (lv' := [(0, .ref t0), (1, .int x1)]) (st' := [.ref t0]) (fun n => rfl) ?_
  refine ev_gf (x := .ref (t0 + 2)) rfl (congrArg Prod.fst hk_t0) rfl (congrArg va_rf (tr_Wx1 hk_t0)) ?_
  refine ev_s 1 (M' := ev_M m c w) (pc' := 5) (lv' := [(0, .ref t0), (1, .int x1)]) (st' := [.ref t0, .ref (t0 + 2)]) (fun n => rfl) ?_
  refine ev_gf (x := .int (m.1 t0 3)) rfl (congrArg Prod.fst hk_t0) rfl rfl ?_
  obtain ⟨r1, hr1, h⟩ := Option.bind_eq_some_iff.mp h
  refine ev_c 2 (y' := 176) (M1 := ev_M m c w) (la := lv_args 0 [.ref (t0 + 2), .int (m.1 t0 3), .int x1]) (rest := []) (pc' := 12) (lv' := [(0, .ref t0), (1, .int x1)]) (fun n => rfl) (ok_fX10_place (congrArg Prod.fst (kd_W2 hk_t0)) hr1) ?_
  show Ev XL xs _ 33 (ev_M r1 c w) 12 [(0, .ref t0), (1, .int x1)] [] _
  refine ev_s 2 (M' := ev_M r1 c w) (pc' := 14) (lv' := [(0, .ref t0), (1, .int x1)]) (st' := [.ref t0, .ref t0]) (fun n => rfl) ?_
  refine ev_gf (x := .int (r1.1 t0 3)) rfl (congrArg Prod.fst hk_t0) rfl rfl ?_
  refine ev_s 2 (M' := ev_M r1 c w) (pc' := 19) (lv' := [(0, .ref t0), (1, .int x1)]) (st' := [.int (r1.1 t0 3 + 1), .ref t0]) (fun n => rfl) ?_
  refine ev_pfi rfl (congrArg Prod.fst hk_t0) rfl rfl rfl ?_
  cases h
  exact ev_r 1 (fun n => rfl)
def fX2_pop (m : mm_MM) (t0 : Nat) : Option (Int32 × mm_MM) :=
  (fX10_pick (wI m t0 3 (m.1 t0 3 - 1)) (t0 + 2) ((wI m t0 3 (m.1 t0 3 - 1)).1 t0 3)).bind fun r1 =>
   some (r1.1, r1.2)
theorem ok_fX2_pop {m : mm_MM} {t0 : Nat} {q0 : Int32 × mm_MM} (hk_t0 : mm_kd t0 = (2, 4)) (h : fX2_pop m t0 = some q0) : Ev XL xs (d + 1) 34 (ev_M m c w) 0 (lv_args 0 [.ref t0]) [] (fr_i c w q0) := by
  unfold fX2_pop at h
  refine ev_s 2 (M' := ev_M m c w) (pc' := 2) (lv' := [(0, .ref t0)]) (st' := [.ref t0, .ref t0]) (fun n => rfl) ?_
  refine ev_gf (x := .int (m.1 t0 3)) rfl (congrArg Prod.fst hk_t0) rfl rfl ?_
  refine ev_s 2 (M' := ev_M m c w) (pc' := 7) (lv' := [(0, .ref t0)]) (st' := [.int (m.1 t0 3 - 1), .ref t0]) (fun n => rfl) ?_
  refine ev_pfi rfl (congrArg Prod.fst hk_t0) rfl rfl rfl ?_
  refine ev_s 1 (M' := ev_M (wI m t0 3 (m.1 t0 3 - 1)) c w) (pc' := 11) (lv' := [(0, .ref t0)]) (st' := [.ref t0]) (fun n => rfl) ?_
  refine ev_gf (x := .ref (t0 + 2)) rfl (congrArg Prod.fst hk_t0) rfl (congrArg va_rf (tr_Wx1 hk_t0)) ?_
  refine ev_s 1 (M' := ev_M (wI m t0 3 (m.1 t0 3 - 1)) c w) (pc' := 15) (lv' := [(0, .ref t0)]) (st' := [.ref t0, .ref (t0 + 2)]) (fun n => rfl) ?_
  refine ev_gf (x := .int ((wI m t0 3 (m.1 t0 3 - 1)).1 t0 3)) rfl (congrArg Prod.fst hk_t0) rfl rfl ?_
  obtain ⟨r1, hr1, h⟩ := Option.bind_eq_some_iff.mp h
  refine ev_c 1 (y' := 175) (M1 := ev_M (wI m t0 3 (m.1 t0 3 - 1)) c w) (la := lv_args 0 [.ref (t0 + 2), .int ((wI m t0 3 (m.1 t0 3 - 1)).1 t0 3)]) (rest := []) (pc' := 21) (lv' := [(0, .ref t0)]) (fun n => rfl) (ok_fX10_pick (congrArg Prod.fst (kd_W2 hk_t0)) hr1) ?_
  show Ev XL xs _ 34 (ev_M r1.2 c w) 21 [(0, .ref t0)] [.int r1.1] _
  cases h
  exact ev_r 1 (fun n => rfl)
def fX2_letter (m : mm_MM) (x1 : Int32) : Option (Int32 × mm_MM) :=
  (if x1 = 100 then
    some (m.1 583 3, m)
   else (if x1 = 109 then
    some (m.1 583 2, m)
   else (if x1 = 110 then
    some (m.1 583 4, m)
   else (if x1 = 115 then
    some (m.1 583 1, m)
   else (if x1 = 118 then
    some (m.1 583 0, m)
   else some (((m.1 583 5 : Int32) - m.1 583 5 / 12 * 12), m))))))
theorem ok_fX2_letter {m : mm_MM} {x1 : Int32} {q0 : Int32 × mm_MM} (h : fX2_letter m x1 = some q0) : Ev XL xs d 35 (ev_M m c w) 0 (lv_args 0 [.ref 583, .int x1]) [] (fr_i c w q0) := by
  unfold fX2_letter at h
  refine ev_s 1 (M' := ev_M m c w) (pc' := 1) (lv' := [(0, .ref 583), (1, .int x1)]) (st' := [.int x1]) (fun n => rfl) ?_
  refine ev_e 100 h (fun hv1 h => ?_) (fun hv1 h => ?_)
  · refine ev_s 1 (M' := ev_M m c w) (pc' := 62) (lv' := [(0, .ref 583), (1, .int x1)]) (st' := []) (fun n => by rw [hv1]; rfl) ?_
    cases h
    exact ev_r 3 (fun n => rfl)
  refine ev_e 109 h (fun hv2 h => ?_) (fun hv2 h => ?_)
  · refine ev_s 1 (M' := ev_M m c w) (pc' := 67) (lv' := [(0, .ref 583), (1, .int x1)]) (st' := []) (fun n => by rw [hv2]; rfl) ?_
    cases h
    exact ev_r 3 (fun n => rfl)
  refine ev_e 110 h (fun hv3 h => ?_) (fun hv3 h => ?_)
  · refine ev_s 1 (M' := ev_M m c w) (pc' := 72) (lv' := [(0, .ref 583), (1, .int x1)]) (st' := []) (fun n => by rw [hv3]; rfl) ?_
    cases h
    exact ev_r 3 (fun n => rfl)
  refine ev_e 115 h (fun hv4 h => ?_) (fun hv4 h => ?_)
  · refine ev_s 1 (M' := ev_M m c w) (pc' := 57) (lv' := [(0, .ref 583), (1, .int x1)]) (st' := []) (fun n => by rw [hv4]; rfl) ?_
    cases h
    exact ev_r 3 (fun n => rfl)
  refine ev_e 118 h (fun hv5 h => ?_) (fun hv5 h => ?_)
  · refine ev_s 1 (M' := ev_M m c w) (pc' := 52) (lv' := [(0, .ref 583), (1, .int x1)]) (st' := []) (fun n => by rw [hv5]; rfl) ?_
    cases h
    exact ev_r 3 (fun n => rfl)
  refine ev_ld (M' := ev_M m c w) (pc' := 77) (lv' := [(0, .ref 583), (1, .int x1)]) (st' := []) rfl ((lv_osw (a := 100) hv1 rfl).trans ((lv_osw (a := 109) hv2 rfl).trans ((lv_osw (a := 110) hv3 rfl).trans ((lv_osw (a := 115) hv4 rfl).trans ((lv_osw (a := 118) hv5 rfl).trans (rfl)))))) rfl ?_
  cases h
  exact ev_r 5 (fun n => rfl)
def fX2_held_c28 (m : mm_MM) (s0 : Int32) : Option (Int32 × mm_MM) :=
  some (s0, m)
theorem ok_fX2_held_c28 {m : mm_MM} {s0 : Int32} {q0 : Int32 × mm_MM} (h : fX2_held_c28 m s0 = some q0) : Ev XL xs d 37 (ev_M m c w) 28 [] [.int s0] (fr_i c w q0) := by
  unfold fX2_held_c28 at h
  cases h
  exact ev_r 1 (fun n => rfl)
def fX2_held (m : mm_MM) (x0 : Int64) : Option (Int32 × mm_MM) :=
  (if (lg_cmp x0 1000000) ≤ 0 then
    (if (lg_cmp x0 ((-1000000) : Int64)) < 0 then
      fX2_held_c28 m ((-1000000) : Int32)
     else
      fX2_held_c28 m (Int64.toInt32 x0))
   else
    fX2_held_c28 m 1000000)
theorem ok_fX2_held {m : mm_MM} {x0 : Int64} {q0 : Int32 × mm_MM} (h : fX2_held m x0 = some q0) : Ev XL xs d 37 (ev_M m c w) 0 (lv_args 0 [.long x0]) [] (fr_i c w q0) := by
  unfold fX2_held at h
  refine ev_i 4 (M1 := ev_M m c w) (pc1 := 13) (lv1 := [(0, .long x0)]) (st1 := []) (M2 := ev_M m c w) (pc2 := 8) (lv2 := [(0, .long x0)]) (st2 := []) (fun n => rfl) h (fun hc1 h => ?_) (fun hc1 h => ?_)
  · refine ev_i 4 (M1 := ev_M m c w) (pc1 := 21) (lv1 := [(0, .long x0)]) (st1 := []) (M2 := ev_M m c w) (pc2 := 26) (lv2 := [(0, .long x0)]) (st2 := []) (fun n => rfl) h (fun hc2 h => ?_) (fun hc2 h => ?_)
    · refine ev_s 2 (M' := ev_M m c w) (pc' := 28) (lv' := [(0, .long x0)]) (st' := [.int ((-1000000) : Int32)]) (fun n => rfl) ?_
      refine ev_sub (lv := []) (mn_of rfl (by repeat (first | exact trivial | refine And.intro rfl ?_))) ?_
      exact ok_fX2_held_c28 h
    · refine ev_s 2 (M' := ev_M m c w) (pc' := 28) (lv' := [(0, .long x0)]) (st' := [.int (Int64.toInt32 x0)]) (fun n => rfl) ?_
      refine ev_sub (lv := []) (mn_of rfl (by repeat (first | exact trivial | refine And.intro rfl ?_))) ?_
      exact ok_fX2_held_c28 h
  · refine ev_s 2 (M' := ev_M m c w) (pc' := 28) (lv' := [(0, .long x0)]) (st' := [.int 1000000]) (fun n => rfl) ?_
    refine ev_sub (lv := []) (mn_of rfl (by repeat (first | exact trivial | refine And.intro rfl ?_))) ?_
    exact ok_fX2_held_c28 h
def fX2_joined_c154 (m : mm_MM) (s0 : Int32) : Option (Int32 × mm_MM) :=
  some (s0, m)
set_option maxRecDepth 20000 in
theorem ok_fX2_joined_c154 {m : mm_MM} {s0 : Int32} {q0 : Int32 × mm_MM} (h : fX2_joined_c154 m s0 = some q0) : Ev XL xs (d + 1) 36 (ev_M m c w) 154 [] [.int s0] (fr_i c w q0) := by
  unfold fX2_joined_c154 at h
  cases h
  exact ev_r 1 (fun n => rfl)
def fX2_joined_c165 (m : mm_MM) (s0 : Int32) : Option (Int32 × mm_MM) :=
  some (s0, m)
set_option maxRecDepth 20000 in
theorem ok_fX2_joined_c165 {m : mm_MM} {s0 : Int32} {q0 : Int32 × mm_MM} (h : fX2_joined_c165 m s0 = some q0) : Ev XL xs (d + 1) 36 (ev_M m c w) 165 [] [.int s0] (fr_i c w q0) := by
  unfold fX2_joined_c165 at h
  cases h
  exact ev_r 1 (fun n => rfl)
def fX2_joined_c176 (m : mm_MM) (s0 : Int32) : Option (Int32 × mm_MM) :=
  some (s0, m)
set_option maxRecDepth 20000 in
theorem ok_fX2_joined_c176 {m : mm_MM} {s0 : Int32} {q0 : Int32 × mm_MM} (h : fX2_joined_c176 m s0 = some q0) : Ev XL xs (d + 1) 36 (ev_M m c w) 176 [] [.int s0] (fr_i c w q0) := by
  unfold fX2_joined_c176 at h
  cases h
  exact ev_r 1 (fun n => rfl)
def fX2_joined_c187 (m : mm_MM) (s0 : Int32) : Option (Int32 × mm_MM) :=
  some (s0, m)
set_option maxRecDepth 20000 in
theorem ok_fX2_joined_c187 {m : mm_MM} {s0 : Int32} {q0 : Int32 × mm_MM} (h : fX2_joined_c187 m s0 = some q0) : Ev XL xs (d + 1) 36 (ev_M m c w) 187 [] [.int s0] (fr_i c w q0) := by
  unfold fX2_joined_c187 at h
  cases h
  exact ev_r 1 (fun n => rfl)
def fX2_joined (m : mm_MM) (x0 : Int32) (x1 : Int32) (x2 : Int32) : Option (Int32 × mm_MM) :=
  (if x2 = 38 then
    some ((x0 &&& x1), m)
   else (if x2 = 39 then
    some ((x0 ||| x1), m)
   else (if x2 = 40 then
    some ((x0 ||| x1), m)
   else (if x2 = 41 then
    some ((x0 ||| x1), m)
   else (if x2 = 42 then
    (fX2_held m ((Int32.toInt64 x0) * (Int32.toInt64 x1))).bind fun r5 =>
     some (r5.1, r5.2)
   else (if x2 = 43 then
    (fX2_held m ((Int32.toInt64 x0) + (Int32.toInt64 x1))).bind fun r7 =>
     some (r7.1, r7.2)
   else (if x2 = 44 then
    some ((x0 ||| x1), m)
   else (if x2 = 45 then
    (fX2_held m ((Int32.toInt64 x0) - (Int32.toInt64 x1))).bind fun r10 =>
     some (r10.1, r10.2)
   else (if x2 = 46 then
    some ((x0 ||| x1), m)
   else (if x2 = 47 then
    (if x1 = 0 then
      fX2_joined_c154 m 0
     else
      (if x1 = (0 : Int32) then none else
       fX2_joined_c154 m ((x0 : Int32) / x1)))
   else (if x2 = 48 then
    some ((x0 ||| x1), m)
   else (if x2 = 49 then
    some ((x0 ||| x1), m)
   else (if x2 = 50 then
    some ((x0 ||| x1), m)
   else (if x2 = 51 then
    some ((x0 ||| x1), m)
   else (if x2 = 52 then
    some ((x0 ||| x1), m)
   else (if x2 = 53 then
    some ((x0 ||| x1), m)
   else (if x2 = 54 then
    some ((x0 ||| x1), m)
   else (if x2 = 55 then
    some ((x0 ||| x1), m)
   else (if x2 = 56 then
    some ((x0 ||| x1), m)
   else (if x2 = 57 then
    some ((x0 ||| x1), m)
   else (if x2 = 58 then
    some ((x0 ||| x1), m)
   else (if x2 = 59 then
    some ((x0 ||| x1), m)
   else (if x2 = 60 then
    (if x0 < x1 then
      fX2_joined_c176 m 1
     else
      fX2_joined_c176 m 0)
   else (if x2 = 61 then
    (if x0 = x1 then
      fX2_joined_c165 m 1
     else
      fX2_joined_c165 m 0)
   else (if x2 = 62 then
    (if x0 ≤ x1 then
      fX2_joined_c187 m 0
     else
      fX2_joined_c187 m 1)
   else some ((x0 ||| x1), m))))))))))))))))))))))))))
set_option maxRecDepth 20000 in
theorem ok_fX2_joined {m : mm_MM} {x0 : Int32} {x1 : Int32} {x2 : Int32} {q0 : Int32 × mm_MM} (h : fX2_joined m x0 x1 x2 = some q0) : Ev XL xs (d + 1) 36 (ev_M m c w) 0 (lv_args 0 [.int x0, .int x1, .int x2]) [] (fr_i c w q0) := by
  unfold fX2_joined at h
  refine ev_s 1 (M' := ev_M m c w) (pc' := 1) (lv' := [(0, .int x0), (1, .int x1), (2, .int x2)]) (st' := [.int x2]) (fun n => rfl) ?_
  refine ev_e 38 h (fun hv1 h => ?_) (fun hv1 h => ?_)
  · refine ev_s 1 (M' := ev_M m c w) (pc' := 188) (lv' := [(0, .int x0), (1, .int x1), (2, .int x2)]) (st' := []) (fun n => by rw [hv1]; rfl) ?_
    cases h
    exact ev_r 4 (fun n => rfl)
  refine ev_e 39 h (fun hv2 h => ?_) (fun hv2 h => ?_)
  · refine ev_s 1 (M' := ev_M m c w) (pc' := 192) (lv' := [(0, .int x0), (1, .int x1), (2, .int x2)]) (st' := []) (fun n => by rw [hv2]; rfl) ?_
    cases h
    exact ev_r 4 (fun n => rfl)
  refine ev_e 40 h (fun hv3 h => ?_) (fun hv3 h => ?_)
  · refine ev_s 1 (M' := ev_M m c w) (pc' := 192) (lv' := [(0, .int x0), (1, .int x1), (2, .int x2)]) (st' := []) (fun n => by rw [hv3]; rfl) ?_
    cases h
    exact ev_r 4 (fun n => rfl)
  refine ev_e 41 h (fun hv4 h => ?_) (fun hv4 h => ?_)
  · refine ev_s 1 (M' := ev_M m c w) (pc' := 192) (lv' := [(0, .int x0), (1, .int x1), (2, .int x2)]) (st' := []) (fun n => by rw [hv4]; rfl) ?_
    cases h
    exact ev_r 4 (fun n => rfl)
  refine ev_e 42 h (fun hv6 h => ?_) (fun hv6 h => ?_)
  · refine ev_s 1 (M' := ev_M m c w) (pc' := 134) (lv' := [(0, .int x0), (1, .int x1), (2, .int x2)]) (st' := []) (fun n => by rw [hv6]; rfl) ?_
    obtain ⟨r5, hr5, h⟩ := Option.bind_eq_some_iff.mp h
    refine ev_c 6 (y' := 37) (M1 := ev_M m c w) (la := lv_args 0 [.long ((Int32.toInt64 x0) * (Int32.toInt64 x1))]) (rest := []) (pc' := 142) (lv' := [(0, .int x0), (1, .int x1), (2, .int x2)]) (fun n => rfl) (ok_fX2_held hr5) ?_
    show Ev XL xs _ 36 (ev_M r5.2 c w) 142 [(0, .int x0), (1, .int x1), (2, .int x2)] [.int r5.1] _
    cases h
    exact ev_r 1 (fun n => rfl)
  refine ev_e 43 h (fun hv8 h => ?_) (fun hv8 h => ?_)
  · refine ev_s 1 (M' := ev_M m c w) (pc' := 116) (lv' := [(0, .int x0), (1, .int x1), (2, .int x2)]) (st' := []) (fun n => by rw [hv8]; rfl) ?_
    obtain ⟨r7, hr7, h⟩ := Option.bind_eq_some_iff.mp h
    refine ev_c 6 (y' := 37) (M1 := ev_M m c w) (la := lv_args 0 [.long ((Int32.toInt64 x0) + (Int32.toInt64 x1))]) (rest := []) (pc' := 124) (lv' := [(0, .int x0), (1, .int x1), (2, .int x2)]) (fun n => rfl) (ok_fX2_held hr7) ?_
    show Ev XL xs _ 36 (ev_M r7.2 c w) 124 [(0, .int x0), (1, .int x1), (2, .int x2)] [.int r7.1] _
    cases h
    exact ev_r 1 (fun n => rfl)
  refine ev_e 44 h (fun hv9 h => ?_) (fun hv9 h => ?_)
  · refine ev_s 1 (M' := ev_M m c w) (pc' := 192) (lv' := [(0, .int x0), (1, .int x1), (2, .int x2)]) (st' := []) (fun n => by rw [hv9]; rfl) ?_
    cases h
    exact ev_r 4 (fun n => rfl)
  refine ev_e 45 h (fun hv11 h => ?_) (fun hv11 h => ?_)
  · refine ev_s 1 (M' := ev_M m c w) (pc' := 125) (lv' := [(0, .int x0), (1, .int x1), (2, .int x2)]) (st' := []) (fun n => by rw [hv11]; rfl) ?_
    obtain ⟨r10, hr10, h⟩ := Option.bind_eq_some_iff.mp h
    refine ev_c 6 (y' := 37) (M1 := ev_M m c w) (la := lv_args 0 [.long ((Int32.toInt64 x0) - (Int32.toInt64 x1))]) (rest := []) (pc' := 133) (lv' := [(0, .int x0), (1, .int x1), (2, .int x2)]) (fun n => rfl) (ok_fX2_held hr10) ?_
    show Ev XL xs _ 36 (ev_M r10.2 c w) 133 [(0, .int x0), (1, .int x1), (2, .int x2)] [.int r10.1] _
    cases h
    exact ev_r 1 (fun n => rfl)
  refine ev_e 46 h (fun hv12 h => ?_) (fun hv12 h => ?_)
  · refine ev_s 1 (M' := ev_M m c w) (pc' := 192) (lv' := [(0, .int x0), (1, .int x1), (2, .int x2)]) (st' := []) (fun n => by rw [hv12]; rfl) ?_
    cases h
    exact ev_r 4 (fun n => rfl)
  refine ev_e 47 h (fun hv14 h => ?_) (fun hv14 h => ?_)
  · refine ev_s 1 (M' := ev_M m c w) (pc' := 143) (lv' := [(0, .int x0), (1, .int x1), (2, .int x2)]) (st' := []) (fun n => by rw [hv14]; rfl) ?_
    refine ev_i 2 (M1 := ev_M m c w) (pc1 := 153) (lv1 := [(0, .int x0), (1, .int x1), (2, .int x2)]) (st1 := []) (M2 := ev_M m c w) (pc2 := 147) (lv2 := [(0, .int x0), (1, .int x1), (2, .int x2)]) (st2 := []) (fun n => rfl) h (fun hc13 h => ?_) (fun hc13 h => ?_)
    · refine ev_s 1 (M' := ev_M m c w) (pc' := 154) (lv' := [(0, .int x0), (1, .int x1), (2, .int x2)]) (st' := [.int 0]) (fun n => rfl) ?_
      refine ev_sub (lv := []) (mn_of rfl (by repeat (first | exact trivial | refine And.intro rfl ?_))) ?_
      exact ok_fX2_joined_c154 h
    · refine ev_g 3 (M1 := ev_M m c w) (pc1 := 150) (lv1 := [(0, .int x0), (1, .int x1), (2, .int x2)]) (st1 := [.int ((x0 : Int32) / x1)]) (fun n => rfl) h (fun _ h => ?_)
      refine ev_s 1 (M' := ev_M m c w) (pc' := 154) (lv' := [(0, .int x0), (1, .int x1), (2, .int x2)]) (st' := [.int ((x0 : Int32) / x1)]) (fun n => rfl) ?_
      refine ev_sub (lv := []) (mn_of rfl (by repeat (first | exact trivial | refine And.intro rfl ?_))) ?_
      exact ok_fX2_joined_c154 h
  refine ev_e 48 h (fun hv15 h => ?_) (fun hv15 h => ?_)
  · refine ev_s 1 (M' := ev_M m c w) (pc' := 192) (lv' := [(0, .int x0), (1, .int x1), (2, .int x2)]) (st' := []) (fun n => by rw [hv15]; rfl) ?_
    cases h
    exact ev_r 4 (fun n => rfl)
  refine ev_e 49 h (fun hv16 h => ?_) (fun hv16 h => ?_)
  · refine ev_s 1 (M' := ev_M m c w) (pc' := 192) (lv' := [(0, .int x0), (1, .int x1), (2, .int x2)]) (st' := []) (fun n => by rw [hv16]; rfl) ?_
    cases h
    exact ev_r 4 (fun n => rfl)
  refine ev_e 50 h (fun hv17 h => ?_) (fun hv17 h => ?_)
  · refine ev_s 1 (M' := ev_M m c w) (pc' := 192) (lv' := [(0, .int x0), (1, .int x1), (2, .int x2)]) (st' := []) (fun n => by rw [hv17]; rfl) ?_
    cases h
    exact ev_r 4 (fun n => rfl)
  refine ev_e 51 h (fun hv18 h => ?_) (fun hv18 h => ?_)
  · refine ev_s 1 (M' := ev_M m c w) (pc' := 192) (lv' := [(0, .int x0), (1, .int x1), (2, .int x2)]) (st' := []) (fun n => by rw [hv18]; rfl) ?_
    cases h
    exact ev_r 4 (fun n => rfl)
  refine ev_e 52 h (fun hv19 h => ?_) (fun hv19 h => ?_)
  · refine ev_s 1 (M' := ev_M m c w) (pc' := 192) (lv' := [(0, .int x0), (1, .int x1), (2, .int x2)]) (st' := []) (fun n => by rw [hv19]; rfl) ?_
    cases h
    exact ev_r 4 (fun n => rfl)
  refine ev_e 53 h (fun hv20 h => ?_) (fun hv20 h => ?_)
  · refine ev_s 1 (M' := ev_M m c w) (pc' := 192) (lv' := [(0, .int x0), (1, .int x1), (2, .int x2)]) (st' := []) (fun n => by rw [hv20]; rfl) ?_
    cases h
    exact ev_r 4 (fun n => rfl)
  refine ev_e 54 h (fun hv21 h => ?_) (fun hv21 h => ?_)
  · refine ev_s 1 (M' := ev_M m c w) (pc' := 192) (lv' := [(0, .int x0), (1, .int x1), (2, .int x2)]) (st' := []) (fun n => by rw [hv21]; rfl) ?_
    cases h
    exact ev_r 4 (fun n => rfl)
  refine ev_e 55 h (fun hv22 h => ?_) (fun hv22 h => ?_)
  · refine ev_s 1 (M' := ev_M m c w) (pc' := 192) (lv' := [(0, .int x0), (1, .int x1), (2, .int x2)]) (st' := []) (fun n => by rw [hv22]; rfl) ?_
    cases h
    exact ev_r 4 (fun n => rfl)
  refine ev_e 56 h (fun hv23 h => ?_) (fun hv23 h => ?_)
  · refine ev_s 1 (M' := ev_M m c w) (pc' := 192) (lv' := [(0, .int x0), (1, .int x1), (2, .int x2)]) (st' := []) (fun n => by rw [hv23]; rfl) ?_
    cases h
    exact ev_r 4 (fun n => rfl)
  refine ev_e 57 h (fun hv24 h => ?_) (fun hv24 h => ?_)
  · refine ev_s 1 (M' := ev_M m c w) (pc' := 192) (lv' := [(0, .int x0), (1, .int x1), (2, .int x2)]) (st' := []) (fun n => by rw [hv24]; rfl) ?_
    cases h
    exact ev_r 4 (fun n => rfl)
  refine ev_e 58 h (fun hv25 h => ?_) (fun hv25 h => ?_)
  · refine ev_s 1 (M' := ev_M m c w) (pc' := 192) (lv' := [(0, .int x0), (1, .int x1), (2, .int x2)]) (st' := []) (fun n => by rw [hv25]; rfl) ?_
    cases h
    exact ev_r 4 (fun n => rfl)
  refine ev_e 59 h (fun hv26 h => ?_) (fun hv26 h => ?_)
  · refine ev_s 1 (M' := ev_M m c w) (pc' := 192) (lv' := [(0, .int x0), (1, .int x1), (2, .int x2)]) (st' := []) (fun n => by rw [hv26]; rfl) ?_
    cases h
    exact ev_r 4 (fun n => rfl)
  refine ev_e 60 h (fun hv28 h => ?_) (fun hv28 h => ?_)
  · refine ev_s 1 (M' := ev_M m c w) (pc' := 166) (lv' := [(0, .int x0), (1, .int x1), (2, .int x2)]) (st' := []) (fun n => by rw [hv28]; rfl) ?_
    refine ev_i 3 (M1 := ev_M m c w) (pc1 := 171) (lv1 := [(0, .int x0), (1, .int x1), (2, .int x2)]) (st1 := []) (M2 := ev_M m c w) (pc2 := 175) (lv2 := [(0, .int x0), (1, .int x1), (2, .int x2)]) (st2 := []) (fun n => rfl) h (fun hc27 h => ?_) (fun hc27 h => ?_)
    · refine ev_s 2 (M' := ev_M m c w) (pc' := 176) (lv' := [(0, .int x0), (1, .int x1), (2, .int x2)]) (st' := [.int 1]) (fun n => rfl) ?_
      refine ev_sub (lv := []) (mn_of rfl (by repeat (first | exact trivial | refine And.intro rfl ?_))) ?_
      exact ok_fX2_joined_c176 h
    · refine ev_s 1 (M' := ev_M m c w) (pc' := 176) (lv' := [(0, .int x0), (1, .int x1), (2, .int x2)]) (st' := [.int 0]) (fun n => rfl) ?_
      refine ev_sub (lv := []) (mn_of rfl (by repeat (first | exact trivial | refine And.intro rfl ?_))) ?_
      exact ok_fX2_joined_c176 h
  refine ev_e 61 h (fun hv30 h => ?_) (fun hv30 h => ?_)
  · refine ev_s 1 (M' := ev_M m c w) (pc' := 155) (lv' := [(0, .int x0), (1, .int x1), (2, .int x2)]) (st' := []) (fun n => by rw [hv30]; rfl) ?_
    refine ev_i 3 (M1 := ev_M m c w) (pc1 := 160) (lv1 := [(0, .int x0), (1, .int x1), (2, .int x2)]) (st1 := []) (M2 := ev_M m c w) (pc2 := 164) (lv2 := [(0, .int x0), (1, .int x1), (2, .int x2)]) (st2 := []) (fun n => rfl) h (fun hc29 h => ?_) (fun hc29 h => ?_)
    · refine ev_s 2 (M' := ev_M m c w) (pc' := 165) (lv' := [(0, .int x0), (1, .int x1), (2, .int x2)]) (st' := [.int 1]) (fun n => rfl) ?_
      refine ev_sub (lv := []) (mn_of rfl (by repeat (first | exact trivial | refine And.intro rfl ?_))) ?_
      exact ok_fX2_joined_c165 h
    · refine ev_s 1 (M' := ev_M m c w) (pc' := 165) (lv' := [(0, .int x0), (1, .int x1), (2, .int x2)]) (st' := [.int 0]) (fun n => rfl) ?_
      refine ev_sub (lv := []) (mn_of rfl (by repeat (first | exact trivial | refine And.intro rfl ?_))) ?_
      exact ok_fX2_joined_c165 h
  refine ev_e 62 h (fun hv32 h => ?_) (fun hv32 h => ?_)
  · refine ev_s 1 (M' := ev_M m c w) (pc' := 177) (lv' := [(0, .int x0), (1, .int x1), (2, .int x2)]) (st' := []) (fun n => by rw [hv32]; rfl) ?_
    refine ev_i 3 (M1 := ev_M m c w) (pc1 := 186) (lv1 := [(0, .int x0), (1, .int x1), (2, .int x2)]) (st1 := []) (M2 := ev_M m c w) (pc2 := 182) (lv2 := [(0, .int x0), (1, .int x1), (2, .int x2)]) (st2 := []) (fun n => rfl) h (fun hc31 h => ?_) (fun hc31 h => ?_)
    · refine ev_s 1 (M' := ev_M m c w) (pc' := 187) (lv' := [(0, .int x0), (1, .int x1), (2, .int x2)]) (st' := [.int 0]) (fun n => rfl) ?_
      refine ev_sub (lv := []) (mn_of rfl (by repeat (first | exact trivial | refine And.intro rfl ?_))) ?_
      exact ok_fX2_joined_c187 h
    · refine ev_s 2 (M' := ev_M m c w) (pc' := 187) (lv' := [(0, .int x0), (1, .int x1), (2, .int x2)]) (st' := [.int 1]) (fun n => rfl) ?_
      refine ev_sub (lv := []) (mn_of rfl (by repeat (first | exact trivial | refine And.intro rfl ?_))) ?_
      exact ok_fX2_joined_c187 h
  have ghv1 : (x2 : Int32).toInt ≠ 38 := fun z => hv1 (Int32.toInt_inj.mp (z.trans rfl))
  have ghv2 : (x2 : Int32).toInt ≠ 39 := fun z => hv2 (Int32.toInt_inj.mp (z.trans rfl))
  have ghv3 : (x2 : Int32).toInt ≠ 40 := fun z => hv3 (Int32.toInt_inj.mp (z.trans rfl))
  have ghv4 : (x2 : Int32).toInt ≠ 41 := fun z => hv4 (Int32.toInt_inj.mp (z.trans rfl))
  have ghv6 : (x2 : Int32).toInt ≠ 42 := fun z => hv6 (Int32.toInt_inj.mp (z.trans rfl))
  have ghv8 : (x2 : Int32).toInt ≠ 43 := fun z => hv8 (Int32.toInt_inj.mp (z.trans rfl))
  have ghv9 : (x2 : Int32).toInt ≠ 44 := fun z => hv9 (Int32.toInt_inj.mp (z.trans rfl))
  have ghv11 : (x2 : Int32).toInt ≠ 45 := fun z => hv11 (Int32.toInt_inj.mp (z.trans rfl))
  have ghv12 : (x2 : Int32).toInt ≠ 46 := fun z => hv12 (Int32.toInt_inj.mp (z.trans rfl))
  have ghv14 : (x2 : Int32).toInt ≠ 47 := fun z => hv14 (Int32.toInt_inj.mp (z.trans rfl))
  have ghv15 : (x2 : Int32).toInt ≠ 48 := fun z => hv15 (Int32.toInt_inj.mp (z.trans rfl))
  have ghv16 : (x2 : Int32).toInt ≠ 49 := fun z => hv16 (Int32.toInt_inj.mp (z.trans rfl))
  have ghv17 : (x2 : Int32).toInt ≠ 50 := fun z => hv17 (Int32.toInt_inj.mp (z.trans rfl))
  have ghv18 : (x2 : Int32).toInt ≠ 51 := fun z => hv18 (Int32.toInt_inj.mp (z.trans rfl))
  have ghv19 : (x2 : Int32).toInt ≠ 52 := fun z => hv19 (Int32.toInt_inj.mp (z.trans rfl))
  have ghv20 : (x2 : Int32).toInt ≠ 53 := fun z => hv20 (Int32.toInt_inj.mp (z.trans rfl))
  have ghv21 : (x2 : Int32).toInt ≠ 54 := fun z => hv21 (Int32.toInt_inj.mp (z.trans rfl))
  have ghv22 : (x2 : Int32).toInt ≠ 55 := fun z => hv22 (Int32.toInt_inj.mp (z.trans rfl))
  have ghv23 : (x2 : Int32).toInt ≠ 56 := fun z => hv23 (Int32.toInt_inj.mp (z.trans rfl))
  have ghv24 : (x2 : Int32).toInt ≠ 57 := fun z => hv24 (Int32.toInt_inj.mp (z.trans rfl))
  have ghv25 : (x2 : Int32).toInt ≠ 58 := fun z => hv25 (Int32.toInt_inj.mp (z.trans rfl))
  have ghv26 : (x2 : Int32).toInt ≠ 59 := fun z => hv26 (Int32.toInt_inj.mp (z.trans rfl))
  have ghv28 : (x2 : Int32).toInt ≠ 60 := fun z => hv28 (Int32.toInt_inj.mp (z.trans rfl))
  have ghv30 : (x2 : Int32).toInt ≠ 61 := fun z => hv30 (Int32.toInt_inj.mp (z.trans rfl))
  have ghv32 : (x2 : Int32).toInt ≠ 62 := fun z => hv32 (Int32.toInt_inj.mp (z.trans rfl))
  refine ev_td (M' := ev_M m c w) (pc' := 192) (lv' := [(0, .int x0), (1, .int x1), (2, .int x2)]) (st' := []) rfl (by omega) rfl ?_
  cases h
  exact ev_r 4 (fun n => rfl)
def fX2_worth_c167 (kr9 : mm_MM → Nat → Int32 → Int32 → Option (Int32 × mm_MM)) (m : mm_MM) (t0 : Nat) (x2 : Int32) (x3 : Int32) : Option (Int32 × mm_MM) :=
  kr9 m t0 x2 (x3 + 1)
set_option maxRecDepth 20000 in
theorem ok_fX2_worth_c167 {kr9 : mm_MM → Nat → Int32 → Int32 → Option (Int32 × mm_MM)} (hkr9 : ∀ (m : mm_MM) (t0 : Nat) (x2 : Int32) (x3 : Int32) (q0 : Int32 × mm_MM) (hk_t0 : mm_kd t0 = (2, 4)), kr9 m t0 x2 x3 = some q0 → Ev XL xs (d + 2) 32 (ev_M m c w) 9 [(0, .ref t0), (1, .ref 583), (2, .int x2), (3, .int x3)] [] (fr_i c w q0)) {m : mm_MM} {t0 : Nat} {x2 : Int32} {x3 : Int32} {q0 : Int32 × mm_MM} (hk_t0 : mm_kd t0 = (2, 4)) (h : fX2_worth_c167 kr9 m t0 x2 x3 = some q0) : Ev XL xs (d + 2) 32 (ev_M m c w) 167 [(0, .ref t0), (1, .ref 583), (2, .int x2), (3, .int x3)] [] (fr_i c w q0) := by
  unfold fX2_worth_c167 at h
  refine ev_s 2 (M' := ev_M m c w) (pc' := 9) (lv' := [(3, .int (x3 + 1)), (0, .ref t0), (1, .ref 583), (2, .int x2)]) (st' := []) (fun n => rfl) ?_
  refine ev_sub (lv := [(0, .ref t0), (1, .ref 583), (2, .int x2), (3, .int (x3 + 1))]) (mn_of rfl (by repeat (first | exact trivial | refine And.intro rfl ?_))) ?_
  exact hkr9 _ _ _ _ _ hk_t0 h
def fX2_worth_c43 (kr9 : mm_MM → Nat → Int32 → Int32 → Option (Int32 × mm_MM)) (m : mm_MM) (t0 : Nat) (x3 : Int32) (s0 : Int32) : Option (Int32 × mm_MM) :=
  fX2_worth_c167 kr9 m t0 s0 x3
set_option maxRecDepth 20000 in
theorem ok_fX2_worth_c43 {kr9 : mm_MM → Nat → Int32 → Int32 → Option (Int32 × mm_MM)} (hkr9 : ∀ (m : mm_MM) (t0 : Nat) (x2 : Int32) (x3 : Int32) (q0 : Int32 × mm_MM) (hk_t0 : mm_kd t0 = (2, 4)), kr9 m t0 x2 x3 = some q0 → Ev XL xs (d + 2) 32 (ev_M m c w) 9 [(0, .ref t0), (1, .ref 583), (2, .int x2), (3, .int x3)] [] (fr_i c w q0)) {m : mm_MM} {t0 : Nat} {x3 : Int32} {s0 : Int32} {q0 : Int32 × mm_MM} (hk_t0 : mm_kd t0 = (2, 4)) (h : fX2_worth_c43 kr9 m t0 x3 s0 = some q0) : Ev XL xs (d + 2) 32 (ev_M m c w) 43 [(0, .ref t0), (1, .ref 583), (3, .int x3)] [.int s0] (fr_i c w q0) := by
  unfold fX2_worth_c43 at h
  refine ev_s 2 (M' := ev_M m c w) (pc' := 167) (lv' := [(2, .int s0), (0, .ref t0), (1, .ref 583), (3, .int x3)]) (st' := []) (fun n => rfl) ?_
  refine ev_sub (lv := [(0, .ref t0), (1, .ref 583), (2, .int s0), (3, .int x3)]) (mn_of rfl (by repeat (first | exact trivial | refine And.intro rfl ?_))) ?_
  exact ok_fX2_worth_c167 hkr9 hk_t0 h
def fX2_worth_c78 (kr9 : mm_MM → Nat → Int32 → Int32 → Option (Int32 × mm_MM)) (m : mm_MM) (t0 : Nat) (x3 : Int32) (s0 : Int32) : Option (Int32 × mm_MM) :=
  fX2_worth_c167 kr9 m t0 s0 x3
set_option maxRecDepth 20000 in
theorem ok_fX2_worth_c78 {kr9 : mm_MM → Nat → Int32 → Int32 → Option (Int32 × mm_MM)} (hkr9 : ∀ (m : mm_MM) (t0 : Nat) (x2 : Int32) (x3 : Int32) (q0 : Int32 × mm_MM) (hk_t0 : mm_kd t0 = (2, 4)), kr9 m t0 x2 x3 = some q0 → Ev XL xs (d + 2) 32 (ev_M m c w) 9 [(0, .ref t0), (1, .ref 583), (2, .int x2), (3, .int x3)] [] (fr_i c w q0)) {m : mm_MM} {t0 : Nat} {x3 : Int32} {s0 : Int32} {q0 : Int32 × mm_MM} (hk_t0 : mm_kd t0 = (2, 4)) (h : fX2_worth_c78 kr9 m t0 x3 s0 = some q0) : Ev XL xs (d + 2) 32 (ev_M m c w) 78 [(0, .ref t0), (1, .ref 583), (3, .int x3)] [.int s0] (fr_i c w q0) := by
  unfold fX2_worth_c78 at h
  refine ev_s 2 (M' := ev_M m c w) (pc' := 167) (lv' := [(2, .int s0), (0, .ref t0), (1, .ref 583), (3, .int x3)]) (st' := []) (fun n => rfl) ?_
  refine ev_sub (lv := [(0, .ref t0), (1, .ref 583), (2, .int s0), (3, .int x3)]) (mn_of rfl (by repeat (first | exact trivial | refine And.intro rfl ?_))) ?_
  exact ok_fX2_worth_c167 hkr9 hk_t0 h
def fX2_worth_c139 (kr9 : mm_MM → Nat → Int32 → Int32 → Option (Int32 × mm_MM)) (m : mm_MM) (t0 : Nat) (x2 : Int32) (x3 : Int32) (s0 : Nat) (s1 : Int32) : Option (Int32 × mm_MM) :=
  (fX2_push m s0 s1).bind fun r1 =>
   fX2_worth_c167 kr9 r1 t0 x2 x3
set_option maxRecDepth 20000 in
theorem ok_fX2_worth_c139 {kr9 : mm_MM → Nat → Int32 → Int32 → Option (Int32 × mm_MM)} (hkr9 : ∀ (m : mm_MM) (t0 : Nat) (x2 : Int32) (x3 : Int32) (q0 : Int32 × mm_MM) (hk_t0 : mm_kd t0 = (2, 4)), kr9 m t0 x2 x3 = some q0 → Ev XL xs (d + 2) 32 (ev_M m c w) 9 [(0, .ref t0), (1, .ref 583), (2, .int x2), (3, .int x3)] [] (fr_i c w q0)) {m : mm_MM} {t0 : Nat} {x2 : Int32} {x3 : Int32} {s0 : Nat} {s1 : Int32} {q0 : Int32 × mm_MM} (hk_t0 : mm_kd t0 = (2, 4)) (hk_s0 : mm_kd s0 = (2, 4)) (h : fX2_worth_c139 kr9 m t0 x2 x3 s0 s1 = some q0) : Ev XL xs (d + 2) 32 (ev_M m c w) 139 [(0, .ref t0), (1, .ref 583), (2, .int x2), (3, .int x3)] [.int s1, .ref s0] (fr_i c w q0) := by
  unfold fX2_worth_c139 at h
  obtain ⟨r1, hr1, h⟩ := Option.bind_eq_some_iff.mp h
  refine ev_cv (rest := []) rfl rfl (congrArg Prod.fst hk_s0) rfl (ok_fX2_push hk_s0 hr1) ?_
  show Ev XL xs _ 32 (ev_M r1 c w) 142 [(0, .ref t0), (1, .ref 583), (2, .int x2), (3, .int x3)] [] _
  refine ev_s 1 (M' := ev_M r1 c w) (pc' := 167) (lv' := [(0, .ref t0), (1, .ref 583), (2, .int x2), (3, .int x3)]) (st' := []) (fun n => rfl) ?_
  exact ok_fX2_worth_c167 hkr9 hk_t0 h
def fX2_worth_c9 : Nat → mm_MM → Nat → Int32 → Int32 → Option (Int32 × mm_MM)
  | 0 => fun _ _ _ _ => none
  | n + 1 => fun m t0 x2 x3 =>
    (if x3 < m.1 t0 2 then
      (fX10_pick m (t0 + 1) x3).bind fun r2 =>
       (if x2 = 0 then
         (if r2.1 = ((-59) : Int32) then
           (fX2_pop r2.2 t0).bind fun r5 =>
            some (r5.1, r5.2)
          else
           (if r2.1 = ((-63) : Int32) then
             (fX2_pop r2.2 t0).bind fun r7 =>
              (if r7.1 = 0 then
                fX2_worth_c78 (fX2_worth_c9 n) r7.2 t0 x3 1
               else
                fX2_worth_c78 (fX2_worth_c9 n) r7.2 t0 x3 0)
            else
             (if r2.1 < 0 then
               (fX2_isLetter r2.2 (-r2.1)).bind fun r10 =>
                (if r10.1 = 0 then
                  (if r2.1 = ((-33) : Int32) then
                    (fX2_pop r10.2 t0).bind fun r13 =>
                     (if r13.1 = 0 then
                       fX2_worth_c139 (fX2_worth_c9 n) r13.2 t0 x2 x3 t0 1
                      else
                       fX2_worth_c139 (fX2_worth_c9 n) r13.2 t0 x2 x3 t0 0)
                   else
                    (fX2_pop r10.2 t0).bind fun r15 =>
                     (fX2_pop r15.2 t0).bind fun r16 =>
                      (fX2_joined r16.2 r16.1 r15.1 (-r2.1)).bind fun r17 =>
                       (fX2_push r17.2 t0 r17.1).bind fun r18 =>
                        fX2_worth_c167 (fX2_worth_c9 n) r18 t0 x2 x3)
                 else
                  (fX2_letter r10.2 (-r2.1)).bind fun r19 =>
                   (fX2_push r19.2 t0 r19.1).bind fun r20 =>
                    fX2_worth_c167 (fX2_worth_c9 n) r20 t0 x2 x3)
              else
               (fX2_push r2.2 t0 r2.1).bind fun r21 =>
                fX2_worth_c167 (fX2_worth_c9 n) r21 t0 x2 x3)))
        else
         (if r2.1 = ((-59) : Int32) then
           fX2_worth_c43 (fX2_worth_c9 n) r2.2 t0 x3 0
          else
           fX2_worth_c43 (fX2_worth_c9 n) r2.2 t0 x3 1))
     else
      some (0, m))
set_option maxRecDepth 20000 in
theorem ok_fX2_worth_c9 : ∀ (n : Nat) (m : mm_MM) (t0 : Nat) (x2 : Int32) (x3 : Int32) (q0 : Int32 × mm_MM) (hk_t0 : mm_kd t0 = (2, 4)), fX2_worth_c9 n m t0 x2 x3 = some q0 → Ev XL xs (d + 2) 32 (ev_M m c w) 9 [(0, .ref t0), (1, .ref 583), (2, .int x2), (3, .int x3)] [] (fr_i c w q0) := by
  intro n
  induction n with
  | zero => intro m t0 x2 x3 q0 hk_t0 h; exact absurd (show (none : Option (Int32 × mm_MM)) = some q0 from h) (by simp)
  | succ n ih =>
    intro m t0 x2 x3 q0 hk_t0 h
    unfold fX2_worth_c9 at h
    refine ev_s 2 (M' := ev_M m c w) (pc' := 11) (lv' := [(0, .ref t0), (1, .ref 583), (2, .int x2), (3, .int x3)]) (st' := [.ref t0, .int x3]) (fun n => rfl) ?_
    refine ev_gf (x := .int (m.1 t0 2)) rfl (congrArg Prod.fst hk_t0) rfl rfl ?_
    refine ev_i 1 (M1 := ev_M m c w) (pc1 := 17) (lv1 := [(0, .ref t0), (1, .ref 583), (2, .int x2), (3, .int x3)]) (st1 := []) (M2 := ev_M m c w) (pc2 := 173) (lv2 := [(0, .ref t0), (1, .ref 583), (2, .int x2), (3, .int x3)]) (st2 := []) (fun n => rfl) h (fun hc1 h => ?_) (fun hc1 h => ?_)
    · refine ev_s 1 (M' := ev_M m c w) (pc' := 18) (lv' := [(0, .ref t0), (1, .ref 583), (2, .int x2), (3, .int x3)]) (st' := [.ref t0]) (fun n => rfl) ?_
      refine ev_gf (x := .ref (t0 + 1)) rfl (congrArg Prod.fst hk_t0) rfl (congrArg va_rf (tr_Wx0 hk_t0)) ?_
      obtain ⟨r2, hr2, h⟩ := Option.bind_eq_some_iff.mp h
      refine ev_c 2 (y' := 175) (M1 := ev_M m c w) (la := lv_args 0 [.ref (t0 + 1), .int x3]) (rest := []) (pc' := 25) (lv' := [(0, .ref t0), (1, .ref 583), (2, .int x2), (3, .int x3)]) (fun n => rfl) (ok_fX10_pick (congrArg Prod.fst (kd_W1 hk_t0)) hr2) ?_
      show Ev XL xs _ 32 (ev_M r2.2 c w) 25 [(0, .ref t0), (1, .ref 583), (2, .int x2), (3, .int x3)] [.int r2.1] _
      refine ev_i 3 (M1 := ev_M r2.2 c w) (pc1 := 47) (lv1 := [(4, .int r2.1), (0, .ref t0), (1, .ref 583), (2, .int x2), (3, .int x3)]) (st1 := []) (M2 := ev_M r2.2 c w) (pc2 := 31) (lv2 := [(4, .int r2.1), (0, .ref t0), (1, .ref 583), (2, .int x2), (3, .int x3)]) (st2 := []) (fun n => rfl) h (fun hc3 h => ?_) (fun hc3 h => ?_)
      · refine ev_i 3 (M1 := ev_M r2.2 c w) (pc1 := 54) (lv1 := [(4, .int r2.1), (0, .ref t0), (1, .ref 583), (2, .int x2), (3, .int x3)]) (st1 := []) (M2 := ev_M r2.2 c w) (pc2 := 59) (lv2 := [(4, .int r2.1), (0, .ref t0), (1, .ref 583), (2, .int x2), (3, .int x3)]) (st2 := []) (fun n => rfl) h (fun hc4 h => ?_) (fun hc4 h => ?_)
        · refine ev_s 1 (M' := ev_M r2.2 c w) (pc' := 55) (lv' := [(4, .int r2.1), (0, .ref t0), (1, .ref 583), (2, .int x2), (3, .int x3)]) (st' := [.ref t0]) (fun n => rfl) ?_
          obtain ⟨r5, hr5, h⟩ := Option.bind_eq_some_iff.mp h
          refine ev_cv (rest := []) rfl rfl (congrArg Prod.fst hk_t0) rfl (ok_fX2_pop hk_t0 hr5) ?_
          show Ev XL xs _ 32 (ev_M r5.2 c w) 58 [(4, .int r2.1), (0, .ref t0), (1, .ref 583), (2, .int x2), (3, .int x3)] [.int r5.1] _
          cases h
          exact ev_r 1 (fun n => rfl)
        · refine ev_i 3 (M1 := ev_M r2.2 c w) (pc1 := 66) (lv1 := [(4, .int r2.1), (0, .ref t0), (1, .ref 583), (2, .int x2), (3, .int x3)]) (st1 := []) (M2 := ev_M r2.2 c w) (pc2 := 82) (lv2 := [(4, .int r2.1), (0, .ref t0), (1, .ref 583), (2, .int x2), (3, .int x3)]) (st2 := []) (fun n => rfl) h (fun hc6 h => ?_) (fun hc6 h => ?_)
          · refine ev_s 1 (M' := ev_M r2.2 c w) (pc' := 67) (lv' := [(4, .int r2.1), (0, .ref t0), (1, .ref 583), (2, .int x2), (3, .int x3)]) (st' := [.ref t0]) (fun n => rfl) ?_
            obtain ⟨r7, hr7, h⟩ := Option.bind_eq_some_iff.mp h
            refine ev_cv (rest := []) rfl rfl (congrArg Prod.fst hk_t0) rfl (ok_fX2_pop hk_t0 hr7) ?_
            show Ev XL xs _ 32 (ev_M r7.2 c w) 70 [(4, .int r2.1), (0, .ref t0), (1, .ref 583), (2, .int x2), (3, .int x3)] [.int r7.1] _
            refine ev_i 1 (M1 := ev_M r7.2 c w) (pc1 := 73) (lv1 := [(4, .int r2.1), (0, .ref t0), (1, .ref 583), (2, .int x2), (3, .int x3)]) (st1 := []) (M2 := ev_M r7.2 c w) (pc2 := 77) (lv2 := [(4, .int r2.1), (0, .ref t0), (1, .ref 583), (2, .int x2), (3, .int x3)]) (st2 := []) (fun n => rfl) h (fun hc8 h => ?_) (fun hc8 h => ?_)
            · refine ev_s 2 (M' := ev_M r7.2 c w) (pc' := 78) (lv' := [(4, .int r2.1), (0, .ref t0), (1, .ref 583), (2, .int x2), (3, .int x3)]) (st' := [.int 1]) (fun n => rfl) ?_
              refine ev_sub (lv := [(0, .ref t0), (1, .ref 583), (3, .int x3)]) (mn_of rfl (by repeat (first | exact trivial | refine And.intro rfl ?_))) ?_
              exact ok_fX2_worth_c78 ih hk_t0 h
            · refine ev_s 1 (M' := ev_M r7.2 c w) (pc' := 78) (lv' := [(4, .int r2.1), (0, .ref t0), (1, .ref 583), (2, .int x2), (3, .int x3)]) (st' := [.int 0]) (fun n => rfl) ?_
              refine ev_sub (lv := [(0, .ref t0), (1, .ref 583), (3, .int x3)]) (mn_of rfl (by repeat (first | exact trivial | refine And.intro rfl ?_))) ?_
              exact ok_fX2_worth_c78 ih hk_t0 h
          · refine ev_i 2 (M1 := ev_M r2.2 c w) (pc1 := 96) (lv1 := [(4, .int r2.1), (0, .ref t0), (1, .ref 583), (2, .int x2), (3, .int x3)]) (st1 := []) (M2 := ev_M r2.2 c w) (pc2 := 87) (lv2 := [(4, .int r2.1), (0, .ref t0), (1, .ref 583), (2, .int x2), (3, .int x3)]) (st2 := []) (fun n => rfl) h (fun hc9 h => ?_) (fun hc9 h => ?_)
            · obtain ⟨r10, hr10, h⟩ := Option.bind_eq_some_iff.mp h
              refine ev_c 3 (y' := 31) (M1 := ev_M r2.2 c w) (la := lv_args 0 [.int (-r2.1)]) (rest := []) (pc' := 102) (lv' := [(4, .int r2.1), (0, .ref t0), (1, .ref 583), (2, .int x2), (3, .int x3)]) (fun n => rfl) (ok_fX2_isLetter hr10) ?_
              show Ev XL xs _ 32 (ev_M r10.2 c w) 102 [(4, .int r2.1), (0, .ref t0), (1, .ref 583), (2, .int x2), (3, .int x3)] [.int r10.1] _
              refine ev_i 1 (M1 := ev_M r10.2 c w) (pc1 := 119) (lv1 := [(4, .int r2.1), (0, .ref t0), (1, .ref 583), (2, .int x2), (3, .int x3)]) (st1 := []) (M2 := ev_M r10.2 c w) (pc2 := 105) (lv2 := [(4, .int r2.1), (0, .ref t0), (1, .ref 583), (2, .int x2), (3, .int x3)]) (st2 := []) (fun n => rfl) h (fun hc11 h => ?_) (fun hc11 h => ?_)
              · refine ev_i 3 (M1 := ev_M r10.2 c w) (pc1 := 126) (lv1 := [(4, .int r2.1), (0, .ref t0), (1, .ref 583), (2, .int x2), (3, .int x3)]) (st1 := []) (M2 := ev_M r10.2 c w) (pc2 := 145) (lv2 := [(4, .int r2.1), (0, .ref t0), (1, .ref 583), (2, .int x2), (3, .int x3)]) (st2 := []) (fun n => rfl) h (fun hc12 h => ?_) (fun hc12 h => ?_)
                · refine ev_s 2 (M' := ev_M r10.2 c w) (pc' := 128) (lv' := [(4, .int r2.1), (0, .ref t0), (1, .ref 583), (2, .int x2), (3, .int x3)]) (st' := [.ref t0, .ref t0]) (fun n => rfl) ?_
                  obtain ⟨r13, hr13, h⟩ := Option.bind_eq_some_iff.mp h
                  refine ev_cv (rest := [.ref t0]) rfl rfl (congrArg Prod.fst hk_t0) rfl (ok_fX2_pop hk_t0 hr13) ?_
                  show Ev XL xs _ 32 (ev_M r13.2 c w) 131 [(4, .int r2.1), (0, .ref t0), (1, .ref 583), (2, .int x2), (3, .int x3)] [.int r13.1, .ref t0] _
                  refine ev_i 1 (M1 := ev_M r13.2 c w) (pc1 := 134) (lv1 := [(4, .int r2.1), (0, .ref t0), (1, .ref 583), (2, .int x2), (3, .int x3)]) (st1 := [.ref t0]) (M2 := ev_M r13.2 c w) (pc2 := 138) (lv2 := [(4, .int r2.1), (0, .ref t0), (1, .ref 583), (2, .int x2), (3, .int x3)]) (st2 := [.ref t0]) (fun n => rfl) h (fun hc14 h => ?_) (fun hc14 h => ?_)
                  · refine ev_s 2 (M' := ev_M r13.2 c w) (pc' := 139) (lv' := [(4, .int r2.1), (0, .ref t0), (1, .ref 583), (2, .int x2), (3, .int x3)]) (st' := [.int 1, .ref t0]) (fun n => rfl) ?_
                    refine ev_sub (lv := [(0, .ref t0), (1, .ref 583), (2, .int x2), (3, .int x3)]) (mn_of rfl (by repeat (first | exact trivial | refine And.intro rfl ?_))) ?_
                    exact ok_fX2_worth_c139 ih hk_t0 hk_t0 h
                  · refine ev_s 1 (M' := ev_M r13.2 c w) (pc' := 139) (lv' := [(4, .int r2.1), (0, .ref t0), (1, .ref 583), (2, .int x2), (3, .int x3)]) (st' := [.int 0, .ref t0]) (fun n => rfl) ?_
                    refine ev_sub (lv := [(0, .ref t0), (1, .ref 583), (2, .int x2), (3, .int x3)]) (mn_of rfl (by repeat (first | exact trivial | refine And.intro rfl ?_))) ?_
                    exact ok_fX2_worth_c139 ih hk_t0 hk_t0 h
                · refine ev_s 1 (M' := ev_M r10.2 c w) (pc' := 146) (lv' := [(4, .int r2.1), (0, .ref t0), (1, .ref 583), (2, .int x2), (3, .int x3)]) (st' := [.ref t0]) (fun n => rfl) ?_
                  obtain ⟨r15, hr15, h⟩ := Option.bind_eq_some_iff.mp h
                  refine ev_cv (rest := []) rfl rfl (congrArg Prod.fst hk_t0) rfl (ok_fX2_pop hk_t0 hr15) ?_
                  show Ev XL xs _ 32 (ev_M r15.2 c w) 149 [(4, .int r2.1), (0, .ref t0), (1, .ref 583), (2, .int x2), (3, .int x3)] [.int r15.1] _
                  refine ev_s 3 (M' := ev_M r15.2 c w) (pc' := 153) (lv' := [(5, .int r15.1), (4, .int r2.1), (0, .ref t0), (1, .ref 583), (2, .int x2), (3, .int x3)]) (st' := [.ref t0, .ref t0]) (fun n => rfl) ?_
                  obtain ⟨r16, hr16, h⟩ := Option.bind_eq_some_iff.mp h
                  refine ev_cv (rest := [.ref t0]) rfl rfl (congrArg Prod.fst hk_t0) rfl (ok_fX2_pop hk_t0 hr16) ?_
                  show Ev XL xs _ 32 (ev_M r16.2 c w) 156 [(5, .int r15.1), (4, .int r2.1), (0, .ref t0), (1, .ref 583), (2, .int x2), (3, .int x3)] [.int r16.1, .ref t0] _
                  obtain ⟨r17, hr17, h⟩ := Option.bind_eq_some_iff.mp h
                  refine ev_c 4 (y' := 36) (M1 := ev_M r16.2 c w) (la := lv_args 0 [.int r16.1, .int r15.1, .int (-r2.1)]) (rest := [.ref t0]) (pc' := 164) (lv' := [(5, .int r15.1), (4, .int r2.1), (0, .ref t0), (1, .ref 583), (2, .int x2), (3, .int x3)]) (fun n => rfl) (ok_fX2_joined hr17) ?_
                  show Ev XL xs _ 32 (ev_M r17.2 c w) 164 [(5, .int r15.1), (4, .int r2.1), (0, .ref t0), (1, .ref 583), (2, .int x2), (3, .int x3)] [.int r17.1, .ref t0] _
                  obtain ⟨r18, hr18, h⟩ := Option.bind_eq_some_iff.mp h
                  refine ev_cv (rest := []) rfl rfl (congrArg Prod.fst hk_t0) rfl (ok_fX2_push hk_t0 hr18) ?_
                  show Ev XL xs _ 32 (ev_M r18 c w) 167 [(5, .int r15.1), (4, .int r2.1), (0, .ref t0), (1, .ref 583), (2, .int x2), (3, .int x3)] [] _
                  refine ev_sub (lv := [(0, .ref t0), (1, .ref 583), (2, .int x2), (3, .int x3)]) (mn_of rfl (by repeat (first | exact trivial | refine And.intro rfl ?_))) ?_
                  exact ok_fX2_worth_c167 ih hk_t0 h
              · obtain ⟨r19, hr19, h⟩ := Option.bind_eq_some_iff.mp h
                refine ev_c 5 (y' := 35) (M1 := ev_M r10.2 c w) (la := lv_args 0 [.ref 583, .int (-r2.1)]) (rest := [.ref t0]) (pc' := 113) (lv' := [(4, .int r2.1), (0, .ref t0), (1, .ref 583), (2, .int x2), (3, .int x3)]) (fun n => rfl) (ok_fX2_letter hr19) ?_
                show Ev XL xs _ 32 (ev_M r19.2 c w) 113 [(4, .int r2.1), (0, .ref t0), (1, .ref 583), (2, .int x2), (3, .int x3)] [.int r19.1, .ref t0] _
                obtain ⟨r20, hr20, h⟩ := Option.bind_eq_some_iff.mp h
                refine ev_cv (rest := []) rfl rfl (congrArg Prod.fst hk_t0) rfl (ok_fX2_push hk_t0 hr20) ?_
                show Ev XL xs _ 32 (ev_M r20 c w) 116 [(4, .int r2.1), (0, .ref t0), (1, .ref 583), (2, .int x2), (3, .int x3)] [] _
                refine ev_s 1 (M' := ev_M r20 c w) (pc' := 167) (lv' := [(4, .int r2.1), (0, .ref t0), (1, .ref 583), (2, .int x2), (3, .int x3)]) (st' := []) (fun n => rfl) ?_
                refine ev_sub (lv := [(0, .ref t0), (1, .ref 583), (2, .int x2), (3, .int x3)]) (mn_of rfl (by repeat (first | exact trivial | refine And.intro rfl ?_))) ?_
                exact ok_fX2_worth_c167 ih hk_t0 h
            · refine ev_s 2 (M' := ev_M r2.2 c w) (pc' := 90) (lv' := [(4, .int r2.1), (0, .ref t0), (1, .ref 583), (2, .int x2), (3, .int x3)]) (st' := [.int r2.1, .ref t0]) (fun n => rfl) ?_
              obtain ⟨r21, hr21, h⟩ := Option.bind_eq_some_iff.mp h
              refine ev_cv (rest := []) rfl rfl (congrArg Prod.fst hk_t0) rfl (ok_fX2_push hk_t0 hr21) ?_
              show Ev XL xs _ 32 (ev_M r21 c w) 93 [(4, .int r2.1), (0, .ref t0), (1, .ref 583), (2, .int x2), (3, .int x3)] [] _
              refine ev_s 1 (M' := ev_M r21 c w) (pc' := 167) (lv' := [(4, .int r2.1), (0, .ref t0), (1, .ref 583), (2, .int x2), (3, .int x3)]) (st' := []) (fun n => rfl) ?_
              refine ev_sub (lv := [(0, .ref t0), (1, .ref 583), (2, .int x2), (3, .int x3)]) (mn_of rfl (by repeat (first | exact trivial | refine And.intro rfl ?_))) ?_
              exact ok_fX2_worth_c167 ih hk_t0 h
      · refine ev_i 3 (M1 := ev_M r2.2 c w) (pc1 := 42) (lv1 := [(4, .int r2.1), (0, .ref t0), (1, .ref 583), (2, .int x2), (3, .int x3)]) (st1 := []) (M2 := ev_M r2.2 c w) (pc2 := 38) (lv2 := [(4, .int r2.1), (0, .ref t0), (1, .ref 583), (2, .int x2), (3, .int x3)]) (st2 := []) (fun n => rfl) h (fun hc22 h => ?_) (fun hc22 h => ?_)
        · refine ev_s 1 (M' := ev_M r2.2 c w) (pc' := 43) (lv' := [(4, .int r2.1), (0, .ref t0), (1, .ref 583), (2, .int x2), (3, .int x3)]) (st' := [.int 0]) (fun n => rfl) ?_
          refine ev_sub (lv := [(0, .ref t0), (1, .ref 583), (3, .int x3)]) (mn_of rfl (by repeat (first | exact trivial | refine And.intro rfl ?_))) ?_
          exact ok_fX2_worth_c43 ih hk_t0 h
        · refine ev_s 2 (M' := ev_M r2.2 c w) (pc' := 43) (lv' := [(4, .int r2.1), (0, .ref t0), (1, .ref 583), (2, .int x2), (3, .int x3)]) (st' := [.int 1]) (fun n => rfl) ?_
          refine ev_sub (lv := [(0, .ref t0), (1, .ref 583), (3, .int x3)]) (mn_of rfl (by repeat (first | exact trivial | refine And.intro rfl ?_))) ?_
          exact ok_fX2_worth_c43 ih hk_t0 h
    · cases h
      exact ev_r 2 (fun n => rfl)
def fX2_worth (m : mm_MM) (t0 : Nat) : Option (Int32 × mm_MM) :=
  fX2_worth_c9 fu (wI m t0 3 0) t0 0 0
set_option maxRecDepth 20000 in
theorem ok_fX2_worth {m : mm_MM} {t0 : Nat} {q0 : Int32 × mm_MM} (hk_t0 : mm_kd t0 = (2, 4)) (h : fX2_worth m t0 = some q0) : Ev XL xs (d + 2) 32 (ev_M m c w) 0 (lv_args 0 [.ref t0, .ref 583]) [] (fr_i c w q0) := by
  unfold fX2_worth at h
  refine ev_s 4 (M' := ev_M m c w) (pc' := 4) (lv' := [(2, .int 0), (0, .ref t0), (1, .ref 583)]) (st' := [.int 0, .ref t0]) (fun n => rfl) ?_
  refine ev_pfi rfl (congrArg Prod.fst hk_t0) rfl rfl rfl ?_
  refine ev_s 2 (M' := ev_M (wI m t0 3 0) c w) (pc' := 9) (lv' := [(3, .int 0), (2, .int 0), (0, .ref t0), (1, .ref 583)]) (st' := []) (fun n => rfl) ?_
  refine ev_sub (lv := [(0, .ref t0), (1, .ref 583), (2, .int 0), (3, .int 0)]) (mn_of rfl (by repeat (first | exact trivial | refine And.intro rfl ?_))) ?_
  exact ok_fX2_worth_c9 fu _ _ _ _ _ hk_t0 h
def fX3_size (m : mm_MM) : Option (Int32 × mm_MM) :=
  some (m.1 55 2, m)
theorem ok_fX3_size {m : mm_MM} {q0 : Int32 × mm_MM} (h : fX3_size m = some q0) : Ev XL xs d 39 (ev_M m c w) 0 (lv_args 0 [.ref 55]) [] (fr_i c w q0) := by
  unfold fX3_size at h
  cases h
  exact ev_r 3 (fun n => rfl)
def fX3_forget (m : mm_MM) : Option (mm_MM) :=
  some (wI m 55 2 0)
theorem ok_fX3_forget {m : mm_MM} {q0 : mm_MM} (h : fX3_forget m = some q0) : Ev XL xs d 40 (ev_M m c w) 0 (lv_args 0 [.ref 55]) [] (fr_v c w q0) := by
  unfold fX3_forget at h
  cases h
  exact ev_r 4 (fun n => rfl)
def fX3_at_c33 (m : mm_MM) (s0 : Option Nat) : Option (Option Nat × mm_MM) :=
  match s0 with
  | none =>
    some (none, m)
  | some u1 =>
    if mm_kd u1 = (7, 8) then
      some (some u1, m)
    else none
theorem ok_fX3_at_c33 {m : mm_MM} {s0 : Option Nat} {q0 : Option Nat × mm_MM} (h : fX3_at_c33 m s0 = some q0) : Ev XL xs d 43 (ev_M m c w) 33 [] [va_rf s0] (fr_r c w q0) := by
  unfold fX3_at_c33 at h
  cases s0 with
  | none =>
    cases h
    exact ev_r 1 (fun n => rfl)
  | some u1 =>
    obtain ⟨hk_u1, h⟩ := sd_ift h
    cases h
    exact ev_r 1 (fun n => rfl)
def fX3_at_c32 (m : mm_MM) : Option (Option Nat × mm_MM) :=
  fX3_at_c33 m none
theorem ok_fX3_at_c32 {m : mm_MM} {q0 : Option Nat × mm_MM} (h : fX3_at_c32 m = some q0) : Ev XL xs d 43 (ev_M m c w) 32 [] [] (fr_r c w q0) := by
  unfold fX3_at_c32 at h
  refine ev_s 1 (M' := ev_M m c w) (pc' := 33) (lv' := []) (st' := [va_rf none]) (fun n => rfl) ?_
  exact ok_fX3_at_c33 h
def fX3_at (m : mm_MM) (x1 : Int32) : Option (Option Nat × mm_MM) :=
  (if (((m.1 55 1 + x1) : Int32) - (m.1 55 1 + x1) / 40 * 40) < 0 then
    fX3_at_c32 m
   else
    (if (((m.1 55 1 + x1) : Int32) - (m.1 55 1 + x1) / 40 * 40) < 40 then
      (if (((m.1 55 1 + x1) : Int32) - (m.1 55 1 + x1) / 40 * 40) < 0 ∨ 40 ≤ (((m.1 55 1 + x1) : Int32) - (m.1 55 1 + x1) / 40 * 40).toNatClampNeg then none else
       fX3_at_c33 m (some (57 + 13 * (((m.1 55 1 + x1) : Int32) - (m.1 55 1 + x1) / 40 * 40).toNatClampNeg)))
     else
      fX3_at_c32 m))
theorem ok_fX3_at {m : mm_MM} {x1 : Int32} {q0 : Option Nat × mm_MM} (h : fX3_at m x1 = some q0) : Ev XL xs d 43 (ev_M m c w) 0 (lv_args 0 [.ref 55, .int x1]) [] (fr_r c w q0) := by
  unfold fX3_at at h
  refine ev_i 9 (M1 := ev_M m c w) (pc1 := 32) (lv1 := [(2, .int (((m.1 55 1 + x1) : Int32) - (m.1 55 1 + x1) / 40 * 40)), (0, .ref 55), (1, .int x1)]) (st1 := []) (M2 := ev_M m c w) (pc2 := 14) (lv2 := [(2, .int (((m.1 55 1 + x1) : Int32) - (m.1 55 1 + x1) / 40 * 40)), (0, .ref 55), (1, .int x1)]) (st2 := []) (fun n => rfl) h (fun hc1 h => ?_) (fun hc1 h => ?_)
  · refine ev_sub (lv := []) (mn_of rfl (by repeat (first | exact trivial | refine And.intro rfl ?_))) ?_
    exact ok_fX3_at_c32 h
  · refine ev_i 5 (M1 := ev_M m c w) (pc1 := 23) (lv1 := [(2, .int (((m.1 55 1 + x1) : Int32) - (m.1 55 1 + x1) / 40 * 40)), (0, .ref 55), (1, .int x1)]) (st1 := []) (M2 := ev_M m c w) (pc2 := 32) (lv2 := [(2, .int (((m.1 55 1 + x1) : Int32) - (m.1 55 1 + x1) / 40 * 40)), (0, .ref 55), (1, .int x1)]) (st2 := []) (fun n => rfl) h (fun hc2 h => ?_) (fun hc2 h => ?_)
    · refine ev_s 3 (M' := ev_M m c w) (pc' := 28) (lv' := [(2, .int (((m.1 55 1 + x1) : Int32) - (m.1 55 1 + x1) / 40 * 40)), (0, .ref 55), (1, .int x1)]) (st' := [.int (((m.1 55 1 + x1) : Int32) - (m.1 55 1 + x1) / 40 * 40), .ref 56]) (fun n => rfl) ?_
      refine ev_aa (n := 40) (b := (57 + 13 * (((m.1 55 1 + x1) : Int32) - (m.1 55 1 + x1) / 40 * 40).toNatClampNeg)) rfl (by rw [(congrArg Prod.fst (rfl : mm_kd 56 = (37, 40)))]; decide) (congrArg Prod.snd (rfl : mm_kd 56 = (37, 40))) h (fun hj => tr_P _ hj |>.1) (fun hx3 h => ?_)
      refine ev_s 1 (M' := ev_M m c w) (pc' := 33) (lv' := [(2, .int (((m.1 55 1 + x1) : Int32) - (m.1 55 1 + x1) / 40 * 40)), (0, .ref 55), (1, .int x1)]) (st' := [va_rf (some (57 + 13 * (((m.1 55 1 + x1) : Int32) - (m.1 55 1 + x1) / 40 * 40).toNatClampNeg))]) (fun n => rfl) ?_
      refine ev_sub (lv := []) (mn_of rfl (by repeat (first | exact trivial | refine And.intro rfl ?_))) ?_
      exact ok_fX3_at_c33 h
    · refine ev_sub (lv := []) (mn_of rfl (by repeat (first | exact trivial | refine And.intro rfl ?_))) ?_
      exact ok_fX3_at_c32 h
def fX7_slot_c23 (m : mm_MM) (s0 : Option Nat) : Option (Option Nat × mm_MM) :=
  match s0 with
  | none =>
    some (none, m)
  | some u1 =>
    if mm_kd u1 = (9, 6) then
      some (some u1, m)
    else none
theorem ok_fX7_slot_c23 {m : mm_MM} {s0 : Option Nat} {q0 : Option Nat × mm_MM} (h : fX7_slot_c23 m s0 = some q0) : Ev XL xs d 68 (ev_M m c w) 23 [] [va_rf s0] (fr_r c w q0) := by
  unfold fX7_slot_c23 at h
  cases s0 with
  | none =>
    cases h
    exact ev_r 1 (fun n => rfl)
  | some u1 =>
    obtain ⟨hk_u1, h⟩ := sd_ift h
    cases h
    exact ev_r 1 (fun n => rfl)
def fX7_slot_c22 (m : mm_MM) : Option (Option Nat × mm_MM) :=
  fX7_slot_c23 m none
theorem ok_fX7_slot_c22 {m : mm_MM} {q0 : Option Nat × mm_MM} (h : fX7_slot_c22 m = some q0) : Ev XL xs d 68 (ev_M m c w) 22 [] [] (fr_r c w q0) := by
  unfold fX7_slot_c22 at h
  refine ev_s 1 (M' := ev_M m c w) (pc' := 23) (lv' := []) (st' := [va_rf none]) (fun n => rfl) ?_
  exact ok_fX7_slot_c23 h
def fX7_slot (m : mm_MM) (t0 : Nat) (x1 : Int32) : Option (Option Nat × mm_MM) :=
  (if x1 < 0 then
    fX7_slot_c22 m
   else
    (if x1 < 8 then
      (if x1 < 0 ∨ 8 ≤ x1.toNatClampNeg then none else
       fX7_slot_c23 m (some (t0 + 5 + x1.toNatClampNeg)))
     else
      fX7_slot_c22 m))
theorem ok_fX7_slot {m : mm_MM} {t0 : Nat} {x1 : Int32} {q0 : Option Nat × mm_MM} (hk_t0 : mm_kd t0 = (7, 8)) (h : fX7_slot m t0 x1 = some q0) : Ev XL xs d 68 (ev_M m c w) 0 (lv_args 0 [.ref t0, .int x1]) [] (fr_r c w q0) := by
  unfold fX7_slot at h
  refine ev_i 2 (M1 := ev_M m c w) (pc1 := 22) (lv1 := [(0, .ref t0), (1, .int x1)]) (st1 := []) (M2 := ev_M m c w) (pc2 := 4) (lv2 := [(0, .ref t0), (1, .int x1)]) (st2 := []) (fun n => rfl) h (fun hc1 h => ?_) (fun hc1 h => ?_)
  · refine ev_sub (lv := []) (mn_of rfl (by repeat (first | exact trivial | refine And.intro rfl ?_))) ?_
    exact ok_fX7_slot_c22 h
  · refine ev_s 2 (M' := ev_M m c w) (pc' := 6) (lv' := [(0, .ref t0), (1, .int x1)]) (st' := [.ref t0, .int x1]) (fun n => rfl) ?_
    refine ev_gf (x := .ref (t0 + 1)) rfl (congrArg Prod.fst hk_t0) rfl (congrArg va_rf (tr_Sx0 hk_t0)) ?_
    refine ev_al (n := 8) rfl (by rw [(congrArg Prod.fst (kd_S1 hk_t0))]; decide) (congrArg Prod.snd (kd_S1 hk_t0)) ?_
    refine ev_i 1 (M1 := ev_M m c w) (pc1 := 13) (lv1 := [(0, .ref t0), (1, .int x1)]) (st1 := []) (M2 := ev_M m c w) (pc2 := 22) (lv2 := [(0, .ref t0), (1, .int x1)]) (st2 := []) (fun n => rfl) h (fun hc2 h => ?_) (fun hc2 h => ?_)
    · refine ev_s 1 (M' := ev_M m c w) (pc' := 14) (lv' := [(0, .ref t0), (1, .int x1)]) (st' := [.ref t0]) (fun n => rfl) ?_
      refine ev_gf (x := .ref (t0 + 1)) rfl (congrArg Prod.fst hk_t0) rfl (congrArg va_rf (tr_Sx0 hk_t0)) ?_
      refine ev_s 1 (M' := ev_M m c w) (pc' := 18) (lv' := [(0, .ref t0), (1, .int x1)]) (st' := [.int x1, .ref (t0 + 1)]) (fun n => rfl) ?_
      refine ev_aa (n := 8) (b := (t0 + 5 + x1.toNatClampNeg)) rfl (by rw [(congrArg Prod.fst (kd_S1 hk_t0))]; decide) (congrArg Prod.snd (kd_S1 hk_t0)) h (fun hj => tr_Se hk_t0 hj) (fun hx3 h => ?_)
      refine ev_s 1 (M' := ev_M m c w) (pc' := 23) (lv' := [(0, .ref t0), (1, .int x1)]) (st' := [va_rf (some (t0 + 5 + x1.toNatClampNeg))]) (fun n => rfl) ?_
      refine ev_sub (lv := []) (mn_of rfl (by repeat (first | exact trivial | refine And.intro rfl ?_))) ?_
      exact ok_fX7_slot_c23 h
    · refine ev_sub (lv := []) (mn_of rfl (by repeat (first | exact trivial | refine And.intro rfl ?_))) ?_
      exact ok_fX7_slot_c22 h
def fX7_copy_c36 (kr2 : mm_MM → Nat → Nat → Int32 → Option (mm_MM)) (m : mm_MM) (t0 : Nat) (t1 : Nat) (x2 : Int32) : Option (mm_MM) :=
  kr2 m t0 t1 (x2 + 1)
set_option maxRecDepth 20000 in
theorem ok_fX7_copy_c36 {kr2 : mm_MM → Nat → Nat → Int32 → Option (mm_MM)} (hkr2 : ∀ (m : mm_MM) (t0 : Nat) (t1 : Nat) (x2 : Int32) (q0 : mm_MM) (hk_t0 : mm_kd t0 = (7, 8)) (hk_t1 : mm_kd t1 = (7, 8)), kr2 m t0 t1 x2 = some q0 → Ev XL xs (d + 1) 74 (ev_M m c w) 2 [(0, .ref t0), (1, .ref t1), (2, .int x2)] [] (fr_v c w q0)) {m : mm_MM} {t0 : Nat} {t1 : Nat} {x2 : Int32} {q0 : mm_MM} (hk_t0 : mm_kd t0 = (7, 8)) (hk_t1 : mm_kd t1 = (7, 8)) (h : fX7_copy_c36 kr2 m t0 t1 x2 = some q0) : Ev XL xs (d + 1) 74 (ev_M m c w) 36 [(0, .ref t0), (1, .ref t1), (2, .int x2)] [] (fr_v c w q0) := by
  unfold fX7_copy_c36 at h
  refine ev_s 2 (M' := ev_M m c w) (pc' := 2) (lv' := [(2, .int (x2 + 1)), (0, .ref t0), (1, .ref t1)]) (st' := []) (fun n => rfl) ?_
  refine ev_sub (lv := [(0, .ref t0), (1, .ref t1), (2, .int (x2 + 1))]) (mn_of rfl (by repeat (first | exact trivial | refine And.intro rfl ?_))) ?_
  exact hkr2 _ _ _ _ _ hk_t0 hk_t1 h
def fX7_copy_c2 : Nat → mm_MM → Nat → Nat → Int32 → Option (mm_MM)
  | 0 => fun _ _ _ _ => none
  | n + 1 => fun m t0 t1 x2 =>
    (if x2 < 8 then
      (fX7_slot m t0 x2).bind fun r2 =>
       match r2.1 with
       | none =>
         (fX7_slot r2.2 t1 x2).bind fun r4 =>
          match r4.1 with
          | none =>
            fX7_copy_c36 (fX7_copy_c2 n) r4.2 t0 t1 x2
          | some u5 =>
            if mm_kd u5 = (9, 6) then
              fX7_copy_c36 (fX7_copy_c2 n) r4.2 t0 t1 x2
            else none
       | some u3 =>
         if mm_kd u3 = (9, 6) then
           (fX7_slot r2.2 t1 x2).bind fun r7 =>
            match r7.1 with
            | none =>
              fX7_copy_c36 (fX7_copy_c2 n) r7.2 t0 t1 x2
            | some u8 =>
              if mm_kd u8 = (9, 6) then
                (fX9_copy r7.2 u3 u8).bind fun r9 =>
                 fX7_copy_c36 (fX7_copy_c2 n) r9 t0 t1 x2
              else none
         else none
     else
      (fX10_copyRow m (t1 + 2) (t0 + 2)).bind fun r12 =>
       (fX10_copyRow r12 (t1 + 3) (t0 + 3)).bind fun r13 =>
        (fX10_copyRow r13 (t1 + 4) (t0 + 4)).bind fun r14 =>
         some (wI (wI (wI (wI r14 t0 4 (r14.1 t1 4)) t0 5 ((wI r14 t0 4 (r14.1 t1 4)).1 t1 5)) t0 6 ((wI (wI r14 t0 4 (r14.1 t1 4)) t0 5 ((wI r14 t0 4 (r14.1 t1 4)).1 t1 5)).1 t1 6)) t0 7 ((wI (wI (wI r14 t0 4 (r14.1 t1 4)) t0 5 ((wI r14 t0 4 (r14.1 t1 4)).1 t1 5)) t0 6 ((wI (wI r14 t0 4 (r14.1 t1 4)) t0 5 ((wI r14 t0 4 (r14.1 t1 4)).1 t1 5)).1 t1 6)).1 t1 7)))
set_option maxRecDepth 20000 in
theorem ok_fX7_copy_c2 : ∀ (n : Nat) (m : mm_MM) (t0 : Nat) (t1 : Nat) (x2 : Int32) (q0 : mm_MM) (hk_t0 : mm_kd t0 = (7, 8)) (hk_t1 : mm_kd t1 = (7, 8)), fX7_copy_c2 n m t0 t1 x2 = some q0 → Ev XL xs (d + 1) 74 (ev_M m c w) 2 [(0, .ref t0), (1, .ref t1), (2, .int x2)] [] (fr_v c w q0) := by
  intro n
  induction n with
  | zero => intro m t0 t1 x2 q0 hk_t0 hk_t1 h; exact absurd (show (none : Option (mm_MM)) = some q0 from h) (by simp)
  | succ n ih =>
    intro m t0 t1 x2 q0 hk_t0 hk_t1 h
    unfold fX7_copy_c2 at h
    refine ev_i 3 (M1 := ev_M m c w) (pc1 := 8) (lv1 := [(0, .ref t0), (1, .ref t1), (2, .int x2)]) (st1 := []) (M2 := ev_M m c w) (pc2 := 42) (lv2 := [(0, .ref t0), (1, .ref t1), (2, .int x2)]) (st2 := []) (fun n => rfl) h (fun hc1 h => ?_) (fun hc1 h => ?_)
    · refine ev_s 2 (M' := ev_M m c w) (pc' := 10) (lv' := [(0, .ref t0), (1, .ref t1), (2, .int x2)]) (st' := [.int x2, .ref t0]) (fun n => rfl) ?_
      obtain ⟨r2, hr2, h⟩ := Option.bind_eq_some_iff.mp h
      refine ev_cv (rest := []) rfl rfl (congrArg Prod.fst hk_t0) rfl (ok_fX7_slot hk_t0 hr2) ?_
      show Ev XL xs _ 74 (ev_M r2.2 c w) 13 [(0, .ref t0), (1, .ref t1), (2, .int x2)] [va_rf r2.1] _
      generalize r2.1 = o11 at h ⊢
      cases o11 with
      | none =>
        refine ev_s 3 (M' := ev_M r2.2 c w) (pc' := 16) (lv' := [(3, .null), (0, .ref t0), (1, .ref t1), (2, .int x2)]) (st' := [.int x2, .ref t1]) (fun n => rfl) ?_
        obtain ⟨r4, hr4, h⟩ := Option.bind_eq_some_iff.mp h
        refine ev_cv (rest := []) rfl rfl (congrArg Prod.fst hk_t1) rfl (ok_fX7_slot hk_t1 hr4) ?_
        show Ev XL xs _ 74 (ev_M r4.2 c w) 19 [(3, .null), (0, .ref t0), (1, .ref t1), (2, .int x2)] [va_rf r4.1] _
        generalize r4.1 = o6 at h ⊢
        cases o6 with
        | none =>
          refine ev_s 3 (M' := ev_M r4.2 c w) (pc' := 36) (lv' := [(4, .null), (3, .null), (0, .ref t0), (1, .ref t1), (2, .int x2)]) (st' := []) (fun n => rfl) ?_
          refine ev_sub (lv := [(0, .ref t0), (1, .ref t1), (2, .int x2)]) (mn_of rfl (by repeat (first | exact trivial | refine And.intro rfl ?_))) ?_
          exact ok_fX7_copy_c36 ih hk_t0 hk_t1 h
        | some u5 =>
          obtain ⟨hk_u5, h⟩ := sd_ift h
          refine ev_s 3 (M' := ev_M r4.2 c w) (pc' := 36) (lv' := [(4, .ref u5), (3, .null), (0, .ref t0), (1, .ref t1), (2, .int x2)]) (st' := []) (fun n => rfl) ?_
          refine ev_sub (lv := [(0, .ref t0), (1, .ref t1), (2, .int x2)]) (mn_of rfl (by repeat (first | exact trivial | refine And.intro rfl ?_))) ?_
          exact ok_fX7_copy_c36 ih hk_t0 hk_t1 h
      | some u3 =>
        obtain ⟨hk_u3, h⟩ := sd_ift h
        refine ev_s 3 (M' := ev_M r2.2 c w) (pc' := 16) (lv' := [(3, .ref u3), (0, .ref t0), (1, .ref t1), (2, .int x2)]) (st' := [.int x2, .ref t1]) (fun n => rfl) ?_
        obtain ⟨r7, hr7, h⟩ := Option.bind_eq_some_iff.mp h
        refine ev_cv (rest := []) rfl rfl (congrArg Prod.fst hk_t1) rfl (ok_fX7_slot hk_t1 hr7) ?_
        show Ev XL xs _ 74 (ev_M r7.2 c w) 19 [(3, .ref u3), (0, .ref t0), (1, .ref t1), (2, .int x2)] [va_rf r7.1] _
        generalize r7.1 = o10 at h ⊢
        cases o10 with
        | none =>
          refine ev_s 5 (M' := ev_M r7.2 c w) (pc' := 36) (lv' := [(4, .null), (3, .ref u3), (0, .ref t0), (1, .ref t1), (2, .int x2)]) (st' := []) (fun n => rfl) ?_
          refine ev_sub (lv := [(0, .ref t0), (1, .ref t1), (2, .int x2)]) (mn_of rfl (by repeat (first | exact trivial | refine And.intro rfl ?_))) ?_
          exact ok_fX7_copy_c36 ih hk_t0 hk_t1 h
        | some u8 =>
          obtain ⟨hk_u8, h⟩ := sd_ift h
          refine ev_s 7 (M' := ev_M r7.2 c w) (pc' := 33) (lv' := [(4, .ref u8), (3, .ref u3), (0, .ref t0), (1, .ref t1), (2, .int x2)]) (st' := [.ref u8, .ref u3]) (fun n => rfl) ?_
          obtain ⟨r9, hr9, h⟩ := Option.bind_eq_some_iff.mp h
          refine ev_cv (rest := []) rfl rfl (congrArg Prod.fst hk_u3) rfl (ok_fX9_copy hk_u3 hk_u8 hr9) ?_
          show Ev XL xs _ 74 (ev_M r9 c w) 36 [(4, .ref u8), (3, .ref u3), (0, .ref t0), (1, .ref t1), (2, .int x2)] [] _
          refine ev_sub (lv := [(0, .ref t0), (1, .ref t1), (2, .int x2)]) (mn_of rfl (by repeat (first | exact trivial | refine And.intro rfl ?_))) ?_
          exact ok_fX7_copy_c36 ih hk_t0 hk_t1 h
    · refine ev_s 1 (M' := ev_M m c w) (pc' := 43) (lv' := [(0, .ref t0), (1, .ref t1), (2, .int x2)]) (st' := [.ref t1]) (fun n => rfl) ?_
      refine ev_gf (x := .ref (t1 + 2)) rfl (congrArg Prod.fst hk_t1) rfl (congrArg va_rf (tr_Sx1 hk_t1)) ?_
      refine ev_s 1 (M' := ev_M m c w) (pc' := 47) (lv' := [(0, .ref t0), (1, .ref t1), (2, .int x2)]) (st' := [.ref t0, .ref (t1 + 2)]) (fun n => rfl) ?_
      refine ev_gf (x := .ref (t0 + 2)) rfl (congrArg Prod.fst hk_t0) rfl (congrArg va_rf (tr_Sx1 hk_t0)) ?_
      obtain ⟨r12, hr12, h⟩ := Option.bind_eq_some_iff.mp h
      refine ev_c 1 (y' := 177) (M1 := ev_M m c w) (la := lv_args 0 [.ref (t1 + 2), .ref (t0 + 2)]) (rest := []) (pc' := 53) (lv' := [(0, .ref t0), (1, .ref t1), (2, .int x2)]) (fun n => rfl) (ok_fX10_copyRow (congrArg Prod.fst (kd_S2 hk_t1)) (congrArg Prod.fst (kd_S2 hk_t0)) hr12) ?_
      show Ev XL xs _ 74 (ev_M r12 c w) 53 [(0, .ref t0), (1, .ref t1), (2, .int x2)] [] _
      refine ev_s 1 (M' := ev_M r12 c w) (pc' := 54) (lv' := [(0, .ref t0), (1, .ref t1), (2, .int x2)]) (st' := [.ref t1]) (fun n => rfl) ?_
      refine ev_gf (x := .ref (t1 + 3)) rfl (congrArg Prod.fst hk_t1) rfl (congrArg va_rf (tr_Sx2 hk_t1)) ?_
      refine ev_s 1 (M' := ev_M r12 c w) (pc' := 58) (lv' := [(0, .ref t0), (1, .ref t1), (2, .int x2)]) (st' := [.ref t0, .ref (t1 + 3)]) (fun n => rfl) ?_
      refine ev_gf (x := .ref (t0 + 3)) rfl (congrArg Prod.fst hk_t0) rfl (congrArg va_rf (tr_Sx2 hk_t0)) ?_
      obtain ⟨r13, hr13, h⟩ := Option.bind_eq_some_iff.mp h
      refine ev_c 1 (y' := 177) (M1 := ev_M r12 c w) (la := lv_args 0 [.ref (t1 + 3), .ref (t0 + 3)]) (rest := []) (pc' := 64) (lv' := [(0, .ref t0), (1, .ref t1), (2, .int x2)]) (fun n => rfl) (ok_fX10_copyRow (congrArg Prod.fst (kd_S3 hk_t1)) (congrArg Prod.fst (kd_S3 hk_t0)) hr13) ?_
      show Ev XL xs _ 74 (ev_M r13 c w) 64 [(0, .ref t0), (1, .ref t1), (2, .int x2)] [] _
      refine ev_s 1 (M' := ev_M r13 c w) (pc' := 65) (lv' := [(0, .ref t0), (1, .ref t1), (2, .int x2)]) (st' := [.ref t1]) (fun n => rfl) ?_
      refine ev_gf (x := .ref (t1 + 4)) rfl (congrArg Prod.fst hk_t1) rfl (congrArg va_rf (tr_Sx3 hk_t1)) ?_
      refine ev_s 1 (M' := ev_M r13 c w) (pc' := 69) (lv' := [(0, .ref t0), (1, .ref t1), (2, .int x2)]) (st' := [.ref t0, .ref (t1 + 4)]) (fun n => rfl) ?_
      refine ev_gf (x := .ref (t0 + 4)) rfl (congrArg Prod.fst hk_t0) rfl (congrArg va_rf (tr_Sx3 hk_t0)) ?_
      obtain ⟨r14, hr14, h⟩ := Option.bind_eq_some_iff.mp h
      refine ev_c 1 (y' := 177) (M1 := ev_M r13 c w) (la := lv_args 0 [.ref (t1 + 4), .ref (t0 + 4)]) (rest := []) (pc' := 75) (lv' := [(0, .ref t0), (1, .ref t1), (2, .int x2)]) (fun n => rfl) (ok_fX10_copyRow (congrArg Prod.fst (kd_S4 hk_t1)) (congrArg Prod.fst (kd_S4 hk_t0)) hr14) ?_
      show Ev XL xs _ 74 (ev_M r14 c w) 75 [(0, .ref t0), (1, .ref t1), (2, .int x2)] [] _
      refine ev_s 2 (M' := ev_M r14 c w) (pc' := 77) (lv' := [(0, .ref t0), (1, .ref t1), (2, .int x2)]) (st' := [.ref t1, .ref t0]) (fun n => rfl) ?_
      refine ev_gf (x := .int (r14.1 t1 4)) rfl (congrArg Prod.fst hk_t1) rfl rfl ?_
      refine ev_pfi rfl (congrArg Prod.fst hk_t0) rfl rfl rfl ?_
      refine ev_s 2 (M' := ev_M (wI r14 t0 4 (r14.1 t1 4)) c w) (pc' := 85) (lv' := [(0, .ref t0), (1, .ref t1), (2, .int x2)]) (st' := [.ref t1, .ref t0]) (fun n => rfl) ?_
      refine ev_gf (x := .int ((wI r14 t0 4 (r14.1 t1 4)).1 t1 5)) rfl (congrArg Prod.fst hk_t1) rfl rfl ?_
      refine ev_pfi rfl (congrArg Prod.fst hk_t0) rfl rfl rfl ?_
      refine ev_s 2 (M' := ev_M (wI (wI r14 t0 4 (r14.1 t1 4)) t0 5 ((wI r14 t0 4 (r14.1 t1 4)).1 t1 5)) c w) (pc' := 93) (lv' := [(0, .ref t0), (1, .ref t1), (2, .int x2)]) (st' := [.ref t1, .ref t0]) (fun n => rfl) ?_
      refine ev_gf (x := .int ((wI (wI r14 t0 4 (r14.1 t1 4)) t0 5 ((wI r14 t0 4 (r14.1 t1 4)).1 t1 5)).1 t1 6)) rfl (congrArg Prod.fst hk_t1) rfl rfl ?_
      refine ev_pfi rfl (congrArg Prod.fst hk_t0) rfl rfl rfl ?_
      refine ev_s 2 (M' := ev_M (wI (wI (wI r14 t0 4 (r14.1 t1 4)) t0 5 ((wI r14 t0 4 (r14.1 t1 4)).1 t1 5)) t0 6 ((wI (wI r14 t0 4 (r14.1 t1 4)) t0 5 ((wI r14 t0 4 (r14.1 t1 4)).1 t1 5)).1 t1 6)) c w) (pc' := 101) (lv' := [(0, .ref t0), (1, .ref t1), (2, .int x2)]) (st' := [.ref t1, .ref t0]) (fun n => rfl) ?_
      refine ev_gf (x := .int ((wI (wI (wI r14 t0 4 (r14.1 t1 4)) t0 5 ((wI r14 t0 4 (r14.1 t1 4)).1 t1 5)) t0 6 ((wI (wI r14 t0 4 (r14.1 t1 4)) t0 5 ((wI r14 t0 4 (r14.1 t1 4)).1 t1 5)).1 t1 6)).1 t1 7)) rfl (congrArg Prod.fst hk_t1) rfl rfl ?_
      refine ev_pfi rfl (congrArg Prod.fst hk_t0) rfl rfl rfl ?_
      cases h
      exact ev_r 1 (fun n => rfl)
def fX7_copy (m : mm_MM) (t0 : Nat) (t1 : Nat) : Option (mm_MM) :=
  fX7_copy_c2 fu m t0 t1 0
set_option maxRecDepth 20000 in
theorem ok_fX7_copy {m : mm_MM} {t0 : Nat} {t1 : Nat} {q0 : mm_MM} (hk_t0 : mm_kd t0 = (7, 8)) (hk_t1 : mm_kd t1 = (7, 8)) (h : fX7_copy m t0 t1 = some q0) : Ev XL xs (d + 1) 74 (ev_M m c w) 0 (lv_args 0 [.ref t0, .ref t1]) [] (fr_v c w q0) := by
  unfold fX7_copy at h
  refine ev_s 2 (M' := ev_M m c w) (pc' := 2) (lv' := [(2, .int 0), (0, .ref t0), (1, .ref t1)]) (st' := []) (fun n => rfl) ?_
  refine ev_sub (lv := [(0, .ref t0), (1, .ref t1), (2, .int 0)]) (mn_of rfl (by repeat (first | exact trivial | refine And.intro rfl ?_))) ?_
  exact ok_fX7_copy_c2 fu _ _ _ _ _ hk_t0 hk_t1 h
def fX3_keep_c53 (m : mm_MM) : Option (mm_MM) :=
  some m
theorem ok_fX3_keep_c53 {m : mm_MM} {q0 : mm_MM} (h : fX3_keep_c53 m = some q0) : Ev XL xs (d + 2) 41 (ev_M m c w) 53 [] [] (fr_v c w q0) := by
  unfold fX3_keep_c53 at h
  cases h
  exact ev_r 1 (fun n => rfl)
def fX3_keep_c18 (m : mm_MM) : Option (mm_MM) :=
  (if m.1 55 2 < 40 then
    fX3_keep_c53 (wI m 55 2 (m.1 55 2 + 1))
   else
    fX3_keep_c53 (wI m 55 1 (((m.1 55 1 + 1) : Int32) - (m.1 55 1 + 1) / 40 * 40)))
theorem ok_fX3_keep_c18 {m : mm_MM} {q0 : mm_MM} (h : fX3_keep_c18 m = some q0) : Ev XL xs (d + 2) 41 (ev_M m c w) 18 [(0, .ref 55)] [] (fr_v c w q0) := by
  unfold fX3_keep_c18 at h
  refine ev_i 4 (M1 := ev_M m c w) (pc1 := 27) (lv1 := [(0, .ref 55)]) (st1 := []) (M2 := ev_M m c w) (pc2 := 40) (lv2 := [(0, .ref 55)]) (st2 := []) (fun n => rfl) h (fun hc1 h => ?_) (fun hc1 h => ?_)
  · refine ev_s 7 (M' := ev_M (wI m 55 2 (m.1 55 2 + 1)) c w) (pc' := 53) (lv' := [(0, .ref 55)]) (st' := []) (fun n => rfl) ?_
    refine ev_sub (lv := []) (mn_of rfl (by repeat (first | exact trivial | refine And.intro rfl ?_))) ?_
    exact ok_fX3_keep_c53 h
  · refine ev_s 8 (M' := ev_M (wI m 55 1 (((m.1 55 1 + 1) : Int32) - (m.1 55 1 + 1) / 40 * 40)) c w) (pc' := 53) (lv' := [(0, .ref 55)]) (st' := []) (fun n => rfl) ?_
    refine ev_sub (lv := []) (mn_of rfl (by repeat (first | exact trivial | refine And.intro rfl ?_))) ?_
    exact ok_fX3_keep_c53 h
def fX3_keep (m : mm_MM) (t1 : Nat) : Option (mm_MM) :=
  (fX3_at m (m.1 55 2)).bind fun r1 =>
   match r1.1 with
   | none =>
     fX3_keep_c18 r1.2
   | some u2 =>
     if mm_kd u2 = (7, 8) then
       (fX7_copy r1.2 u2 t1).bind fun r3 =>
        fX3_keep_c18 r3
     else none
theorem ok_fX3_keep {m : mm_MM} {t1 : Nat} {q0 : mm_MM} (hk_t1 : mm_kd t1 = (7, 8)) (h : fX3_keep m t1 = some q0) : Ev XL xs (d + 2) 41 (ev_M m c w) 0 (lv_args 0 [.ref 55, .ref t1]) [] (fr_v c w q0) := by
  unfold fX3_keep at h
  obtain ⟨r1, hr1, h⟩ := Option.bind_eq_some_iff.mp h
  refine ev_c 4 (y' := 43) (M1 := ev_M m c w) (la := lv_args 0 [.ref 55, .int (m.1 55 2)]) (rest := []) (pc' := 8) (lv' := [(0, .ref 55), (1, .ref t1)]) (fun n => rfl) (ok_fX3_at hr1) ?_
  show Ev XL xs _ 41 (ev_M r1.2 c w) 8 [(0, .ref 55), (1, .ref t1)] [va_rf r1.1] _
  generalize r1.1 = o4 at h ⊢
  cases o4 with
  | none =>
    refine ev_s 3 (M' := ev_M r1.2 c w) (pc' := 18) (lv' := [(2, .null), (0, .ref 55), (1, .ref t1)]) (st' := []) (fun n => rfl) ?_
    refine ev_sub (lv := [(0, .ref 55)]) (mn_of rfl (by repeat (first | exact trivial | refine And.intro rfl ?_))) ?_
    exact ok_fX3_keep_c18 h
  | some u2 =>
    obtain ⟨hk_u2, h⟩ := sd_ift h
    refine ev_s 5 (M' := ev_M r1.2 c w) (pc' := 15) (lv' := [(2, .ref u2), (0, .ref 55), (1, .ref t1)]) (st' := [.ref t1, .ref u2]) (fun n => rfl) ?_
    obtain ⟨r3, hr3, h⟩ := Option.bind_eq_some_iff.mp h
    refine ev_cv (rest := []) rfl rfl (congrArg Prod.fst hk_u2) rfl (ok_fX7_copy hk_u2 hk_t1 hr3) ?_
    show Ev XL xs _ 41 (ev_M r3 c w) 18 [(2, .ref u2), (0, .ref 55), (1, .ref t1)] [] _
    refine ev_sub (lv := [(0, .ref 55)]) (mn_of rfl (by repeat (first | exact trivial | refine And.intro rfl ?_))) ?_
    exact ok_fX3_keep_c18 h
def fX3_restore_c21 (m : mm_MM) (t1 : Nat) (s0 : Option Nat) : Option (Int32 × mm_MM) :=
  match s0 with
  | none =>
    some (0, m)
  | some u1 =>
    if mm_kd u1 = (7, 8) then
      (fX7_copy m t1 u1).bind fun r2 =>
       some (1, (wI r2 55 2 (r2.1 55 2 - 1)))
    else none
theorem ok_fX3_restore_c21 {m : mm_MM} {t1 : Nat} {s0 : Option Nat} {q0 : Int32 × mm_MM} (hk_t1 : mm_kd t1 = (7, 8)) (h : fX3_restore_c21 m t1 s0 = some q0) : Ev XL xs (d + 2) 42 (ev_M m c w) 21 [(0, .ref 55), (1, .ref t1)] [va_rf s0] (fr_i c w q0) := by
  unfold fX3_restore_c21 at h
  cases s0 with
  | none =>
    cases h
    exact ev_r 5 (fun n => rfl)
  | some u1 =>
    obtain ⟨hk_u1, h⟩ := sd_ift h
    refine ev_s 5 (M' := ev_M m c w) (pc' := 30) (lv' := [(2, .ref u1), (0, .ref 55), (1, .ref t1)]) (st' := [.ref u1, .ref t1]) (fun n => rfl) ?_
    obtain ⟨r2, hr2, h⟩ := Option.bind_eq_some_iff.mp h
    refine ev_cv (rest := []) rfl rfl (congrArg Prod.fst hk_t1) rfl (ok_fX7_copy hk_t1 hk_u1 hr2) ?_
    show Ev XL xs _ 42 (ev_M r2 c w) 33 [(2, .ref u1), (0, .ref 55), (1, .ref t1)] [] _
    cases h
    exact ev_r 8 (fun n => rfl)
def fX3_restore (m : mm_MM) (t1 : Nat) : Option (Int32 × mm_MM) :=
  (if m.1 55 2 ≤ 0 then
    fX3_restore_c21 m t1 none
   else
    (fX3_at m (m.1 55 2 - 1)).bind fun r2 =>
     match r2.1 with
     | none =>
       fX3_restore_c21 r2.2 t1 none
     | some u3 =>
       if mm_kd u3 = (7, 8) then
         fX3_restore_c21 r2.2 t1 (some u3)
       else none)
theorem ok_fX3_restore {m : mm_MM} {t1 : Nat} {q0 : Int32 × mm_MM} (hk_t1 : mm_kd t1 = (7, 8)) (h : fX3_restore m t1 = some q0) : Ev XL xs (d + 2) 42 (ev_M m c w) 0 (lv_args 0 [.ref 55, .ref t1]) [] (fr_i c w q0) := by
  unfold fX3_restore at h
  refine ev_i 3 (M1 := ev_M m c w) (pc1 := 20) (lv1 := [(0, .ref 55), (1, .ref t1)]) (st1 := []) (M2 := ev_M m c w) (pc2 := 7) (lv2 := [(0, .ref 55), (1, .ref t1)]) (st2 := []) (fun n => rfl) h (fun hc1 h => ?_) (fun hc1 h => ?_)
  · refine ev_s 1 (M' := ev_M m c w) (pc' := 21) (lv' := [(0, .ref 55), (1, .ref t1)]) (st' := [va_rf none]) (fun n => rfl) ?_
    exact ok_fX3_restore_c21 hk_t1 h
  · obtain ⟨r2, hr2, h⟩ := Option.bind_eq_some_iff.mp h
    refine ev_c 6 (y' := 43) (M1 := ev_M m c w) (la := lv_args 0 [.ref 55, .int (m.1 55 2 - 1)]) (rest := []) (pc' := 17) (lv' := [(0, .ref 55), (1, .ref t1)]) (fun n => rfl) (ok_fX3_at hr2) ?_
    show Ev XL xs _ 42 (ev_M r2.2 c w) 17 [(0, .ref 55), (1, .ref t1)] [va_rf r2.1] _
    generalize r2.1 = o4 at h ⊢
    cases o4 with
    | none =>
      refine ev_s 1 (M' := ev_M r2.2 c w) (pc' := 21) (lv' := [(0, .ref 55), (1, .ref t1)]) (st' := [va_rf none]) (fun n => rfl) ?_
      exact ok_fX3_restore_c21 hk_t1 h
    | some u3 =>
      obtain ⟨hk_u3, h⟩ := sd_ift h
      refine ev_s 1 (M' := ev_M r2.2 c w) (pc' := 21) (lv' := [(0, .ref 55), (1, .ref t1)]) (st' := [va_rf (some u3)]) (fun n => rfl) ?_
      exact ok_fX3_restore_c21 hk_t1 h
def fX4_begin_c2 : Nat → mm_MM → Int32 → Option (mm_MM)
  | 0 => fun _ _ => none
  | n + 1 => fun m x1 =>
    (if x1 < 4 then
      (fX10_place m 586 x1 0).bind fun r2 =>
       fX4_begin_c2 n r2 (x1 + 1)
     else
      some m)
theorem ok_fX4_begin_c2 : ∀ (n : Nat) (m : mm_MM) (x1 : Int32) (q0 : mm_MM), fX4_begin_c2 n m x1 = some q0 → Ev XL xs (d + 1) 45 (ev_M m c w) 2 [(0, .ref 584), (1, .int x1)] [] (fr_v c w q0) := by
  intro n
  induction n with
  | zero => intro m x1 q0 h; exact absurd (show (none : Option (mm_MM)) = some q0 from h) (by simp)
  | succ n ih =>
    intro m x1 q0 h
    unfold fX4_begin_c2 at h
    refine ev_i 3 (M1 := ev_M m c w) (pc1 := 7) (lv1 := [(0, .ref 584), (1, .int x1)]) (st1 := []) (M2 := ev_M m c w) (pc2 := 22) (lv2 := [(0, .ref 584), (1, .int x1)]) (st2 := []) (fun n => rfl) h (fun hc1 h => ?_) (fun hc1 h => ?_)
    · obtain ⟨r2, hr2, h⟩ := Option.bind_eq_some_iff.mp h
      refine ev_c 5 (y' := 176) (M1 := ev_M m c w) (la := lv_args 0 [.ref 586, .int x1, .int 0]) (rest := []) (pc' := 16) (lv' := [(0, .ref 584), (1, .int x1)]) (fun n => rfl) (ok_fX10_place (congrArg Prod.fst (rfl : mm_kd 586 = (20, 4))) hr2) ?_
      show Ev XL xs _ 45 (ev_M r2 c w) 16 [(0, .ref 584), (1, .int x1)] [] _
      refine ev_s 2 (M' := ev_M r2 c w) (pc' := 2) (lv' := [(1, .int (x1 + 1)), (0, .ref 584)]) (st' := []) (fun n => rfl) ?_
      refine ev_sub (lv := [(0, .ref 584), (1, .int (x1 + 1))]) (mn_of rfl (by repeat (first | exact trivial | refine And.intro rfl ?_))) ?_
      exact ih _ _ _ h
    · cases h
      exact ev_r 1 (fun n => rfl)
def fX4_begin (m : mm_MM) : Option (mm_MM) :=
  fX4_begin_c2 fu m 0
theorem ok_fX4_begin {m : mm_MM} {q0 : mm_MM} (h : fX4_begin m = some q0) : Ev XL xs (d + 1) 45 (ev_M m c w) 0 (lv_args 0 [.ref 584]) [] (fr_v c w q0) := by
  unfold fX4_begin at h
  refine ev_s 2 (M' := ev_M m c w) (pc' := 2) (lv' := [(1, .int 0), (0, .ref 584)]) (st' := []) (fun n => rfl) ?_
  refine ev_sub (lv := [(0, .ref 584), (1, .int 0)]) (mn_of rfl (by repeat (first | exact trivial | refine And.intro rfl ?_))) ?_
  exact ok_fX4_begin_c2 fu _ _ _ h
def fJ9_max_7cf53_c10 (m : mm_MM) (s0 : Int32) : Option (Int32 × mm_MM) :=
  some (s0, m)
theorem ok_fJ9_max_7cf53_c10 {m : mm_MM} {s0 : Int32} {q0 : Int32 × mm_MM} (h : fJ9_max_7cf53_c10 m s0 = some q0) : Ev XL xs d 306 (ev_M m c w) 10 [] [.int s0] (fr_i c w q0) := by
  unfold fJ9_max_7cf53_c10 at h
  cases h
  exact ev_r 1 (fun n => rfl)
def fJ9_max_7cf53 (m : mm_MM) (x0 : Int32) (x1 : Int32) : Option (Int32 × mm_MM) :=
  (if x0 < x1 then
    fJ9_max_7cf53_c10 m x1
   else
    fJ9_max_7cf53_c10 m x0)
theorem ok_fJ9_max_7cf53 {m : mm_MM} {x0 : Int32} {x1 : Int32} {q0 : Int32 × mm_MM} (h : fJ9_max_7cf53 m x0 x1 = some q0) : Ev XL xs d 306 (ev_M m c w) 0 (lv_args 0 [.int x0, .int x1]) [] (fr_i c w q0) := by
  unfold fJ9_max_7cf53 at h
  refine ev_i 3 (M1 := ev_M m c w) (pc1 := 9) (lv1 := [(0, .int x0), (1, .int x1)]) (st1 := []) (M2 := ev_M m c w) (pc2 := 5) (lv2 := [(0, .int x0), (1, .int x1)]) (st2 := []) (fun n => rfl) h (fun hc1 h => ?_) (fun hc1 h => ?_)
  · refine ev_s 1 (M' := ev_M m c w) (pc' := 10) (lv' := [(0, .int x0), (1, .int x1)]) (st' := [.int x1]) (fun n => rfl) ?_
    refine ev_sub (lv := []) (mn_of rfl (by repeat (first | exact trivial | refine And.intro rfl ?_))) ?_
    exact ok_fJ9_max_7cf53_c10 h
  · refine ev_s 2 (M' := ev_M m c w) (pc' := 10) (lv' := [(0, .int x0), (1, .int x1)]) (st' := [.int x0]) (fun n => rfl) ?_
    refine ev_sub (lv := []) (mn_of rfl (by repeat (first | exact trivial | refine And.intro rfl ?_))) ?_
    exact ok_fJ9_max_7cf53_c10 h
def fJ9_min_7cf53_c10 (m : mm_MM) (s0 : Int32) : Option (Int32 × mm_MM) :=
  some (s0, m)
theorem ok_fJ9_min_7cf53_c10 {m : mm_MM} {s0 : Int32} {q0 : Int32 × mm_MM} (h : fJ9_min_7cf53_c10 m s0 = some q0) : Ev XL xs d 308 (ev_M m c w) 10 [] [.int s0] (fr_i c w q0) := by
  unfold fJ9_min_7cf53_c10 at h
  cases h
  exact ev_r 1 (fun n => rfl)
def fJ9_min_7cf53 (m : mm_MM) (x0 : Int32) (x1 : Int32) : Option (Int32 × mm_MM) :=
  (if x0 ≤ x1 then
    fJ9_min_7cf53_c10 m x0
   else
    fJ9_min_7cf53_c10 m x1)
theorem ok_fJ9_min_7cf53 {m : mm_MM} {x0 : Int32} {x1 : Int32} {q0 : Int32 × mm_MM} (h : fJ9_min_7cf53 m x0 x1 = some q0) : Ev XL xs d 308 (ev_M m c w) 0 (lv_args 0 [.int x0, .int x1]) [] (fr_i c w q0) := by
  unfold fJ9_min_7cf53 at h
  refine ev_i 3 (M1 := ev_M m c w) (pc1 := 5) (lv1 := [(0, .int x0), (1, .int x1)]) (st1 := []) (M2 := ev_M m c w) (pc2 := 9) (lv2 := [(0, .int x0), (1, .int x1)]) (st2 := []) (fun n => rfl) h (fun hc1 h => ?_) (fun hc1 h => ?_)
  · refine ev_s 2 (M' := ev_M m c w) (pc' := 10) (lv' := [(0, .int x0), (1, .int x1)]) (st' := [.int x0]) (fun n => rfl) ?_
    refine ev_sub (lv := []) (mn_of rfl (by repeat (first | exact trivial | refine And.intro rfl ?_))) ?_
    exact ok_fJ9_min_7cf53_c10 h
  · refine ev_s 1 (M' := ev_M m c w) (pc' := 10) (lv' := [(0, .int x0), (1, .int x1)]) (st' := [.int x1]) (fun n => rfl) ?_
    refine ev_sub (lv := []) (mn_of rfl (by repeat (first | exact trivial | refine And.intro rfl ?_))) ?_
    exact ok_fJ9_min_7cf53_c10 h
def fX4_setRoom (m : mm_MM) (x1 : Int32) (x2 : Int32) : Option (mm_MM) :=
  (fJ9_min_7cf53 m 6 x2).bind fun r1 =>
   (fJ9_max_7cf53 r1.2 0 r1.1).bind fun r2 =>
    (fX10_place r2.2 586 x1 r2.1).bind fun r3 =>
     some r3
theorem ok_fX4_setRoom {m : mm_MM} {x1 : Int32} {x2 : Int32} {q0 : mm_MM} (h : fX4_setRoom m x1 x2 = some q0) : Ev XL xs (d + 1) 46 (ev_M m c w) 0 (lv_args 0 [.ref 584, .int x1, .int x2]) [] (fr_v c w q0) := by
  unfold fX4_setRoom at h
  obtain ⟨r1, hr1, h⟩ := Option.bind_eq_some_iff.mp h
  refine ev_c 7 (y' := 308) (M1 := ev_M m c w) (la := lv_args 0 [.int 6, .int x2]) (rest := [.int 0, .int x1, .ref 586]) (pc' := 12) (lv' := [(0, .ref 584), (1, .int x1), (2, .int x2)]) (fun n => rfl) (ok_fJ9_min_7cf53 hr1) ?_
  show Ev XL xs _ 46 (ev_M r1.2 c w) 12 [(0, .ref 584), (1, .int x1), (2, .int x2)] [.int r1.1, .int 0, .int x1, .ref 586] _
  obtain ⟨r2, hr2, h⟩ := Option.bind_eq_some_iff.mp h
  refine ev_c 1 (y' := 306) (M1 := ev_M r1.2 c w) (la := lv_args 0 [.int 0, .int r1.1]) (rest := [.int x1, .ref 586]) (pc' := 15) (lv' := [(0, .ref 584), (1, .int x1), (2, .int x2)]) (fun n => rfl) (ok_fJ9_max_7cf53 hr2) ?_
  show Ev XL xs _ 46 (ev_M r2.2 c w) 15 [(0, .ref 584), (1, .int x1), (2, .int x2)] [.int r2.1, .int x1, .ref 586] _
  obtain ⟨r3, hr3, h⟩ := Option.bind_eq_some_iff.mp h
  refine ev_c 1 (y' := 176) (M1 := ev_M r2.2 c w) (la := lv_args 0 [.ref 586, .int x1, .int r2.1]) (rest := []) (pc' := 18) (lv' := [(0, .ref 584), (1, .int x1), (2, .int x2)]) (fun n => rfl) (ok_fX10_place (congrArg Prod.fst (rfl : mm_kd 586 = (20, 4))) hr3) ?_
  show Ev XL xs _ 46 (ev_M r3 c w) 18 [(0, .ref 584), (1, .int x1), (2, .int x2)] [] _
  cases h
  exact ev_r 1 (fun n => rfl)
def fX4_setGain (m : mm_MM) (x1 : Int32) (x2 : Int32) : Option (mm_MM) :=
  (fX10_place m 588 x1 x2).bind fun r1 =>
   some r1
theorem ok_fX4_setGain {m : mm_MM} {x1 : Int32} {x2 : Int32} {q0 : mm_MM} (h : fX4_setGain m x1 x2 = some q0) : Ev XL xs (d + 1) 47 (ev_M m c w) 0 (lv_args 0 [.ref 584, .int x1, .int x2]) [] (fr_v c w q0) := by
  unfold fX4_setGain at h
  obtain ⟨r1, hr1, h⟩ := Option.bind_eq_some_iff.mp h
  refine ev_c 5 (y' := 176) (M1 := ev_M m c w) (la := lv_args 0 [.ref 588, .int x1, .int x2]) (rest := []) (pc' := 9) (lv' := [(0, .ref 584), (1, .int x1), (2, .int x2)]) (fun n => rfl) (ok_fX10_place (congrArg Prod.fst (rfl : mm_kd 588 = (20, 4))) hr1) ?_
  show Ev XL xs _ 47 (ev_M r1 c w) 9 [(0, .ref 584), (1, .int x1), (2, .int x2)] [] _
  cases h
  exact ev_r 1 (fun n => rfl)
def fX4_setMark_c20 (m : mm_MM) : Option (mm_MM) :=
  some m
theorem ok_fX4_setMark_c20 {m : mm_MM} {q0 : mm_MM} (h : fX4_setMark_c20 m = some q0) : Ev XL xs d 57 (ev_M m c w) 20 [] [] (fr_v c w q0) := by
  unfold fX4_setMark_c20 at h
  cases h
  exact ev_r 1 (fun n => rfl)
def fX4_setMark (m : mm_MM) (x1 : Int32) (x2 : Int64) : Option (mm_MM) :=
  (if x1 < 0 then
    fX4_setMark_c20 m
   else
    (if x1 < 2401 then
      (if x1 < 0 ∨ 2401 ≤ x1.toNatClampNeg then none else
       fX4_setMark_c20 (wL m 585 x1.toNatClampNeg x2))
     else
      fX4_setMark_c20 m))
theorem ok_fX4_setMark {m : mm_MM} {x1 : Int32} {x2 : Int64} {q0 : mm_MM} (h : fX4_setMark m x1 x2 = some q0) : Ev XL xs d 57 (ev_M m c w) 0 (lv_args 0 [.ref 584, .int x1, .long x2]) [] (fr_v c w q0) := by
  unfold fX4_setMark at h
  refine ev_i 2 (M1 := ev_M m c w) (pc1 := 20) (lv1 := [(0, .ref 584), (1, .int x1), (2, .long x2)]) (st1 := []) (M2 := ev_M m c w) (pc2 := 4) (lv2 := [(0, .ref 584), (1, .int x1), (2, .long x2)]) (st2 := []) (fun n => rfl) h (fun hc1 h => ?_) (fun hc1 h => ?_)
  · refine ev_sub (lv := []) (mn_of rfl (by repeat (first | exact trivial | refine And.intro rfl ?_))) ?_
    exact ok_fX4_setMark_c20 h
  · refine ev_i 5 (M1 := ev_M m c w) (pc1 := 13) (lv1 := [(0, .ref 584), (1, .int x1), (2, .long x2)]) (st1 := []) (M2 := ev_M m c w) (pc2 := 20) (lv2 := [(0, .ref 584), (1, .int x1), (2, .long x2)]) (st2 := []) (fun n => rfl) h (fun hc2 h => ?_) (fun hc2 h => ?_)
    · refine ev_g 5 (M1 := ev_M (wL m 585 x1.toNatClampNeg x2) c w) (pc1 := 20) (lv1 := [(0, .ref 584), (1, .int x1), (2, .long x2)]) (st1 := []) (fun n => rfl) h (fun _ h => ?_)
      refine ev_sub (lv := []) (mn_of rfl (by repeat (first | exact trivial | refine And.intro rfl ?_))) ?_
      exact ok_fX4_setMark_c20 h
    · refine ev_sub (lv := []) (mn_of rfl (by repeat (first | exact trivial | refine And.intro rfl ?_))) ?_
      exact ok_fX4_setMark_c20 h
def fX4_open_c51 : Nat → mm_MM → Int32 → Option (mm_MM)
  | 0 => fun _ _ => none
  | n + 1 => fun m x1 =>
    (if x1 < 2401 then
      (if x1 < 0 ∨ 2401 ≤ x1.toNatClampNeg then none else
       fX4_open_c51 n (wL m 585 x1.toNatClampNeg ((-1000000000000000) : Int64)) (x1 + 1))
     else
      (fX4_setMark m 0 0).bind fun r2 =>
       some r2)
theorem ok_fX4_open_c51 : ∀ (n : Nat) (m : mm_MM) (x1 : Int32) (q0 : mm_MM), fX4_open_c51 n m x1 = some q0 → Ev XL xs (d + 1) 48 (ev_M m c w) 51 [(0, .ref 584), (1, .int x1)] [] (fr_v c w q0) := by
  intro n
  induction n with
  | zero => intro m x1 q0 h; exact absurd (show (none : Option (mm_MM)) = some q0 from h) (by simp)
  | succ n ih =>
    intro m x1 q0 h
    unfold fX4_open_c51 at h
    refine ev_i 5 (M1 := ev_M m c w) (pc1 := 60) (lv1 := [(0, .ref 584), (1, .int x1)]) (st1 := []) (M2 := ev_M m c w) (pc2 := 75) (lv2 := [(0, .ref 584), (1, .int x1)]) (st2 := []) (fun n => rfl) h (fun hc1 h => ?_) (fun hc1 h => ?_)
    · refine ev_g 5 (M1 := ev_M (wL m 585 x1.toNatClampNeg ((-1000000000000000) : Int64)) c w) (pc1 := 69) (lv1 := [(0, .ref 584), (1, .int x1)]) (st1 := []) (fun n => rfl) h (fun _ h => ?_)
      refine ev_s 2 (M' := ev_M (wL m 585 x1.toNatClampNeg ((-1000000000000000) : Int64)) c w) (pc' := 51) (lv' := [(1, .int (x1 + 1)), (0, .ref 584)]) (st' := []) (fun n => rfl) ?_
      refine ev_sub (lv := [(0, .ref 584), (1, .int (x1 + 1))]) (mn_of rfl (by repeat (first | exact trivial | refine And.intro rfl ?_))) ?_
      exact ih _ _ _ h
    · obtain ⟨r2, hr2, h⟩ := Option.bind_eq_some_iff.mp h
      refine ev_c 4 (y' := 57) (M1 := ev_M m c w) (la := lv_args 0 [.ref 584, .int 0, .long 0]) (rest := []) (pc' := 81) (lv' := [(0, .ref 584), (1, .int x1)]) (fun n => rfl) (ok_fX4_setMark hr2) ?_
      show Ev XL xs _ 48 (ev_M r2 c w) 81 [(0, .ref 584), (1, .int x1)] [] _
      cases h
      exact ev_r 1 (fun n => rfl)
def fX4_open_c7 : Nat → mm_MM → Int32 → Option (mm_MM)
  | 0 => fun _ _ => none
  | n + 1 => fun m x1 =>
    (if x1 < 4 then
      (fX10_place m 587 x1 (m.1 584 4)).bind fun r2 =>
       (fX10_pick r2 586 x1).bind fun r3 =>
        fX4_open_c7 n (wI r3.2 584 4 (r2.1 584 4 * (r3.1 + 1))) (x1 + 1)
     else
      fX4_open_c51 fu m 0)
theorem ok_fX4_open_c7 : ∀ (n : Nat) (m : mm_MM) (x1 : Int32) (q0 : mm_MM), fX4_open_c7 n m x1 = some q0 → Ev XL xs (d + 1) 48 (ev_M m c w) 7 [(0, .ref 584), (1, .int x1)] [] (fr_v c w q0) := by
  intro n
  induction n with
  | zero => intro m x1 q0 h; exact absurd (show (none : Option (mm_MM)) = some q0 from h) (by simp)
  | succ n ih =>
    intro m x1 q0 h
    unfold fX4_open_c7 at h
    refine ev_i 3 (M1 := ev_M m c w) (pc1 := 12) (lv1 := [(0, .ref 584), (1, .int x1)]) (st1 := []) (M2 := ev_M m c w) (pc2 := 49) (lv2 := [(0, .ref 584), (1, .int x1)]) (st2 := []) (fun n => rfl) h (fun hc1 h => ?_) (fun hc1 h => ?_)
    · obtain ⟨r2, hr2, h⟩ := Option.bind_eq_some_iff.mp h
      refine ev_c 6 (y' := 176) (M1 := ev_M m c w) (la := lv_args 0 [.ref 587, .int x1, .int (m.1 584 4)]) (rest := []) (pc' := 24) (lv' := [(0, .ref 584), (1, .int x1)]) (fun n => rfl) (ok_fX10_place (congrArg Prod.fst (rfl : mm_kd 587 = (20, 4))) hr2) ?_
      show Ev XL xs _ 48 (ev_M r2 c w) 24 [(0, .ref 584), (1, .int x1)] [] _
      obtain ⟨r3, hr3, h⟩ := Option.bind_eq_some_iff.mp h
      refine ev_c 7 (y' := 175) (M1 := ev_M r2 c w) (la := lv_args 0 [.ref 586, .int x1]) (rest := [.int (r2.1 584 4), .ref 584]) (pc' := 37) (lv' := [(0, .ref 584), (1, .int x1)]) (fun n => rfl) (ok_fX10_pick (congrArg Prod.fst (rfl : mm_kd 586 = (20, 4))) hr3) ?_
      show Ev XL xs _ 48 (ev_M r3.2 c w) 37 [(0, .ref 584), (1, .int x1)] [.int r3.1, .int (r2.1 584 4), .ref 584] _
      refine ev_s 6 (M' := ev_M (wI r3.2 584 4 (r2.1 584 4 * (r3.1 + 1))) c w) (pc' := 7) (lv' := [(1, .int (x1 + 1)), (0, .ref 584)]) (st' := []) (fun n => rfl) ?_
      refine ev_sub (lv := [(0, .ref 584), (1, .int (x1 + 1))]) (mn_of rfl (by repeat (first | exact trivial | refine And.intro rfl ?_))) ?_
      exact ih _ _ _ h
    · refine ev_s 2 (M' := ev_M m c w) (pc' := 51) (lv' := [(1, .int 0), (0, .ref 584)]) (st' := []) (fun n => rfl) ?_
      refine ev_sub (lv := [(0, .ref 584), (1, .int 0)]) (mn_of rfl (by repeat (first | exact trivial | refine And.intro rfl ?_))) ?_
      exact ok_fX4_open_c51 fu _ _ _ h
def fX4_open (m : mm_MM) : Option (mm_MM) :=
  fX4_open_c7 fu (wI m 584 4 1) 0
theorem ok_fX4_open {m : mm_MM} {q0 : mm_MM} (h : fX4_open m = some q0) : Ev XL xs (d + 1) 48 (ev_M m c w) 0 (lv_args 0 [.ref 584]) [] (fr_v c w q0) := by
  unfold fX4_open at h
  refine ev_s 5 (M' := ev_M (wI m 584 4 1) c w) (pc' := 7) (lv' := [(1, .int 0), (0, .ref 584)]) (st' := []) (fun n => rfl) ?_
  refine ev_sub (lv := [(0, .ref 584), (1, .int 0)]) (mn_of rfl (by repeat (first | exact trivial | refine And.intro rfl ?_))) ?_
  exact ok_fX4_open_c7 fu _ _ _ h
def fX4_digitOf_c4 : Nat → mm_MM → Int64 → Int32 → Option (Int64 × mm_MM)
  | 0 => fun _ _ _ => none
  | n + 1 => fun m x1 x3 =>
    (if x3 < 7 then
      fX4_digitOf_c4 n m (x1 * 10) (x3 + 1)
     else
      some (x1, m))
theorem ok_fX4_digitOf_c4 : ∀ (n : Nat) (m : mm_MM) (x1 : Int64) (x3 : Int32) (q0 : Int64 × mm_MM), fX4_digitOf_c4 n m x1 x3 = some q0 → Ev XL xs d 55 (ev_M m c w) 4 [(1, .long x1), (3, .int x3)] [] (fr_l c w q0) := by
  intro n
  induction n with
  | zero => intro m x1 x3 q0 h; exact absurd (show (none : Option (Int64 × mm_MM)) = some q0 from h) (by simp)
  | succ n ih =>
    intro m x1 x3 q0 h
    unfold fX4_digitOf_c4 at h
    refine ev_i 3 (M1 := ev_M m c w) (pc1 := 10) (lv1 := [(1, .long x1), (3, .int x3)]) (st1 := []) (M2 := ev_M m c w) (pc2 := 22) (lv2 := [(1, .long x1), (3, .int x3)]) (st2 := []) (fun n => rfl) h (fun hc1 h => ?_) (fun hc1 h => ?_)
    · refine ev_s 6 (M' := ev_M m c w) (pc' := 4) (lv' := [(3, .int (x3 + 1)), (1, .long (x1 * 10))]) (st' := []) (fun n => rfl) ?_
      refine ev_sub (lv := [(1, .long (x1 * 10)), (3, .int (x3 + 1))]) (mn_of rfl (by repeat (first | exact trivial | refine And.intro rfl ?_))) ?_
      exact ih _ _ _ _ h
    · cases h
      exact ev_r 2 (fun n => rfl)
def fX4_digitOf (m : mm_MM) (x0 : Int32) : Option (Int64 × mm_MM) :=
  fX4_digitOf_c4 fu m 1 x0
theorem ok_fX4_digitOf {m : mm_MM} {x0 : Int32} {q0 : Int64 × mm_MM} (h : fX4_digitOf m x0 = some q0) : Ev XL xs d 55 (ev_M m c w) 0 (lv_args 0 [.int x0]) [] (fr_l c w q0) := by
  unfold fX4_digitOf at h
  refine ev_s 4 (M' := ev_M m c w) (pc' := 4) (lv' := [(3, .int x0), (1, .long 1), (0, .int x0)]) (st' := []) (fun n => rfl) ?_
  refine ev_sub (lv := [(1, .long 1), (3, .int x0)]) (mn_of rfl (by repeat (first | exact trivial | refine And.intro rfl ?_))) ?_
  exact ok_fX4_digitOf_c4 fu _ _ _ _ h
def fX4_mark_c25 (m : mm_MM) (s0 : Int64) : Option (Int64 × mm_MM) :=
  some (s0, m)
theorem ok_fX4_mark_c25 {m : mm_MM} {s0 : Int64} {q0 : Int64 × mm_MM} (h : fX4_mark_c25 m s0 = some q0) : Ev XL xs d 56 (ev_M m c w) 25 [] [.long s0] (fr_l c w q0) := by
  unfold fX4_mark_c25 at h
  cases h
  exact ev_r 1 (fun n => rfl)
def fX4_mark_c22 (m : mm_MM) : Option (Int64 × mm_MM) :=
  fX4_mark_c25 m ((-1000000000000000) : Int64)
theorem ok_fX4_mark_c22 {m : mm_MM} {q0 : Int64 × mm_MM} (h : fX4_mark_c22 m = some q0) : Ev XL xs d 56 (ev_M m c w) 22 [] [] (fr_l c w q0) := by
  unfold fX4_mark_c22 at h
  refine ev_s 1 (M' := ev_M m c w) (pc' := 25) (lv' := []) (st' := [.long ((-1000000000000000) : Int64)]) (fun n => rfl) ?_
  exact ok_fX4_mark_c25 h
def fX4_mark (m : mm_MM) (x1 : Int32) : Option (Int64 × mm_MM) :=
  (if x1 < 0 then
    fX4_mark_c22 m
   else
    (if x1 < 2401 then
      (if x1 < 0 ∨ 2401 ≤ x1.toNatClampNeg then none else
       fX4_mark_c25 m (m.2 585 x1.toNatClampNeg))
     else
      fX4_mark_c22 m))
theorem ok_fX4_mark {m : mm_MM} {x1 : Int32} {q0 : Int64 × mm_MM} (h : fX4_mark m x1 = some q0) : Ev XL xs d 56 (ev_M m c w) 0 (lv_args 0 [.ref 584, .int x1]) [] (fr_l c w q0) := by
  unfold fX4_mark at h
  refine ev_i 2 (M1 := ev_M m c w) (pc1 := 22) (lv1 := [(0, .ref 584), (1, .int x1)]) (st1 := []) (M2 := ev_M m c w) (pc2 := 4) (lv2 := [(0, .ref 584), (1, .int x1)]) (st2 := []) (fun n => rfl) h (fun hc1 h => ?_) (fun hc1 h => ?_)
  · refine ev_sub (lv := []) (mn_of rfl (by repeat (first | exact trivial | refine And.intro rfl ?_))) ?_
    exact ok_fX4_mark_c22 h
  · refine ev_i 5 (M1 := ev_M m c w) (pc1 := 13) (lv1 := [(0, .ref 584), (1, .int x1)]) (st1 := []) (M2 := ev_M m c w) (pc2 := 22) (lv2 := [(0, .ref 584), (1, .int x1)]) (st2 := []) (fun n => rfl) h (fun hc2 h => ?_) (fun hc2 h => ?_)
    · refine ev_g 4 (M1 := ev_M m c w) (pc1 := 19) (lv1 := [(0, .ref 584), (1, .int x1)]) (st1 := [.long (m.2 585 x1.toNatClampNeg)]) (fun n => rfl) h (fun _ h => ?_)
      refine ev_s 1 (M' := ev_M m c w) (pc' := 25) (lv' := [(0, .ref 584), (1, .int x1)]) (st' := [.long (m.2 585 x1.toNatClampNeg)]) (fun n => rfl) ?_
      refine ev_sub (lv := []) (mn_of rfl (by repeat (first | exact trivial | refine And.intro rfl ?_))) ?_
      exact ok_fX4_mark_c25 h
    · refine ev_sub (lv := []) (mn_of rfl (by repeat (first | exact trivial | refine And.intro rfl ?_))) ?_
      exact ok_fX4_mark_c22 h
def fX4_pass_c8 : Nat → mm_MM → Int64 → Int32 → Option (mm_MM)
  | 0 => fun _ _ _ => none
  | n + 1 => fun m x2 x4 =>
    (if x4 < m.1 584 4 then
      (fX4_mark m x4).bind fun r2 =>
       (fX4_setMark r2.2 x4 (r2.1 - (9 * x2))).bind fun r3 =>
        fX4_pass_c8 n r3 x2 (x4 + 1)
     else
      some m)
theorem ok_fX4_pass_c8 : ∀ (n : Nat) (m : mm_MM) (x2 : Int64) (x4 : Int32) (q0 : mm_MM), fX4_pass_c8 n m x2 x4 = some q0 → Ev XL xs (d + 1) 49 (ev_M m c w) 8 [(0, .ref 584), (2, .long x2), (4, .int x4)] [] (fr_v c w q0) := by
  intro n
  induction n with
  | zero => intro m x2 x4 q0 h; exact absurd (show (none : Option (mm_MM)) = some q0 from h) (by simp)
  | succ n ih =>
    intro m x2 x4 q0 h
    unfold fX4_pass_c8 at h
    refine ev_i 4 (M1 := ev_M m c w) (pc1 := 17) (lv1 := [(0, .ref 584), (2, .long x2), (4, .int x4)]) (st1 := []) (M2 := ev_M m c w) (pc2 := 41) (lv2 := [(0, .ref 584), (2, .long x2), (4, .int x4)]) (st2 := []) (fun n => rfl) h (fun hc1 h => ?_) (fun hc1 h => ?_)
    · obtain ⟨r2, hr2, h⟩ := Option.bind_eq_some_iff.mp h
      refine ev_c 5 (y' := 56) (M1 := ev_M m c w) (la := lv_args 0 [.ref 584, .int x4]) (rest := [.int x4, .ref 584]) (pc' := 26) (lv' := [(0, .ref 584), (2, .long x2), (4, .int x4)]) (fun n => rfl) (ok_fX4_mark hr2) ?_
      show Ev XL xs _ 49 (ev_M r2.2 c w) 26 [(0, .ref 584), (2, .long x2), (4, .int x4)] [.long r2.1, .int x4, .ref 584] _
      obtain ⟨r3, hr3, h⟩ := Option.bind_eq_some_iff.mp h
      refine ev_c 5 (y' := 57) (M1 := ev_M r2.2 c w) (la := lv_args 0 [.ref 584, .int x4, .long (r2.1 - (9 * x2))]) (rest := []) (pc' := 35) (lv' := [(0, .ref 584), (2, .long x2), (4, .int x4)]) (fun n => rfl) (ok_fX4_setMark hr3) ?_
      show Ev XL xs _ 49 (ev_M r3 c w) 35 [(0, .ref 584), (2, .long x2), (4, .int x4)] [] _
      refine ev_s 2 (M' := ev_M r3 c w) (pc' := 8) (lv' := [(4, .int (x4 + 1)), (0, .ref 584), (2, .long x2)]) (st' := []) (fun n => rfl) ?_
      refine ev_sub (lv := [(0, .ref 584), (2, .long x2), (4, .int (x4 + 1))]) (mn_of rfl (by repeat (first | exact trivial | refine And.intro rfl ?_))) ?_
      exact ih _ _ _ _ h
    · cases h
      exact ev_r 1 (fun n => rfl)
def fX4_pass (m : mm_MM) (x1 : Int32) : Option (mm_MM) :=
  (fX4_digitOf m x1).bind fun r1 =>
   fX4_pass_c8 fu r1.2 r1.1 0
theorem ok_fX4_pass {m : mm_MM} {x1 : Int32} {q0 : mm_MM} (h : fX4_pass m x1 = some q0) : Ev XL xs (d + 1) 49 (ev_M m c w) 0 (lv_args 0 [.ref 584, .int x1]) [] (fr_v c w q0) := by
  unfold fX4_pass at h
  obtain ⟨r1, hr1, h⟩ := Option.bind_eq_some_iff.mp h
  refine ev_c 2 (y' := 55) (M1 := ev_M m c w) (la := lv_args 0 [.int x1]) (rest := []) (pc' := 4) (lv' := [(0, .ref 584), (1, .int x1)]) (fun n => rfl) (ok_fX4_digitOf hr1) ?_
  show Ev XL xs _ 49 (ev_M r1.2 c w) 4 [(0, .ref 584), (1, .int x1)] [.long r1.1] _
  refine ev_s 3 (M' := ev_M r1.2 c w) (pc' := 8) (lv' := [(4, .int 0), (2, .long r1.1), (0, .ref 584), (1, .int x1)]) (st' := []) (fun n => rfl) ?_
  refine ev_sub (lv := [(0, .ref 584), (2, .long r1.1), (4, .int 0)]) (mn_of rfl (by repeat (first | exact trivial | refine And.intro rfl ?_))) ?_
  exact ok_fX4_pass_c8 fu _ _ _ _ h
def fX4_laidIn_c40 (m : mm_MM) (s0 : Int32) : Option (Int32 × mm_MM) :=
  some (s0, m)
theorem ok_fX4_laidIn_c40 {m : mm_MM} {s0 : Int32} {q0 : Int32 × mm_MM} (h : fX4_laidIn_c40 m s0 = some q0) : Ev XL xs (d + 1) 54 (ev_M m c w) 40 [] [.int s0] (fr_i c w q0) := by
  unfold fX4_laidIn_c40 at h
  cases h
  exact ev_r 1 (fun n => rfl)
def fX4_laidIn_c39 (m : mm_MM) : Option (Int32 × mm_MM) :=
  fX4_laidIn_c40 m 0
theorem ok_fX4_laidIn_c39 {m : mm_MM} {q0 : Int32 × mm_MM} (h : fX4_laidIn_c39 m = some q0) : Ev XL xs (d + 1) 54 (ev_M m c w) 39 [] [] (fr_i c w q0) := by
  unfold fX4_laidIn_c39 at h
  refine ev_s 1 (M' := ev_M m c w) (pc' := 40) (lv' := []) (st' := [.int 0]) (fun n => rfl) ?_
  exact ok_fX4_laidIn_c40 h
def fX4_laidIn (m : mm_MM) (x1 : Int32) (x2 : Int32) : Option (Int32 × mm_MM) :=
  (fX10_pick m 587 x1).bind fun r1 =>
   (fX10_pick r1.2 586 x1).bind fun r2 =>
    (if r1.1 ≤ 0 then
      fX4_laidIn_c39 r2.2
     else
      (if (r2.1 + 1) ≤ 0 then
        fX4_laidIn_c39 r2.2
       else
        (if r1.1 = (0 : Int32) then none else
         (if (r2.1 + 1) = (0 : Int32) then none else
          fX4_laidIn_c40 r2.2 ((((x2 : Int32) / r1.1) : Int32) - ((x2 : Int32) / r1.1) / (r2.1 + 1) * (r2.1 + 1))))))
theorem ok_fX4_laidIn {m : mm_MM} {x1 : Int32} {x2 : Int32} {q0 : Int32 × mm_MM} (h : fX4_laidIn m x1 x2 = some q0) : Ev XL xs (d + 1) 54 (ev_M m c w) 0 (lv_args 0 [.ref 584, .int x1, .int x2]) [] (fr_i c w q0) := by
  unfold fX4_laidIn at h
  obtain ⟨r1, hr1, h⟩ := Option.bind_eq_some_iff.mp h
  refine ev_c 4 (y' := 175) (M1 := ev_M m c w) (la := lv_args 0 [.ref 587, .int x1]) (rest := []) (pc' := 8) (lv' := [(0, .ref 584), (1, .int x1), (2, .int x2)]) (fun n => rfl) (ok_fX10_pick (congrArg Prod.fst (rfl : mm_kd 587 = (20, 4))) hr1) ?_
  show Ev XL xs _ 54 (ev_M r1.2 c w) 8 [(0, .ref 584), (1, .int x1), (2, .int x2)] [.int r1.1] _
  obtain ⟨r2, hr2, h⟩ := Option.bind_eq_some_iff.mp h
  refine ev_c 5 (y' := 175) (M1 := ev_M r1.2 c w) (la := lv_args 0 [.ref 586, .int x1]) (rest := []) (pc' := 17) (lv' := [(3, .int r1.1), (0, .ref 584), (1, .int x1), (2, .int x2)]) (fun n => rfl) (ok_fX10_pick (congrArg Prod.fst (rfl : mm_kd 586 = (20, 4))) hr2) ?_
  show Ev XL xs _ 54 (ev_M r2.2 c w) 17 [(3, .int r1.1), (0, .ref 584), (1, .int x1), (2, .int x2)] [.int r2.1] _
  refine ev_i 5 (M1 := ev_M r2.2 c w) (pc1 := 39) (lv1 := [(4, .int (r2.1 + 1)), (3, .int r1.1), (0, .ref 584), (1, .int x1), (2, .int x2)]) (st1 := []) (M2 := ev_M r2.2 c w) (pc2 := 25) (lv2 := [(4, .int (r2.1 + 1)), (3, .int r1.1), (0, .ref 584), (1, .int x1), (2, .int x2)]) (st2 := []) (fun n => rfl) h (fun hc3 h => ?_) (fun hc3 h => ?_)
  · refine ev_sub (lv := []) (mn_of rfl (by repeat (first | exact trivial | refine And.intro rfl ?_))) ?_
    exact ok_fX4_laidIn_c39 h
  · refine ev_i 2 (M1 := ev_M r2.2 c w) (pc1 := 39) (lv1 := [(4, .int (r2.1 + 1)), (3, .int r1.1), (0, .ref 584), (1, .int x1), (2, .int x2)]) (st1 := []) (M2 := ev_M r2.2 c w) (pc2 := 30) (lv2 := [(4, .int (r2.1 + 1)), (3, .int r1.1), (0, .ref 584), (1, .int x1), (2, .int x2)]) (st2 := []) (fun n => rfl) h (fun hc4 h => ?_) (fun hc4 h => ?_)
    · refine ev_sub (lv := []) (mn_of rfl (by repeat (first | exact trivial | refine And.intro rfl ?_))) ?_
      exact ok_fX4_laidIn_c39 h
    · refine ev_g 3 (M1 := ev_M r2.2 c w) (pc1 := 33) (lv1 := [(4, .int (r2.1 + 1)), (3, .int r1.1), (0, .ref 584), (1, .int x1), (2, .int x2)]) (st1 := [.int ((x2 : Int32) / r1.1)]) (fun n => rfl) h (fun _ h => ?_)
      refine ev_g 2 (M1 := ev_M r2.2 c w) (pc1 := 36) (lv1 := [(4, .int (r2.1 + 1)), (3, .int r1.1), (0, .ref 584), (1, .int x1), (2, .int x2)]) (st1 := [.int ((((x2 : Int32) / r1.1) : Int32) - ((x2 : Int32) / r1.1) / (r2.1 + 1) * (r2.1 + 1))]) (fun n => rfl) h (fun _ h => ?_)
      refine ev_s 1 (M' := ev_M r2.2 c w) (pc' := 40) (lv' := [(4, .int (r2.1 + 1)), (3, .int r1.1), (0, .ref 584), (1, .int x1), (2, .int x2)]) (st' := [.int ((((x2 : Int32) / r1.1) : Int32) - ((x2 : Int32) / r1.1) / (r2.1 + 1) * (r2.1 + 1))]) (fun n => rfl) ?_
      refine ev_sub (lv := []) (mn_of rfl (by repeat (first | exact trivial | refine And.intro rfl ?_))) ?_
      exact ok_fX4_laidIn_c40 h
def fJ9_max_f86c9_c11 (m : mm_MM) (s0 : Int64) : Option (Int64 × mm_MM) :=
  some (s0, m)
theorem ok_fJ9_max_f86c9_c11 {m : mm_MM} {s0 : Int64} {q0 : Int64 × mm_MM} (h : fJ9_max_f86c9_c11 m s0 = some q0) : Ev XL xs d 307 (ev_M m c w) 11 [] [.long s0] (fr_l c w q0) := by
  unfold fJ9_max_f86c9_c11 at h
  cases h
  exact ev_r 1 (fun n => rfl)
def fJ9_max_f86c9 (m : mm_MM) (x0 : Int64) (x2 : Int64) : Option (Int64 × mm_MM) :=
  (if (lg_cmp x0 x2) < 0 then
    fJ9_max_f86c9_c11 m x2
   else
    fJ9_max_f86c9_c11 m x0)
theorem ok_fJ9_max_f86c9 {m : mm_MM} {x0 : Int64} {x2 : Int64} {q0 : Int64 × mm_MM} (h : fJ9_max_f86c9 m x0 x2 = some q0) : Ev XL xs d 307 (ev_M m c w) 0 (lv_args 0 [.long x0, .long x2]) [] (fr_l c w q0) := by
  unfold fJ9_max_f86c9 at h
  refine ev_i 4 (M1 := ev_M m c w) (pc1 := 10) (lv1 := [(0, .long x0), (2, .long x2)]) (st1 := []) (M2 := ev_M m c w) (pc2 := 6) (lv2 := [(0, .long x0), (2, .long x2)]) (st2 := []) (fun n => rfl) h (fun hc1 h => ?_) (fun hc1 h => ?_)
  · refine ev_s 1 (M' := ev_M m c w) (pc' := 11) (lv' := [(0, .long x0), (2, .long x2)]) (st' := [.long x2]) (fun n => rfl) ?_
    refine ev_sub (lv := []) (mn_of rfl (by repeat (first | exact trivial | refine And.intro rfl ?_))) ?_
    exact ok_fJ9_max_f86c9_c11 h
  · refine ev_s 2 (M' := ev_M m c w) (pc' := 11) (lv' := [(0, .long x0), (2, .long x2)]) (st' := [.long x0]) (fun n => rfl) ?_
    refine ev_sub (lv := []) (mn_of rfl (by repeat (first | exact trivial | refine And.intro rfl ?_))) ?_
    exact ok_fJ9_max_f86c9_c11 h
def fX4_choose_c107 (kr13 : mm_MM → Int32 → Int64 → Int32 → Option (mm_MM)) (kr42 : mm_MM → Int32 → Int64 → Int32 → Int64 → Int32 → Option (mm_MM)) (m : mm_MM) (x2 : Int32) (x3 : Int64) (x5 : Int32) (x6 : Int64) (x8 : Int32) : Option (mm_MM) :=
  kr42 m x2 x3 x5 x6 (x8 + 1)
set_option maxRecDepth 20000 in
theorem ok_fX4_choose_c107 {kr13 : mm_MM → Int32 → Int64 → Int32 → Option (mm_MM)} (hkr13 : ∀ (m : mm_MM) (x2 : Int32) (x3 : Int64) (x5 : Int32) (q0 : mm_MM), kr13 m x2 x3 x5 = some q0 → Ev XL xs (d + 2) 50 (ev_M m c w) 13 [(0, .ref 584), (2, .int x2), (3, .long x3), (5, .int x5)] [] (fr_v c w q0)) {kr42 : mm_MM → Int32 → Int64 → Int32 → Int64 → Int32 → Option (mm_MM)} (hkr42 : ∀ (m : mm_MM) (x2 : Int32) (x3 : Int64) (x5 : Int32) (x6 : Int64) (x8 : Int32) (q0 : mm_MM), kr42 m x2 x3 x5 x6 x8 = some q0 → Ev XL xs (d + 2) 50 (ev_M m c w) 42 [(0, .ref 584), (2, .int x2), (3, .long x3), (5, .int x5), (6, .long x6), (8, .int x8)] [] (fr_v c w q0)) {m : mm_MM} {x2 : Int32} {x3 : Int64} {x5 : Int32} {x6 : Int64} {x8 : Int32} {q0 : mm_MM} (h : fX4_choose_c107 kr13 kr42 m x2 x3 x5 x6 x8 = some q0) : Ev XL xs (d + 2) 50 (ev_M m c w) 107 [(0, .ref 584), (2, .int x2), (3, .long x3), (5, .int x5), (6, .long x6), (8, .int x8)] [] (fr_v c w q0) := by
  unfold fX4_choose_c107 at h
  refine ev_s 2 (M' := ev_M m c w) (pc' := 42) (lv' := [(8, .int (x8 + 1)), (0, .ref 584), (2, .int x2), (3, .long x3), (5, .int x5), (6, .long x6)]) (st' := []) (fun n => rfl) ?_
  refine ev_sub (lv := [(0, .ref 584), (2, .int x2), (3, .long x3), (5, .int x5), (6, .long x6), (8, .int (x8 + 1))]) (mn_of rfl (by repeat (first | exact trivial | refine And.intro rfl ?_))) ?_
  exact hkr42 _ _ _ _ _ _ _ h
def fX4_choose_c42 (kr13 : mm_MM → Int32 → Int64 → Int32 → Option (mm_MM)) : Nat → mm_MM → Int32 → Int64 → Int32 → Int64 → Int32 → Option (mm_MM)
  | 0 => fun _ _ _ _ _ _ => none
  | n + 1 => fun m x2 x3 x5 x6 x8 =>
    (if x8 < 4 then
      (fX4_laidIn m x8 x5).bind fun r2 =>
       (if r2.1 ≤ 0 then
         fX4_choose_c107 kr13 (fX4_choose_c42 kr13 n) r2.2 x2 x3 x5 x6 x8
        else
         (fX10_pick r2.2 587 x8).bind fun r4 =>
          (fX4_mark r4.2 (x5 - r4.1)).bind fun r5 =>
           (fX10_pick r5.2 588 x8).bind fun r6 =>
            (fJ9_max_f86c9 r6.2 x6 ((r5.1 + (100000000 * (Int32.toInt64 r6.1))) - ((Int32.toInt64 x8) * x3))).bind fun r7 =>
             fX4_choose_c107 kr13 (fX4_choose_c42 kr13 n) r7.2 x2 x3 x5 r7.1 x8)
     else
      (fX4_setMark m x5 x6).bind fun r8 =>
       kr13 r8 x2 x3 (x5 + (-1)))
set_option maxRecDepth 20000 in
theorem ok_fX4_choose_c42 {kr13 : mm_MM → Int32 → Int64 → Int32 → Option (mm_MM)} (hkr13 : ∀ (m : mm_MM) (x2 : Int32) (x3 : Int64) (x5 : Int32) (q0 : mm_MM), kr13 m x2 x3 x5 = some q0 → Ev XL xs (d + 2) 50 (ev_M m c w) 13 [(0, .ref 584), (2, .int x2), (3, .long x3), (5, .int x5)] [] (fr_v c w q0)) : ∀ (n : Nat) (m : mm_MM) (x2 : Int32) (x3 : Int64) (x5 : Int32) (x6 : Int64) (x8 : Int32) (q0 : mm_MM), fX4_choose_c42 kr13 n m x2 x3 x5 x6 x8 = some q0 → Ev XL xs (d + 2) 50 (ev_M m c w) 42 [(0, .ref 584), (2, .int x2), (3, .long x3), (5, .int x5), (6, .long x6), (8, .int x8)] [] (fr_v c w q0) := by
  intro n
  induction n with
  | zero => intro m x2 x3 x5 x6 x8 q0 h; exact absurd (show (none : Option (mm_MM)) = some q0 from h) (by simp)
  | succ n ih =>
    intro m x2 x3 x5 x6 x8 q0 h
    unfold fX4_choose_c42 at h
    refine ev_i 3 (M1 := ev_M m c w) (pc1 := 48) (lv1 := [(0, .ref 584), (2, .int x2), (3, .long x3), (5, .int x5), (6, .long x6), (8, .int x8)]) (st1 := []) (M2 := ev_M m c w) (pc2 := 113) (lv2 := [(0, .ref 584), (2, .int x2), (3, .long x3), (5, .int x5), (6, .long x6), (8, .int x8)]) (st2 := []) (fun n => rfl) h (fun hc1 h => ?_) (fun hc1 h => ?_)
    · obtain ⟨r2, hr2, h⟩ := Option.bind_eq_some_iff.mp h
      refine ev_c 4 (y' := 54) (M1 := ev_M m c w) (la := lv_args 0 [.ref 584, .int x8, .int x5]) (rest := []) (pc' := 56) (lv' := [(0, .ref 584), (2, .int x2), (3, .long x3), (5, .int x5), (6, .long x6), (8, .int x8)]) (fun n => rfl) (ok_fX4_laidIn hr2) ?_
      show Ev XL xs _ 50 (ev_M r2.2 c w) 56 [(0, .ref 584), (2, .int x2), (3, .long x3), (5, .int x5), (6, .long x6), (8, .int x8)] [.int r2.1] _
      refine ev_i 1 (M1 := ev_M r2.2 c w) (pc1 := 107) (lv1 := [(0, .ref 584), (2, .int x2), (3, .long x3), (5, .int x5), (6, .long x6), (8, .int x8)]) (st1 := []) (M2 := ev_M r2.2 c w) (pc2 := 59) (lv2 := [(0, .ref 584), (2, .int x2), (3, .long x3), (5, .int x5), (6, .long x6), (8, .int x8)]) (st2 := []) (fun n => rfl) h (fun hc3 h => ?_) (fun hc3 h => ?_)
      · exact ok_fX4_choose_c107 hkr13 ih h
      · obtain ⟨r4, hr4, h⟩ := Option.bind_eq_some_iff.mp h
        refine ev_c 6 (y' := 175) (M1 := ev_M r2.2 c w) (la := lv_args 0 [.ref 587, .int x8]) (rest := [.int x5, .ref 584]) (pc' := 71) (lv' := [(0, .ref 584), (2, .int x2), (3, .long x3), (5, .int x5), (6, .long x6), (8, .int x8)]) (fun n => rfl) (ok_fX10_pick (congrArg Prod.fst (rfl : mm_kd 587 = (20, 4))) hr4) ?_
        show Ev XL xs _ 50 (ev_M r4.2 c w) 71 [(0, .ref 584), (2, .int x2), (3, .long x3), (5, .int x5), (6, .long x6), (8, .int x8)] [.int r4.1, .int x5, .ref 584] _
        obtain ⟨r5, hr5, h⟩ := Option.bind_eq_some_iff.mp h
        refine ev_c 2 (y' := 56) (M1 := ev_M r4.2 c w) (la := lv_args 0 [.ref 584, .int (x5 - r4.1)]) (rest := []) (pc' := 75) (lv' := [(0, .ref 584), (2, .int x2), (3, .long x3), (5, .int x5), (6, .long x6), (8, .int x8)]) (fun n => rfl) (ok_fX4_mark hr5) ?_
        show Ev XL xs _ 50 (ev_M r5.2 c w) 75 [(0, .ref 584), (2, .int x2), (3, .long x3), (5, .int x5), (6, .long x6), (8, .int x8)] [.long r5.1] _
        obtain ⟨r6, hr6, h⟩ := Option.bind_eq_some_iff.mp h
        refine ev_c 5 (y' := 175) (M1 := ev_M r5.2 c w) (la := lv_args 0 [.ref 588, .int x8]) (rest := [.long 100000000, .long r5.1]) (pc' := 87) (lv' := [(0, .ref 584), (2, .int x2), (3, .long x3), (5, .int x5), (6, .long x6), (8, .int x8)]) (fun n => rfl) (ok_fX10_pick (congrArg Prod.fst (rfl : mm_kd 588 = (20, 4))) hr6) ?_
        show Ev XL xs _ 50 (ev_M r6.2 c w) 87 [(0, .ref 584), (2, .int x2), (3, .long x3), (5, .int x5), (6, .long x6), (8, .int x8)] [.int r6.1, .long 100000000, .long r5.1] _
        obtain ⟨r7, hr7, h⟩ := Option.bind_eq_some_iff.mp h
        refine ev_c 12 (y' := 307) (M1 := ev_M r6.2 c w) (la := lv_args 0 [.long x6, .long ((r5.1 + (100000000 * (Int32.toInt64 r6.1))) - ((Int32.toInt64 x8) * x3))]) (rest := []) (pc' := 105) (lv' := [(9, .long ((r5.1 + (100000000 * (Int32.toInt64 r6.1))) - ((Int32.toInt64 x8) * x3))), (0, .ref 584), (2, .int x2), (3, .long x3), (5, .int x5), (6, .long x6), (8, .int x8)]) (fun n => rfl) (ok_fJ9_max_f86c9 hr7) ?_
        show Ev XL xs _ 50 (ev_M r7.2 c w) 105 [(9, .long ((r5.1 + (100000000 * (Int32.toInt64 r6.1))) - ((Int32.toInt64 x8) * x3))), (0, .ref 584), (2, .int x2), (3, .long x3), (5, .int x5), (6, .long x6), (8, .int x8)] [.long r7.1] _
        refine ev_s 1 (M' := ev_M r7.2 c w) (pc' := 107) (lv' := [(6, .long r7.1), (9, .long ((r5.1 + (100000000 * (Int32.toInt64 r6.1))) - ((Int32.toInt64 x8) * x3))), (0, .ref 584), (2, .int x2), (3, .long x3), (5, .int x5), (8, .int x8)]) (st' := []) (fun n => rfl) ?_
        refine ev_sub (lv := [(0, .ref 584), (2, .int x2), (3, .long x3), (5, .int x5), (6, .long r7.1), (8, .int x8)]) (mn_of rfl (by repeat (first | exact trivial | refine And.intro rfl ?_))) ?_
        exact ok_fX4_choose_c107 hkr13 ih h
    · obtain ⟨r8, hr8, h⟩ := Option.bind_eq_some_iff.mp h
      refine ev_c 4 (y' := 57) (M1 := ev_M m c w) (la := lv_args 0 [.ref 584, .int x5, .long x6]) (rest := []) (pc' := 121) (lv' := [(0, .ref 584), (2, .int x2), (3, .long x3), (5, .int x5), (6, .long x6), (8, .int x8)]) (fun n => rfl) (ok_fX4_setMark hr8) ?_
      show Ev XL xs _ 50 (ev_M r8 c w) 121 [(0, .ref 584), (2, .int x2), (3, .long x3), (5, .int x5), (6, .long x6), (8, .int x8)] [] _
      refine ev_s 2 (M' := ev_M r8 c w) (pc' := 13) (lv' := [(5, .int (x5 + (-1))), (0, .ref 584), (2, .int x2), (3, .long x3), (6, .long x6), (8, .int x8)]) (st' := []) (fun n => rfl) ?_
      refine ev_sub (lv := [(0, .ref 584), (2, .int x2), (3, .long x3), (5, .int (x5 + (-1)))]) (mn_of rfl (by repeat (first | exact trivial | refine And.intro rfl ?_))) ?_
      exact hkr13 _ _ _ _ _ h
def fX4_choose_c13 : Nat → mm_MM → Int32 → Int64 → Int32 → Option (mm_MM)
  | 0 => fun _ _ _ _ => none
  | n + 1 => fun m x2 x3 x5 =>
    (if x5 < 0 then
      some m
     else
      (fX4_mark m x5).bind fun r2 =>
       fX4_choose_c42 (fX4_choose_c13 n) fu r2.2 x2 x3 x5 ((r2.1 + (100000000 * (Int32.toInt64 x2))) - (9 * x3)) 0)
set_option maxRecDepth 20000 in
theorem ok_fX4_choose_c13 : ∀ (n : Nat) (m : mm_MM) (x2 : Int32) (x3 : Int64) (x5 : Int32) (q0 : mm_MM), fX4_choose_c13 n m x2 x3 x5 = some q0 → Ev XL xs (d + 2) 50 (ev_M m c w) 13 [(0, .ref 584), (2, .int x2), (3, .long x3), (5, .int x5)] [] (fr_v c w q0) := by
  intro n
  induction n with
  | zero => intro m x2 x3 x5 q0 h; exact absurd (show (none : Option (mm_MM)) = some q0 from h) (by simp)
  | succ n ih =>
    intro m x2 x3 x5 q0 h
    unfold fX4_choose_c13 at h
    refine ev_i 2 (M1 := ev_M m c w) (pc1 := 127) (lv1 := [(0, .ref 584), (2, .int x2), (3, .long x3), (5, .int x5)]) (st1 := []) (M2 := ev_M m c w) (pc2 := 18) (lv2 := [(0, .ref 584), (2, .int x2), (3, .long x3), (5, .int x5)]) (st2 := []) (fun n => rfl) h (fun hc1 h => ?_) (fun hc1 h => ?_)
    · cases h
      exact ev_r 1 (fun n => rfl)
    · obtain ⟨r2, hr2, h⟩ := Option.bind_eq_some_iff.mp h
      refine ev_c 3 (y' := 56) (M1 := ev_M m c w) (la := lv_args 0 [.ref 584, .int x5]) (rest := []) (pc' := 24) (lv' := [(0, .ref 584), (2, .int x2), (3, .long x3), (5, .int x5)]) (fun n => rfl) (ok_fX4_mark hr2) ?_
      show Ev XL xs _ 50 (ev_M r2.2 c w) 24 [(0, .ref 584), (2, .int x2), (3, .long x3), (5, .int x5)] [.long r2.1] _
      refine ev_s 12 (M' := ev_M r2.2 c w) (pc' := 42) (lv' := [(8, .int 0), (6, .long ((r2.1 + (100000000 * (Int32.toInt64 x2))) - (9 * x3))), (0, .ref 584), (2, .int x2), (3, .long x3), (5, .int x5)]) (st' := []) (fun n => rfl) ?_
      refine ev_sub (lv := [(0, .ref 584), (2, .int x2), (3, .long x3), (5, .int x5), (6, .long ((r2.1 + (100000000 * (Int32.toInt64 x2))) - (9 * x3))), (8, .int 0)]) (mn_of rfl (by repeat (first | exact trivial | refine And.intro rfl ?_))) ?_
      exact ok_fX4_choose_c42 ih fu _ _ _ _ _ _ _ h
def fX4_choose (m : mm_MM) (x1 : Int32) (x2 : Int32) : Option (mm_MM) :=
  (fX4_digitOf m x1).bind fun r1 =>
   fX4_choose_c13 fu r1.2 x2 r1.1 (r1.2.1 584 4 - 1)
set_option maxRecDepth 20000 in
theorem ok_fX4_choose {m : mm_MM} {x1 : Int32} {x2 : Int32} {q0 : mm_MM} (h : fX4_choose m x1 x2 = some q0) : Ev XL xs (d + 2) 50 (ev_M m c w) 0 (lv_args 0 [.ref 584, .int x1, .int x2]) [] (fr_v c w q0) := by
  unfold fX4_choose at h
  obtain ⟨r1, hr1, h⟩ := Option.bind_eq_some_iff.mp h
  refine ev_c 2 (y' := 55) (M1 := ev_M m c w) (la := lv_args 0 [.int x1]) (rest := []) (pc' := 4) (lv' := [(0, .ref 584), (1, .int x1), (2, .int x2)]) (fun n => rfl) (ok_fX4_digitOf hr1) ?_
  show Ev XL xs _ 50 (ev_M r1.2 c w) 4 [(0, .ref 584), (1, .int x1), (2, .int x2)] [.long r1.1] _
  refine ev_s 6 (M' := ev_M r1.2 c w) (pc' := 13) (lv' := [(5, .int (r1.2.1 584 4 - 1)), (3, .long r1.1), (0, .ref 584), (1, .int x1), (2, .int x2)]) (st' := []) (fun n => rfl) ?_
  refine ev_sub (lv := [(0, .ref 584), (2, .int x2), (3, .long r1.1), (5, .int (r1.2.1 584 4 - 1))]) (mn_of rfl (by repeat (first | exact trivial | refine And.intro rfl ?_))) ?_
  exact ok_fX4_choose_c13 fu _ _ _ _ _ h
def fX4_bestMark_c6 : Nat → mm_MM → Int64 → Int32 → Option (Int64 × mm_MM)
  | 0 => fun _ _ _ => none
  | n + 1 => fun m x1 x3 =>
    (if x3 < m.1 584 4 then
      (fX4_mark m x3).bind fun r2 =>
       (fJ9_max_f86c9 r2.2 x1 r2.1).bind fun r3 =>
        fX4_bestMark_c6 n r3.2 r3.1 (x3 + 1)
     else
      some (x1, m))
theorem ok_fX4_bestMark_c6 : ∀ (n : Nat) (m : mm_MM) (x1 : Int64) (x3 : Int32) (q0 : Int64 × mm_MM), fX4_bestMark_c6 n m x1 x3 = some q0 → Ev XL xs (d + 1) 53 (ev_M m c w) 6 [(0, .ref 584), (1, .long x1), (3, .int x3)] [] (fr_l c w q0) := by
  intro n
  induction n with
  | zero => intro m x1 x3 q0 h; exact absurd (show (none : Option (Int64 × mm_MM)) = some q0 from h) (by simp)
  | succ n ih =>
    intro m x1 x3 q0 h
    unfold fX4_bestMark_c6 at h
    refine ev_i 4 (M1 := ev_M m c w) (pc1 := 14) (lv1 := [(0, .ref 584), (1, .long x1), (3, .int x3)]) (st1 := []) (M2 := ev_M m c w) (pc2 := 30) (lv2 := [(0, .ref 584), (1, .long x1), (3, .int x3)]) (st2 := []) (fun n => rfl) h (fun hc1 h => ?_) (fun hc1 h => ?_)
    · obtain ⟨r2, hr2, h⟩ := Option.bind_eq_some_iff.mp h
      refine ev_c 4 (y' := 56) (M1 := ev_M m c w) (la := lv_args 0 [.ref 584, .int x3]) (rest := [.long x1]) (pc' := 20) (lv' := [(0, .ref 584), (1, .long x1), (3, .int x3)]) (fun n => rfl) (ok_fX4_mark hr2) ?_
      show Ev XL xs _ 53 (ev_M r2.2 c w) 20 [(0, .ref 584), (1, .long x1), (3, .int x3)] [.long r2.1, .long x1] _
      obtain ⟨r3, hr3, h⟩ := Option.bind_eq_some_iff.mp h
      refine ev_c 1 (y' := 307) (M1 := ev_M r2.2 c w) (la := lv_args 0 [.long x1, .long r2.1]) (rest := []) (pc' := 23) (lv' := [(0, .ref 584), (1, .long x1), (3, .int x3)]) (fun n => rfl) (ok_fJ9_max_f86c9 hr3) ?_
      show Ev XL xs _ 53 (ev_M r3.2 c w) 23 [(0, .ref 584), (1, .long x1), (3, .int x3)] [.long r3.1] _
      refine ev_s 3 (M' := ev_M r3.2 c w) (pc' := 6) (lv' := [(3, .int (x3 + 1)), (1, .long r3.1), (0, .ref 584)]) (st' := []) (fun n => rfl) ?_
      refine ev_sub (lv := [(0, .ref 584), (1, .long r3.1), (3, .int (x3 + 1))]) (mn_of rfl (by repeat (first | exact trivial | refine And.intro rfl ?_))) ?_
      exact ih _ _ _ _ h
    · cases h
      exact ev_r 2 (fun n => rfl)
def fX4_bestMark (m : mm_MM) : Option (Int64 × mm_MM) :=
  fX4_bestMark_c6 fu m ((-1000000000000000) : Int64) 0
theorem ok_fX4_bestMark {m : mm_MM} {q0 : Int64 × mm_MM} (h : fX4_bestMark m = some q0) : Ev XL xs (d + 1) 53 (ev_M m c w) 0 (lv_args 0 [.ref 584]) [] (fr_l c w q0) := by
  unfold fX4_bestMark at h
  refine ev_s 4 (M' := ev_M m c w) (pc' := 6) (lv' := [(3, .int 0), (1, .long ((-1000000000000000) : Int64)), (0, .ref 584)]) (st' := []) (fun n => rfl) ?_
  refine ev_sub (lv := [(0, .ref 584), (1, .long ((-1000000000000000) : Int64)), (3, .int 0)]) (mn_of rfl (by repeat (first | exact trivial | refine And.intro rfl ?_))) ?_
  exact ok_fX4_bestMark_c6 fu _ _ _ _ h
def fJ9_floorDiv_f86c9_c27 (m : mm_MM) (x4 : Int64) : Option (Int64 × mm_MM) :=
  some (x4, m)
theorem ok_fJ9_floorDiv_f86c9_c27 {m : mm_MM} {x4 : Int64} {q0 : Int64 × mm_MM} (h : fJ9_floorDiv_f86c9_c27 m x4 = some q0) : Ev XL xs d 303 (ev_M m c w) 27 [(4, .long x4)] [] (fr_l c w q0) := by
  unfold fJ9_floorDiv_f86c9_c27 at h
  cases h
  exact ev_r 2 (fun n => rfl)
def fJ9_floorDiv_f86c9 (m : mm_MM) (x0 : Int64) (x2 : Int64) : Option (Int64 × mm_MM) :=
  (if x2 = (0 : Int64) then none else
   (if (lg_cmp (x0 ^^^ x2) 0) < 0 then
     (if (lg_cmp (((x0 : Int64) / x2) * x2) x0) = 0 then
       fJ9_floorDiv_f86c9_c27 m ((x0 : Int64) / x2)
      else
       some ((((x0 : Int64) / x2) - 1), m))
    else
     fJ9_floorDiv_f86c9_c27 m ((x0 : Int64) / x2)))
theorem ok_fJ9_floorDiv_f86c9 {m : mm_MM} {x0 : Int64} {x2 : Int64} {q0 : Int64 × mm_MM} (h : fJ9_floorDiv_f86c9 m x0 x2 = some q0) : Ev XL xs d 303 (ev_M m c w) 0 (lv_args 0 [.long x0, .long x2]) [] (fr_l c w q0) := by
  unfold fJ9_floorDiv_f86c9 at h
  refine ev_g 3 (M1 := ev_M m c w) (pc1 := 3) (lv1 := [(0, .long x0), (2, .long x2)]) (st1 := [.long ((x0 : Int64) / x2)]) (fun n => rfl) h (fun _ h => ?_)
  refine ev_i 7 (M1 := ev_M m c w) (pc1 := 13) (lv1 := [(4, .long ((x0 : Int64) / x2)), (0, .long x0), (2, .long x2)]) (st1 := []) (M2 := ev_M m c w) (pc2 := 27) (lv2 := [(4, .long ((x0 : Int64) / x2)), (0, .long x0), (2, .long x2)]) (st2 := []) (fun n => rfl) h (fun hc1 h => ?_) (fun hc1 h => ?_)
  · refine ev_i 6 (M1 := ev_M m c w) (pc1 := 27) (lv1 := [(4, .long ((x0 : Int64) / x2)), (0, .long x0), (2, .long x2)]) (st1 := []) (M2 := ev_M m c w) (pc2 := 22) (lv2 := [(4, .long ((x0 : Int64) / x2)), (0, .long x0), (2, .long x2)]) (st2 := []) (fun n => rfl) h (fun hc2 h => ?_) (fun hc2 h => ?_)
    · refine ev_sub (lv := [(4, .long ((x0 : Int64) / x2))]) (mn_of rfl (by repeat (first | exact trivial | refine And.intro rfl ?_))) ?_
      exact ok_fJ9_floorDiv_f86c9_c27 h
    · cases h
      exact ev_r 4 (fun n => rfl)
  · refine ev_sub (lv := [(4, .long ((x0 : Int64) / x2))]) (mn_of rfl (by repeat (first | exact trivial | refine And.intro rfl ?_))) ?_
    exact ok_fJ9_floorDiv_f86c9_c27 h
def fX4_bestValue (m : mm_MM) : Option (Int32 × mm_MM) :=
  (fX4_bestMark m).bind fun r1 =>
   (fJ9_floorDiv_f86c9 r1.2 ((r1.1 + 100000000) - 1) 100000000).bind fun r2 =>
    some ((Int64.toInt32 r2.1), r2.2)
theorem ok_fX4_bestValue {m : mm_MM} {q0 : Int32 × mm_MM} (h : fX4_bestValue m = some q0) : Ev XL xs (d + 2) 51 (ev_M m c w) 0 (lv_args 0 [.ref 584]) [] (fr_i c w q0) := by
  unfold fX4_bestValue at h
  obtain ⟨r1, hr1, h⟩ := Option.bind_eq_some_iff.mp h
  refine ev_c 2 (y' := 53) (M1 := ev_M m c w) (la := lv_args 0 [.ref 584]) (rest := []) (pc' := 4) (lv' := [(0, .ref 584)]) (fun n => rfl) (ok_fX4_bestMark hr1) ?_
  show Ev XL xs _ 51 (ev_M r1.2 c w) 4 [(0, .ref 584)] [.long r1.1] _
  obtain ⟨r2, hr2, h⟩ := Option.bind_eq_some_iff.mp h
  refine ev_c 6 (y' := 303) (M1 := ev_M r1.2 c w) (la := lv_args 0 [.long ((r1.1 + 100000000) - 1), .long 100000000]) (rest := []) (pc' := 16) (lv' := [(0, .ref 584)]) (fun n => rfl) (ok_fJ9_floorDiv_f86c9 hr2) ?_
  show Ev XL xs _ 51 (ev_M r2.2 c w) 16 [(0, .ref 584)] [.long r2.1] _
  cases h
  exact ev_r 2 (fun n => rfl)
def fX4_bestDigits (m : mm_MM) : Option (Int32 × mm_MM) :=
  (fX4_bestValue m).bind fun r1 =>
   (fX4_bestMark r1.2).bind fun r2 =>
    some ((Int64.toInt32 ((100000000 * (Int32.toInt64 r1.1)) - r2.1)), r2.2)
theorem ok_fX4_bestDigits {m : mm_MM} {q0 : Int32 × mm_MM} (h : fX4_bestDigits m = some q0) : Ev XL xs (d + 3) 52 (ev_M m c w) 0 (lv_args 0 [.ref 584]) [] (fr_i c w q0) := by
  unfold fX4_bestDigits at h
  obtain ⟨r1, hr1, h⟩ := Option.bind_eq_some_iff.mp h
  refine ev_c 3 (y' := 51) (M1 := ev_M m c w) (la := lv_args 0 [.ref 584]) (rest := [.long 100000000]) (pc' := 7) (lv' := [(0, .ref 584)]) (fun n => rfl) (ok_fX4_bestValue hr1) ?_
  show Ev XL xs _ 52 (ev_M r1.2 c w) 7 [(0, .ref 584)] [.int r1.1, .long 100000000] _
  obtain ⟨r2, hr2, h⟩ := Option.bind_eq_some_iff.mp h
  refine ev_c 4 (y' := 53) (M1 := ev_M r1.2 c w) (la := lv_args 0 [.ref 584]) (rest := [.long (100000000 * (Int32.toInt64 r1.1))]) (pc' := 13) (lv' := [(0, .ref 584)]) (fun n => rfl) (ok_fX4_bestMark hr2) ?_
  show Ev XL xs _ 52 (ev_M r2.2 c w) 13 [(0, .ref 584)] [.long r2.1, .long (100000000 * (Int32.toInt64 r1.1))] _
  cases h
  exact ev_r 3 (fun n => rfl)
def fX5_size (m : mm_MM) : Option (Int32 × mm_MM) :=
  some (m.1 577 5, m)
theorem ok_fX5_size {m : mm_MM} {q0 : Int32 × mm_MM} (h : fX5_size m = some q0) : Ev XL xs d 59 (ev_M m c w) 0 (lv_args 0 [.ref 577]) [] (fr_i c w q0) := by
  unfold fX5_size at h
  cases h
  exact ev_r 3 (fun n => rfl)
def fX5_forget (m : mm_MM) : Option (mm_MM) :=
  some (wI m 577 5 0)
theorem ok_fX5_forget {m : mm_MM} {q0 : mm_MM} (h : fX5_forget m = some q0) : Ev XL xs d 60 (ev_M m c w) 0 (lv_args 0 [.ref 577]) [] (fr_v c w q0) := by
  unfold fX5_forget at h
  cases h
  exact ev_r 4 (fun n => rfl)
def fX5_add_c67 (m : mm_MM) (s1 : Int32) (s2 : Int32) : Option (mm_MM) :=
  (fX10_place m 582 s1 s2).bind fun r1 =>
   some (wI r1 577 5 (r1.1 577 5 + 1))
theorem ok_fX5_add_c67 {m : mm_MM} {s1 : Int32} {s2 : Int32} {q0 : mm_MM} (h : fX5_add_c67 m s1 s2 = some q0) : Ev XL xs (d + 1) 61 (ev_M m c w) 67 [(0, .ref 577)] [.int s2, .int s1, .ref 582] (fr_v c w q0) := by
  unfold fX5_add_c67 at h
  obtain ⟨r1, hr1, h⟩ := Option.bind_eq_some_iff.mp h
  refine ev_c 1 (y' := 176) (M1 := ev_M m c w) (la := lv_args 0 [.ref 582, .int s1, .int s2]) (rest := []) (pc' := 70) (lv' := [(0, .ref 577)]) (fun n => rfl) (ok_fX10_place (congrArg Prod.fst (rfl : mm_kd 582 = (20, 10))) hr1) ?_
  show Ev XL xs _ 61 (ev_M r1 c w) 70 [(0, .ref 577)] [] _
  cases h
  exact ev_r 7 (fun n => rfl)
def fX5_add (m : mm_MM) (x1 : Int32) (x2 : Int32) (x3 : Int32) (x4 : Int32) (x5 : Int32) : Option (mm_MM) :=
  (fX10_place m 578 (m.1 577 5) x1).bind fun r1 =>
   (fX10_place r1 579 (r1.1 577 5) x2).bind fun r2 =>
    (fX10_place r2 580 (r2.1 577 5) x3).bind fun r3 =>
     (fX10_place r3 581 (r3.1 577 5) x4).bind fun r4 =>
      (if x5 = 0 then
        fX5_add_c67 r4 (r4.1 577 5) 0
       else
        fX5_add_c67 r4 (r4.1 577 5) 1)
theorem ok_fX5_add {m : mm_MM} {x1 : Int32} {x2 : Int32} {x3 : Int32} {x4 : Int32} {x5 : Int32} {q0 : mm_MM} (h : fX5_add m x1 x2 x3 x4 x5 = some q0) : Ev XL xs (d + 1) 61 (ev_M m c w) 0 (lv_args 0 [.ref 577, .int x1, .int x2, .int x3, .int x4, .int x5]) [] (fr_v c w q0) := by
  unfold fX5_add at h
  obtain ⟨r1, hr1, h⟩ := Option.bind_eq_some_iff.mp h
  refine ev_c 6 (y' := 176) (M1 := ev_M m c w) (la := lv_args 0 [.ref 578, .int (m.1 577 5), .int x1]) (rest := []) (pc' := 12) (lv' := [(0, .ref 577), (1, .int x1), (2, .int x2), (3, .int x3), (4, .int x4), (5, .int x5)]) (fun n => rfl) (ok_fX10_place (congrArg Prod.fst (rfl : mm_kd 578 = (20, 10))) hr1) ?_
  show Ev XL xs _ 61 (ev_M r1 c w) 12 [(0, .ref 577), (1, .int x1), (2, .int x2), (3, .int x3), (4, .int x4), (5, .int x5)] [] _
  obtain ⟨r2, hr2, h⟩ := Option.bind_eq_some_iff.mp h
  refine ev_c 6 (y' := 176) (M1 := ev_M r1 c w) (la := lv_args 0 [.ref 579, .int (r1.1 577 5), .int x2]) (rest := []) (pc' := 24) (lv' := [(0, .ref 577), (1, .int x1), (2, .int x2), (3, .int x3), (4, .int x4), (5, .int x5)]) (fun n => rfl) (ok_fX10_place (congrArg Prod.fst (rfl : mm_kd 579 = (20, 10))) hr2) ?_
  show Ev XL xs _ 61 (ev_M r2 c w) 24 [(0, .ref 577), (1, .int x1), (2, .int x2), (3, .int x3), (4, .int x4), (5, .int x5)] [] _
  obtain ⟨r3, hr3, h⟩ := Option.bind_eq_some_iff.mp h
  refine ev_c 6 (y' := 176) (M1 := ev_M r2 c w) (la := lv_args 0 [.ref 580, .int (r2.1 577 5), .int x3]) (rest := []) (pc' := 36) (lv' := [(0, .ref 577), (1, .int x1), (2, .int x2), (3, .int x3), (4, .int x4), (5, .int x5)]) (fun n => rfl) (ok_fX10_place (congrArg Prod.fst (rfl : mm_kd 580 = (20, 10))) hr3) ?_
  show Ev XL xs _ 61 (ev_M r3 c w) 36 [(0, .ref 577), (1, .int x1), (2, .int x2), (3, .int x3), (4, .int x4), (5, .int x5)] [] _
  obtain ⟨r4, hr4, h⟩ := Option.bind_eq_some_iff.mp h
  refine ev_c 6 (y' := 176) (M1 := ev_M r3 c w) (la := lv_args 0 [.ref 581, .int (r3.1 577 5), .int x4]) (rest := []) (pc' := 49) (lv' := [(0, .ref 577), (1, .int x1), (2, .int x2), (3, .int x3), (4, .int x4), (5, .int x5)]) (fun n => rfl) (ok_fX10_place (congrArg Prod.fst (rfl : mm_kd 581 = (20, 10))) hr4) ?_
  show Ev XL xs _ 61 (ev_M r4 c w) 49 [(0, .ref 577), (1, .int x1), (2, .int x2), (3, .int x3), (4, .int x4), (5, .int x5)] [] _
  refine ev_i 6 (M1 := ev_M r4 c w) (pc1 := 66) (lv1 := [(0, .ref 577), (1, .int x1), (2, .int x2), (3, .int x3), (4, .int x4), (5, .int x5)]) (st1 := [.int (r4.1 577 5), .ref 582]) (M2 := ev_M r4 c w) (pc2 := 62) (lv2 := [(0, .ref 577), (1, .int x1), (2, .int x2), (3, .int x3), (4, .int x4), (5, .int x5)]) (st2 := [.int (r4.1 577 5), .ref 582]) (fun n => rfl) h (fun hc5 h => ?_) (fun hc5 h => ?_)
  · refine ev_s 1 (M' := ev_M r4 c w) (pc' := 67) (lv' := [(0, .ref 577), (1, .int x1), (2, .int x2), (3, .int x3), (4, .int x4), (5, .int x5)]) (st' := [.int 0, .int (r4.1 577 5), .ref 582]) (fun n => rfl) ?_
    refine ev_sub (lv := [(0, .ref 577)]) (mn_of rfl (by repeat (first | exact trivial | refine And.intro rfl ?_))) ?_
    exact ok_fX5_add_c67 h
  · refine ev_s 2 (M' := ev_M r4 c w) (pc' := 67) (lv' := [(0, .ref 577), (1, .int x1), (2, .int x2), (3, .int x3), (4, .int x4), (5, .int x5)]) (st' := [.int 1, .int (r4.1 577 5), .ref 582]) (fun n => rfl) ?_
    refine ev_sub (lv := [(0, .ref 577)]) (mn_of rfl (by repeat (first | exact trivial | refine And.intro rfl ?_))) ?_
    exact ok_fX5_add_c67 h
def fX6_begin (m : mm_MM) : Option (mm_MM) :=
  some (wI m 589 2 0)
theorem ok_fX6_begin {m : mm_MM} {q0 : mm_MM} (h : fX6_begin m = some q0) : Ev XL xs d 63 (ev_M m c w) 0 (lv_args 0 [.ref 589]) [] (fr_v c w q0) := by
  unfold fX6_begin at h
  cases h
  exact ev_r 4 (fun n => rfl)
def fX6_addStop_c31 (m : mm_MM) : Option (mm_MM) :=
  some m
theorem ok_fX6_addStop_c31 {m : mm_MM} {q0 : mm_MM} (h : fX6_addStop_c31 m = some q0) : Ev XL xs (d + 1) 64 (ev_M m c w) 31 [] [] (fr_v c w q0) := by
  unfold fX6_addStop_c31 at h
  cases h
  exact ev_r 1 (fun n => rfl)
def fX6_addStop (m : mm_MM) (x1 : Int32) : Option (mm_MM) :=
  (if m.1 589 2 < 8 then
    (fX10_place m 590 (m.1 589 2) x1).bind fun r2 =>
     fX6_addStop_c31 (wI r2 589 2 (r2.1 589 2 + 1))
   else
    fX6_addStop_c31 m)
theorem ok_fX6_addStop {m : mm_MM} {x1 : Int32} {q0 : mm_MM} (h : fX6_addStop m x1 = some q0) : Ev XL xs (d + 1) 64 (ev_M m c w) 0 (lv_args 0 [.ref 589, .int x1]) [] (fr_v c w q0) := by
  unfold fX6_addStop at h
  refine ev_i 4 (M1 := ev_M m c w) (pc1 := 9) (lv1 := [(0, .ref 589), (1, .int x1)]) (st1 := []) (M2 := ev_M m c w) (pc2 := 31) (lv2 := [(0, .ref 589), (1, .int x1)]) (st2 := []) (fun n => rfl) h (fun hc1 h => ?_) (fun hc1 h => ?_)
  · obtain ⟨r2, hr2, h⟩ := Option.bind_eq_some_iff.mp h
    refine ev_c 6 (y' := 176) (M1 := ev_M m c w) (la := lv_args 0 [.ref 590, .int (m.1 589 2), .int x1]) (rest := []) (pc' := 21) (lv' := [(0, .ref 589), (1, .int x1)]) (fun n => rfl) (ok_fX10_place (congrArg Prod.fst (rfl : mm_kd 590 = (20, 8))) hr2) ?_
    show Ev XL xs _ 64 (ev_M r2 c w) 21 [(0, .ref 589), (1, .int x1)] [] _
    refine ev_s 6 (M' := ev_M (wI r2 589 2 (r2.1 589 2 + 1)) c w) (pc' := 31) (lv' := [(0, .ref 589), (1, .int x1)]) (st' := []) (fun n => rfl) ?_
    refine ev_sub (lv := []) (mn_of rfl (by repeat (first | exact trivial | refine And.intro rfl ?_))) ?_
    exact ok_fX6_addStop_c31 h
  · refine ev_sub (lv := []) (mn_of rfl (by repeat (first | exact trivial | refine And.intro rfl ?_))) ?_
    exact ok_fX6_addStop_c31 h
def fX6_stepsTo_c101 (kr39 : mm_MM → Nat → Int32 → Int32 → Int32 → Int32 → Option (Int32 × mm_MM)) (m : mm_MM) (t1 : Nat) (x4 : Int32) (x5 : Int32) (x6 : Int32) (x7 : Int32) : Option (Int32 × mm_MM) :=
  kr39 m t1 x4 x5 x6 (x7 + 1)
set_option maxRecDepth 20000 in
theorem ok_fX6_stepsTo_c101 {kr39 : mm_MM → Nat → Int32 → Int32 → Int32 → Int32 → Option (Int32 × mm_MM)} (hkr39 : ∀ (m : mm_MM) (t1 : Nat) (x4 : Int32) (x5 : Int32) (x6 : Int32) (x7 : Int32) (q0 : Int32 × mm_MM) (hk_t1 : mm_kd t1 = (1, 10)), kr39 m t1 x4 x5 x6 x7 = some q0 → Ev XL xs (d + 2) 66 (ev_M m c w) 39 [(0, .ref 589), (1, .ref t1), (4, .int x4), (5, .int x5), (6, .int x6), (7, .int x7)] [] (fr_i c w q0)) {m : mm_MM} {t1 : Nat} {x4 : Int32} {x5 : Int32} {x6 : Int32} {x7 : Int32} {q0 : Int32 × mm_MM} (hk_t1 : mm_kd t1 = (1, 10)) (h : fX6_stepsTo_c101 kr39 m t1 x4 x5 x6 x7 = some q0) : Ev XL xs (d + 2) 66 (ev_M m c w) 101 [(0, .ref 589), (1, .ref t1), (4, .int x4), (5, .int x5), (6, .int x6), (7, .int x7)] [] (fr_i c w q0) := by
  unfold fX6_stepsTo_c101 at h
  refine ev_s 2 (M' := ev_M m c w) (pc' := 39) (lv' := [(7, .int (x7 + 1)), (0, .ref 589), (1, .ref t1), (4, .int x4), (5, .int x5), (6, .int x6)]) (st' := []) (fun n => rfl) ?_
  refine ev_sub (lv := [(0, .ref 589), (1, .ref t1), (4, .int x4), (5, .int x5), (6, .int x6), (7, .int (x7 + 1))]) (mn_of rfl (by repeat (first | exact trivial | refine And.intro rfl ?_))) ?_
  exact hkr39 _ _ _ _ _ _ _ hk_t1 h
def fX6_stepsTo_c39 : Nat → mm_MM → Nat → Int32 → Int32 → Int32 → Int32 → Option (Int32 × mm_MM)
  | 0 => fun _ _ _ _ _ _ => none
  | n + 1 => fun m t1 x4 x5 x6 x7 =>
    (if x7 < m.1 589 2 then
      (if (((x4 : Int32) >>> (x7 &&& 31)) &&& 1) = 1 then
        (fX10_pick m 591 ((x4 * 8) + x7)).bind fun r3 =>
         (fX10_pick r3.2 590 x7).bind fun r4 =>
          (fX1_steps r4.2 t1 r4.1 x5).bind fun r5 =>
           (fJ9_min_7cf53 r5.2 x6 (r3.1 + r5.1)).bind fun r6 =>
            fX6_stepsTo_c101 (fX6_stepsTo_c39 n) r6.2 t1 x4 x5 r6.1 x7
       else
        fX6_stepsTo_c101 (fX6_stepsTo_c39 n) m t1 x4 x5 x6 x7)
     else
      some (x6, m))
set_option maxRecDepth 20000 in
theorem ok_fX6_stepsTo_c39 : ∀ (n : Nat) (m : mm_MM) (t1 : Nat) (x4 : Int32) (x5 : Int32) (x6 : Int32) (x7 : Int32) (q0 : Int32 × mm_MM) (hk_t1 : mm_kd t1 = (1, 10)), fX6_stepsTo_c39 n m t1 x4 x5 x6 x7 = some q0 → Ev XL xs (d + 2) 66 (ev_M m c w) 39 [(0, .ref 589), (1, .ref t1), (4, .int x4), (5, .int x5), (6, .int x6), (7, .int x7)] [] (fr_i c w q0) := by
  intro n
  induction n with
  | zero => intro m t1 x4 x5 x6 x7 q0 hk_t1 h; exact absurd (show (none : Option (Int32 × mm_MM)) = some q0 from h) (by simp)
  | succ n ih =>
    intro m t1 x4 x5 x6 x7 q0 hk_t1 h
    unfold fX6_stepsTo_c39 at h
    refine ev_i 4 (M1 := ev_M m c w) (pc1 := 48) (lv1 := [(0, .ref 589), (1, .ref t1), (4, .int x4), (5, .int x5), (6, .int x6), (7, .int x7)]) (st1 := []) (M2 := ev_M m c w) (pc2 := 107) (lv2 := [(0, .ref 589), (1, .ref t1), (4, .int x4), (5, .int x5), (6, .int x6), (7, .int x7)]) (st2 := []) (fun n => rfl) h (fun hc1 h => ?_) (fun hc1 h => ?_)
    · refine ev_i 7 (M1 := ev_M m c w) (pc1 := 59) (lv1 := [(0, .ref 589), (1, .ref t1), (4, .int x4), (5, .int x5), (6, .int x6), (7, .int x7)]) (st1 := []) (M2 := ev_M m c w) (pc2 := 101) (lv2 := [(0, .ref 589), (1, .ref t1), (4, .int x4), (5, .int x5), (6, .int x6), (7, .int x7)]) (st2 := []) (fun n => rfl) h (fun hc2 h => ?_) (fun hc2 h => ?_)
      · obtain ⟨r3, hr3, h⟩ := Option.bind_eq_some_iff.mp h
        refine ev_c 8 (y' := 175) (M1 := ev_M m c w) (la := lv_args 0 [.ref 591, .int ((x4 * 8) + x7)]) (rest := []) (pc' := 74) (lv' := [(0, .ref 589), (1, .ref t1), (4, .int x4), (5, .int x5), (6, .int x6), (7, .int x7)]) (fun n => rfl) (ok_fX10_pick (congrArg Prod.fst (rfl : mm_kd 591 = (20, 2048))) hr3) ?_
        show Ev XL xs _ 66 (ev_M r3.2 c w) 74 [(0, .ref 589), (1, .ref t1), (4, .int x4), (5, .int x5), (6, .int x6), (7, .int x7)] [.int r3.1] _
        obtain ⟨r4, hr4, h⟩ := Option.bind_eq_some_iff.mp h
        refine ev_c 5 (y' := 175) (M1 := ev_M r3.2 c w) (la := lv_args 0 [.ref 590, .int x7]) (rest := [.ref t1, .int r3.1]) (pc' := 84) (lv' := [(0, .ref 589), (1, .ref t1), (4, .int x4), (5, .int x5), (6, .int x6), (7, .int x7)]) (fun n => rfl) (ok_fX10_pick (congrArg Prod.fst (rfl : mm_kd 590 = (20, 8))) hr4) ?_
        show Ev XL xs _ 66 (ev_M r4.2 c w) 84 [(0, .ref 589), (1, .ref t1), (4, .int x4), (5, .int x5), (6, .int x6), (7, .int x7)] [.int r4.1, .ref t1, .int r3.1] _
        refine ev_s 1 (M' := ev_M r4.2 c w) (pc' := 86) (lv' := [(0, .ref 589), (1, .ref t1), (4, .int x4), (5, .int x5), (6, .int x6), (7, .int x7)]) (st' := [.int x5, .int r4.1, .ref t1, .int r3.1]) (fun n => rfl) ?_
        obtain ⟨r5, hr5, h⟩ := Option.bind_eq_some_iff.mp h
        refine ev_cv (rest := [.int r3.1]) rfl rfl (congrArg Prod.fst hk_t1) rfl (ok_fX1_steps hk_t1 hr5) ?_
        show Ev XL xs _ 66 (ev_M r5.2 c w) 89 [(0, .ref 589), (1, .ref t1), (4, .int x4), (5, .int x5), (6, .int x6), (7, .int x7)] [.int r5.1, .int r3.1] _
        obtain ⟨r6, hr6, h⟩ := Option.bind_eq_some_iff.mp h
        refine ev_c 5 (y' := 308) (M1 := ev_M r5.2 c w) (la := lv_args 0 [.int x6, .int (r3.1 + r5.1)]) (rest := []) (pc' := 99) (lv' := [(8, .int (r3.1 + r5.1)), (0, .ref 589), (1, .ref t1), (4, .int x4), (5, .int x5), (6, .int x6), (7, .int x7)]) (fun n => rfl) (ok_fJ9_min_7cf53 hr6) ?_
        show Ev XL xs _ 66 (ev_M r6.2 c w) 99 [(8, .int (r3.1 + r5.1)), (0, .ref 589), (1, .ref t1), (4, .int x4), (5, .int x5), (6, .int x6), (7, .int x7)] [.int r6.1] _
        refine ev_s 1 (M' := ev_M r6.2 c w) (pc' := 101) (lv' := [(6, .int r6.1), (8, .int (r3.1 + r5.1)), (0, .ref 589), (1, .ref t1), (4, .int x4), (5, .int x5), (7, .int x7)]) (st' := []) (fun n => rfl) ?_
        refine ev_sub (lv := [(0, .ref 589), (1, .ref t1), (4, .int x4), (5, .int x5), (6, .int r6.1), (7, .int x7)]) (mn_of rfl (by repeat (first | exact trivial | refine And.intro rfl ?_))) ?_
        exact ok_fX6_stepsTo_c101 ih hk_t1 h
      · exact ok_fX6_stepsTo_c101 ih hk_t1 h
    · cases h
      exact ev_r 2 (fun n => rfl)
def fX6_stepsTo (m : mm_MM) (t1 : Nat) (x2 : Int32) (x3 : Int32) : Option (Int32 × mm_MM) :=
  (fX10_pick m 590 x3).bind fun r1 =>
   (if (x2 &&& (((1 : Int32) <<< (x3 &&& 31)) ^^^ ((-1) : Int32))) = 0 then
     (fX1_steps r1.2 t1 0 r1.1).bind fun r3 =>
      some (r3.1, r3.2)
    else
     fX6_stepsTo_c39 fu r1.2 t1 (x2 &&& (((1 : Int32) <<< (x3 &&& 31)) ^^^ ((-1) : Int32))) r1.1 1000000 0)
set_option maxRecDepth 20000 in
theorem ok_fX6_stepsTo {m : mm_MM} {t1 : Nat} {x2 : Int32} {x3 : Int32} {q0 : Int32 × mm_MM} (hk_t1 : mm_kd t1 = (1, 10)) (h : fX6_stepsTo m t1 x2 x3 = some q0) : Ev XL xs (d + 2) 66 (ev_M m c w) 0 (lv_args 0 [.ref 589, .ref t1, .int x2, .int x3]) [] (fr_i c w q0) := by
  unfold fX6_stepsTo at h
  obtain ⟨r1, hr1, h⟩ := Option.bind_eq_some_iff.mp h
  refine ev_c 12 (y' := 175) (M1 := ev_M m c w) (la := lv_args 0 [.ref 590, .int x3]) (rest := []) (pc' := 17) (lv' := [(4, .int (x2 &&& (((1 : Int32) <<< (x3 &&& 31)) ^^^ ((-1) : Int32)))), (0, .ref 589), (1, .ref t1), (2, .int x2), (3, .int x3)]) (fun n => rfl) (ok_fX10_pick (congrArg Prod.fst (rfl : mm_kd 590 = (20, 8))) hr1) ?_
  show Ev XL xs _ 66 (ev_M r1.2 c w) 17 [(4, .int (x2 &&& (((1 : Int32) <<< (x3 &&& 31)) ^^^ ((-1) : Int32)))), (0, .ref 589), (1, .ref t1), (2, .int x2), (3, .int x3)] [.int r1.1] _
  refine ev_i 3 (M1 := ev_M r1.2 c w) (pc1 := 24) (lv1 := [(5, .int r1.1), (4, .int (x2 &&& (((1 : Int32) <<< (x3 &&& 31)) ^^^ ((-1) : Int32)))), (0, .ref 589), (1, .ref t1), (2, .int x2), (3, .int x3)]) (st1 := []) (M2 := ev_M r1.2 c w) (pc2 := 32) (lv2 := [(5, .int r1.1), (4, .int (x2 &&& (((1 : Int32) <<< (x3 &&& 31)) ^^^ ((-1) : Int32)))), (0, .ref 589), (1, .ref t1), (2, .int x2), (3, .int x3)]) (st2 := []) (fun n => rfl) h (fun hc2 h => ?_) (fun hc2 h => ?_)
  · refine ev_s 3 (M' := ev_M r1.2 c w) (pc' := 28) (lv' := [(5, .int r1.1), (4, .int (x2 &&& (((1 : Int32) <<< (x3 &&& 31)) ^^^ ((-1) : Int32)))), (0, .ref 589), (1, .ref t1), (2, .int x2), (3, .int x3)]) (st' := [.int r1.1, .int 0, .ref t1]) (fun n => rfl) ?_
    obtain ⟨r3, hr3, h⟩ := Option.bind_eq_some_iff.mp h
    refine ev_cv (rest := []) rfl rfl (congrArg Prod.fst hk_t1) rfl (ok_fX1_steps hk_t1 hr3) ?_
    show Ev XL xs _ 66 (ev_M r3.2 c w) 31 [(5, .int r1.1), (4, .int (x2 &&& (((1 : Int32) <<< (x3 &&& 31)) ^^^ ((-1) : Int32)))), (0, .ref 589), (1, .ref t1), (2, .int x2), (3, .int x3)] [.int r3.1] _
    cases h
    exact ev_r 1 (fun n => rfl)
  · refine ev_s 4 (M' := ev_M r1.2 c w) (pc' := 39) (lv' := [(7, .int 0), (6, .int 1000000), (5, .int r1.1), (4, .int (x2 &&& (((1 : Int32) <<< (x3 &&& 31)) ^^^ ((-1) : Int32)))), (0, .ref 589), (1, .ref t1), (2, .int x2), (3, .int x3)]) (st' := []) (fun n => rfl) ?_
    refine ev_sub (lv := [(0, .ref 589), (1, .ref t1), (4, .int (x2 &&& (((1 : Int32) <<< (x3 &&& 31)) ^^^ ((-1) : Int32)))), (5, .int r1.1), (6, .int 1000000), (7, .int 0)]) (mn_of rfl (by repeat (first | exact trivial | refine And.intro rfl ?_))) ?_
    exact ok_fX6_stepsTo_c39 fu _ _ _ _ _ _ _ hk_t1 h
def fX6_fewestSteps_c67 (kr18 : mm_MM → Nat → Int32 → Int32 → Option (Int32 × mm_MM)) (kr26 : mm_MM → Nat → Int32 → Int32 → Int32 → Option (Int32 × mm_MM)) (m : mm_MM) (t1 : Nat) (x2 : Int32) (x3 : Int32) (x4 : Int32) : Option (Int32 × mm_MM) :=
  kr26 m t1 x2 x3 (x4 + 1)
set_option maxRecDepth 20000 in
theorem ok_fX6_fewestSteps_c67 {kr18 : mm_MM → Nat → Int32 → Int32 → Option (Int32 × mm_MM)} (hkr18 : ∀ (m : mm_MM) (t1 : Nat) (x2 : Int32) (x3 : Int32) (q0 : Int32 × mm_MM) (hk_t1 : mm_kd t1 = (1, 10)), kr18 m t1 x2 x3 = some q0 → Ev XL xs (d + 3) 65 (ev_M m c w) 18 [(0, .ref 589), (1, .ref t1), (2, .int x2), (3, .int x3)] [] (fr_i c w q0)) {kr26 : mm_MM → Nat → Int32 → Int32 → Int32 → Option (Int32 × mm_MM)} (hkr26 : ∀ (m : mm_MM) (t1 : Nat) (x2 : Int32) (x3 : Int32) (x4 : Int32) (q0 : Int32 × mm_MM) (hk_t1 : mm_kd t1 = (1, 10)), kr26 m t1 x2 x3 x4 = some q0 → Ev XL xs (d + 3) 65 (ev_M m c w) 26 [(0, .ref 589), (1, .ref t1), (2, .int x2), (3, .int x3), (4, .int x4)] [] (fr_i c w q0)) {m : mm_MM} {t1 : Nat} {x2 : Int32} {x3 : Int32} {x4 : Int32} {q0 : Int32 × mm_MM} (hk_t1 : mm_kd t1 = (1, 10)) (h : fX6_fewestSteps_c67 kr18 kr26 m t1 x2 x3 x4 = some q0) : Ev XL xs (d + 3) 65 (ev_M m c w) 67 [(0, .ref 589), (1, .ref t1), (2, .int x2), (3, .int x3), (4, .int x4)] [] (fr_i c w q0) := by
  unfold fX6_fewestSteps_c67 at h
  refine ev_s 2 (M' := ev_M m c w) (pc' := 26) (lv' := [(4, .int (x4 + 1)), (0, .ref 589), (1, .ref t1), (2, .int x2), (3, .int x3)]) (st' := []) (fun n => rfl) ?_
  refine ev_sub (lv := [(0, .ref 589), (1, .ref t1), (2, .int x2), (3, .int x3), (4, .int (x4 + 1))]) (mn_of rfl (by repeat (first | exact trivial | refine And.intro rfl ?_))) ?_
  exact hkr26 _ _ _ _ _ _ hk_t1 h
def fX6_fewestSteps_c26 (kr18 : mm_MM → Nat → Int32 → Int32 → Option (Int32 × mm_MM)) : Nat → mm_MM → Nat → Int32 → Int32 → Int32 → Option (Int32 × mm_MM)
  | 0 => fun _ _ _ _ _ => none
  | n + 1 => fun m t1 x2 x3 x4 =>
    (if x4 < m.1 589 2 then
      (if (((x3 : Int32) >>> (x4 &&& 31)) &&& 1) = 1 then
        (fX6_stepsTo m t1 x3 x4).bind fun r3 =>
         (fX10_place r3.2 591 ((x3 * 8) + x4) r3.1).bind fun r4 =>
          fX6_fewestSteps_c67 kr18 (fX6_fewestSteps_c26 kr18 n) r4 t1 x2 x3 x4
       else
        fX6_fewestSteps_c67 kr18 (fX6_fewestSteps_c26 kr18 n) m t1 x2 x3 x4)
     else
      kr18 m t1 x2 (x3 + 1))
set_option maxRecDepth 20000 in
theorem ok_fX6_fewestSteps_c26 {kr18 : mm_MM → Nat → Int32 → Int32 → Option (Int32 × mm_MM)} (hkr18 : ∀ (m : mm_MM) (t1 : Nat) (x2 : Int32) (x3 : Int32) (q0 : Int32 × mm_MM) (hk_t1 : mm_kd t1 = (1, 10)), kr18 m t1 x2 x3 = some q0 → Ev XL xs (d + 3) 65 (ev_M m c w) 18 [(0, .ref 589), (1, .ref t1), (2, .int x2), (3, .int x3)] [] (fr_i c w q0)) : ∀ (n : Nat) (m : mm_MM) (t1 : Nat) (x2 : Int32) (x3 : Int32) (x4 : Int32) (q0 : Int32 × mm_MM) (hk_t1 : mm_kd t1 = (1, 10)), fX6_fewestSteps_c26 kr18 n m t1 x2 x3 x4 = some q0 → Ev XL xs (d + 3) 65 (ev_M m c w) 26 [(0, .ref 589), (1, .ref t1), (2, .int x2), (3, .int x3), (4, .int x4)] [] (fr_i c w q0) := by
  intro n
  induction n with
  | zero => intro m t1 x2 x3 x4 q0 hk_t1 h; exact absurd (show (none : Option (Int32 × mm_MM)) = some q0 from h) (by simp)
  | succ n ih =>
    intro m t1 x2 x3 x4 q0 hk_t1 h
    unfold fX6_fewestSteps_c26 at h
    refine ev_i 4 (M1 := ev_M m c w) (pc1 := 35) (lv1 := [(0, .ref 589), (1, .ref t1), (2, .int x2), (3, .int x3), (4, .int x4)]) (st1 := []) (M2 := ev_M m c w) (pc2 := 73) (lv2 := [(0, .ref 589), (1, .ref t1), (2, .int x2), (3, .int x3), (4, .int x4)]) (st2 := []) (fun n => rfl) h (fun hc1 h => ?_) (fun hc1 h => ?_)
    · refine ev_i 7 (M1 := ev_M m c w) (pc1 := 45) (lv1 := [(0, .ref 589), (1, .ref t1), (2, .int x2), (3, .int x3), (4, .int x4)]) (st1 := []) (M2 := ev_M m c w) (pc2 := 67) (lv2 := [(0, .ref 589), (1, .ref t1), (2, .int x2), (3, .int x3), (4, .int x4)]) (st2 := []) (fun n => rfl) h (fun hc2 h => ?_) (fun hc2 h => ?_)
      · obtain ⟨r3, hr3, h⟩ := Option.bind_eq_some_iff.mp h
        refine ev_c 12 (y' := 66) (M1 := ev_M m c w) (la := lv_args 0 [.ref 589, .ref t1, .int x3, .int x4]) (rest := [.int ((x3 * 8) + x4), .ref 591]) (pc' := 64) (lv' := [(0, .ref 589), (1, .ref t1), (2, .int x2), (3, .int x3), (4, .int x4)]) (fun n => rfl) (ok_fX6_stepsTo hk_t1 hr3) ?_
        show Ev XL xs _ 65 (ev_M r3.2 c w) 64 [(0, .ref 589), (1, .ref t1), (2, .int x2), (3, .int x3), (4, .int x4)] [.int r3.1, .int ((x3 * 8) + x4), .ref 591] _
        obtain ⟨r4, hr4, h⟩ := Option.bind_eq_some_iff.mp h
        refine ev_c 1 (y' := 176) (M1 := ev_M r3.2 c w) (la := lv_args 0 [.ref 591, .int ((x3 * 8) + x4), .int r3.1]) (rest := []) (pc' := 67) (lv' := [(0, .ref 589), (1, .ref t1), (2, .int x2), (3, .int x3), (4, .int x4)]) (fun n => rfl) (ok_fX10_place (congrArg Prod.fst (rfl : mm_kd 591 = (20, 2048))) hr4) ?_
        show Ev XL xs _ 65 (ev_M r4 c w) 67 [(0, .ref 589), (1, .ref t1), (2, .int x2), (3, .int x3), (4, .int x4)] [] _
        exact ok_fX6_fewestSteps_c67 hkr18 ih hk_t1 h
      · exact ok_fX6_fewestSteps_c67 hkr18 ih hk_t1 h
    · refine ev_s 2 (M' := ev_M m c w) (pc' := 18) (lv' := [(3, .int (x3 + 1)), (0, .ref 589), (1, .ref t1), (2, .int x2), (4, .int x4)]) (st' := []) (fun n => rfl) ?_
      refine ev_sub (lv := [(0, .ref 589), (1, .ref t1), (2, .int x2), (3, .int (x3 + 1))]) (mn_of rfl (by repeat (first | exact trivial | refine And.intro rfl ?_))) ?_
      exact hkr18 _ _ _ _ _ hk_t1 h
def fX6_fewestSteps_c85 : Nat → mm_MM → Nat → Int32 → Int32 → Int32 → Option (Int32 × mm_MM)
  | 0 => fun _ _ _ _ _ => none
  | n + 1 => fun m t1 x2 x3 x4 =>
    (if x4 < m.1 589 2 then
      (fX10_pick m 591 (((x2 - 1) * 8) + x4)).bind fun r2 =>
       (fX10_pick r2.2 590 x4).bind fun r3 =>
        (fX1_steps r3.2 t1 r3.1 0).bind fun r4 =>
         (fJ9_min_7cf53 r4.2 x3 (r2.1 + r4.1)).bind fun r5 =>
          fX6_fewestSteps_c85 n r5.2 t1 x2 r5.1 (x4 + 1)
     else
      some (x3, m))
set_option maxRecDepth 20000 in
theorem ok_fX6_fewestSteps_c85 : ∀ (n : Nat) (m : mm_MM) (t1 : Nat) (x2 : Int32) (x3 : Int32) (x4 : Int32) (q0 : Int32 × mm_MM) (hk_t1 : mm_kd t1 = (1, 10)), fX6_fewestSteps_c85 n m t1 x2 x3 x4 = some q0 → Ev XL xs (d + 3) 65 (ev_M m c w) 85 [(0, .ref 589), (1, .ref t1), (2, .int x2), (3, .int x3), (4, .int x4)] [] (fr_i c w q0) := by
  intro n
  induction n with
  | zero => intro m t1 x2 x3 x4 q0 hk_t1 h; exact absurd (show (none : Option (Int32 × mm_MM)) = some q0 from h) (by simp)
  | succ n ih =>
    intro m t1 x2 x3 x4 q0 hk_t1 h
    unfold fX6_fewestSteps_c85 at h
    refine ev_i 4 (M1 := ev_M m c w) (pc1 := 94) (lv1 := [(0, .ref 589), (1, .ref t1), (2, .int x2), (3, .int x3), (4, .int x4)]) (st1 := []) (M2 := ev_M m c w) (pc2 := 140) (lv2 := [(0, .ref 589), (1, .ref t1), (2, .int x2), (3, .int x3), (4, .int x4)]) (st2 := []) (fun n => rfl) h (fun hc1 h => ?_) (fun hc1 h => ?_)
    · obtain ⟨r2, hr2, h⟩ := Option.bind_eq_some_iff.mp h
      refine ev_c 10 (y' := 175) (M1 := ev_M m c w) (la := lv_args 0 [.ref 591, .int (((x2 - 1) * 8) + x4)]) (rest := []) (pc' := 110) (lv' := [(0, .ref 589), (1, .ref t1), (2, .int x2), (3, .int x3), (4, .int x4)]) (fun n => rfl) (ok_fX10_pick (congrArg Prod.fst (rfl : mm_kd 591 = (20, 2048))) hr2) ?_
      show Ev XL xs _ 65 (ev_M r2.2 c w) 110 [(0, .ref 589), (1, .ref t1), (2, .int x2), (3, .int x3), (4, .int x4)] [.int r2.1] _
      obtain ⟨r3, hr3, h⟩ := Option.bind_eq_some_iff.mp h
      refine ev_c 5 (y' := 175) (M1 := ev_M r2.2 c w) (la := lv_args 0 [.ref 590, .int x4]) (rest := [.ref t1, .int r2.1]) (pc' := 120) (lv' := [(0, .ref 589), (1, .ref t1), (2, .int x2), (3, .int x3), (4, .int x4)]) (fun n => rfl) (ok_fX10_pick (congrArg Prod.fst (rfl : mm_kd 590 = (20, 8))) hr3) ?_
      show Ev XL xs _ 65 (ev_M r3.2 c w) 120 [(0, .ref 589), (1, .ref t1), (2, .int x2), (3, .int x3), (4, .int x4)] [.int r3.1, .ref t1, .int r2.1] _
      refine ev_s 1 (M' := ev_M r3.2 c w) (pc' := 121) (lv' := [(0, .ref 589), (1, .ref t1), (2, .int x2), (3, .int x3), (4, .int x4)]) (st' := [.int 0, .int r3.1, .ref t1, .int r2.1]) (fun n => rfl) ?_
      obtain ⟨r4, hr4, h⟩ := Option.bind_eq_some_iff.mp h
      refine ev_cv (rest := [.int r2.1]) rfl rfl (congrArg Prod.fst hk_t1) rfl (ok_fX1_steps hk_t1 hr4) ?_
      show Ev XL xs _ 65 (ev_M r4.2 c w) 124 [(0, .ref 589), (1, .ref t1), (2, .int x2), (3, .int x3), (4, .int x4)] [.int r4.1, .int r2.1] _
      obtain ⟨r5, hr5, h⟩ := Option.bind_eq_some_iff.mp h
      refine ev_c 5 (y' := 308) (M1 := ev_M r4.2 c w) (la := lv_args 0 [.int x3, .int (r2.1 + r4.1)]) (rest := []) (pc' := 133) (lv' := [(5, .int (r2.1 + r4.1)), (0, .ref 589), (1, .ref t1), (2, .int x2), (3, .int x3), (4, .int x4)]) (fun n => rfl) (ok_fJ9_min_7cf53 hr5) ?_
      show Ev XL xs _ 65 (ev_M r5.2 c w) 133 [(5, .int (r2.1 + r4.1)), (0, .ref 589), (1, .ref t1), (2, .int x2), (3, .int x3), (4, .int x4)] [.int r5.1] _
      refine ev_s 3 (M' := ev_M r5.2 c w) (pc' := 85) (lv' := [(4, .int (x4 + 1)), (3, .int r5.1), (5, .int (r2.1 + r4.1)), (0, .ref 589), (1, .ref t1), (2, .int x2)]) (st' := []) (fun n => rfl) ?_
      refine ev_sub (lv := [(0, .ref 589), (1, .ref t1), (2, .int x2), (3, .int r5.1), (4, .int (x4 + 1))]) (mn_of rfl (by repeat (first | exact trivial | refine And.intro rfl ?_))) ?_
      exact ih _ _ _ _ _ _ hk_t1 h
    · cases h
      exact ev_r 2 (fun n => rfl)
def fX6_fewestSteps_c18 : Nat → mm_MM → Nat → Int32 → Int32 → Option (Int32 × mm_MM)
  | 0 => fun _ _ _ _ => none
  | n + 1 => fun m t1 x2 x3 =>
    (if x3 < x2 then
      fX6_fewestSteps_c26 (fX6_fewestSteps_c18 n) fu m t1 x2 x3 0
     else
      fX6_fewestSteps_c85 fu m t1 x2 1000000 0)
set_option maxRecDepth 20000 in
theorem ok_fX6_fewestSteps_c18 : ∀ (n : Nat) (m : mm_MM) (t1 : Nat) (x2 : Int32) (x3 : Int32) (q0 : Int32 × mm_MM) (hk_t1 : mm_kd t1 = (1, 10)), fX6_fewestSteps_c18 n m t1 x2 x3 = some q0 → Ev XL xs (d + 3) 65 (ev_M m c w) 18 [(0, .ref 589), (1, .ref t1), (2, .int x2), (3, .int x3)] [] (fr_i c w q0) := by
  intro n
  induction n with
  | zero => intro m t1 x2 x3 q0 hk_t1 h; exact absurd (show (none : Option (Int32 × mm_MM)) = some q0 from h) (by simp)
  | succ n ih =>
    intro m t1 x2 x3 q0 hk_t1 h
    unfold fX6_fewestSteps_c18 at h
    refine ev_i 3 (M1 := ev_M m c w) (pc1 := 23) (lv1 := [(0, .ref 589), (1, .ref t1), (2, .int x2), (3, .int x3)]) (st1 := []) (M2 := ev_M m c w) (pc2 := 79) (lv2 := [(0, .ref 589), (1, .ref t1), (2, .int x2), (3, .int x3)]) (st2 := []) (fun n => rfl) h (fun hc1 h => ?_) (fun hc1 h => ?_)
    · refine ev_s 2 (M' := ev_M m c w) (pc' := 26) (lv' := [(4, .int 0), (0, .ref 589), (1, .ref t1), (2, .int x2), (3, .int x3)]) (st' := []) (fun n => rfl) ?_
      refine ev_sub (lv := [(0, .ref 589), (1, .ref t1), (2, .int x2), (3, .int x3), (4, .int 0)]) (mn_of rfl (by repeat (first | exact trivial | refine And.intro rfl ?_))) ?_
      exact ok_fX6_fewestSteps_c26 ih fu _ _ _ _ _ _ hk_t1 h
    · refine ev_s 4 (M' := ev_M m c w) (pc' := 85) (lv' := [(4, .int 0), (3, .int 1000000), (0, .ref 589), (1, .ref t1), (2, .int x2)]) (st' := []) (fun n => rfl) ?_
      refine ev_sub (lv := [(0, .ref 589), (1, .ref t1), (2, .int x2), (3, .int 1000000), (4, .int 0)]) (mn_of rfl (by repeat (first | exact trivial | refine And.intro rfl ?_))) ?_
      exact ok_fX6_fewestSteps_c85 fu _ _ _ _ _ _ hk_t1 h
def fX6_fewestSteps (m : mm_MM) (t1 : Nat) : Option (Int32 × mm_MM) :=
  (if m.1 589 2 = 0 then
    some (0, m)
   else
    fX6_fewestSteps_c18 fu m t1 ((1 : Int32) <<< (m.1 589 2 &&& 31)) 1)
set_option maxRecDepth 20000 in
theorem ok_fX6_fewestSteps {m : mm_MM} {t1 : Nat} {q0 : Int32 × mm_MM} (hk_t1 : mm_kd t1 = (1, 10)) (h : fX6_fewestSteps m t1 = some q0) : Ev XL xs (d + 3) 65 (ev_M m c w) 0 (lv_args 0 [.ref 589, .ref t1]) [] (fr_i c w q0) := by
  unfold fX6_fewestSteps at h
  refine ev_i 3 (M1 := ev_M m c w) (pc1 := 7) (lv1 := [(0, .ref 589), (1, .ref t1)]) (st1 := []) (M2 := ev_M m c w) (pc2 := 9) (lv2 := [(0, .ref 589), (1, .ref t1)]) (st2 := []) (fun n => rfl) h (fun hc1 h => ?_) (fun hc1 h => ?_)
  · cases h
    exact ev_r 2 (fun n => rfl)
  · refine ev_s 7 (M' := ev_M m c w) (pc' := 18) (lv' := [(3, .int 1), (2, .int ((1 : Int32) <<< (m.1 589 2 &&& 31))), (0, .ref 589), (1, .ref t1)]) (st' := []) (fun n => rfl) ?_
    refine ev_sub (lv := [(0, .ref 589), (1, .ref t1), (2, .int ((1 : Int32) <<< (m.1 589 2 &&& 31))), (3, .int 1)]) (mn_of rfl (by repeat (first | exact trivial | refine And.intro rfl ?_))) ?_
    exact ok_fX6_fewestSteps_c18 fu _ _ _ _ _ hk_t1 h
def fX7_find_c22 (m : mm_MM) (s0 : Option Nat) : Option (Option Nat × mm_MM) :=
  match s0 with
  | none =>
    some (none, m)
  | some u1 =>
    if mm_kd u1 = (9, 6) then
      some (some u1, m)
    else none
theorem ok_fX7_find_c22 {m : mm_MM} {s0 : Option Nat} {q0 : Option Nat × mm_MM} (h : fX7_find_c22 m s0 = some q0) : Ev XL xs (d + 1) 69 (ev_M m c w) 22 [] [va_rf s0] (fr_r c w q0) := by
  unfold fX7_find_c22 at h
  cases s0 with
  | none =>
    cases h
    exact ev_r 1 (fun n => rfl)
  | some u1 =>
    obtain ⟨hk_u1, h⟩ := sd_ift h
    cases h
    exact ev_r 1 (fun n => rfl)
def fX7_find_c21 (m : mm_MM) : Option (Option Nat × mm_MM) :=
  fX7_find_c22 m none
theorem ok_fX7_find_c21 {m : mm_MM} {q0 : Option Nat × mm_MM} (h : fX7_find_c21 m = some q0) : Ev XL xs (d + 1) 69 (ev_M m c w) 21 [] [] (fr_r c w q0) := by
  unfold fX7_find_c21 at h
  refine ev_s 1 (M' := ev_M m c w) (pc' := 22) (lv' := []) (st' := [va_rf none]) (fun n => rfl) ?_
  exact ok_fX7_find_c22 h
def fX7_find (m : mm_MM) (t0 : Nat) (x1 : Int32) : Option (Option Nat × mm_MM) :=
  (fX7_slot m t0 x1).bind fun r1 =>
   match r1.1 with
   | none =>
     fX7_find_c21 r1.2
   | some u2 =>
     if mm_kd u2 = (9, 6) then
       (if r1.2.1 u2 0 = 0 then
         fX7_find_c21 r1.2
        else
         fX7_find_c22 r1.2 (some u2))
     else none
theorem ok_fX7_find {m : mm_MM} {t0 : Nat} {x1 : Int32} {q0 : Option Nat × mm_MM} (hk_t0 : mm_kd t0 = (7, 8)) (h : fX7_find m t0 x1 = some q0) : Ev XL xs (d + 1) 69 (ev_M m c w) 0 (lv_args 0 [.ref t0, .int x1]) [] (fr_r c w q0) := by
  unfold fX7_find at h
  refine ev_s 2 (M' := ev_M m c w) (pc' := 2) (lv' := [(0, .ref t0), (1, .int x1)]) (st' := [.int x1, .ref t0]) (fun n => rfl) ?_
  obtain ⟨r1, hr1, h⟩ := Option.bind_eq_some_iff.mp h
  refine ev_cv (rest := []) rfl rfl (congrArg Prod.fst hk_t0) rfl (ok_fX7_slot hk_t0 hr1) ?_
  show Ev XL xs _ 69 (ev_M r1.2 c w) 5 [(0, .ref t0), (1, .int x1)] [va_rf r1.1] _
  generalize r1.1 = o4 at h ⊢
  cases o4 with
  | none =>
    refine ev_s 3 (M' := ev_M r1.2 c w) (pc' := 21) (lv' := [(2, .null), (0, .ref t0), (1, .int x1)]) (st' := []) (fun n => rfl) ?_
    refine ev_sub (lv := []) (mn_of rfl (by repeat (first | exact trivial | refine And.intro rfl ?_))) ?_
    exact ok_fX7_find_c21 h
  | some u2 =>
    obtain ⟨hk_u2, h⟩ := sd_ift h
    refine ev_s 4 (M' := ev_M r1.2 c w) (pc' := 11) (lv' := [(2, .ref u2), (0, .ref t0), (1, .int x1)]) (st' := [.ref u2]) (fun n => rfl) ?_
    refine ev_gf (x := .int (r1.2.1 u2 0)) rfl (congrArg Prod.fst hk_u2) rfl rfl ?_
    refine ev_i 1 (M1 := ev_M r1.2 c w) (pc1 := 21) (lv1 := [(2, .ref u2), (0, .ref t0), (1, .int x1)]) (st1 := []) (M2 := ev_M r1.2 c w) (pc2 := 17) (lv2 := [(2, .ref u2), (0, .ref t0), (1, .int x1)]) (st2 := []) (fun n => rfl) h (fun hc3 h => ?_) (fun hc3 h => ?_)
    · refine ev_sub (lv := []) (mn_of rfl (by repeat (first | exact trivial | refine And.intro rfl ?_))) ?_
      exact ok_fX7_find_c21 h
    · refine ev_s 2 (M' := ev_M r1.2 c w) (pc' := 22) (lv' := [(2, .ref u2), (0, .ref t0), (1, .int x1)]) (st' := [va_rf (some u2)]) (fun n => rfl) ?_
      refine ev_sub (lv := []) (mn_of rfl (by repeat (first | exact trivial | refine And.intro rfl ?_))) ?_
      exact ok_fX7_find_c22 h
def fX7_findLying_c23 (m : mm_MM) (s0 : Option Nat) : Option (Option Nat × mm_MM) :=
  match s0 with
  | none =>
    some (none, m)
  | some u1 =>
    if mm_kd u1 = (9, 6) then
      some (some u1, m)
    else none
theorem ok_fX7_findLying_c23 {m : mm_MM} {s0 : Option Nat} {q0 : Option Nat × mm_MM} (h : fX7_findLying_c23 m s0 = some q0) : Ev XL xs (d + 2) 70 (ev_M m c w) 23 [] [va_rf s0] (fr_r c w q0) := by
  unfold fX7_findLying_c23 at h
  cases s0 with
  | none =>
    cases h
    exact ev_r 1 (fun n => rfl)
  | some u1 =>
    obtain ⟨hk_u1, h⟩ := sd_ift h
    cases h
    exact ev_r 1 (fun n => rfl)
def fX7_findLying_c22 (m : mm_MM) : Option (Option Nat × mm_MM) :=
  fX7_findLying_c23 m none
theorem ok_fX7_findLying_c22 {m : mm_MM} {q0 : Option Nat × mm_MM} (h : fX7_findLying_c22 m = some q0) : Ev XL xs (d + 2) 70 (ev_M m c w) 22 [] [] (fr_r c w q0) := by
  unfold fX7_findLying_c22 at h
  refine ev_s 1 (M' := ev_M m c w) (pc' := 23) (lv' := []) (st' := [va_rf none]) (fun n => rfl) ?_
  exact ok_fX7_findLying_c23 h
def fX7_findLying (m : mm_MM) (t0 : Nat) (x1 : Int32) : Option (Option Nat × mm_MM) :=
  (fX7_find m t0 x1).bind fun r1 =>
   match r1.1 with
   | none =>
     fX7_findLying_c22 r1.2
   | some u2 =>
     if mm_kd u2 = (9, 6) then
       (if r1.2.1 u2 3 = ((-1) : Int32) then
         fX7_findLying_c22 r1.2
        else
         fX7_findLying_c23 r1.2 (some u2))
     else none
theorem ok_fX7_findLying {m : mm_MM} {t0 : Nat} {x1 : Int32} {q0 : Option Nat × mm_MM} (hk_t0 : mm_kd t0 = (7, 8)) (h : fX7_findLying m t0 x1 = some q0) : Ev XL xs (d + 2) 70 (ev_M m c w) 0 (lv_args 0 [.ref t0, .int x1]) [] (fr_r c w q0) := by
  unfold fX7_findLying at h
  refine ev_s 2 (M' := ev_M m c w) (pc' := 2) (lv' := [(0, .ref t0), (1, .int x1)]) (st' := [.int x1, .ref t0]) (fun n => rfl) ?_
  obtain ⟨r1, hr1, h⟩ := Option.bind_eq_some_iff.mp h
  refine ev_cv (rest := []) rfl rfl (congrArg Prod.fst hk_t0) rfl (ok_fX7_find hk_t0 hr1) ?_
  show Ev XL xs _ 70 (ev_M r1.2 c w) 5 [(0, .ref t0), (1, .int x1)] [va_rf r1.1] _
  generalize r1.1 = o4 at h ⊢
  cases o4 with
  | none =>
    refine ev_s 3 (M' := ev_M r1.2 c w) (pc' := 22) (lv' := [(2, .null), (0, .ref t0), (1, .int x1)]) (st' := []) (fun n => rfl) ?_
    refine ev_sub (lv := []) (mn_of rfl (by repeat (first | exact trivial | refine And.intro rfl ?_))) ?_
    exact ok_fX7_findLying_c22 h
  | some u2 =>
    obtain ⟨hk_u2, h⟩ := sd_ift h
    refine ev_s 4 (M' := ev_M r1.2 c w) (pc' := 11) (lv' := [(2, .ref u2), (0, .ref t0), (1, .int x1)]) (st' := [.ref u2]) (fun n => rfl) ?_
    refine ev_gf (x := .int (r1.2.1 u2 3)) rfl (congrArg Prod.fst hk_u2) rfl rfl ?_
    refine ev_i 2 (M1 := ev_M r1.2 c w) (pc1 := 22) (lv1 := [(2, .ref u2), (0, .ref t0), (1, .int x1)]) (st1 := []) (M2 := ev_M r1.2 c w) (pc2 := 18) (lv2 := [(2, .ref u2), (0, .ref t0), (1, .int x1)]) (st2 := []) (fun n => rfl) h (fun hc3 h => ?_) (fun hc3 h => ?_)
    · refine ev_sub (lv := []) (mn_of rfl (by repeat (first | exact trivial | refine And.intro rfl ?_))) ?_
      exact ok_fX7_findLying_c22 h
    · refine ev_s 2 (M' := ev_M r1.2 c w) (pc' := 23) (lv' := [(2, .ref u2), (0, .ref t0), (1, .int x1)]) (st' := [va_rf (some u2)]) (fun n => rfl) ?_
      refine ev_sub (lv := []) (mn_of rfl (by repeat (first | exact trivial | refine And.intro rfl ?_))) ?_
      exact ok_fX7_findLying_c23 h
def fX7_placeOfPlot_c28 (kr2 : mm_MM → Nat → Int32 → Int32 → Option (Int32 × mm_MM)) (m : mm_MM) (t0 : Nat) (x1 : Int32) (x2 : Int32) : Option (Int32 × mm_MM) :=
  kr2 m t0 x1 (x2 + 1)
theorem ok_fX7_placeOfPlot_c28 {kr2 : mm_MM → Nat → Int32 → Int32 → Option (Int32 × mm_MM)} (hkr2 : ∀ (m : mm_MM) (t0 : Nat) (x1 : Int32) (x2 : Int32) (q0 : Int32 × mm_MM) (hk_t0 : mm_kd t0 = (7, 8)), kr2 m t0 x1 x2 = some q0 → Ev XL xs (d + 3) 71 (ev_M m c w) 2 [(0, .ref t0), (1, .int x1), (2, .int x2)] [] (fr_i c w q0)) {m : mm_MM} {t0 : Nat} {x1 : Int32} {x2 : Int32} {q0 : Int32 × mm_MM} (hk_t0 : mm_kd t0 = (7, 8)) (h : fX7_placeOfPlot_c28 kr2 m t0 x1 x2 = some q0) : Ev XL xs (d + 3) 71 (ev_M m c w) 28 [(0, .ref t0), (1, .int x1), (2, .int x2)] [] (fr_i c w q0) := by
  unfold fX7_placeOfPlot_c28 at h
  refine ev_s 2 (M' := ev_M m c w) (pc' := 2) (lv' := [(2, .int (x2 + 1)), (0, .ref t0), (1, .int x1)]) (st' := []) (fun n => rfl) ?_
  refine ev_sub (lv := [(0, .ref t0), (1, .int x1), (2, .int (x2 + 1))]) (mn_of rfl (by repeat (first | exact trivial | refine And.intro rfl ?_))) ?_
  exact hkr2 _ _ _ _ _ hk_t0 h
def fX7_placeOfPlot_c2 : Nat → mm_MM → Nat → Int32 → Int32 → Option (Int32 × mm_MM)
  | 0 => fun _ _ _ _ => none
  | n + 1 => fun m t0 x1 x2 =>
    (if x2 < 8 then
      (fX7_findLying m t0 x2).bind fun r2 =>
       match r2.1 with
       | none =>
         fX7_placeOfPlot_c28 (fX7_placeOfPlot_c2 n) r2.2 t0 x1 x2
       | some u3 =>
         if mm_kd u3 = (9, 6) then
           (if r2.2.1 u3 3 = x1 then
             some (x2, r2.2)
            else
             fX7_placeOfPlot_c28 (fX7_placeOfPlot_c2 n) r2.2 t0 x1 x2)
         else none
     else
      some (((-1) : Int32), m))
theorem ok_fX7_placeOfPlot_c2 : ∀ (n : Nat) (m : mm_MM) (t0 : Nat) (x1 : Int32) (x2 : Int32) (q0 : Int32 × mm_MM) (hk_t0 : mm_kd t0 = (7, 8)), fX7_placeOfPlot_c2 n m t0 x1 x2 = some q0 → Ev XL xs (d + 3) 71 (ev_M m c w) 2 [(0, .ref t0), (1, .int x1), (2, .int x2)] [] (fr_i c w q0) := by
  intro n
  induction n with
  | zero => intro m t0 x1 x2 q0 hk_t0 h; exact absurd (show (none : Option (Int32 × mm_MM)) = some q0 from h) (by simp)
  | succ n ih =>
    intro m t0 x1 x2 q0 hk_t0 h
    unfold fX7_placeOfPlot_c2 at h
    refine ev_i 3 (M1 := ev_M m c w) (pc1 := 8) (lv1 := [(0, .ref t0), (1, .int x1), (2, .int x2)]) (st1 := []) (M2 := ev_M m c w) (pc2 := 34) (lv2 := [(0, .ref t0), (1, .int x1), (2, .int x2)]) (st2 := []) (fun n => rfl) h (fun hc1 h => ?_) (fun hc1 h => ?_)
    · refine ev_s 2 (M' := ev_M m c w) (pc' := 10) (lv' := [(0, .ref t0), (1, .int x1), (2, .int x2)]) (st' := [.int x2, .ref t0]) (fun n => rfl) ?_
      obtain ⟨r2, hr2, h⟩ := Option.bind_eq_some_iff.mp h
      refine ev_cv (rest := []) rfl rfl (congrArg Prod.fst hk_t0) rfl (ok_fX7_findLying hk_t0 hr2) ?_
      show Ev XL xs _ 71 (ev_M r2.2 c w) 13 [(0, .ref t0), (1, .int x1), (2, .int x2)] [va_rf r2.1] _
      generalize r2.1 = o5 at h ⊢
      cases o5 with
      | none =>
        refine ev_s 3 (M' := ev_M r2.2 c w) (pc' := 28) (lv' := [(3, .null), (0, .ref t0), (1, .int x1), (2, .int x2)]) (st' := []) (fun n => rfl) ?_
        refine ev_sub (lv := [(0, .ref t0), (1, .int x1), (2, .int x2)]) (mn_of rfl (by repeat (first | exact trivial | refine And.intro rfl ?_))) ?_
        exact ok_fX7_placeOfPlot_c28 ih hk_t0 h
      | some u3 =>
        obtain ⟨hk_u3, h⟩ := sd_ift h
        refine ev_s 4 (M' := ev_M r2.2 c w) (pc' := 19) (lv' := [(3, .ref u3), (0, .ref t0), (1, .int x1), (2, .int x2)]) (st' := [.ref u3]) (fun n => rfl) ?_
        refine ev_gf (x := .int (r2.2.1 u3 3)) rfl (congrArg Prod.fst hk_u3) rfl rfl ?_
        refine ev_i 2 (M1 := ev_M r2.2 c w) (pc1 := 26) (lv1 := [(3, .ref u3), (0, .ref t0), (1, .int x1), (2, .int x2)]) (st1 := []) (M2 := ev_M r2.2 c w) (pc2 := 28) (lv2 := [(3, .ref u3), (0, .ref t0), (1, .int x1), (2, .int x2)]) (st2 := []) (fun n => rfl) h (fun hc4 h => ?_) (fun hc4 h => ?_)
        · cases h
          exact ev_r 2 (fun n => rfl)
        · refine ev_sub (lv := [(0, .ref t0), (1, .int x1), (2, .int x2)]) (mn_of rfl (by repeat (first | exact trivial | refine And.intro rfl ?_))) ?_
          exact ok_fX7_placeOfPlot_c28 ih hk_t0 h
    · cases h
      exact ev_r 2 (fun n => rfl)
def fX7_placeOfPlot (m : mm_MM) (t0 : Nat) (x1 : Int32) : Option (Int32 × mm_MM) :=
  fX7_placeOfPlot_c2 fu m t0 x1 0
theorem ok_fX7_placeOfPlot {m : mm_MM} {t0 : Nat} {x1 : Int32} {q0 : Int32 × mm_MM} (hk_t0 : mm_kd t0 = (7, 8)) (h : fX7_placeOfPlot m t0 x1 = some q0) : Ev XL xs (d + 3) 71 (ev_M m c w) 0 (lv_args 0 [.ref t0, .int x1]) [] (fr_i c w q0) := by
  unfold fX7_placeOfPlot at h
  refine ev_s 2 (M' := ev_M m c w) (pc' := 2) (lv' := [(2, .int 0), (0, .ref t0), (1, .int x1)]) (st' := []) (fun n => rfl) ?_
  refine ev_sub (lv := [(0, .ref t0), (1, .int x1), (2, .int 0)]) (mn_of rfl (by repeat (first | exact trivial | refine And.intro rfl ?_))) ?_
  exact ok_fX7_placeOfPlot_c2 fu _ _ _ _ _ hk_t0 h
def fX7_freePlace_c2 : Nat → mm_MM → Nat → Int32 → Option (Int32 × mm_MM)
  | 0 => fun _ _ _ => none
  | n + 1 => fun m t0 x1 =>
    (if x1 < 8 then
      (fX7_find m t0 x1).bind fun r2 =>
       match r2.1 with
       | none =>
         some (x1, r2.2)
       | some u3 =>
         if mm_kd u3 = (9, 6) then
           fX7_freePlace_c2 n r2.2 t0 (x1 + 1)
         else none
     else
      some (((-1) : Int32), m))
theorem ok_fX7_freePlace_c2 : ∀ (n : Nat) (m : mm_MM) (t0 : Nat) (x1 : Int32) (q0 : Int32 × mm_MM) (hk_t0 : mm_kd t0 = (7, 8)), fX7_freePlace_c2 n m t0 x1 = some q0 → Ev XL xs (d + 2) 72 (ev_M m c w) 2 [(0, .ref t0), (1, .int x1)] [] (fr_i c w q0) := by
  intro n
  induction n with
  | zero => intro m t0 x1 q0 hk_t0 h; exact absurd (show (none : Option (Int32 × mm_MM)) = some q0 from h) (by simp)
  | succ n ih =>
    intro m t0 x1 q0 hk_t0 h
    unfold fX7_freePlace_c2 at h
    refine ev_i 3 (M1 := ev_M m c w) (pc1 := 8) (lv1 := [(0, .ref t0), (1, .int x1)]) (st1 := []) (M2 := ev_M m c w) (pc2 := 24) (lv2 := [(0, .ref t0), (1, .int x1)]) (st2 := []) (fun n => rfl) h (fun hc1 h => ?_) (fun hc1 h => ?_)
    · refine ev_s 2 (M' := ev_M m c w) (pc' := 10) (lv' := [(0, .ref t0), (1, .int x1)]) (st' := [.int x1, .ref t0]) (fun n => rfl) ?_
      obtain ⟨r2, hr2, h⟩ := Option.bind_eq_some_iff.mp h
      refine ev_cv (rest := []) rfl rfl (congrArg Prod.fst hk_t0) rfl (ok_fX7_find hk_t0 hr2) ?_
      show Ev XL xs _ 72 (ev_M r2.2 c w) 13 [(0, .ref t0), (1, .int x1)] [va_rf r2.1] _
      generalize r2.1 = o4 at h ⊢
      cases o4 with
      | none =>
        cases h
        exact ev_r 3 (fun n => rfl)
      | some u3 =>
        obtain ⟨hk_u3, h⟩ := sd_ift h
        refine ev_s 3 (M' := ev_M r2.2 c w) (pc' := 2) (lv' := [(1, .int (x1 + 1)), (0, .ref t0)]) (st' := []) (fun n => rfl) ?_
        refine ev_sub (lv := [(0, .ref t0), (1, .int (x1 + 1))]) (mn_of rfl (by repeat (first | exact trivial | refine And.intro rfl ?_))) ?_
        exact ih _ _ _ _ hk_t0 h
    · cases h
      exact ev_r 2 (fun n => rfl)
def fX7_freePlace (m : mm_MM) (t0 : Nat) : Option (Int32 × mm_MM) :=
  fX7_freePlace_c2 fu m t0 0
theorem ok_fX7_freePlace {m : mm_MM} {t0 : Nat} {q0 : Int32 × mm_MM} (hk_t0 : mm_kd t0 = (7, 8)) (h : fX7_freePlace m t0 = some q0) : Ev XL xs (d + 2) 72 (ev_M m c w) 0 (lv_args 0 [.ref t0]) [] (fr_i c w q0) := by
  unfold fX7_freePlace at h
  refine ev_s 2 (M' := ev_M m c w) (pc' := 2) (lv' := [(1, .int 0), (0, .ref t0)]) (st' := []) (fun n => rfl) ?_
  refine ev_sub (lv := [(0, .ref t0), (1, .int 0)]) (mn_of rfl (by repeat (first | exact trivial | refine And.intro rfl ?_))) ?_
  exact ok_fX7_freePlace_c2 fu _ _ _ _ hk_t0 h
def fX7_begin_c36 (kr2 : mm_MM → Nat → Nat → Int32 → Option (mm_MM)) (m : mm_MM) (t0 : Nat) (t1 : Nat) (x2 : Int32) : Option (mm_MM) :=
  kr2 m t0 t1 (x2 + 1)
theorem ok_fX7_begin_c36 {kr2 : mm_MM → Nat → Nat → Int32 → Option (mm_MM)} (hkr2 : ∀ (m : mm_MM) (t0 : Nat) (t1 : Nat) (x2 : Int32) (q0 : mm_MM) (hk_t0 : mm_kd t0 = (7, 8)) (hk_t1 : mm_kd t1 = (1, 10)), kr2 m t0 t1 x2 = some q0 → Ev XL xs (d + 1) 73 (ev_M m c w) 2 [(0, .ref t0), (1, .ref t1), (2, .int x2)] [] (fr_v c w q0)) {m : mm_MM} {t0 : Nat} {t1 : Nat} {x2 : Int32} {q0 : mm_MM} (hk_t0 : mm_kd t0 = (7, 8)) (hk_t1 : mm_kd t1 = (1, 10)) (h : fX7_begin_c36 kr2 m t0 t1 x2 = some q0) : Ev XL xs (d + 1) 73 (ev_M m c w) 36 [(0, .ref t0), (1, .ref t1), (2, .int x2)] [] (fr_v c w q0) := by
  unfold fX7_begin_c36 at h
  refine ev_s 2 (M' := ev_M m c w) (pc' := 2) (lv' := [(2, .int (x2 + 1)), (0, .ref t0), (1, .ref t1)]) (st' := []) (fun n => rfl) ?_
  refine ev_sub (lv := [(0, .ref t0), (1, .ref t1), (2, .int (x2 + 1))]) (mn_of rfl (by repeat (first | exact trivial | refine And.intro rfl ?_))) ?_
  exact hkr2 _ _ _ _ _ hk_t0 hk_t1 h
def fX7_begin_c2 : Nat → mm_MM → Nat → Nat → Int32 → Option (mm_MM)
  | 0 => fun _ _ _ _ => none
  | n + 1 => fun m t0 t1 x2 =>
    (if x2 < 8 then
      (fX7_slot m t0 x2).bind fun r2 =>
       match r2.1 with
       | none =>
         (fX1_thingAt r2.2 t1 x2).bind fun r4 =>
          match r4.1 with
          | none =>
            fX7_begin_c36 (fX7_begin_c2 n) r4.2 t0 t1 x2
          | some u5 =>
            if mm_kd u5 = (9, 6) then
              fX7_begin_c36 (fX7_begin_c2 n) r4.2 t0 t1 x2
            else none
       | some u3 =>
         if mm_kd u3 = (9, 6) then
           (fX1_thingAt r2.2 t1 x2).bind fun r7 =>
            match r7.1 with
            | none =>
              fX7_begin_c36 (fX7_begin_c2 n) r7.2 t0 t1 x2
            | some u8 =>
              if mm_kd u8 = (9, 6) then
                (fX9_copy r7.2 u3 u8).bind fun r9 =>
                 fX7_begin_c36 (fX7_begin_c2 n) r9 t0 t1 x2
              else none
         else none
     else
      some (wI (wI (wI (wI m t0 6 (m.1 t1 7)) t0 7 0) t0 4 0) t0 5 0))
theorem ok_fX7_begin_c2 : ∀ (n : Nat) (m : mm_MM) (t0 : Nat) (t1 : Nat) (x2 : Int32) (q0 : mm_MM) (hk_t0 : mm_kd t0 = (7, 8)) (hk_t1 : mm_kd t1 = (1, 10)), fX7_begin_c2 n m t0 t1 x2 = some q0 → Ev XL xs (d + 1) 73 (ev_M m c w) 2 [(0, .ref t0), (1, .ref t1), (2, .int x2)] [] (fr_v c w q0) := by
  intro n
  induction n with
  | zero => intro m t0 t1 x2 q0 hk_t0 hk_t1 h; exact absurd (show (none : Option (mm_MM)) = some q0 from h) (by simp)
  | succ n ih =>
    intro m t0 t1 x2 q0 hk_t0 hk_t1 h
    unfold fX7_begin_c2 at h
    refine ev_i 3 (M1 := ev_M m c w) (pc1 := 8) (lv1 := [(0, .ref t0), (1, .ref t1), (2, .int x2)]) (st1 := []) (M2 := ev_M m c w) (pc2 := 42) (lv2 := [(0, .ref t0), (1, .ref t1), (2, .int x2)]) (st2 := []) (fun n => rfl) h (fun hc1 h => ?_) (fun hc1 h => ?_)
    · refine ev_s 2 (M' := ev_M m c w) (pc' := 10) (lv' := [(0, .ref t0), (1, .ref t1), (2, .int x2)]) (st' := [.int x2, .ref t0]) (fun n => rfl) ?_
      obtain ⟨r2, hr2, h⟩ := Option.bind_eq_some_iff.mp h
      refine ev_cv (rest := []) rfl rfl (congrArg Prod.fst hk_t0) rfl (ok_fX7_slot hk_t0 hr2) ?_
      show Ev XL xs _ 73 (ev_M r2.2 c w) 13 [(0, .ref t0), (1, .ref t1), (2, .int x2)] [va_rf r2.1] _
      generalize r2.1 = o11 at h ⊢
      cases o11 with
      | none =>
        refine ev_s 3 (M' := ev_M r2.2 c w) (pc' := 16) (lv' := [(3, .null), (0, .ref t0), (1, .ref t1), (2, .int x2)]) (st' := [.int x2, .ref t1]) (fun n => rfl) ?_
        obtain ⟨r4, hr4, h⟩ := Option.bind_eq_some_iff.mp h
        refine ev_cv (rest := []) rfl rfl (congrArg Prod.fst hk_t1) rfl (ok_fX1_thingAt hk_t1 hr4) ?_
        show Ev XL xs _ 73 (ev_M r4.2 c w) 19 [(3, .null), (0, .ref t0), (1, .ref t1), (2, .int x2)] [va_rf r4.1] _
        generalize r4.1 = o6 at h ⊢
        cases o6 with
        | none =>
          refine ev_s 3 (M' := ev_M r4.2 c w) (pc' := 36) (lv' := [(4, .null), (3, .null), (0, .ref t0), (1, .ref t1), (2, .int x2)]) (st' := []) (fun n => rfl) ?_
          refine ev_sub (lv := [(0, .ref t0), (1, .ref t1), (2, .int x2)]) (mn_of rfl (by repeat (first | exact trivial | refine And.intro rfl ?_))) ?_
          exact ok_fX7_begin_c36 ih hk_t0 hk_t1 h
        | some u5 =>
          obtain ⟨hk_u5, h⟩ := sd_ift h
          refine ev_s 3 (M' := ev_M r4.2 c w) (pc' := 36) (lv' := [(4, .ref u5), (3, .null), (0, .ref t0), (1, .ref t1), (2, .int x2)]) (st' := []) (fun n => rfl) ?_
          refine ev_sub (lv := [(0, .ref t0), (1, .ref t1), (2, .int x2)]) (mn_of rfl (by repeat (first | exact trivial | refine And.intro rfl ?_))) ?_
          exact ok_fX7_begin_c36 ih hk_t0 hk_t1 h
      | some u3 =>
        obtain ⟨hk_u3, h⟩ := sd_ift h
        refine ev_s 3 (M' := ev_M r2.2 c w) (pc' := 16) (lv' := [(3, .ref u3), (0, .ref t0), (1, .ref t1), (2, .int x2)]) (st' := [.int x2, .ref t1]) (fun n => rfl) ?_
        obtain ⟨r7, hr7, h⟩ := Option.bind_eq_some_iff.mp h
        refine ev_cv (rest := []) rfl rfl (congrArg Prod.fst hk_t1) rfl (ok_fX1_thingAt hk_t1 hr7) ?_
        show Ev XL xs _ 73 (ev_M r7.2 c w) 19 [(3, .ref u3), (0, .ref t0), (1, .ref t1), (2, .int x2)] [va_rf r7.1] _
        generalize r7.1 = o10 at h ⊢
        cases o10 with
        | none =>
          refine ev_s 5 (M' := ev_M r7.2 c w) (pc' := 36) (lv' := [(4, .null), (3, .ref u3), (0, .ref t0), (1, .ref t1), (2, .int x2)]) (st' := []) (fun n => rfl) ?_
          refine ev_sub (lv := [(0, .ref t0), (1, .ref t1), (2, .int x2)]) (mn_of rfl (by repeat (first | exact trivial | refine And.intro rfl ?_))) ?_
          exact ok_fX7_begin_c36 ih hk_t0 hk_t1 h
        | some u8 =>
          obtain ⟨hk_u8, h⟩ := sd_ift h
          refine ev_s 7 (M' := ev_M r7.2 c w) (pc' := 33) (lv' := [(4, .ref u8), (3, .ref u3), (0, .ref t0), (1, .ref t1), (2, .int x2)]) (st' := [.ref u8, .ref u3]) (fun n => rfl) ?_
          obtain ⟨r9, hr9, h⟩ := Option.bind_eq_some_iff.mp h
          refine ev_cv (rest := []) rfl rfl (congrArg Prod.fst hk_u3) rfl (ok_fX9_copy hk_u3 hk_u8 hr9) ?_
          show Ev XL xs _ 73 (ev_M r9 c w) 36 [(4, .ref u8), (3, .ref u3), (0, .ref t0), (1, .ref t1), (2, .int x2)] [] _
          refine ev_sub (lv := [(0, .ref t0), (1, .ref t1), (2, .int x2)]) (mn_of rfl (by repeat (first | exact trivial | refine And.intro rfl ?_))) ?_
          exact ok_fX7_begin_c36 ih hk_t0 hk_t1 h
    · refine ev_s 2 (M' := ev_M m c w) (pc' := 44) (lv' := [(0, .ref t0), (1, .ref t1), (2, .int x2)]) (st' := [.ref t1, .ref t0]) (fun n => rfl) ?_
      refine ev_gf (x := .int (m.1 t1 7)) rfl (congrArg Prod.fst hk_t1) rfl rfl ?_
      refine ev_pfi rfl (congrArg Prod.fst hk_t0) rfl rfl rfl ?_
      refine ev_s 2 (M' := ev_M (wI m t0 6 (m.1 t1 7)) c w) (pc' := 52) (lv' := [(0, .ref t0), (1, .ref t1), (2, .int x2)]) (st' := [.int 0, .ref t0]) (fun n => rfl) ?_
      refine ev_pfi rfl (congrArg Prod.fst hk_t0) rfl rfl rfl ?_
      refine ev_s 2 (M' := ev_M (wI (wI m t0 6 (m.1 t1 7)) t0 7 0) c w) (pc' := 57) (lv' := [(0, .ref t0), (1, .ref t1), (2, .int x2)]) (st' := [.int 0, .ref t0]) (fun n => rfl) ?_
      refine ev_pfi rfl (congrArg Prod.fst hk_t0) rfl rfl rfl ?_
      refine ev_s 2 (M' := ev_M (wI (wI (wI m t0 6 (m.1 t1 7)) t0 7 0) t0 4 0) c w) (pc' := 62) (lv' := [(0, .ref t0), (1, .ref t1), (2, .int x2)]) (st' := [.int 0, .ref t0]) (fun n => rfl) ?_
      refine ev_pfi rfl (congrArg Prod.fst hk_t0) rfl rfl rfl ?_
      cases h
      exact ev_r 1 (fun n => rfl)
def fX7_begin (m : mm_MM) (t0 : Nat) (t1 : Nat) : Option (mm_MM) :=
  fX7_begin_c2 fu m t0 t1 0
theorem ok_fX7_begin {m : mm_MM} {t0 : Nat} {t1 : Nat} {q0 : mm_MM} (hk_t0 : mm_kd t0 = (7, 8)) (hk_t1 : mm_kd t1 = (1, 10)) (h : fX7_begin m t0 t1 = some q0) : Ev XL xs (d + 1) 73 (ev_M m c w) 0 (lv_args 0 [.ref t0, .ref t1]) [] (fr_v c w q0) := by
  unfold fX7_begin at h
  refine ev_s 2 (M' := ev_M m c w) (pc' := 2) (lv' := [(2, .int 0), (0, .ref t0), (1, .ref t1)]) (st' := []) (fun n => rfl) ?_
  refine ev_sub (lv := [(0, .ref t0), (1, .ref t1), (2, .int 0)]) (mn_of rfl (by repeat (first | exact trivial | refine And.intro rfl ?_))) ?_
  exact ok_fX7_begin_c2 fu _ _ _ _ _ hk_t0 hk_t1 h
def fX7_write (m : mm_MM) (t0 : Nat) (x1 : Int32) (x2 : Int32) (x3 : Int32) : Option (mm_MM) :=
  (fX10_place m (t0 + 2) (m.1 t0 5) x1).bind fun r1 =>
   (fX10_place r1 (t0 + 3) (r1.1 t0 5) x2).bind fun r2 =>
    (fX10_place r2 (t0 + 4) (r2.1 t0 5) x3).bind fun r3 =>
     (fJ9_min_7cf53 (wI r3 t0 5 (((r3.1 t0 5 + 1) : Int32) - (r3.1 t0 5 + 1) / 60 * 60)) 60 ((wI r3 t0 5 (((r3.1 t0 5 + 1) : Int32) - (r3.1 t0 5 + 1) / 60 * 60)).1 t0 4 + 1)).bind fun r4 =>
      some (wI r4.2 t0 4 r4.1)
theorem ok_fX7_write {m : mm_MM} {t0 : Nat} {x1 : Int32} {x2 : Int32} {x3 : Int32} {q0 : mm_MM} (hk_t0 : mm_kd t0 = (7, 8)) (h : fX7_write m t0 x1 x2 x3 = some q0) : Ev XL xs (d + 1) 75 (ev_M m c w) 0 (lv_args 0 [.ref t0, .int x1, .int x2, .int x3]) [] (fr_v c w q0) := by
  unfold fX7_write at h
  refine ev_s 1 (M' := ev_M m c w) (pc' := 1) (lv' := [(0, .ref t0), (1, .int x1), (2, .int x2), (3, .int x3)]) (st' := [.ref t0]) (fun n => rfl) ?_
  refine ev_gf (x := .ref (t0 + 2)) rfl (congrArg Prod.fst hk_t0) rfl (congrArg va_rf (tr_Sx1 hk_t0)) ?_
  refine ev_s 1 (M' := ev_M m c w) (pc' := 5) (lv' := [(0, .ref t0), (1, .int x1), (2, .int x2), (3, .int x3)]) (st' := [.ref t0, .ref (t0 + 2)]) (fun n => rfl) ?_
  refine ev_gf (x := .int (m.1 t0 5)) rfl (congrArg Prod.fst hk_t0) rfl rfl ?_
  obtain ⟨r1, hr1, h⟩ := Option.bind_eq_some_iff.mp h
  refine ev_c 2 (y' := 176) (M1 := ev_M m c w) (la := lv_args 0 [.ref (t0 + 2), .int (m.1 t0 5), .int x1]) (rest := []) (pc' := 12) (lv' := [(0, .ref t0), (1, .int x1), (2, .int x2), (3, .int x3)]) (fun n => rfl) (ok_fX10_place (congrArg Prod.fst (kd_S2 hk_t0)) hr1) ?_
  show Ev XL xs _ 75 (ev_M r1 c w) 12 [(0, .ref t0), (1, .int x1), (2, .int x2), (3, .int x3)] [] _
  refine ev_s 1 (M' := ev_M r1 c w) (pc' := 13) (lv' := [(0, .ref t0), (1, .int x1), (2, .int x2), (3, .int x3)]) (st' := [.ref t0]) (fun n => rfl) ?_
  refine ev_gf (x := .ref (t0 + 3)) rfl (congrArg Prod.fst hk_t0) rfl (congrArg va_rf (tr_Sx2 hk_t0)) ?_
  refine ev_s 1 (M' := ev_M r1 c w) (pc' := 17) (lv' := [(0, .ref t0), (1, .int x1), (2, .int x2), (3, .int x3)]) (st' := [.ref t0, .ref (t0 + 3)]) (fun n => rfl) ?_
  refine ev_gf (x := .int (r1.1 t0 5)) rfl (congrArg Prod.fst hk_t0) rfl rfl ?_
  obtain ⟨r2, hr2, h⟩ := Option.bind_eq_some_iff.mp h
  refine ev_c 2 (y' := 176) (M1 := ev_M r1 c w) (la := lv_args 0 [.ref (t0 + 3), .int (r1.1 t0 5), .int x2]) (rest := []) (pc' := 24) (lv' := [(0, .ref t0), (1, .int x1), (2, .int x2), (3, .int x3)]) (fun n => rfl) (ok_fX10_place (congrArg Prod.fst (kd_S3 hk_t0)) hr2) ?_
  show Ev XL xs _ 75 (ev_M r2 c w) 24 [(0, .ref t0), (1, .int x1), (2, .int x2), (3, .int x3)] [] _
  refine ev_s 1 (M' := ev_M r2 c w) (pc' := 25) (lv' := [(0, .ref t0), (1, .int x1), (2, .int x2), (3, .int x3)]) (st' := [.ref t0]) (fun n => rfl) ?_
  refine ev_gf (x := .ref (t0 + 4)) rfl (congrArg Prod.fst hk_t0) rfl (congrArg va_rf (tr_Sx3 hk_t0)) ?_
  refine ev_s 1 (M' := ev_M r2 c w) (pc' := 29) (lv' := [(0, .ref t0), (1, .int x1), (2, .int x2), (3, .int x3)]) (st' := [.ref t0, .ref (t0 + 4)]) (fun n => rfl) ?_
  refine ev_gf (x := .int (r2.1 t0 5)) rfl (congrArg Prod.fst hk_t0) rfl rfl ?_
  obtain ⟨r3, hr3, h⟩ := Option.bind_eq_some_iff.mp h
  refine ev_c 2 (y' := 176) (M1 := ev_M r2 c w) (la := lv_args 0 [.ref (t0 + 4), .int (r2.1 t0 5), .int x3]) (rest := []) (pc' := 36) (lv' := [(0, .ref t0), (1, .int x1), (2, .int x2), (3, .int x3)]) (fun n => rfl) (ok_fX10_place (congrArg Prod.fst (kd_S4 hk_t0)) hr3) ?_
  show Ev XL xs _ 75 (ev_M r3 c w) 36 [(0, .ref t0), (1, .int x1), (2, .int x2), (3, .int x3)] [] _
  refine ev_s 2 (M' := ev_M r3 c w) (pc' := 38) (lv' := [(0, .ref t0), (1, .int x1), (2, .int x2), (3, .int x3)]) (st' := [.ref t0, .ref t0]) (fun n => rfl) ?_
  refine ev_gf (x := .int (r3.1 t0 5)) rfl (congrArg Prod.fst hk_t0) rfl rfl ?_
  refine ev_s 4 (M' := ev_M r3 c w) (pc' := 46) (lv' := [(0, .ref t0), (1, .int x1), (2, .int x2), (3, .int x3)]) (st' := [.int (((r3.1 t0 5 + 1) : Int32) - (r3.1 t0 5 + 1) / 60 * 60), .ref t0]) (fun n => rfl) ?_
  refine ev_pfi rfl (congrArg Prod.fst hk_t0) rfl rfl rfl ?_
  refine ev_s 3 (M' := ev_M (wI r3 t0 5 (((r3.1 t0 5 + 1) : Int32) - (r3.1 t0 5 + 1) / 60 * 60)) c w) (pc' := 53) (lv' := [(0, .ref t0), (1, .int x1), (2, .int x2), (3, .int x3)]) (st' := [.ref t0, .int 60, .ref t0]) (fun n => rfl) ?_
  refine ev_gf (x := .int ((wI r3 t0 5 (((r3.1 t0 5 + 1) : Int32) - (r3.1 t0 5 + 1) / 60 * 60)).1 t0 4)) rfl (congrArg Prod.fst hk_t0) rfl rfl ?_
  obtain ⟨r4, hr4, h⟩ := Option.bind_eq_some_iff.mp h
  refine ev_c 3 (y' := 308) (M1 := ev_M (wI r3 t0 5 (((r3.1 t0 5 + 1) : Int32) - (r3.1 t0 5 + 1) / 60 * 60)) c w) (la := lv_args 0 [.int 60, .int ((wI r3 t0 5 (((r3.1 t0 5 + 1) : Int32) - (r3.1 t0 5 + 1) / 60 * 60)).1 t0 4 + 1)]) (rest := [.ref t0]) (pc' := 61) (lv' := [(0, .ref t0), (1, .int x1), (2, .int x2), (3, .int x3)]) (fun n => rfl) (ok_fJ9_min_7cf53 hr4) ?_
  show Ev XL xs _ 75 (ev_M r4.2 c w) 61 [(0, .ref t0), (1, .int x1), (2, .int x2), (3, .int x3)] [.int r4.1, .ref t0] _
  refine ev_pfi rfl (congrArg Prod.fst hk_t0) rfl rfl rfl ?_
  cases h
  exact ev_r 1 (fun n => rfl)
def fX8_bytesIn_c25 (kr5 : mm_MM → Int32 → Int32 → Int32 → Option (Int32 × mm_MM)) (m : mm_MM) (x0 : Int32) (x2 : Int32) (s0 : Int32) (s1 : Int32) : Option (Int32 × mm_MM) :=
  kr5 m x0 (s0 + s1) (x2 + (-8))
theorem ok_fX8_bytesIn_c25 {kr5 : mm_MM → Int32 → Int32 → Int32 → Option (Int32 × mm_MM)} (hkr5 : ∀ (m : mm_MM) (x0 : Int32) (x1 : Int32) (x2 : Int32) (q0 : Int32 × mm_MM), kr5 m x0 x1 x2 = some q0 → Ev XL xs d 77 (ev_M m c w) 5 [(0, .int x0), (1, .int x1), (2, .int x2)] [] (fr_i c w q0)) {m : mm_MM} {x0 : Int32} {x2 : Int32} {s0 : Int32} {s1 : Int32} {q0 : Int32 × mm_MM} (h : fX8_bytesIn_c25 kr5 m x0 x2 s0 s1 = some q0) : Ev XL xs d 77 (ev_M m c w) 25 [(0, .int x0), (2, .int x2)] [.int s1, .int s0] (fr_i c w q0) := by
  unfold fX8_bytesIn_c25 at h
  refine ev_s 4 (M' := ev_M m c w) (pc' := 5) (lv' := [(2, .int (x2 + (-8))), (1, .int (s0 + s1)), (0, .int x0)]) (st' := []) (fun n => rfl) ?_
  refine ev_sub (lv := [(0, .int x0), (1, .int (s0 + s1)), (2, .int (x2 + (-8)))]) (mn_of rfl (by repeat (first | exact trivial | refine And.intro rfl ?_))) ?_
  exact hkr5 _ _ _ _ _ h
def fX8_bytesIn_c5 : Nat → mm_MM → Int32 → Int32 → Int32 → Option (Int32 × mm_MM)
  | 0 => fun _ _ _ _ => none
  | n + 1 => fun m x0 x1 x2 =>
    (if x2 < 0 then
      some (x1, m)
     else
      (if ((Int32.toUInt32 x0 >>> (Int32.toUInt32 x2 &&& Int32.toUInt32 31)).toInt32 &&& 255) = 0 then
        fX8_bytesIn_c25 (fX8_bytesIn_c5 n) m x0 x2 x1 0
       else
        fX8_bytesIn_c25 (fX8_bytesIn_c5 n) m x0 x2 x1 1))
theorem ok_fX8_bytesIn_c5 : ∀ (n : Nat) (m : mm_MM) (x0 : Int32) (x1 : Int32) (x2 : Int32) (q0 : Int32 × mm_MM), fX8_bytesIn_c5 n m x0 x1 x2 = some q0 → Ev XL xs d 77 (ev_M m c w) 5 [(0, .int x0), (1, .int x1), (2, .int x2)] [] (fr_i c w q0) := by
  intro n
  induction n with
  | zero => intro m x0 x1 x2 q0 h; exact absurd (show (none : Option (Int32 × mm_MM)) = some q0 from h) (by simp)
  | succ n ih =>
    intro m x0 x1 x2 q0 h
    unfold fX8_bytesIn_c5 at h
    refine ev_i 2 (M1 := ev_M m c w) (pc1 := 33) (lv1 := [(0, .int x0), (1, .int x1), (2, .int x2)]) (st1 := []) (M2 := ev_M m c w) (pc2 := 9) (lv2 := [(0, .int x0), (1, .int x1), (2, .int x2)]) (st2 := []) (fun n => rfl) h (fun hc1 h => ?_) (fun hc1 h => ?_)
    · cases h
      exact ev_r 2 (fun n => rfl)
    · refine ev_i 7 (M1 := ev_M m c w) (pc1 := 24) (lv1 := [(0, .int x0), (1, .int x1), (2, .int x2)]) (st1 := [.int x1]) (M2 := ev_M m c w) (pc2 := 20) (lv2 := [(0, .int x0), (1, .int x1), (2, .int x2)]) (st2 := [.int x1]) (fun n => rfl) h (fun hc2 h => ?_) (fun hc2 h => ?_)
      · refine ev_s 1 (M' := ev_M m c w) (pc' := 25) (lv' := [(0, .int x0), (1, .int x1), (2, .int x2)]) (st' := [.int 0, .int x1]) (fun n => rfl) ?_
        refine ev_sub (lv := [(0, .int x0), (2, .int x2)]) (mn_of rfl (by repeat (first | exact trivial | refine And.intro rfl ?_))) ?_
        exact ok_fX8_bytesIn_c25 ih h
      · refine ev_s 2 (M' := ev_M m c w) (pc' := 25) (lv' := [(0, .int x0), (1, .int x1), (2, .int x2)]) (st' := [.int 1, .int x1]) (fun n => rfl) ?_
        refine ev_sub (lv := [(0, .int x0), (2, .int x2)]) (mn_of rfl (by repeat (first | exact trivial | refine And.intro rfl ?_))) ?_
        exact ok_fX8_bytesIn_c25 ih h
def fX8_bytesIn (m : mm_MM) (x0 : Int32) : Option (Int32 × mm_MM) :=
  fX8_bytesIn_c5 fu m x0 0 24
theorem ok_fX8_bytesIn {m : mm_MM} {x0 : Int32} {q0 : Int32 × mm_MM} (h : fX8_bytesIn m x0 = some q0) : Ev XL xs d 77 (ev_M m c w) 0 (lv_args 0 [.int x0]) [] (fr_i c w q0) := by
  unfold fX8_bytesIn at h
  refine ev_s 4 (M' := ev_M m c w) (pc' := 5) (lv' := [(2, .int 24), (1, .int 0), (0, .int x0)]) (st' := []) (fun n => rfl) ?_
  refine ev_sub (lv := [(0, .int x0), (1, .int 0), (2, .int 24)]) (mn_of rfl (by repeat (first | exact trivial | refine And.intro rfl ?_))) ?_
  exact ok_fX8_bytesIn_c5 fu _ _ _ _ _ h
def fX8_append_c51 (kr3 : mm_MM → Int32 → Int32 → Option (mm_MM)) (m : mm_MM) (x1 : Int32) (x2 : Int32) : Option (mm_MM) :=
  kr3 m x1 (x2 + (-8))
theorem ok_fX8_append_c51 {kr3 : mm_MM → Int32 → Int32 → Option (mm_MM)} (hkr3 : ∀ (m : mm_MM) (x1 : Int32) (x2 : Int32) (q0 : mm_MM), kr3 m x1 x2 = some q0 → Ev XL xs (d + 1) 78 (ev_M m c w) 3 [(0, .ref 1), (1, .int x1), (2, .int x2)] [] (fr_v c w q0)) {m : mm_MM} {x1 : Int32} {x2 : Int32} {q0 : mm_MM} (h : fX8_append_c51 kr3 m x1 x2 = some q0) : Ev XL xs (d + 1) 78 (ev_M m c w) 51 [(0, .ref 1), (1, .int x1), (2, .int x2)] [] (fr_v c w q0) := by
  unfold fX8_append_c51 at h
  refine ev_s 2 (M' := ev_M m c w) (pc' := 3) (lv' := [(2, .int (x2 + (-8))), (0, .ref 1), (1, .int x1)]) (st' := []) (fun n => rfl) ?_
  refine ev_sub (lv := [(0, .ref 1), (1, .int x1), (2, .int (x2 + (-8)))]) (mn_of rfl (by repeat (first | exact trivial | refine And.intro rfl ?_))) ?_
  exact hkr3 _ _ _ _ h
def fX8_append_c3 : Nat → mm_MM → Int32 → Int32 → Option (mm_MM)
  | 0 => fun _ _ _ => none
  | n + 1 => fun m x1 x2 =>
    (if x2 < 0 then
      some m
     else
      (if ((Int32.toUInt32 x1 >>> (Int32.toUInt32 x2 &&& Int32.toUInt32 31)).toInt32 &&& 255) = 0 then
        fX8_append_c51 (fX8_append_c3 n) m x1 x2
       else
        (if m.1 1 1 < 240 then
          (fX10_place m 2 (m.1 1 1) ((Int32.toUInt32 x1 >>> (Int32.toUInt32 x2 &&& Int32.toUInt32 31)).toInt32 &&& 255)).bind fun r4 =>
           fX8_append_c51 (fX8_append_c3 n) (wI r4 1 1 (r4.1 1 1 + 1)) x1 x2
         else
          fX8_append_c51 (fX8_append_c3 n) m x1 x2)))
theorem ok_fX8_append_c3 : ∀ (n : Nat) (m : mm_MM) (x1 : Int32) (x2 : Int32) (q0 : mm_MM), fX8_append_c3 n m x1 x2 = some q0 → Ev XL xs (d + 1) 78 (ev_M m c w) 3 [(0, .ref 1), (1, .int x1), (2, .int x2)] [] (fr_v c w q0) := by
  intro n
  induction n with
  | zero => intro m x1 x2 q0 h; exact absurd (show (none : Option (mm_MM)) = some q0 from h) (by simp)
  | succ n ih =>
    intro m x1 x2 q0 h
    unfold fX8_append_c3 at h
    refine ev_i 2 (M1 := ev_M m c w) (pc1 := 57) (lv1 := [(0, .ref 1), (1, .int x1), (2, .int x2)]) (st1 := []) (M2 := ev_M m c w) (pc2 := 7) (lv2 := [(0, .ref 1), (1, .int x1), (2, .int x2)]) (st2 := []) (fun n => rfl) h (fun hc1 h => ?_) (fun hc1 h => ?_)
    · cases h
      exact ev_r 1 (fun n => rfl)
    · refine ev_i 8 (M1 := ev_M m c w) (pc1 := 51) (lv1 := [(3, .int ((Int32.toUInt32 x1 >>> (Int32.toUInt32 x2 &&& Int32.toUInt32 31)).toInt32 &&& 255)), (0, .ref 1), (1, .int x1), (2, .int x2)]) (st1 := []) (M2 := ev_M m c w) (pc2 := 19) (lv2 := [(3, .int ((Int32.toUInt32 x1 >>> (Int32.toUInt32 x2 &&& Int32.toUInt32 31)).toInt32 &&& 255)), (0, .ref 1), (1, .int x1), (2, .int x2)]) (st2 := []) (fun n => rfl) h (fun hc2 h => ?_) (fun hc2 h => ?_)
      · refine ev_sub (lv := [(0, .ref 1), (1, .int x1), (2, .int x2)]) (mn_of rfl (by repeat (first | exact trivial | refine And.intro rfl ?_))) ?_
        exact ok_fX8_append_c51 ih h
      · refine ev_i 4 (M1 := ev_M m c w) (pc1 := 29) (lv1 := [(3, .int ((Int32.toUInt32 x1 >>> (Int32.toUInt32 x2 &&& Int32.toUInt32 31)).toInt32 &&& 255)), (0, .ref 1), (1, .int x1), (2, .int x2)]) (st1 := []) (M2 := ev_M m c w) (pc2 := 51) (lv2 := [(3, .int ((Int32.toUInt32 x1 >>> (Int32.toUInt32 x2 &&& Int32.toUInt32 31)).toInt32 &&& 255)), (0, .ref 1), (1, .int x1), (2, .int x2)]) (st2 := []) (fun n => rfl) h (fun hc3 h => ?_) (fun hc3 h => ?_)
        · obtain ⟨r4, hr4, h⟩ := Option.bind_eq_some_iff.mp h
          refine ev_c 6 (y' := 176) (M1 := ev_M m c w) (la := lv_args 0 [.ref 2, .int (m.1 1 1), .int ((Int32.toUInt32 x1 >>> (Int32.toUInt32 x2 &&& Int32.toUInt32 31)).toInt32 &&& 255)]) (rest := []) (pc' := 41) (lv' := [(3, .int ((Int32.toUInt32 x1 >>> (Int32.toUInt32 x2 &&& Int32.toUInt32 31)).toInt32 &&& 255)), (0, .ref 1), (1, .int x1), (2, .int x2)]) (fun n => rfl) (ok_fX10_place (congrArg Prod.fst (rfl : mm_kd 2 = (20, 240))) hr4) ?_
          show Ev XL xs _ 78 (ev_M r4 c w) 41 [(3, .int ((Int32.toUInt32 x1 >>> (Int32.toUInt32 x2 &&& Int32.toUInt32 31)).toInt32 &&& 255)), (0, .ref 1), (1, .int x1), (2, .int x2)] [] _
          refine ev_s 6 (M' := ev_M (wI r4 1 1 (r4.1 1 1 + 1)) c w) (pc' := 51) (lv' := [(3, .int ((Int32.toUInt32 x1 >>> (Int32.toUInt32 x2 &&& Int32.toUInt32 31)).toInt32 &&& 255)), (0, .ref 1), (1, .int x1), (2, .int x2)]) (st' := []) (fun n => rfl) ?_
          refine ev_sub (lv := [(0, .ref 1), (1, .int x1), (2, .int x2)]) (mn_of rfl (by repeat (first | exact trivial | refine And.intro rfl ?_))) ?_
          exact ok_fX8_append_c51 ih h
        · refine ev_sub (lv := [(0, .ref 1), (1, .int x1), (2, .int x2)]) (mn_of rfl (by repeat (first | exact trivial | refine And.intro rfl ?_))) ?_
          exact ok_fX8_append_c51 ih h
def fX8_append (m : mm_MM) (x1 : Int32) : Option (mm_MM) :=
  fX8_append_c3 fu m x1 24
theorem ok_fX8_append {m : mm_MM} {x1 : Int32} {q0 : mm_MM} (h : fX8_append m x1 = some q0) : Ev XL xs (d + 1) 78 (ev_M m c w) 0 (lv_args 0 [.ref 1, .int x1]) [] (fr_v c w q0) := by
  unfold fX8_append at h
  refine ev_s 2 (M' := ev_M m c w) (pc' := 3) (lv' := [(2, .int 24), (0, .ref 1), (1, .int x1)]) (st' := []) (fun n => rfl) ?_
  refine ev_sub (lv := [(0, .ref 1), (1, .int x1), (2, .int 24)]) (mn_of rfl (by repeat (first | exact trivial | refine And.intro rfl ?_))) ?_
  exact ok_fX8_append_c3 fu _ _ _ _ h
def fX8_cut (m : mm_MM) (x1 : Int32) : Option (mm_MM) :=
  some (wI m 1 1 x1)
theorem ok_fX8_cut {m : mm_MM} {x1 : Int32} {q0 : mm_MM} (h : fX8_cut m x1 = some q0) : Ev XL xs d 80 (ev_M m c w) 0 (lv_args 0 [.ref 1, .int x1]) [] (fr_v c w q0) := by
  unfold fX8_cut at h
  cases h
  exact ev_r 4 (fun n => rfl)
def fJ9_floorMod_7cf53_c18 (m : mm_MM) (x2 : Int32) : Option (Int32 × mm_MM) :=
  some (x2, m)
theorem ok_fJ9_floorMod_7cf53_c18 {m : mm_MM} {x2 : Int32} {q0 : Int32 × mm_MM} (h : fJ9_floorMod_7cf53_c18 m x2 = some q0) : Ev XL xs d 304 (ev_M m c w) 18 [(2, .int x2)] [] (fr_i c w q0) := by
  unfold fJ9_floorMod_7cf53_c18 at h
  cases h
  exact ev_r 2 (fun n => rfl)
def fJ9_floorMod_7cf53 (m : mm_MM) (x0 : Int32) (x1 : Int32) : Option (Int32 × mm_MM) :=
  (if x1 = (0 : Int32) then none else
   (if (x0 ^^^ x1) < 0 then
     (if ((x0 : Int32) - x0 / x1 * x1) = 0 then
       fJ9_floorMod_7cf53_c18 m ((x0 : Int32) - x0 / x1 * x1)
      else
       some ((((x0 : Int32) - x0 / x1 * x1) + x1), m))
    else
     fJ9_floorMod_7cf53_c18 m ((x0 : Int32) - x0 / x1 * x1)))
theorem ok_fJ9_floorMod_7cf53 {m : mm_MM} {x0 : Int32} {x1 : Int32} {q0 : Int32 × mm_MM} (h : fJ9_floorMod_7cf53 m x0 x1 = some q0) : Ev XL xs d 304 (ev_M m c w) 0 (lv_args 0 [.int x0, .int x1]) [] (fr_i c w q0) := by
  unfold fJ9_floorMod_7cf53 at h
  refine ev_g 3 (M1 := ev_M m c w) (pc1 := 3) (lv1 := [(0, .int x0), (1, .int x1)]) (st1 := [.int ((x0 : Int32) - x0 / x1 * x1)]) (fun n => rfl) h (fun _ h => ?_)
  refine ev_i 5 (M1 := ev_M m c w) (pc1 := 10) (lv1 := [(2, .int ((x0 : Int32) - x0 / x1 * x1)), (0, .int x0), (1, .int x1)]) (st1 := []) (M2 := ev_M m c w) (pc2 := 18) (lv2 := [(2, .int ((x0 : Int32) - x0 / x1 * x1)), (0, .int x0), (1, .int x1)]) (st2 := []) (fun n => rfl) h (fun hc1 h => ?_) (fun hc1 h => ?_)
  · refine ev_i 2 (M1 := ev_M m c w) (pc1 := 18) (lv1 := [(2, .int ((x0 : Int32) - x0 / x1 * x1)), (0, .int x0), (1, .int x1)]) (st1 := []) (M2 := ev_M m c w) (pc2 := 14) (lv2 := [(2, .int ((x0 : Int32) - x0 / x1 * x1)), (0, .int x0), (1, .int x1)]) (st2 := []) (fun n => rfl) h (fun hc2 h => ?_) (fun hc2 h => ?_)
    · refine ev_sub (lv := [(2, .int ((x0 : Int32) - x0 / x1 * x1))]) (mn_of rfl (by repeat (first | exact trivial | refine And.intro rfl ?_))) ?_
      exact ok_fJ9_floorMod_7cf53_c18 h
    · cases h
      exact ev_r 4 (fun n => rfl)
  · refine ev_sub (lv := [(2, .int ((x0 : Int32) - x0 / x1 * x1))]) (mn_of rfl (by repeat (first | exact trivial | refine And.intro rfl ?_))) ?_
    exact ok_fJ9_floorMod_7cf53_c18 h
def fJ6_bitCount_0f7a4 (m : mm_MM) (x0 : Int32) : Option (Int32 × mm_MM) :=
  some (((((((((x0 - ((Int32.toUInt32 x0 >>> (Int32.toUInt32 1 &&& Int32.toUInt32 31)).toInt32 &&& 1431655765)) &&& 858993459) + ((Int32.toUInt32 (x0 - ((Int32.toUInt32 x0 >>> (Int32.toUInt32 1 &&& Int32.toUInt32 31)).toInt32 &&& 1431655765)) >>> (Int32.toUInt32 2 &&& Int32.toUInt32 31)).toInt32 &&& 858993459)) + (Int32.toUInt32 (((x0 - ((Int32.toUInt32 x0 >>> (Int32.toUInt32 1 &&& Int32.toUInt32 31)).toInt32 &&& 1431655765)) &&& 858993459) + ((Int32.toUInt32 (x0 - ((Int32.toUInt32 x0 >>> (Int32.toUInt32 1 &&& Int32.toUInt32 31)).toInt32 &&& 1431655765)) >>> (Int32.toUInt32 2 &&& Int32.toUInt32 31)).toInt32 &&& 858993459)) >>> (Int32.toUInt32 4 &&& Int32.toUInt32 31)).toInt32) &&& 252645135) + (Int32.toUInt32 (((((x0 - ((Int32.toUInt32 x0 >>> (Int32.toUInt32 1 &&& Int32.toUInt32 31)).toInt32 &&& 1431655765)) &&& 858993459) + ((Int32.toUInt32 (x0 - ((Int32.toUInt32 x0 >>> (Int32.toUInt32 1 &&& Int32.toUInt32 31)).toInt32 &&& 1431655765)) >>> (Int32.toUInt32 2 &&& Int32.toUInt32 31)).toInt32 &&& 858993459)) + (Int32.toUInt32 (((x0 - ((Int32.toUInt32 x0 >>> (Int32.toUInt32 1 &&& Int32.toUInt32 31)).toInt32 &&& 1431655765)) &&& 858993459) + ((Int32.toUInt32 (x0 - ((Int32.toUInt32 x0 >>> (Int32.toUInt32 1 &&& Int32.toUInt32 31)).toInt32 &&& 1431655765)) >>> (Int32.toUInt32 2 &&& Int32.toUInt32 31)).toInt32 &&& 858993459)) >>> (Int32.toUInt32 4 &&& Int32.toUInt32 31)).toInt32) &&& 252645135) >>> (Int32.toUInt32 8 &&& Int32.toUInt32 31)).toInt32) + (Int32.toUInt32 ((((((x0 - ((Int32.toUInt32 x0 >>> (Int32.toUInt32 1 &&& Int32.toUInt32 31)).toInt32 &&& 1431655765)) &&& 858993459) + ((Int32.toUInt32 (x0 - ((Int32.toUInt32 x0 >>> (Int32.toUInt32 1 &&& Int32.toUInt32 31)).toInt32 &&& 1431655765)) >>> (Int32.toUInt32 2 &&& Int32.toUInt32 31)).toInt32 &&& 858993459)) + (Int32.toUInt32 (((x0 - ((Int32.toUInt32 x0 >>> (Int32.toUInt32 1 &&& Int32.toUInt32 31)).toInt32 &&& 1431655765)) &&& 858993459) + ((Int32.toUInt32 (x0 - ((Int32.toUInt32 x0 >>> (Int32.toUInt32 1 &&& Int32.toUInt32 31)).toInt32 &&& 1431655765)) >>> (Int32.toUInt32 2 &&& Int32.toUInt32 31)).toInt32 &&& 858993459)) >>> (Int32.toUInt32 4 &&& Int32.toUInt32 31)).toInt32) &&& 252645135) + (Int32.toUInt32 (((((x0 - ((Int32.toUInt32 x0 >>> (Int32.toUInt32 1 &&& Int32.toUInt32 31)).toInt32 &&& 1431655765)) &&& 858993459) + ((Int32.toUInt32 (x0 - ((Int32.toUInt32 x0 >>> (Int32.toUInt32 1 &&& Int32.toUInt32 31)).toInt32 &&& 1431655765)) >>> (Int32.toUInt32 2 &&& Int32.toUInt32 31)).toInt32 &&& 858993459)) + (Int32.toUInt32 (((x0 - ((Int32.toUInt32 x0 >>> (Int32.toUInt32 1 &&& Int32.toUInt32 31)).toInt32 &&& 1431655765)) &&& 858993459) + ((Int32.toUInt32 (x0 - ((Int32.toUInt32 x0 >>> (Int32.toUInt32 1 &&& Int32.toUInt32 31)).toInt32 &&& 1431655765)) >>> (Int32.toUInt32 2 &&& Int32.toUInt32 31)).toInt32 &&& 858993459)) >>> (Int32.toUInt32 4 &&& Int32.toUInt32 31)).toInt32) &&& 252645135) >>> (Int32.toUInt32 8 &&& Int32.toUInt32 31)).toInt32) >>> (Int32.toUInt32 16 &&& Int32.toUInt32 31)).toInt32) &&& 63), m)
theorem ok_fJ6_bitCount_0f7a4 {m : mm_MM} {x0 : Int32} {q0 : Int32 × mm_MM} (h : fJ6_bitCount_0f7a4 m x0 = some q0) : Ev XL xs d 302 (ev_M m c w) 0 (lv_args 0 [.int x0]) [] (fr_i c w q0) := by
  unfold fJ6_bitCount_0f7a4 at h
  cases h
  exact ev_r 42 (fun n => rfl)
def fJ9_min_f86c9_c11 (m : mm_MM) (s0 : Int64) : Option (Int64 × mm_MM) :=
  some (s0, m)
theorem ok_fJ9_min_f86c9_c11 {m : mm_MM} {s0 : Int64} {q0 : Int64 × mm_MM} (h : fJ9_min_f86c9_c11 m s0 = some q0) : Ev XL xs d 309 (ev_M m c w) 11 [] [.long s0] (fr_l c w q0) := by
  unfold fJ9_min_f86c9_c11 at h
  cases h
  exact ev_r 1 (fun n => rfl)
def fJ9_min_f86c9 (m : mm_MM) (x0 : Int64) (x2 : Int64) : Option (Int64 × mm_MM) :=
  (if (lg_cmp x0 x2) ≤ 0 then
    fJ9_min_f86c9_c11 m x0
   else
    fJ9_min_f86c9_c11 m x2)
theorem ok_fJ9_min_f86c9 {m : mm_MM} {x0 : Int64} {x2 : Int64} {q0 : Int64 × mm_MM} (h : fJ9_min_f86c9 m x0 x2 = some q0) : Ev XL xs d 309 (ev_M m c w) 0 (lv_args 0 [.long x0, .long x2]) [] (fr_l c w q0) := by
  unfold fJ9_min_f86c9 at h
  refine ev_i 4 (M1 := ev_M m c w) (pc1 := 6) (lv1 := [(0, .long x0), (2, .long x2)]) (st1 := []) (M2 := ev_M m c w) (pc2 := 10) (lv2 := [(0, .long x0), (2, .long x2)]) (st2 := []) (fun n => rfl) h (fun hc1 h => ?_) (fun hc1 h => ?_)
  · refine ev_s 2 (M' := ev_M m c w) (pc' := 11) (lv' := [(0, .long x0), (2, .long x2)]) (st' := [.long x0]) (fun n => rfl) ?_
    refine ev_sub (lv := []) (mn_of rfl (by repeat (first | exact trivial | refine And.intro rfl ?_))) ?_
    exact ok_fJ9_min_f86c9_c11 h
  · refine ev_s 1 (M' := ev_M m c w) (pc' := 11) (lv' := [(0, .long x0), (2, .long x2)]) (st' := [.long x2]) (fun n => rfl) ?_
    refine ev_sub (lv := []) (mn_of rfl (by repeat (first | exact trivial | refine And.intro rfl ?_))) ?_
    exact ok_fJ9_min_f86c9_c11 h
end EV
