section EV
variable {XL : Nat} {xs : Nat → Int32} {d c w : Nat}

def fX2_readAtom_c48 (kB : mm_MM → Nat → Int32 → Option (Int32 × mm_MM)) (m : mm_MM) (s0 : Int32) : Option (Int32 × mm_MM) :=
  (if s0 = 0 ∨ s0 = 1 then some (s0, m) else none)
theorem ok_fX2_readAtom_c48 {kB : mm_MM → Nat → Int32 → Option (Int32 × mm_MM)} (hkB : ∀ (j : Nat) (m : mm_MM) (t0 : Nat) (x2 : Int32) (q0 : Int32 × mm_MM) (hk_t0 : mm_kd t0 = (2, 4)), kB m t0 x2 = some q0 → Ev XL xs (d + 4 + j) 26 (ev_M m c w) 0 (lv_args 0 [.ref t0, .ref 1, .int x2]) [] (fr_i c w q0)) {m : mm_MM} {s0 : Int32} {q0 : Int32 × mm_MM} (h : fX2_readAtom_c48 kB m s0 = some q0) : Ev XL xs (d + 5) 28 (ev_M m c w) 48 [] [.int s0] (fr_i c w q0) := by
  unfold fX2_readAtom_c48 at h
  exact ev_rg 1 (f := fr_i c w) (fun n => rfl) h
def fX2_readAtom_c47 (kB : mm_MM → Nat → Int32 → Option (Int32 × mm_MM)) (m : mm_MM) : Option (Int32 × mm_MM) :=
  fX2_readAtom_c48 kB m 0
theorem ok_fX2_readAtom_c47 {kB : mm_MM → Nat → Int32 → Option (Int32 × mm_MM)} (hkB : ∀ (j : Nat) (m : mm_MM) (t0 : Nat) (x2 : Int32) (q0 : Int32 × mm_MM) (hk_t0 : mm_kd t0 = (2, 4)), kB m t0 x2 = some q0 → Ev XL xs (d + 4 + j) 26 (ev_M m c w) 0 (lv_args 0 [.ref t0, .ref 1, .int x2]) [] (fr_i c w q0)) {m : mm_MM} {q0 : Int32 × mm_MM} (h : fX2_readAtom_c47 kB m = some q0) : Ev XL xs (d + 5) 28 (ev_M m c w) 47 [] [] (fr_i c w q0) := by
  unfold fX2_readAtom_c47 at h
  refine ev_s 1 (M' := ev_M m c w) (pc' := 48) (lv' := []) (st' := [.int 0]) (fun n => rfl) ?_
  exact ok_fX2_readAtom_c48 hkB h
def fX2_readAtom (kB : mm_MM → Nat → Int32 → Option (Int32 × mm_MM)) (m : mm_MM) (t0 : Nat) (x2 : Int32) : Option (Int32 × mm_MM) :=
  (fX8_sign m).bind fun r1 =>
   (if r1.1 = 91 then
     (if x2 < 6 then
       (fX8_skip r1.2).bind fun r4 =>
        (kB r4 t0 (x2 + 1)).bind fun r5 =>
         (if r5.1 = 0 then
           fX2_readAtom_c47 kB r5.2
          else
           (fX8_took r5.2 93).bind fun r7 =>
            (if r7.1 = 0 then
              fX2_readAtom_c47 kB r7.2
             else
              fX2_readAtom_c48 kB r7.2 1))
      else
       some (0, r1.2))
    else
     (fX2_isLetter r1.2 r1.1).bind fun r9 =>
      (if r9.1 = 0 then
        (fX8_number r9.2 4).bind fun r11 =>
         (if r11.1 = ((-1) : Int32) then
           some (0, r11.2)
          else
           (fX2_emit r11.2 t0 r11.1).bind fun r13 =>
            some (1, r13))
       else
        (fX8_skip r9.2).bind fun r14 =>
         (fX2_emit r14 t0 (-r1.1)).bind fun r15 =>
          some (1, r15)))
theorem ok_fX2_readAtom {kB : mm_MM → Nat → Int32 → Option (Int32 × mm_MM)} (hkB : ∀ (j : Nat) (m : mm_MM) (t0 : Nat) (x2 : Int32) (q0 : Int32 × mm_MM) (hk_t0 : mm_kd t0 = (2, 4)), kB m t0 x2 = some q0 → Ev XL xs (d + 4 + j) 26 (ev_M m c w) 0 (lv_args 0 [.ref t0, .ref 1, .int x2]) [] (fr_i c w q0)) {m : mm_MM} {t0 : Nat} {x2 : Int32} {q0 : Int32 × mm_MM} (hk_t0 : mm_kd t0 = (2, 4)) (h : fX2_readAtom kB m t0 x2 = some q0) : Ev XL xs (d + 5) 28 (ev_M m c w) 0 (lv_args 0 [.ref t0, .ref 1, .int x2]) [] (fr_i c w q0) := by
  unfold fX2_readAtom at h
  obtain ⟨r1, hr1, h⟩ := Option.bind_eq_some_iff.mp h
  refine ev_c 2 (y' := 83) (M1 := ev_M m c w) (la := lv_args 0 [.ref 1]) (rest := []) (pc' := 4) (lv' := [(0, .ref t0), (1, .ref 1), (2, .int x2)]) (fun n => rfl) (ok_fX8_sign hr1) ?_
  show Ev XL xs _ 28 (ev_M r1.2 c w) 4 [(0, .ref t0), (1, .ref 1), (2, .int x2)] [.int r1.1] _
  refine ev_i 4 (M1 := ev_M r1.2 c w) (pc1 := 11) (lv1 := [(3, .int r1.1), (0, .ref t0), (1, .ref 1), (2, .int x2)]) (st1 := []) (M2 := ev_M r1.2 c w) (pc2 := 49) (lv2 := [(3, .int r1.1), (0, .ref t0), (1, .ref 1), (2, .int x2)]) (st2 := []) (fun n => rfl) h (fun hc2 h => ?_) (fun hc2 h => ?_)
  · refine ev_i 3 (M1 := ev_M r1.2 c w) (pc1 := 19) (lv1 := [(3, .int r1.1), (0, .ref t0), (1, .ref 1), (2, .int x2)]) (st1 := []) (M2 := ev_M r1.2 c w) (pc2 := 17) (lv2 := [(3, .int r1.1), (0, .ref t0), (1, .ref 1), (2, .int x2)]) (st2 := []) (fun n => rfl) h (fun hc3 h => ?_) (fun hc3 h => ?_)
    · obtain ⟨r4, hr4, h⟩ := Option.bind_eq_some_iff.mp h
      refine ev_c 2 (y' := 85) (M1 := ev_M r1.2 c w) (la := lv_args 0 [.ref 1]) (rest := []) (pc' := 23) (lv' := [(3, .int r1.1), (0, .ref t0), (1, .ref 1), (2, .int x2)]) (fun n => rfl) (ok_fX8_skip hr4) ?_
      show Ev XL xs _ 28 (ev_M r4 c w) 23 [(3, .int r1.1), (0, .ref t0), (1, .ref 1), (2, .int x2)] [] _
      refine ev_s 5 (M' := ev_M r4 c w) (pc' := 28) (lv' := [(3, .int r1.1), (0, .ref t0), (1, .ref 1), (2, .int x2)]) (st' := [.int (x2 + 1), .ref 1, .ref t0]) (fun n => rfl) ?_
      obtain ⟨r5, hr5, h⟩ := Option.bind_eq_some_iff.mp h
      refine ev_cv (rest := []) rfl rfl (congrArg Prod.fst hk_t0) rfl (hkB 0 _ _ _ _ hk_t0 hr5) ?_
      show Ev XL xs _ 28 (ev_M r5.2 c w) 31 [(3, .int r1.1), (0, .ref t0), (1, .ref 1), (2, .int x2)] [.int r5.1] _
      refine ev_i 1 (M1 := ev_M r5.2 c w) (pc1 := 47) (lv1 := [(3, .int r1.1), (0, .ref t0), (1, .ref 1), (2, .int x2)]) (st1 := []) (M2 := ev_M r5.2 c w) (pc2 := 34) (lv2 := [(3, .int r1.1), (0, .ref t0), (1, .ref 1), (2, .int x2)]) (st2 := []) (fun n => rfl) h (fun hc6 h => ?_) (fun hc6 h => ?_)
      · refine ev_sub (lv := []) (mn_of rfl (by repeat (first | exact trivial | refine And.intro rfl ?_))) ?_
        exact ok_fX2_readAtom_c47 hkB h
      · obtain ⟨r7, hr7, h⟩ := Option.bind_eq_some_iff.mp h
        refine ev_c 3 (y' := 86) (M1 := ev_M r5.2 c w) (la := lv_args 0 [.ref 1, .int 93]) (rest := []) (pc' := 40) (lv' := [(3, .int r1.1), (0, .ref t0), (1, .ref 1), (2, .int x2)]) (fun n => rfl) (ok_fX8_took hr7) ?_
        show Ev XL xs _ 28 (ev_M r7.2 c w) 40 [(3, .int r1.1), (0, .ref t0), (1, .ref 1), (2, .int x2)] [.int r7.1] _
        refine ev_i 1 (M1 := ev_M r7.2 c w) (pc1 := 47) (lv1 := [(3, .int r1.1), (0, .ref t0), (1, .ref 1), (2, .int x2)]) (st1 := []) (M2 := ev_M r7.2 c w) (pc2 := 43) (lv2 := [(3, .int r1.1), (0, .ref t0), (1, .ref 1), (2, .int x2)]) (st2 := []) (fun n => rfl) h (fun hc8 h => ?_) (fun hc8 h => ?_)
        · refine ev_sub (lv := []) (mn_of rfl (by repeat (first | exact trivial | refine And.intro rfl ?_))) ?_
          exact ok_fX2_readAtom_c47 hkB h
        · refine ev_s 2 (M' := ev_M r7.2 c w) (pc' := 48) (lv' := [(3, .int r1.1), (0, .ref t0), (1, .ref 1), (2, .int x2)]) (st' := [.int 1]) (fun n => rfl) ?_
          refine ev_sub (lv := []) (mn_of rfl (by repeat (first | exact trivial | refine And.intro rfl ?_))) ?_
          exact ok_fX2_readAtom_c48 hkB h
    · cases h
      exact ev_r 2 (fun n => rfl)
  · obtain ⟨r9, hr9, h⟩ := Option.bind_eq_some_iff.mp h
    refine ev_c 2 (y' := 31) (M1 := ev_M r1.2 c w) (la := lv_args 0 [.int r1.1]) (rest := []) (pc' := 53) (lv' := [(3, .int r1.1), (0, .ref t0), (1, .ref 1), (2, .int x2)]) (fun n => rfl) (ok_fX2_isLetter hr9) ?_
    show Ev XL xs _ 28 (ev_M r9.2 c w) 53 [(3, .int r1.1), (0, .ref t0), (1, .ref 1), (2, .int x2)] [.int r9.1] _
    refine ev_i 1 (M1 := ev_M r9.2 c w) (pc1 := 68) (lv1 := [(3, .int r1.1), (0, .ref t0), (1, .ref 1), (2, .int x2)]) (st1 := []) (M2 := ev_M r9.2 c w) (pc2 := 56) (lv2 := [(3, .int r1.1), (0, .ref t0), (1, .ref 1), (2, .int x2)]) (st2 := []) (fun n => rfl) h (fun hc10 h => ?_) (fun hc10 h => ?_)
    · obtain ⟨r11, hr11, h⟩ := Option.bind_eq_some_iff.mp h
      refine ev_c 3 (y' := 87) (M1 := ev_M r9.2 c w) (la := lv_args 0 [.ref 1, .int 4]) (rest := []) (pc' := 73) (lv' := [(3, .int r1.1), (0, .ref t0), (1, .ref 1), (2, .int x2)]) (fun n => rfl) (ok_fX8_number hr11) ?_
      show Ev XL xs _ 28 (ev_M r11.2 c w) 73 [(3, .int r1.1), (0, .ref t0), (1, .ref 1), (2, .int x2)] [.int r11.1] _
      refine ev_i 4 (M1 := ev_M r11.2 c w) (pc1 := 81) (lv1 := [(4, .int r11.1), (3, .int r1.1), (0, .ref t0), (1, .ref 1), (2, .int x2)]) (st1 := []) (M2 := ev_M r11.2 c w) (pc2 := 83) (lv2 := [(4, .int r11.1), (3, .int r1.1), (0, .ref t0), (1, .ref 1), (2, .int x2)]) (st2 := []) (fun n => rfl) h (fun hc12 h => ?_) (fun hc12 h => ?_)
      · cases h
        exact ev_r 2 (fun n => rfl)
      · refine ev_s 2 (M' := ev_M r11.2 c w) (pc' := 86) (lv' := [(4, .int r11.1), (3, .int r1.1), (0, .ref t0), (1, .ref 1), (2, .int x2)]) (st' := [.int r11.1, .ref t0]) (fun n => rfl) ?_
        obtain ⟨r13, hr13, h⟩ := Option.bind_eq_some_iff.mp h
        refine ev_cv (rest := []) rfl rfl (congrArg Prod.fst hk_t0) rfl (ok_fX2_emit hk_t0 hr13) ?_
        show Ev XL xs _ 28 (ev_M r13 c w) 89 [(4, .int r11.1), (3, .int r1.1), (0, .ref t0), (1, .ref 1), (2, .int x2)] [] _
        cases h
        exact ev_r 2 (fun n => rfl)
    · obtain ⟨r14, hr14, h⟩ := Option.bind_eq_some_iff.mp h
      refine ev_c 2 (y' := 85) (M1 := ev_M r9.2 c w) (la := lv_args 0 [.ref 1]) (rest := []) (pc' := 60) (lv' := [(3, .int r1.1), (0, .ref t0), (1, .ref 1), (2, .int x2)]) (fun n => rfl) (ok_fX8_skip hr14) ?_
      show Ev XL xs _ 28 (ev_M r14 c w) 60 [(3, .int r1.1), (0, .ref t0), (1, .ref 1), (2, .int x2)] [] _
      refine ev_s 3 (M' := ev_M r14 c w) (pc' := 63) (lv' := [(3, .int r1.1), (0, .ref t0), (1, .ref 1), (2, .int x2)]) (st' := [.int (-r1.1), .ref t0]) (fun n => rfl) ?_
      obtain ⟨r15, hr15, h⟩ := Option.bind_eq_some_iff.mp h
      refine ev_cv (rest := []) rfl rfl (congrArg Prod.fst hk_t0) rfl (ok_fX2_emit hk_t0 hr15) ?_
      show Ev XL xs _ 28 (ev_M r15 c w) 66 [(3, .int r1.1), (0, .ref t0), (1, .ref 1), (2, .int x2)] [] _
      cases h
      exact ev_r 2 (fun n => rfl)
def fX2_readTerm_c42 (kB : mm_MM → Nat → Int32 → Option (Int32 × mm_MM)) (kr13 : mm_MM → Nat → Int32 → Int32 → Option (Int32 × mm_MM)) (m : mm_MM) (t0 : Nat) (x2 : Int32) (x3 : Int32) (x4 : Int32) : Option (Int32 × mm_MM) :=
  (fX8_skip m).bind fun r1 =>
   (fX2_readAtom kB r1 t0 x2).bind fun r2 =>
    (if r2.1 = 0 then
      some (0, r2.2)
     else
      (fX2_emit r2.2 t0 (-x4)).bind fun r4 =>
       kr13 r4 t0 x2 (x3 + 1))
theorem ok_fX2_readTerm_c42 {kB : mm_MM → Nat → Int32 → Option (Int32 × mm_MM)} (hkB : ∀ (j : Nat) (m : mm_MM) (t0 : Nat) (x2 : Int32) (q0 : Int32 × mm_MM) (hk_t0 : mm_kd t0 = (2, 4)), kB m t0 x2 = some q0 → Ev XL xs (d + 4 + j) 26 (ev_M m c w) 0 (lv_args 0 [.ref t0, .ref 1, .int x2]) [] (fr_i c w q0)) {kr13 : mm_MM → Nat → Int32 → Int32 → Option (Int32 × mm_MM)} (hkr13 : ∀ (m : mm_MM) (t0 : Nat) (x2 : Int32) (x3 : Int32) (q0 : Int32 × mm_MM) (hk_t0 : mm_kd t0 = (2, 4)), kr13 m t0 x2 x3 = some q0 → Ev XL xs (d + 6) 27 (ev_M m c w) 13 [(0, .ref t0), (1, .ref 1), (2, .int x2), (3, .int x3)] [] (fr_i c w q0)) {m : mm_MM} {t0 : Nat} {x2 : Int32} {x3 : Int32} {x4 : Int32} {q0 : Int32 × mm_MM} (hk_t0 : mm_kd t0 = (2, 4)) (h : fX2_readTerm_c42 kB kr13 m t0 x2 x3 x4 = some q0) : Ev XL xs (d + 6) 27 (ev_M m c w) 42 [(0, .ref t0), (1, .ref 1), (2, .int x2), (3, .int x3), (4, .int x4)] [] (fr_i c w q0) := by
  unfold fX2_readTerm_c42 at h
  obtain ⟨r1, hr1, h⟩ := Option.bind_eq_some_iff.mp h
  refine ev_c 2 (y' := 85) (M1 := ev_M m c w) (la := lv_args 0 [.ref 1]) (rest := []) (pc' := 46) (lv' := [(0, .ref t0), (1, .ref 1), (2, .int x2), (3, .int x3), (4, .int x4)]) (fun n => rfl) (ok_fX8_skip hr1) ?_
  show Ev XL xs _ 27 (ev_M r1 c w) 46 [(0, .ref t0), (1, .ref 1), (2, .int x2), (3, .int x3), (4, .int x4)] [] _
  refine ev_s 3 (M' := ev_M r1 c w) (pc' := 49) (lv' := [(0, .ref t0), (1, .ref 1), (2, .int x2), (3, .int x3), (4, .int x4)]) (st' := [.int x2, .ref 1, .ref t0]) (fun n => rfl) ?_
  obtain ⟨r2, hr2, h⟩ := Option.bind_eq_some_iff.mp h
  refine ev_cv (rest := []) rfl rfl (congrArg Prod.fst hk_t0) rfl (ok_fX2_readAtom hkB hk_t0 hr2) ?_
  show Ev XL xs _ 27 (ev_M r2.2 c w) 52 [(0, .ref t0), (1, .ref 1), (2, .int x2), (3, .int x3), (4, .int x4)] [.int r2.1] _
  refine ev_i 1 (M1 := ev_M r2.2 c w) (pc1 := 55) (lv1 := [(0, .ref t0), (1, .ref 1), (2, .int x2), (3, .int x3), (4, .int x4)]) (st1 := []) (M2 := ev_M r2.2 c w) (pc2 := 57) (lv2 := [(0, .ref t0), (1, .ref 1), (2, .int x2), (3, .int x3), (4, .int x4)]) (st2 := []) (fun n => rfl) h (fun hc3 h => ?_) (fun hc3 h => ?_)
  · cases h
    exact ev_r 2 (fun n => rfl)
  · refine ev_s 3 (M' := ev_M r2.2 c w) (pc' := 61) (lv' := [(0, .ref t0), (1, .ref 1), (2, .int x2), (3, .int x3), (4, .int x4)]) (st' := [.int (-x4), .ref t0]) (fun n => rfl) ?_
    obtain ⟨r4, hr4, h⟩ := Option.bind_eq_some_iff.mp h
    refine ev_cv (rest := []) rfl rfl (congrArg Prod.fst hk_t0) rfl (ok_fX2_emit hk_t0 hr4) ?_
    show Ev XL xs _ 27 (ev_M r4 c w) 64 [(0, .ref t0), (1, .ref 1), (2, .int x2), (3, .int x3), (4, .int x4)] [] _
    refine ev_s 2 (M' := ev_M r4 c w) (pc' := 13) (lv' := [(3, .int (x3 + 1)), (0, .ref t0), (1, .ref 1), (2, .int x2), (4, .int x4)]) (st' := []) (fun n => rfl) ?_
    refine ev_sub (lv := [(0, .ref t0), (1, .ref 1), (2, .int x2), (3, .int (x3 + 1))]) (mn_of rfl (by repeat (first | exact trivial | refine And.intro rfl ?_))) ?_
    exact hkr13 _ _ _ _ _ hk_t0 h
def fX2_readTerm_c13 (kB : mm_MM → Nat → Int32 → Option (Int32 × mm_MM)) : Nat → mm_MM → Nat → Int32 → Int32 → Option (Int32 × mm_MM)
  | 0 => fun _ _ _ _ => none
  | n + 1 => fun m t0 x2 x3 =>
    (if x3 < 240 then
      (fX8_sign m).bind fun r2 =>
       (if r2.1 = 42 then
         fX2_readTerm_c42 kB (fX2_readTerm_c13 kB n) r2.2 t0 x2 x3 r2.1
        else
         (if r2.1 = 47 then
           fX2_readTerm_c42 kB (fX2_readTerm_c13 kB n) r2.2 t0 x2 x3 r2.1
          else
           some (1, r2.2)))
     else
      some (1, m))
theorem ok_fX2_readTerm_c13 {kB : mm_MM → Nat → Int32 → Option (Int32 × mm_MM)} (hkB : ∀ (j : Nat) (m : mm_MM) (t0 : Nat) (x2 : Int32) (q0 : Int32 × mm_MM) (hk_t0 : mm_kd t0 = (2, 4)), kB m t0 x2 = some q0 → Ev XL xs (d + 4 + j) 26 (ev_M m c w) 0 (lv_args 0 [.ref t0, .ref 1, .int x2]) [] (fr_i c w q0)) : ∀ (n : Nat) (m : mm_MM) (t0 : Nat) (x2 : Int32) (x3 : Int32) (q0 : Int32 × mm_MM) (hk_t0 : mm_kd t0 = (2, 4)), fX2_readTerm_c13 kB n m t0 x2 x3 = some q0 → Ev XL xs (d + 6) 27 (ev_M m c w) 13 [(0, .ref t0), (1, .ref 1), (2, .int x2), (3, .int x3)] [] (fr_i c w q0) := by
  intro n
  induction n with
  | zero => intro m t0 x2 x3 q0 hk_t0 h; exact absurd (show (none : Option (Int32 × mm_MM)) = some q0 from h) (by simp)
  | succ n ih =>
    intro m t0 x2 x3 q0 hk_t0 h
    unfold fX2_readTerm_c13 at h
    refine ev_i 3 (M1 := ev_M m c w) (pc1 := 20) (lv1 := [(0, .ref t0), (1, .ref 1), (2, .int x2), (3, .int x3)]) (st1 := []) (M2 := ev_M m c w) (pc2 := 70) (lv2 := [(0, .ref t0), (1, .ref 1), (2, .int x2), (3, .int x3)]) (st2 := []) (fun n => rfl) h (fun hc1 h => ?_) (fun hc1 h => ?_)
    · obtain ⟨r2, hr2, h⟩ := Option.bind_eq_some_iff.mp h
      refine ev_c 2 (y' := 83) (M1 := ev_M m c w) (la := lv_args 0 [.ref 1]) (rest := []) (pc' := 24) (lv' := [(0, .ref t0), (1, .ref 1), (2, .int x2), (3, .int x3)]) (fun n => rfl) (ok_fX8_sign hr2) ?_
      show Ev XL xs _ 27 (ev_M r2.2 c w) 24 [(0, .ref t0), (1, .ref 1), (2, .int x2), (3, .int x3)] [.int r2.1] _
      refine ev_i 4 (M1 := ev_M r2.2 c w) (pc1 := 42) (lv1 := [(4, .int r2.1), (0, .ref t0), (1, .ref 1), (2, .int x2), (3, .int x3)]) (st1 := []) (M2 := ev_M r2.2 c w) (pc2 := 33) (lv2 := [(4, .int r2.1), (0, .ref t0), (1, .ref 1), (2, .int x2), (3, .int x3)]) (st2 := []) (fun n => rfl) h (fun hc3 h => ?_) (fun hc3 h => ?_)
      · refine ev_sub (lv := [(0, .ref t0), (1, .ref 1), (2, .int x2), (3, .int x3), (4, .int r2.1)]) (mn_of rfl (by repeat (first | exact trivial | refine And.intro rfl ?_))) ?_
        exact ok_fX2_readTerm_c42 hkB ih hk_t0 h
      · refine ev_i 3 (M1 := ev_M r2.2 c w) (pc1 := 42) (lv1 := [(4, .int r2.1), (0, .ref t0), (1, .ref 1), (2, .int x2), (3, .int x3)]) (st1 := []) (M2 := ev_M r2.2 c w) (pc2 := 40) (lv2 := [(4, .int r2.1), (0, .ref t0), (1, .ref 1), (2, .int x2), (3, .int x3)]) (st2 := []) (fun n => rfl) h (fun hc4 h => ?_) (fun hc4 h => ?_)
        · refine ev_sub (lv := [(0, .ref t0), (1, .ref 1), (2, .int x2), (3, .int x3), (4, .int r2.1)]) (mn_of rfl (by repeat (first | exact trivial | refine And.intro rfl ?_))) ?_
          exact ok_fX2_readTerm_c42 hkB ih hk_t0 h
        · cases h
          exact ev_r 2 (fun n => rfl)
    · cases h
      exact ev_r 2 (fun n => rfl)
def fX2_readTerm (kB : mm_MM → Nat → Int32 → Option (Int32 × mm_MM)) (m : mm_MM) (t0 : Nat) (x2 : Int32) : Option (Int32 × mm_MM) :=
  (fX2_readAtom kB m t0 x2).bind fun r1 =>
   (if r1.1 = 0 then
     some (0, r1.2)
    else
     fX2_readTerm_c13 kB fu r1.2 t0 x2 0)
theorem ok_fX2_readTerm {kB : mm_MM → Nat → Int32 → Option (Int32 × mm_MM)} (hkB : ∀ (j : Nat) (m : mm_MM) (t0 : Nat) (x2 : Int32) (q0 : Int32 × mm_MM) (hk_t0 : mm_kd t0 = (2, 4)), kB m t0 x2 = some q0 → Ev XL xs (d + 4 + j) 26 (ev_M m c w) 0 (lv_args 0 [.ref t0, .ref 1, .int x2]) [] (fr_i c w q0)) {m : mm_MM} {t0 : Nat} {x2 : Int32} {q0 : Int32 × mm_MM} (hk_t0 : mm_kd t0 = (2, 4)) (h : fX2_readTerm kB m t0 x2 = some q0) : Ev XL xs (d + 6) 27 (ev_M m c w) 0 (lv_args 0 [.ref t0, .ref 1, .int x2]) [] (fr_i c w q0) := by
  unfold fX2_readTerm at h
  refine ev_s 3 (M' := ev_M m c w) (pc' := 3) (lv' := [(0, .ref t0), (1, .ref 1), (2, .int x2)]) (st' := [.int x2, .ref 1, .ref t0]) (fun n => rfl) ?_
  obtain ⟨r1, hr1, h⟩ := Option.bind_eq_some_iff.mp h
  refine ev_cv (rest := []) rfl rfl (congrArg Prod.fst hk_t0) rfl (ok_fX2_readAtom hkB hk_t0 hr1) ?_
  show Ev XL xs _ 27 (ev_M r1.2 c w) 6 [(0, .ref t0), (1, .ref 1), (2, .int x2)] [.int r1.1] _
  refine ev_i 1 (M1 := ev_M r1.2 c w) (pc1 := 9) (lv1 := [(0, .ref t0), (1, .ref 1), (2, .int x2)]) (st1 := []) (M2 := ev_M r1.2 c w) (pc2 := 11) (lv2 := [(0, .ref t0), (1, .ref 1), (2, .int x2)]) (st2 := []) (fun n => rfl) h (fun hc2 h => ?_) (fun hc2 h => ?_)
  · cases h
    exact ev_r 2 (fun n => rfl)
  · refine ev_s 2 (M' := ev_M r1.2 c w) (pc' := 13) (lv' := [(3, .int 0), (0, .ref t0), (1, .ref 1), (2, .int x2)]) (st' := []) (fun n => rfl) ?_
    refine ev_sub (lv := [(0, .ref t0), (1, .ref 1), (2, .int x2), (3, .int 0)]) (mn_of rfl (by repeat (first | exact trivial | refine And.intro rfl ?_))) ?_
    exact ok_fX2_readTerm_c13 hkB fu _ _ _ _ _ hk_t0 h
def fX2_readSum_b_c42 (kB : mm_MM → Nat → Int32 → Option (Int32 × mm_MM)) (kr13 : mm_MM → Nat → Int32 → Int32 → Option (Int32 × mm_MM)) (m : mm_MM) (t0 : Nat) (x2 : Int32) (x3 : Int32) (x4 : Int32) : Option (Int32 × mm_MM) :=
  (fX8_skip m).bind fun r1 =>
   (fX2_readTerm kB r1 t0 x2).bind fun r2 =>
    (if r2.1 = 0 then
      some (0, r2.2)
     else
      (fX2_emit r2.2 t0 (-x4)).bind fun r4 =>
       kr13 r4 t0 x2 (x3 + 1))
theorem ok_fX2_readSum_b_c42 {kB : mm_MM → Nat → Int32 → Option (Int32 × mm_MM)} (hkB : ∀ (j : Nat) (m : mm_MM) (t0 : Nat) (x2 : Int32) (q0 : Int32 × mm_MM) (hk_t0 : mm_kd t0 = (2, 4)), kB m t0 x2 = some q0 → Ev XL xs (d + 4 + j) 26 (ev_M m c w) 0 (lv_args 0 [.ref t0, .ref 1, .int x2]) [] (fr_i c w q0)) {kr13 : mm_MM → Nat → Int32 → Int32 → Option (Int32 × mm_MM)} (hkr13 : ∀ (m : mm_MM) (t0 : Nat) (x2 : Int32) (x3 : Int32) (q0 : Int32 × mm_MM) (hk_t0 : mm_kd t0 = (2, 4)), kr13 m t0 x2 x3 = some q0 → Ev XL xs (d + 7) 26 (ev_M m c w) 13 [(0, .ref t0), (1, .ref 1), (2, .int x2), (3, .int x3)] [] (fr_i c w q0)) {m : mm_MM} {t0 : Nat} {x2 : Int32} {x3 : Int32} {x4 : Int32} {q0 : Int32 × mm_MM} (hk_t0 : mm_kd t0 = (2, 4)) (h : fX2_readSum_b_c42 kB kr13 m t0 x2 x3 x4 = some q0) : Ev XL xs (d + 7) 26 (ev_M m c w) 42 [(0, .ref t0), (1, .ref 1), (2, .int x2), (3, .int x3), (4, .int x4)] [] (fr_i c w q0) := by
  unfold fX2_readSum_b_c42 at h
  obtain ⟨r1, hr1, h⟩ := Option.bind_eq_some_iff.mp h
  refine ev_c 2 (y' := 85) (M1 := ev_M m c w) (la := lv_args 0 [.ref 1]) (rest := []) (pc' := 46) (lv' := [(0, .ref t0), (1, .ref 1), (2, .int x2), (3, .int x3), (4, .int x4)]) (fun n => rfl) (ok_fX8_skip hr1) ?_
  show Ev XL xs _ 26 (ev_M r1 c w) 46 [(0, .ref t0), (1, .ref 1), (2, .int x2), (3, .int x3), (4, .int x4)] [] _
  refine ev_s 3 (M' := ev_M r1 c w) (pc' := 49) (lv' := [(0, .ref t0), (1, .ref 1), (2, .int x2), (3, .int x3), (4, .int x4)]) (st' := [.int x2, .ref 1, .ref t0]) (fun n => rfl) ?_
  obtain ⟨r2, hr2, h⟩ := Option.bind_eq_some_iff.mp h
  refine ev_cv (rest := []) rfl rfl (congrArg Prod.fst hk_t0) rfl (ok_fX2_readTerm hkB hk_t0 hr2) ?_
  show Ev XL xs _ 26 (ev_M r2.2 c w) 52 [(0, .ref t0), (1, .ref 1), (2, .int x2), (3, .int x3), (4, .int x4)] [.int r2.1] _
  refine ev_i 1 (M1 := ev_M r2.2 c w) (pc1 := 55) (lv1 := [(0, .ref t0), (1, .ref 1), (2, .int x2), (3, .int x3), (4, .int x4)]) (st1 := []) (M2 := ev_M r2.2 c w) (pc2 := 57) (lv2 := [(0, .ref t0), (1, .ref 1), (2, .int x2), (3, .int x3), (4, .int x4)]) (st2 := []) (fun n => rfl) h (fun hc3 h => ?_) (fun hc3 h => ?_)
  · cases h
    exact ev_r 2 (fun n => rfl)
  · refine ev_s 3 (M' := ev_M r2.2 c w) (pc' := 61) (lv' := [(0, .ref t0), (1, .ref 1), (2, .int x2), (3, .int x3), (4, .int x4)]) (st' := [.int (-x4), .ref t0]) (fun n => rfl) ?_
    obtain ⟨r4, hr4, h⟩ := Option.bind_eq_some_iff.mp h
    refine ev_cv (rest := []) rfl rfl (congrArg Prod.fst hk_t0) rfl (ok_fX2_emit hk_t0 hr4) ?_
    show Ev XL xs _ 26 (ev_M r4 c w) 64 [(0, .ref t0), (1, .ref 1), (2, .int x2), (3, .int x3), (4, .int x4)] [] _
    refine ev_s 2 (M' := ev_M r4 c w) (pc' := 13) (lv' := [(3, .int (x3 + 1)), (0, .ref t0), (1, .ref 1), (2, .int x2), (4, .int x4)]) (st' := []) (fun n => rfl) ?_
    refine ev_sub (lv := [(0, .ref t0), (1, .ref 1), (2, .int x2), (3, .int (x3 + 1))]) (mn_of rfl (by repeat (first | exact trivial | refine And.intro rfl ?_))) ?_
    exact hkr13 _ _ _ _ _ hk_t0 h
def fX2_readSum_b_c13 (kB : mm_MM → Nat → Int32 → Option (Int32 × mm_MM)) : Nat → mm_MM → Nat → Int32 → Int32 → Option (Int32 × mm_MM)
  | 0 => fun _ _ _ _ => none
  | n + 1 => fun m t0 x2 x3 =>
    (if x3 < 240 then
      (fX8_sign m).bind fun r2 =>
       (if r2.1 = 43 then
         fX2_readSum_b_c42 kB (fX2_readSum_b_c13 kB n) r2.2 t0 x2 x3 r2.1
        else
         (if r2.1 = 45 then
           fX2_readSum_b_c42 kB (fX2_readSum_b_c13 kB n) r2.2 t0 x2 x3 r2.1
          else
           some (1, r2.2)))
     else
      some (1, m))
theorem ok_fX2_readSum_b_c13 {kB : mm_MM → Nat → Int32 → Option (Int32 × mm_MM)} (hkB : ∀ (j : Nat) (m : mm_MM) (t0 : Nat) (x2 : Int32) (q0 : Int32 × mm_MM) (hk_t0 : mm_kd t0 = (2, 4)), kB m t0 x2 = some q0 → Ev XL xs (d + 4 + j) 26 (ev_M m c w) 0 (lv_args 0 [.ref t0, .ref 1, .int x2]) [] (fr_i c w q0)) : ∀ (n : Nat) (m : mm_MM) (t0 : Nat) (x2 : Int32) (x3 : Int32) (q0 : Int32 × mm_MM) (hk_t0 : mm_kd t0 = (2, 4)), fX2_readSum_b_c13 kB n m t0 x2 x3 = some q0 → Ev XL xs (d + 7) 26 (ev_M m c w) 13 [(0, .ref t0), (1, .ref 1), (2, .int x2), (3, .int x3)] [] (fr_i c w q0) := by
  intro n
  induction n with
  | zero => intro m t0 x2 x3 q0 hk_t0 h; exact absurd (show (none : Option (Int32 × mm_MM)) = some q0 from h) (by simp)
  | succ n ih =>
    intro m t0 x2 x3 q0 hk_t0 h
    unfold fX2_readSum_b_c13 at h
    refine ev_i 3 (M1 := ev_M m c w) (pc1 := 20) (lv1 := [(0, .ref t0), (1, .ref 1), (2, .int x2), (3, .int x3)]) (st1 := []) (M2 := ev_M m c w) (pc2 := 70) (lv2 := [(0, .ref t0), (1, .ref 1), (2, .int x2), (3, .int x3)]) (st2 := []) (fun n => rfl) h (fun hc1 h => ?_) (fun hc1 h => ?_)
    · obtain ⟨r2, hr2, h⟩ := Option.bind_eq_some_iff.mp h
      refine ev_c 2 (y' := 83) (M1 := ev_M m c w) (la := lv_args 0 [.ref 1]) (rest := []) (pc' := 24) (lv' := [(0, .ref t0), (1, .ref 1), (2, .int x2), (3, .int x3)]) (fun n => rfl) (ok_fX8_sign hr2) ?_
      show Ev XL xs _ 26 (ev_M r2.2 c w) 24 [(0, .ref t0), (1, .ref 1), (2, .int x2), (3, .int x3)] [.int r2.1] _
      refine ev_i 4 (M1 := ev_M r2.2 c w) (pc1 := 42) (lv1 := [(4, .int r2.1), (0, .ref t0), (1, .ref 1), (2, .int x2), (3, .int x3)]) (st1 := []) (M2 := ev_M r2.2 c w) (pc2 := 33) (lv2 := [(4, .int r2.1), (0, .ref t0), (1, .ref 1), (2, .int x2), (3, .int x3)]) (st2 := []) (fun n => rfl) h (fun hc3 h => ?_) (fun hc3 h => ?_)
      · refine ev_sub (lv := [(0, .ref t0), (1, .ref 1), (2, .int x2), (3, .int x3), (4, .int r2.1)]) (mn_of rfl (by repeat (first | exact trivial | refine And.intro rfl ?_))) ?_
        exact ok_fX2_readSum_b_c42 hkB ih hk_t0 h
      · refine ev_i 3 (M1 := ev_M r2.2 c w) (pc1 := 42) (lv1 := [(4, .int r2.1), (0, .ref t0), (1, .ref 1), (2, .int x2), (3, .int x3)]) (st1 := []) (M2 := ev_M r2.2 c w) (pc2 := 40) (lv2 := [(4, .int r2.1), (0, .ref t0), (1, .ref 1), (2, .int x2), (3, .int x3)]) (st2 := []) (fun n => rfl) h (fun hc4 h => ?_) (fun hc4 h => ?_)
        · refine ev_sub (lv := [(0, .ref t0), (1, .ref 1), (2, .int x2), (3, .int x3), (4, .int r2.1)]) (mn_of rfl (by repeat (first | exact trivial | refine And.intro rfl ?_))) ?_
          exact ok_fX2_readSum_b_c42 hkB ih hk_t0 h
        · cases h
          exact ev_r 2 (fun n => rfl)
    · cases h
      exact ev_r 2 (fun n => rfl)
def fX2_readSum_b (kB : mm_MM → Nat → Int32 → Option (Int32 × mm_MM)) (m : mm_MM) (t0 : Nat) (x2 : Int32) : Option (Int32 × mm_MM) :=
  (fX2_readTerm kB m t0 x2).bind fun r1 =>
   (if r1.1 = 0 then
     some (0, r1.2)
    else
     fX2_readSum_b_c13 kB fu r1.2 t0 x2 0)
theorem ok_fX2_readSum_b {kB : mm_MM → Nat → Int32 → Option (Int32 × mm_MM)} (hkB : ∀ (j : Nat) (m : mm_MM) (t0 : Nat) (x2 : Int32) (q0 : Int32 × mm_MM) (hk_t0 : mm_kd t0 = (2, 4)), kB m t0 x2 = some q0 → Ev XL xs (d + 4 + j) 26 (ev_M m c w) 0 (lv_args 0 [.ref t0, .ref 1, .int x2]) [] (fr_i c w q0)) {m : mm_MM} {t0 : Nat} {x2 : Int32} {q0 : Int32 × mm_MM} (hk_t0 : mm_kd t0 = (2, 4)) (h : fX2_readSum_b kB m t0 x2 = some q0) : Ev XL xs (d + 7) 26 (ev_M m c w) 0 (lv_args 0 [.ref t0, .ref 1, .int x2]) [] (fr_i c w q0) := by
  unfold fX2_readSum_b at h
  refine ev_s 3 (M' := ev_M m c w) (pc' := 3) (lv' := [(0, .ref t0), (1, .ref 1), (2, .int x2)]) (st' := [.int x2, .ref 1, .ref t0]) (fun n => rfl) ?_
  obtain ⟨r1, hr1, h⟩ := Option.bind_eq_some_iff.mp h
  refine ev_cv (rest := []) rfl rfl (congrArg Prod.fst hk_t0) rfl (ok_fX2_readTerm hkB hk_t0 hr1) ?_
  show Ev XL xs _ 26 (ev_M r1.2 c w) 6 [(0, .ref t0), (1, .ref 1), (2, .int x2)] [.int r1.1] _
  refine ev_i 1 (M1 := ev_M r1.2 c w) (pc1 := 9) (lv1 := [(0, .ref t0), (1, .ref 1), (2, .int x2)]) (st1 := []) (M2 := ev_M r1.2 c w) (pc2 := 11) (lv2 := [(0, .ref t0), (1, .ref 1), (2, .int x2)]) (st2 := []) (fun n => rfl) h (fun hc2 h => ?_) (fun hc2 h => ?_)
  · cases h
    exact ev_r 2 (fun n => rfl)
  · refine ev_s 2 (M' := ev_M r1.2 c w) (pc' := 13) (lv' := [(3, .int 0), (0, .ref t0), (1, .ref 1), (2, .int x2)]) (st' := []) (fun n => rfl) ?_
    refine ev_sub (lv := [(0, .ref t0), (1, .ref 1), (2, .int x2), (3, .int 0)]) (mn_of rfl (by repeat (first | exact trivial | refine And.intro rfl ?_))) ?_
    exact ok_fX2_readSum_b_c13 hkB fu _ _ _ _ _ hk_t0 h
def fX2_readSum : Nat → mm_MM → Nat → Int32 → Option (Int32 × mm_MM)
  | 0 => fun _ _ _ => none
  | n + 1 => fun m t0 x2 => fX2_readSum_b (fX2_readSum n) m t0 x2
theorem ok_fX2_readSum : ∀ (n j : Nat) (m : mm_MM) (t0 : Nat) (x2 : Int32) (q0 : Int32 × mm_MM) (hk_t0 : mm_kd t0 = (2, 4)), fX2_readSum n m t0 x2 = some q0 → Ev XL xs (d + 3 * n + 4 + j) 26 (ev_M m c w) 0 (lv_args 0 [.ref t0, .ref 1, .int x2]) [] (fr_i c w q0) := by
  intro n
  induction n with
  | zero => intro j m t0 x2 q0 hk_t0 h; exact absurd (show (none : Option (Int32 × mm_MM)) = some q0 from h) (by simp)
  | succ n ih =>
    intro j m t0 x2 q0 hk_t0 h
    have h : fX2_readSum_b (fX2_readSum n) m t0 x2 = some q0 := h
    have g := ok_fX2_readSum_b (XL := XL) (xs := xs) (c := c) (w := w) (d := d + 3 * n + j) (fun j2 m t0 x2 q0 hk_t0 h => by
      have i := ih (j + j2) m t0 x2 q0 hk_t0 h
      rwa [show d + 3 * n + 4 + (j + j2) = d + 3 * n + j + 4 + j2 by omega] at i) hk_t0 h
    rwa [show d + 3 * n + j + 7 = d + 3 * (n + 1) + 4 + j by omega] at g

def fX2_readGated (m : mm_MM) (t0 : Nat) : Option (Int32 × mm_MM) :=
  (fX8_took m 63).bind fun r1 =>
   (if r1.1 = 0 then
     some (0, r1.2)
    else
     (fX2_emit r1.2 t0 ((-63) : Int32)).bind fun r3 =>
      (fX2_readSum 12 r3 t0 0).bind fun r4 =>
       (if r4.1 = 0 ∨ r4.1 = 1 then some (r4.1, r4.2) else none))
theorem ok_fX2_readGated {m : mm_MM} {t0 : Nat} {q0 : Int32 × mm_MM} (hk_t0 : mm_kd t0 = (2, 4)) (h : fX2_readGated m t0 = some q0) : Ev XL xs (d + 41) 21 (ev_M m c w) 0 (lv_args 0 [.ref t0, .ref 1]) [] (fr_i c w q0) := by
  unfold fX2_readGated at h
  obtain ⟨r1, hr1, h⟩ := Option.bind_eq_some_iff.mp h
  refine ev_c 3 (y' := 86) (M1 := ev_M m c w) (la := lv_args 0 [.ref 1, .int 63]) (rest := []) (pc' := 6) (lv' := [(0, .ref t0), (1, .ref 1)]) (fun n => rfl) (ok_fX8_took hr1) ?_
  show Ev XL xs _ 21 (ev_M r1.2 c w) 6 [(0, .ref t0), (1, .ref 1)] [.int r1.1] _
  refine ev_i 1 (M1 := ev_M r1.2 c w) (pc1 := 9) (lv1 := [(0, .ref t0), (1, .ref 1)]) (st1 := []) (M2 := ev_M r1.2 c w) (pc2 := 11) (lv2 := [(0, .ref t0), (1, .ref 1)]) (st2 := []) (fun n => rfl) h (fun hc2 h => ?_) (fun hc2 h => ?_)
  · cases h
    exact ev_r 2 (fun n => rfl)
  · refine ev_s 2 (M' := ev_M r1.2 c w) (pc' := 14) (lv' := [(0, .ref t0), (1, .ref 1)]) (st' := [.int ((-63) : Int32), .ref t0]) (fun n => rfl) ?_
    obtain ⟨r3, hr3, h⟩ := Option.bind_eq_some_iff.mp h
    refine ev_cv (rest := []) rfl rfl (congrArg Prod.fst hk_t0) rfl (ok_fX2_emit hk_t0 hr3) ?_
    show Ev XL xs _ 21 (ev_M r3 c w) 17 [(0, .ref t0), (1, .ref 1)] [] _
    refine ev_s 3 (M' := ev_M r3 c w) (pc' := 20) (lv' := [(0, .ref t0), (1, .ref 1)]) (st' := [.int 0, .ref 1, .ref t0]) (fun n => rfl) ?_
    obtain ⟨r4, hr4, h⟩ := Option.bind_eq_some_iff.mp h
    refine ev_cv (rest := []) rfl rfl (congrArg Prod.fst hk_t0) rfl (ok_fX2_readSum (d := d) 12 0 _ _ _ _ hk_t0 hr4) ?_
    show Ev XL xs _ 21 (ev_M r4.2 c w) 23 [(0, .ref t0), (1, .ref 1)] [.int r4.1] _
    exact ev_rg 1 (f := fr_i c w) (fun n => rfl) h
def fX2_readComparison (m : mm_MM) (t0 : Nat) (x2 : Int32) : Option (Int32 × mm_MM) :=
  (fX8_sign m).bind fun r1 =>
   (fX2_compares r1.2 r1.1).bind fun r2 =>
    (if r2.1 = 0 then
      some (0, r2.2)
     else
      (fX8_skip r2.2).bind fun r4 =>
       (fX2_readSum 12 r4 t0 x2).bind fun r5 =>
        (if r5.1 = 0 then
          some (0, r5.2)
         else
          (fX2_emit r5.2 t0 (-r1.1)).bind fun r7 =>
           some (1, r7)))
theorem ok_fX2_readComparison {m : mm_MM} {t0 : Nat} {x2 : Int32} {q0 : Int32 × mm_MM} (hk_t0 : mm_kd t0 = (2, 4)) (h : fX2_readComparison m t0 x2 = some q0) : Ev XL xs (d + 41) 25 (ev_M m c w) 0 (lv_args 0 [.ref t0, .ref 1, .int x2]) [] (fr_i c w q0) := by
  unfold fX2_readComparison at h
  obtain ⟨r1, hr1, h⟩ := Option.bind_eq_some_iff.mp h
  refine ev_c 2 (y' := 83) (M1 := ev_M m c w) (la := lv_args 0 [.ref 1]) (rest := []) (pc' := 4) (lv' := [(0, .ref t0), (1, .ref 1), (2, .int x2)]) (fun n => rfl) (ok_fX8_sign hr1) ?_
  show Ev XL xs _ 25 (ev_M r1.2 c w) 4 [(0, .ref t0), (1, .ref 1), (2, .int x2)] [.int r1.1] _
  obtain ⟨r2, hr2, h⟩ := Option.bind_eq_some_iff.mp h
  refine ev_c 3 (y' := 30) (M1 := ev_M r1.2 c w) (la := lv_args 0 [.int r1.1]) (rest := []) (pc' := 9) (lv' := [(3, .int r1.1), (0, .ref t0), (1, .ref 1), (2, .int x2)]) (fun n => rfl) (ok_fX2_compares hr2) ?_
  show Ev XL xs _ 25 (ev_M r2.2 c w) 9 [(3, .int r1.1), (0, .ref t0), (1, .ref 1), (2, .int x2)] [.int r2.1] _
  refine ev_i 1 (M1 := ev_M r2.2 c w) (pc1 := 12) (lv1 := [(3, .int r1.1), (0, .ref t0), (1, .ref 1), (2, .int x2)]) (st1 := []) (M2 := ev_M r2.2 c w) (pc2 := 14) (lv2 := [(3, .int r1.1), (0, .ref t0), (1, .ref 1), (2, .int x2)]) (st2 := []) (fun n => rfl) h (fun hc3 h => ?_) (fun hc3 h => ?_)
  · cases h
    exact ev_r 2 (fun n => rfl)
  · obtain ⟨r4, hr4, h⟩ := Option.bind_eq_some_iff.mp h
    refine ev_c 2 (y' := 85) (M1 := ev_M r2.2 c w) (la := lv_args 0 [.ref 1]) (rest := []) (pc' := 18) (lv' := [(3, .int r1.1), (0, .ref t0), (1, .ref 1), (2, .int x2)]) (fun n => rfl) (ok_fX8_skip hr4) ?_
    show Ev XL xs _ 25 (ev_M r4 c w) 18 [(3, .int r1.1), (0, .ref t0), (1, .ref 1), (2, .int x2)] [] _
    refine ev_s 3 (M' := ev_M r4 c w) (pc' := 21) (lv' := [(3, .int r1.1), (0, .ref t0), (1, .ref 1), (2, .int x2)]) (st' := [.int x2, .ref 1, .ref t0]) (fun n => rfl) ?_
    obtain ⟨r5, hr5, h⟩ := Option.bind_eq_some_iff.mp h
    refine ev_cv (rest := []) rfl rfl (congrArg Prod.fst hk_t0) rfl (ok_fX2_readSum (d := d) 12 0 _ _ _ _ hk_t0 hr5) ?_
    show Ev XL xs _ 25 (ev_M r5.2 c w) 24 [(3, .int r1.1), (0, .ref t0), (1, .ref 1), (2, .int x2)] [.int r5.1] _
    refine ev_i 1 (M1 := ev_M r5.2 c w) (pc1 := 27) (lv1 := [(3, .int r1.1), (0, .ref t0), (1, .ref 1), (2, .int x2)]) (st1 := []) (M2 := ev_M r5.2 c w) (pc2 := 29) (lv2 := [(3, .int r1.1), (0, .ref t0), (1, .ref 1), (2, .int x2)]) (st2 := []) (fun n => rfl) h (fun hc6 h => ?_) (fun hc6 h => ?_)
    · cases h
      exact ev_r 2 (fun n => rfl)
    · refine ev_s 3 (M' := ev_M r5.2 c w) (pc' := 32) (lv' := [(3, .int r1.1), (0, .ref t0), (1, .ref 1), (2, .int x2)]) (st' := [.int (-r1.1), .ref t0]) (fun n => rfl) ?_
      obtain ⟨r7, hr7, h⟩ := Option.bind_eq_some_iff.mp h
      refine ev_cv (rest := []) rfl rfl (congrArg Prod.fst hk_t0) rfl (ok_fX2_emit hk_t0 hr7) ?_
      show Ev XL xs _ 25 (ev_M r7 c w) 35 [(3, .int r1.1), (0, .ref t0), (1, .ref 1), (2, .int x2)] [] _
      cases h
      exact ev_r 2 (fun n => rfl)
def fX2_readTruth_c25 (kB : mm_MM → Nat → Int32 → Option (Int32 × mm_MM)) (m : mm_MM) : Option (Int32 × mm_MM) :=
  some (0, m)
theorem ok_fX2_readTruth_c25 {kB : mm_MM → Nat → Int32 → Option (Int32 × mm_MM)} (hkB : ∀ (j : Nat) (m : mm_MM) (t0 : Nat) (x2 : Int32) (q0 : Int32 × mm_MM) (hk_t0 : mm_kd t0 = (2, 4)), kB m t0 x2 = some q0 → Ev XL xs (d + 42 + j) 24 (ev_M m c w) 0 (lv_args 0 [.ref t0, .ref 1, .int x2]) [] (fr_i c w q0)) {m : mm_MM} {q0 : Int32 × mm_MM} (h : fX2_readTruth_c25 kB m = some q0) : Ev XL xs (d + 43) 23 (ev_M m c w) 25 [] [] (fr_i c w q0) := by
  unfold fX2_readTruth_c25 at h
  cases h
  exact ev_r 2 (fun n => rfl)
def fX2_readTruth_c70 (kB : mm_MM → Nat → Int32 → Option (Int32 × mm_MM)) (m : mm_MM) : Option (Int32 × mm_MM) :=
  some (1, m)
theorem ok_fX2_readTruth_c70 {kB : mm_MM → Nat → Int32 → Option (Int32 × mm_MM)} (hkB : ∀ (j : Nat) (m : mm_MM) (t0 : Nat) (x2 : Int32) (q0 : Int32 × mm_MM) (hk_t0 : mm_kd t0 = (2, 4)), kB m t0 x2 = some q0 → Ev XL xs (d + 42 + j) 24 (ev_M m c w) 0 (lv_args 0 [.ref t0, .ref 1, .int x2]) [] (fr_i c w q0)) {m : mm_MM} {q0 : Int32 × mm_MM} (h : fX2_readTruth_c70 kB m = some q0) : Ev XL xs (d + 43) 23 (ev_M m c w) 70 [] [] (fr_i c w q0) := by
  unfold fX2_readTruth_c70 at h
  cases h
  exact ev_r 2 (fun n => rfl)
def fX2_readTruth_c30 (kB : mm_MM → Nat → Int32 → Option (Int32 × mm_MM)) : Nat → mm_MM → Nat → Int32 → Int32 → Option (Int32 × mm_MM)
  | 0 => fun _ _ _ _ => none
  | n + 1 => fun m t0 x2 x4 =>
    (if x4 < 240 then
      (fX8_took m 38).bind fun r2 =>
       (if r2.1 = 0 then
         fX2_readTruth_c70 kB r2.2
        else
         (kB r2.2 t0 x2).bind fun r4 =>
          (if r4.1 = 0 then
            some (0, r4.2)
           else
            (fX2_emit r4.2 t0 ((-38) : Int32)).bind fun r6 =>
             fX2_readTruth_c30 kB n r6 t0 x2 (x4 + 1)))
     else
      fX2_readTruth_c70 kB m)
theorem ok_fX2_readTruth_c30 {kB : mm_MM → Nat → Int32 → Option (Int32 × mm_MM)} (hkB : ∀ (j : Nat) (m : mm_MM) (t0 : Nat) (x2 : Int32) (q0 : Int32 × mm_MM) (hk_t0 : mm_kd t0 = (2, 4)), kB m t0 x2 = some q0 → Ev XL xs (d + 42 + j) 24 (ev_M m c w) 0 (lv_args 0 [.ref t0, .ref 1, .int x2]) [] (fr_i c w q0)) : ∀ (n : Nat) (m : mm_MM) (t0 : Nat) (x2 : Int32) (x4 : Int32) (q0 : Int32 × mm_MM) (hk_t0 : mm_kd t0 = (2, 4)), fX2_readTruth_c30 kB n m t0 x2 x4 = some q0 → Ev XL xs (d + 43) 23 (ev_M m c w) 30 [(0, .ref t0), (1, .ref 1), (2, .int x2), (4, .int x4)] [] (fr_i c w q0) := by
  intro n
  induction n with
  | zero => intro m t0 x2 x4 q0 hk_t0 h; exact absurd (show (none : Option (Int32 × mm_MM)) = some q0 from h) (by simp)
  | succ n ih =>
    intro m t0 x2 x4 q0 hk_t0 h
    unfold fX2_readTruth_c30 at h
    refine ev_i 3 (M1 := ev_M m c w) (pc1 := 38) (lv1 := [(0, .ref t0), (1, .ref 1), (2, .int x2), (4, .int x4)]) (st1 := []) (M2 := ev_M m c w) (pc2 := 70) (lv2 := [(0, .ref t0), (1, .ref 1), (2, .int x2), (4, .int x4)]) (st2 := []) (fun n => rfl) h (fun hc1 h => ?_) (fun hc1 h => ?_)
    · obtain ⟨r2, hr2, h⟩ := Option.bind_eq_some_iff.mp h
      refine ev_c 3 (y' := 86) (M1 := ev_M m c w) (la := lv_args 0 [.ref 1, .int 38]) (rest := []) (pc' := 44) (lv' := [(0, .ref t0), (1, .ref 1), (2, .int x2), (4, .int x4)]) (fun n => rfl) (ok_fX8_took hr2) ?_
      show Ev XL xs _ 23 (ev_M r2.2 c w) 44 [(0, .ref t0), (1, .ref 1), (2, .int x2), (4, .int x4)] [.int r2.1] _
      refine ev_i 1 (M1 := ev_M r2.2 c w) (pc1 := 70) (lv1 := [(0, .ref t0), (1, .ref 1), (2, .int x2), (4, .int x4)]) (st1 := []) (M2 := ev_M r2.2 c w) (pc2 := 47) (lv2 := [(0, .ref t0), (1, .ref 1), (2, .int x2), (4, .int x4)]) (st2 := []) (fun n => rfl) h (fun hc3 h => ?_) (fun hc3 h => ?_)
      · refine ev_sub (lv := []) (mn_of rfl (by repeat (first | exact trivial | refine And.intro rfl ?_))) ?_
        exact ok_fX2_readTruth_c70 hkB h
      · refine ev_s 3 (M' := ev_M r2.2 c w) (pc' := 50) (lv' := [(0, .ref t0), (1, .ref 1), (2, .int x2), (4, .int x4)]) (st' := [.int x2, .ref 1, .ref t0]) (fun n => rfl) ?_
        obtain ⟨r4, hr4, h⟩ := Option.bind_eq_some_iff.mp h
        refine ev_cv (rest := []) rfl rfl (congrArg Prod.fst hk_t0) rfl (hkB 0 _ _ _ _ hk_t0 hr4) ?_
        show Ev XL xs _ 23 (ev_M r4.2 c w) 53 [(0, .ref t0), (1, .ref 1), (2, .int x2), (4, .int x4)] [.int r4.1] _
        refine ev_i 1 (M1 := ev_M r4.2 c w) (pc1 := 56) (lv1 := [(0, .ref t0), (1, .ref 1), (2, .int x2), (4, .int x4)]) (st1 := []) (M2 := ev_M r4.2 c w) (pc2 := 58) (lv2 := [(0, .ref t0), (1, .ref 1), (2, .int x2), (4, .int x4)]) (st2 := []) (fun n => rfl) h (fun hc5 h => ?_) (fun hc5 h => ?_)
        · cases h
          exact ev_r 2 (fun n => rfl)
        · refine ev_s 2 (M' := ev_M r4.2 c w) (pc' := 61) (lv' := [(0, .ref t0), (1, .ref 1), (2, .int x2), (4, .int x4)]) (st' := [.int ((-38) : Int32), .ref t0]) (fun n => rfl) ?_
          obtain ⟨r6, hr6, h⟩ := Option.bind_eq_some_iff.mp h
          refine ev_cv (rest := []) rfl rfl (congrArg Prod.fst hk_t0) rfl (ok_fX2_emit hk_t0 hr6) ?_
          show Ev XL xs _ 23 (ev_M r6 c w) 64 [(0, .ref t0), (1, .ref 1), (2, .int x2), (4, .int x4)] [] _
          refine ev_s 2 (M' := ev_M r6 c w) (pc' := 30) (lv' := [(4, .int (x4 + 1)), (0, .ref t0), (1, .ref 1), (2, .int x2)]) (st' := []) (fun n => rfl) ?_
          refine ev_sub (lv := [(0, .ref t0), (1, .ref 1), (2, .int x2), (4, .int (x4 + 1))]) (mn_of rfl (by repeat (first | exact trivial | refine And.intro rfl ?_))) ?_
          exact ih _ _ _ _ _ hk_t0 h
    · refine ev_sub (lv := []) (mn_of rfl (by repeat (first | exact trivial | refine And.intro rfl ?_))) ?_
      exact ok_fX2_readTruth_c70 hkB h
def fX2_readTruth_c27 (kB : mm_MM → Nat → Int32 → Option (Int32 × mm_MM)) (m : mm_MM) (t0 : Nat) (x2 : Int32) : Option (Int32 × mm_MM) :=
  fX2_readTruth_c30 kB fu m t0 x2 0
theorem ok_fX2_readTruth_c27 {kB : mm_MM → Nat → Int32 → Option (Int32 × mm_MM)} (hkB : ∀ (j : Nat) (m : mm_MM) (t0 : Nat) (x2 : Int32) (q0 : Int32 × mm_MM) (hk_t0 : mm_kd t0 = (2, 4)), kB m t0 x2 = some q0 → Ev XL xs (d + 42 + j) 24 (ev_M m c w) 0 (lv_args 0 [.ref t0, .ref 1, .int x2]) [] (fr_i c w q0)) {m : mm_MM} {t0 : Nat} {x2 : Int32} {q0 : Int32 × mm_MM} (hk_t0 : mm_kd t0 = (2, 4)) (h : fX2_readTruth_c27 kB m t0 x2 = some q0) : Ev XL xs (d + 43) 23 (ev_M m c w) 27 [(0, .ref t0), (1, .ref 1), (2, .int x2)] [] (fr_i c w q0) := by
  unfold fX2_readTruth_c27 at h
  refine ev_s 2 (M' := ev_M m c w) (pc' := 30) (lv' := [(4, .int 0), (0, .ref t0), (1, .ref 1), (2, .int x2)]) (st' := []) (fun n => rfl) ?_
  refine ev_sub (lv := [(0, .ref t0), (1, .ref 1), (2, .int x2), (4, .int 0)]) (mn_of rfl (by repeat (first | exact trivial | refine And.intro rfl ?_))) ?_
  exact ok_fX2_readTruth_c30 hkB fu _ _ _ _ _ hk_t0 h
def fX2_readTruth (kB : mm_MM → Nat → Int32 → Option (Int32 × mm_MM)) (m : mm_MM) (t0 : Nat) (x2 : Int32) (x3 : Int32) : Option (Int32 × mm_MM) :=
  (if x3 = 0 then
    (kB m t0 x2).bind fun r2 =>
     (if r2.1 = 0 then
       fX2_readTruth_c25 kB r2.2
      else
       fX2_readTruth_c27 kB r2.2 t0 x2)
   else
    (fX2_readComparison m t0 x2).bind fun r4 =>
     (if r4.1 = 0 then
       fX2_readTruth_c25 kB r4.2
      else
       fX2_readTruth_c27 kB r4.2 t0 x2))
theorem ok_fX2_readTruth {kB : mm_MM → Nat → Int32 → Option (Int32 × mm_MM)} (hkB : ∀ (j : Nat) (m : mm_MM) (t0 : Nat) (x2 : Int32) (q0 : Int32 × mm_MM) (hk_t0 : mm_kd t0 = (2, 4)), kB m t0 x2 = some q0 → Ev XL xs (d + 42 + j) 24 (ev_M m c w) 0 (lv_args 0 [.ref t0, .ref 1, .int x2]) [] (fr_i c w q0)) {m : mm_MM} {t0 : Nat} {x2 : Int32} {x3 : Int32} {q0 : Int32 × mm_MM} (hk_t0 : mm_kd t0 = (2, 4)) (h : fX2_readTruth kB m t0 x2 x3 = some q0) : Ev XL xs (d + 43) 23 (ev_M m c w) 0 (lv_args 0 [.ref t0, .ref 1, .int x2, .int x3]) [] (fr_i c w q0) := by
  unfold fX2_readTruth at h
  refine ev_i 2 (M1 := ev_M m c w) (pc1 := 16) (lv1 := [(0, .ref t0), (1, .ref 1), (2, .int x2), (3, .int x3)]) (st1 := []) (M2 := ev_M m c w) (pc2 := 4) (lv2 := [(0, .ref t0), (1, .ref 1), (2, .int x2), (3, .int x3)]) (st2 := []) (fun n => rfl) h (fun hc1 h => ?_) (fun hc1 h => ?_)
  · refine ev_s 3 (M' := ev_M m c w) (pc' := 19) (lv' := [(0, .ref t0), (1, .ref 1), (2, .int x2), (3, .int x3)]) (st' := [.int x2, .ref 1, .ref t0]) (fun n => rfl) ?_
    obtain ⟨r2, hr2, h⟩ := Option.bind_eq_some_iff.mp h
    refine ev_cv (rest := []) rfl rfl (congrArg Prod.fst hk_t0) rfl (hkB 0 _ _ _ _ hk_t0 hr2) ?_
    show Ev XL xs _ 23 (ev_M r2.2 c w) 22 [(0, .ref t0), (1, .ref 1), (2, .int x2), (3, .int x3)] [.int r2.1] _
    refine ev_i 1 (M1 := ev_M r2.2 c w) (pc1 := 25) (lv1 := [(0, .ref t0), (1, .ref 1), (2, .int x2), (3, .int x3)]) (st1 := []) (M2 := ev_M r2.2 c w) (pc2 := 27) (lv2 := [(0, .ref t0), (1, .ref 1), (2, .int x2), (3, .int x3)]) (st2 := []) (fun n => rfl) h (fun hc3 h => ?_) (fun hc3 h => ?_)
    · refine ev_sub (lv := []) (mn_of rfl (by repeat (first | exact trivial | refine And.intro rfl ?_))) ?_
      exact ok_fX2_readTruth_c25 hkB h
    · refine ev_sub (lv := [(0, .ref t0), (1, .ref 1), (2, .int x2)]) (mn_of rfl (by repeat (first | exact trivial | refine And.intro rfl ?_))) ?_
      exact ok_fX2_readTruth_c27 hkB hk_t0 h
  · refine ev_s 3 (M' := ev_M m c w) (pc' := 7) (lv' := [(0, .ref t0), (1, .ref 1), (2, .int x2), (3, .int x3)]) (st' := [.int x2, .ref 1, .ref t0]) (fun n => rfl) ?_
    obtain ⟨r4, hr4, h⟩ := Option.bind_eq_some_iff.mp h
    refine ev_cv (rest := []) rfl rfl (congrArg Prod.fst hk_t0) rfl (ok_fX2_readComparison hk_t0 hr4) ?_
    show Ev XL xs _ 23 (ev_M r4.2 c w) 10 [(0, .ref t0), (1, .ref 1), (2, .int x2), (3, .int x3)] [.int r4.1] _
    refine ev_i 1 (M1 := ev_M r4.2 c w) (pc1 := 25) (lv1 := [(0, .ref t0), (1, .ref 1), (2, .int x2), (3, .int x3)]) (st1 := []) (M2 := ev_M r4.2 c w) (pc2 := 13) (lv2 := [(0, .ref t0), (1, .ref 1), (2, .int x2), (3, .int x3)]) (st2 := []) (fun n => rfl) h (fun hc5 h => ?_) (fun hc5 h => ?_)
    · refine ev_sub (lv := []) (mn_of rfl (by repeat (first | exact trivial | refine And.intro rfl ?_))) ?_
      exact ok_fX2_readTruth_c25 hkB h
    · refine ev_s 1 (M' := ev_M r4.2 c w) (pc' := 27) (lv' := [(0, .ref t0), (1, .ref 1), (2, .int x2), (3, .int x3)]) (st' := []) (fun n => rfl) ?_
      refine ev_sub (lv := [(0, .ref t0), (1, .ref 1), (2, .int x2)]) (mn_of rfl (by repeat (first | exact trivial | refine And.intro rfl ?_))) ?_
      exact ok_fX2_readTruth_c27 hkB hk_t0 h
def fX2_readCondition_c56 (kB : mm_MM → Nat → Int32 → Option (Int32 × mm_MM)) (m : mm_MM) : Option (Int32 × mm_MM) :=
  some (1, m)
theorem ok_fX2_readCondition_c56 {kB : mm_MM → Nat → Int32 → Option (Int32 × mm_MM)} (hkB : ∀ (j : Nat) (m : mm_MM) (t0 : Nat) (x2 : Int32) (q0 : Int32 × mm_MM) (hk_t0 : mm_kd t0 = (2, 4)), kB m t0 x2 = some q0 → Ev XL xs (d + 42 + j) 24 (ev_M m c w) 0 (lv_args 0 [.ref t0, .ref 1, .int x2]) [] (fr_i c w q0)) {m : mm_MM} {q0 : Int32 × mm_MM} (h : fX2_readCondition_c56 kB m = some q0) : Ev XL xs (d + 44) 22 (ev_M m c w) 56 [] [] (fr_i c w q0) := by
  unfold fX2_readCondition_c56 at h
  cases h
  exact ev_r 2 (fun n => rfl)
def fX2_readCondition_c15 (kB : mm_MM → Nat → Int32 → Option (Int32 × mm_MM)) : Nat → mm_MM → Nat → Int32 → Int32 → Option (Int32 × mm_MM)
  | 0 => fun _ _ _ _ => none
  | n + 1 => fun m t0 x2 x4 =>
    (if x4 < 240 then
      (fX8_took m 124).bind fun r2 =>
       (if r2.1 = 0 then
         fX2_readCondition_c56 kB r2.2
        else
         (fX2_readTruth kB r2.2 t0 x2 0).bind fun r4 =>
          (if r4.1 = 0 then
            some (0, r4.2)
           else
            (fX2_emit r4.2 t0 ((-124) : Int32)).bind fun r6 =>
             fX2_readCondition_c15 kB n r6 t0 x2 (x4 + 1)))
     else
      fX2_readCondition_c56 kB m)
theorem ok_fX2_readCondition_c15 {kB : mm_MM → Nat → Int32 → Option (Int32 × mm_MM)} (hkB : ∀ (j : Nat) (m : mm_MM) (t0 : Nat) (x2 : Int32) (q0 : Int32 × mm_MM) (hk_t0 : mm_kd t0 = (2, 4)), kB m t0 x2 = some q0 → Ev XL xs (d + 42 + j) 24 (ev_M m c w) 0 (lv_args 0 [.ref t0, .ref 1, .int x2]) [] (fr_i c w q0)) : ∀ (n : Nat) (m : mm_MM) (t0 : Nat) (x2 : Int32) (x4 : Int32) (q0 : Int32 × mm_MM) (hk_t0 : mm_kd t0 = (2, 4)), fX2_readCondition_c15 kB n m t0 x2 x4 = some q0 → Ev XL xs (d + 44) 22 (ev_M m c w) 15 [(0, .ref t0), (1, .ref 1), (2, .int x2), (4, .int x4)] [] (fr_i c w q0) := by
  intro n
  induction n with
  | zero => intro m t0 x2 x4 q0 hk_t0 h; exact absurd (show (none : Option (Int32 × mm_MM)) = some q0 from h) (by simp)
  | succ n ih =>
    intro m t0 x2 x4 q0 hk_t0 h
    unfold fX2_readCondition_c15 at h
    refine ev_i 3 (M1 := ev_M m c w) (pc1 := 23) (lv1 := [(0, .ref t0), (1, .ref 1), (2, .int x2), (4, .int x4)]) (st1 := []) (M2 := ev_M m c w) (pc2 := 56) (lv2 := [(0, .ref t0), (1, .ref 1), (2, .int x2), (4, .int x4)]) (st2 := []) (fun n => rfl) h (fun hc1 h => ?_) (fun hc1 h => ?_)
    · obtain ⟨r2, hr2, h⟩ := Option.bind_eq_some_iff.mp h
      refine ev_c 3 (y' := 86) (M1 := ev_M m c w) (la := lv_args 0 [.ref 1, .int 124]) (rest := []) (pc' := 29) (lv' := [(0, .ref t0), (1, .ref 1), (2, .int x2), (4, .int x4)]) (fun n => rfl) (ok_fX8_took hr2) ?_
      show Ev XL xs _ 22 (ev_M r2.2 c w) 29 [(0, .ref t0), (1, .ref 1), (2, .int x2), (4, .int x4)] [.int r2.1] _
      refine ev_i 1 (M1 := ev_M r2.2 c w) (pc1 := 56) (lv1 := [(0, .ref t0), (1, .ref 1), (2, .int x2), (4, .int x4)]) (st1 := []) (M2 := ev_M r2.2 c w) (pc2 := 32) (lv2 := [(0, .ref t0), (1, .ref 1), (2, .int x2), (4, .int x4)]) (st2 := []) (fun n => rfl) h (fun hc3 h => ?_) (fun hc3 h => ?_)
      · refine ev_sub (lv := []) (mn_of rfl (by repeat (first | exact trivial | refine And.intro rfl ?_))) ?_
        exact ok_fX2_readCondition_c56 hkB h
      · refine ev_s 4 (M' := ev_M r2.2 c w) (pc' := 36) (lv' := [(0, .ref t0), (1, .ref 1), (2, .int x2), (4, .int x4)]) (st' := [.int 0, .int x2, .ref 1, .ref t0]) (fun n => rfl) ?_
        obtain ⟨r4, hr4, h⟩ := Option.bind_eq_some_iff.mp h
        refine ev_cv (rest := []) rfl rfl (congrArg Prod.fst hk_t0) rfl (ok_fX2_readTruth hkB hk_t0 hr4) ?_
        show Ev XL xs _ 22 (ev_M r4.2 c w) 39 [(0, .ref t0), (1, .ref 1), (2, .int x2), (4, .int x4)] [.int r4.1] _
        refine ev_i 1 (M1 := ev_M r4.2 c w) (pc1 := 42) (lv1 := [(0, .ref t0), (1, .ref 1), (2, .int x2), (4, .int x4)]) (st1 := []) (M2 := ev_M r4.2 c w) (pc2 := 44) (lv2 := [(0, .ref t0), (1, .ref 1), (2, .int x2), (4, .int x4)]) (st2 := []) (fun n => rfl) h (fun hc5 h => ?_) (fun hc5 h => ?_)
        · cases h
          exact ev_r 2 (fun n => rfl)
        · refine ev_s 2 (M' := ev_M r4.2 c w) (pc' := 47) (lv' := [(0, .ref t0), (1, .ref 1), (2, .int x2), (4, .int x4)]) (st' := [.int ((-124) : Int32), .ref t0]) (fun n => rfl) ?_
          obtain ⟨r6, hr6, h⟩ := Option.bind_eq_some_iff.mp h
          refine ev_cv (rest := []) rfl rfl (congrArg Prod.fst hk_t0) rfl (ok_fX2_emit hk_t0 hr6) ?_
          show Ev XL xs _ 22 (ev_M r6 c w) 50 [(0, .ref t0), (1, .ref 1), (2, .int x2), (4, .int x4)] [] _
          refine ev_s 2 (M' := ev_M r6 c w) (pc' := 15) (lv' := [(4, .int (x4 + 1)), (0, .ref t0), (1, .ref 1), (2, .int x2)]) (st' := []) (fun n => rfl) ?_
          refine ev_sub (lv := [(0, .ref t0), (1, .ref 1), (2, .int x2), (4, .int (x4 + 1))]) (mn_of rfl (by repeat (first | exact trivial | refine And.intro rfl ?_))) ?_
          exact ih _ _ _ _ _ hk_t0 h
    · refine ev_sub (lv := []) (mn_of rfl (by repeat (first | exact trivial | refine And.intro rfl ?_))) ?_
      exact ok_fX2_readCondition_c56 hkB h
def fX2_readCondition (kB : mm_MM → Nat → Int32 → Option (Int32 × mm_MM)) (m : mm_MM) (t0 : Nat) (x2 : Int32) (x3 : Int32) : Option (Int32 × mm_MM) :=
  (fX2_readTruth kB m t0 x2 x3).bind fun r1 =>
   (if r1.1 = 0 then
     some (0, r1.2)
    else
     fX2_readCondition_c15 kB fu r1.2 t0 x2 0)
theorem ok_fX2_readCondition {kB : mm_MM → Nat → Int32 → Option (Int32 × mm_MM)} (hkB : ∀ (j : Nat) (m : mm_MM) (t0 : Nat) (x2 : Int32) (q0 : Int32 × mm_MM) (hk_t0 : mm_kd t0 = (2, 4)), kB m t0 x2 = some q0 → Ev XL xs (d + 42 + j) 24 (ev_M m c w) 0 (lv_args 0 [.ref t0, .ref 1, .int x2]) [] (fr_i c w q0)) {m : mm_MM} {t0 : Nat} {x2 : Int32} {x3 : Int32} {q0 : Int32 × mm_MM} (hk_t0 : mm_kd t0 = (2, 4)) (h : fX2_readCondition kB m t0 x2 x3 = some q0) : Ev XL xs (d + 44) 22 (ev_M m c w) 0 (lv_args 0 [.ref t0, .ref 1, .int x2, .int x3]) [] (fr_i c w q0) := by
  unfold fX2_readCondition at h
  refine ev_s 4 (M' := ev_M m c w) (pc' := 4) (lv' := [(0, .ref t0), (1, .ref 1), (2, .int x2), (3, .int x3)]) (st' := [.int x3, .int x2, .ref 1, .ref t0]) (fun n => rfl) ?_
  obtain ⟨r1, hr1, h⟩ := Option.bind_eq_some_iff.mp h
  refine ev_cv (rest := []) rfl rfl (congrArg Prod.fst hk_t0) rfl (ok_fX2_readTruth hkB hk_t0 hr1) ?_
  show Ev XL xs _ 22 (ev_M r1.2 c w) 7 [(0, .ref t0), (1, .ref 1), (2, .int x2), (3, .int x3)] [.int r1.1] _
  refine ev_i 1 (M1 := ev_M r1.2 c w) (pc1 := 10) (lv1 := [(0, .ref t0), (1, .ref 1), (2, .int x2), (3, .int x3)]) (st1 := []) (M2 := ev_M r1.2 c w) (pc2 := 12) (lv2 := [(0, .ref t0), (1, .ref 1), (2, .int x2), (3, .int x3)]) (st2 := []) (fun n => rfl) h (fun hc2 h => ?_) (fun hc2 h => ?_)
  · cases h
    exact ev_r 2 (fun n => rfl)
  · refine ev_s 2 (M' := ev_M r1.2 c w) (pc' := 15) (lv' := [(4, .int 0), (0, .ref t0), (1, .ref 1), (2, .int x2), (3, .int x3)]) (st' := []) (fun n => rfl) ?_
    refine ev_sub (lv := [(0, .ref t0), (1, .ref 1), (2, .int x2), (4, .int 0)]) (mn_of rfl (by repeat (first | exact trivial | refine And.intro rfl ?_))) ?_
    exact ok_fX2_readCondition_c15 hkB fu _ _ _ _ _ hk_t0 h
def fX2_readUnit_b_c35 (kB : mm_MM → Nat → Int32 → Option (Int32 × mm_MM)) (m : mm_MM) (s0 : Int32) : Option (Int32 × mm_MM) :=
  (if s0 = 0 ∨ s0 = 1 then some (s0, m) else none)
set_option maxRecDepth 20000 in
theorem ok_fX2_readUnit_b_c35 {kB : mm_MM → Nat → Int32 → Option (Int32 × mm_MM)} (hkB : ∀ (j : Nat) (m : mm_MM) (t0 : Nat) (x2 : Int32) (q0 : Int32 × mm_MM) (hk_t0 : mm_kd t0 = (2, 4)), kB m t0 x2 = some q0 → Ev XL xs (d + 42 + j) 24 (ev_M m c w) 0 (lv_args 0 [.ref t0, .ref 1, .int x2]) [] (fr_i c w q0)) {m : mm_MM} {s0 : Int32} {q0 : Int32 × mm_MM} (h : fX2_readUnit_b_c35 kB m s0 = some q0) : Ev XL xs (d + 45) 24 (ev_M m c w) 35 [] [.int s0] (fr_i c w q0) := by
  unfold fX2_readUnit_b_c35 at h
  exact ev_rg 1 (f := fr_i c w) (fun n => rfl) h
def fX2_readUnit_b_c34 (kB : mm_MM → Nat → Int32 → Option (Int32 × mm_MM)) (m : mm_MM) : Option (Int32 × mm_MM) :=
  fX2_readUnit_b_c35 kB m 0
set_option maxRecDepth 20000 in
theorem ok_fX2_readUnit_b_c34 {kB : mm_MM → Nat → Int32 → Option (Int32 × mm_MM)} (hkB : ∀ (j : Nat) (m : mm_MM) (t0 : Nat) (x2 : Int32) (q0 : Int32 × mm_MM) (hk_t0 : mm_kd t0 = (2, 4)), kB m t0 x2 = some q0 → Ev XL xs (d + 42 + j) 24 (ev_M m c w) 0 (lv_args 0 [.ref t0, .ref 1, .int x2]) [] (fr_i c w q0)) {m : mm_MM} {q0 : Int32 × mm_MM} (h : fX2_readUnit_b_c34 kB m = some q0) : Ev XL xs (d + 45) 24 (ev_M m c w) 34 [] [] (fr_i c w q0) := by
  unfold fX2_readUnit_b_c34 at h
  refine ev_s 1 (M' := ev_M m c w) (pc' := 35) (lv' := []) (st' := [.int 0]) (fun n => rfl) ?_
  exact ok_fX2_readUnit_b_c35 hkB h
def fX2_readUnit_b_c80 (kB : mm_MM → Nat → Int32 → Option (Int32 × mm_MM)) (m : mm_MM) (s0 : Int32) : Option (Int32 × mm_MM) :=
  (if s0 = 0 ∨ s0 = 1 then some (s0, m) else none)
set_option maxRecDepth 20000 in
theorem ok_fX2_readUnit_b_c80 {kB : mm_MM → Nat → Int32 → Option (Int32 × mm_MM)} (hkB : ∀ (j : Nat) (m : mm_MM) (t0 : Nat) (x2 : Int32) (q0 : Int32 × mm_MM) (hk_t0 : mm_kd t0 = (2, 4)), kB m t0 x2 = some q0 → Ev XL xs (d + 42 + j) 24 (ev_M m c w) 0 (lv_args 0 [.ref t0, .ref 1, .int x2]) [] (fr_i c w q0)) {m : mm_MM} {s0 : Int32} {q0 : Int32 × mm_MM} (h : fX2_readUnit_b_c80 kB m s0 = some q0) : Ev XL xs (d + 45) 24 (ev_M m c w) 80 [] [.int s0] (fr_i c w q0) := by
  unfold fX2_readUnit_b_c80 at h
  exact ev_rg 1 (f := fr_i c w) (fun n => rfl) h
def fX2_readUnit_b_c79 (kB : mm_MM → Nat → Int32 → Option (Int32 × mm_MM)) (m : mm_MM) : Option (Int32 × mm_MM) :=
  fX2_readUnit_b_c80 kB m 0
set_option maxRecDepth 20000 in
theorem ok_fX2_readUnit_b_c79 {kB : mm_MM → Nat → Int32 → Option (Int32 × mm_MM)} (hkB : ∀ (j : Nat) (m : mm_MM) (t0 : Nat) (x2 : Int32) (q0 : Int32 × mm_MM) (hk_t0 : mm_kd t0 = (2, 4)), kB m t0 x2 = some q0 → Ev XL xs (d + 42 + j) 24 (ev_M m c w) 0 (lv_args 0 [.ref t0, .ref 1, .int x2]) [] (fr_i c w q0)) {m : mm_MM} {q0 : Int32 × mm_MM} (h : fX2_readUnit_b_c79 kB m = some q0) : Ev XL xs (d + 45) 24 (ev_M m c w) 79 [] [] (fr_i c w q0) := by
  unfold fX2_readUnit_b_c79 at h
  refine ev_s 1 (M' := ev_M m c w) (pc' := 80) (lv' := []) (st' := [.int 0]) (fun n => rfl) ?_
  exact ok_fX2_readUnit_b_c80 hkB h
def fX2_readUnit_b (kB : mm_MM → Nat → Int32 → Option (Int32 × mm_MM)) (m : mm_MM) (t0 : Nat) (x2 : Int32) : Option (Int32 × mm_MM) :=
  (fX8_sign m).bind fun r1 =>
   (fX2_nests r1.2 r1.1).bind fun r2 =>
    (if r2.1 = 0 then
      (fX2_readSum 12 r2.2 t0 x2).bind fun r4 =>
       (if r4.1 = 0 then
         fX2_readUnit_b_c34 kB r4.2
        else
         (fX2_readComparison r4.2 t0 x2).bind fun r6 =>
          (if r6.1 = 0 then
            fX2_readUnit_b_c34 kB r6.2
           else
            fX2_readUnit_b_c35 kB r6.2 1))
     else
      (if x2 < 6 then
        (fX8_skip r2.2).bind fun r9 =>
         (if r1.1 = 40 then
           (fX2_readCondition kB r9 t0 (x2 + 1) 0).bind fun r11 =>
            (if r11.1 = 0 then
              fX2_readUnit_b_c79 kB r11.2
             else
              (fX8_took r11.2 41).bind fun r13 =>
               (if r13.1 = 0 then
                 fX2_readUnit_b_c79 kB r13.2
                else
                 fX2_readUnit_b_c80 kB r13.2 1))
          else
           (kB r9 t0 (x2 + 1)).bind fun r15 =>
            (if r15.1 = 0 then
              some (0, r15.2)
             else
              (fX2_emit r15.2 t0 ((-33) : Int32)).bind fun r17 =>
               some (1, r17)))
       else
        some (0, r2.2)))
set_option maxRecDepth 20000 in
theorem ok_fX2_readUnit_b {kB : mm_MM → Nat → Int32 → Option (Int32 × mm_MM)} (hkB : ∀ (j : Nat) (m : mm_MM) (t0 : Nat) (x2 : Int32) (q0 : Int32 × mm_MM) (hk_t0 : mm_kd t0 = (2, 4)), kB m t0 x2 = some q0 → Ev XL xs (d + 42 + j) 24 (ev_M m c w) 0 (lv_args 0 [.ref t0, .ref 1, .int x2]) [] (fr_i c w q0)) {m : mm_MM} {t0 : Nat} {x2 : Int32} {q0 : Int32 × mm_MM} (hk_t0 : mm_kd t0 = (2, 4)) (h : fX2_readUnit_b kB m t0 x2 = some q0) : Ev XL xs (d + 45) 24 (ev_M m c w) 0 (lv_args 0 [.ref t0, .ref 1, .int x2]) [] (fr_i c w q0) := by
  unfold fX2_readUnit_b at h
  obtain ⟨r1, hr1, h⟩ := Option.bind_eq_some_iff.mp h
  refine ev_c 2 (y' := 83) (M1 := ev_M m c w) (la := lv_args 0 [.ref 1]) (rest := []) (pc' := 4) (lv' := [(0, .ref t0), (1, .ref 1), (2, .int x2)]) (fun n => rfl) (ok_fX8_sign hr1) ?_
  show Ev XL xs _ 24 (ev_M r1.2 c w) 4 [(0, .ref t0), (1, .ref 1), (2, .int x2)] [.int r1.1] _
  obtain ⟨r2, hr2, h⟩ := Option.bind_eq_some_iff.mp h
  refine ev_c 3 (y' := 29) (M1 := ev_M r1.2 c w) (la := lv_args 0 [.int r1.1]) (rest := []) (pc' := 9) (lv' := [(3, .int r1.1), (0, .ref t0), (1, .ref 1), (2, .int x2)]) (fun n => rfl) (ok_fX2_nests hr2) ?_
  show Ev XL xs _ 24 (ev_M r2.2 c w) 9 [(3, .int r1.1), (0, .ref t0), (1, .ref 1), (2, .int x2)] [.int r2.1] _
  refine ev_i 1 (M1 := ev_M r2.2 c w) (pc1 := 12) (lv1 := [(3, .int r1.1), (0, .ref t0), (1, .ref 1), (2, .int x2)]) (st1 := []) (M2 := ev_M r2.2 c w) (pc2 := 36) (lv2 := [(3, .int r1.1), (0, .ref t0), (1, .ref 1), (2, .int x2)]) (st2 := []) (fun n => rfl) h (fun hc3 h => ?_) (fun hc3 h => ?_)
  · refine ev_s 3 (M' := ev_M r2.2 c w) (pc' := 15) (lv' := [(3, .int r1.1), (0, .ref t0), (1, .ref 1), (2, .int x2)]) (st' := [.int x2, .ref 1, .ref t0]) (fun n => rfl) ?_
    obtain ⟨r4, hr4, h⟩ := Option.bind_eq_some_iff.mp h
    refine ev_cv (rest := []) rfl rfl (congrArg Prod.fst hk_t0) rfl (ok_fX2_readSum (d := d) 12 4 _ _ _ _ hk_t0 hr4) ?_
    show Ev XL xs _ 24 (ev_M r4.2 c w) 18 [(3, .int r1.1), (0, .ref t0), (1, .ref 1), (2, .int x2)] [.int r4.1] _
    refine ev_i 1 (M1 := ev_M r4.2 c w) (pc1 := 34) (lv1 := [(3, .int r1.1), (0, .ref t0), (1, .ref 1), (2, .int x2)]) (st1 := []) (M2 := ev_M r4.2 c w) (pc2 := 21) (lv2 := [(3, .int r1.1), (0, .ref t0), (1, .ref 1), (2, .int x2)]) (st2 := []) (fun n => rfl) h (fun hc5 h => ?_) (fun hc5 h => ?_)
    · refine ev_sub (lv := []) (mn_of rfl (by repeat (first | exact trivial | refine And.intro rfl ?_))) ?_
      exact ok_fX2_readUnit_b_c34 hkB h
    · refine ev_s 3 (M' := ev_M r4.2 c w) (pc' := 24) (lv' := [(3, .int r1.1), (0, .ref t0), (1, .ref 1), (2, .int x2)]) (st' := [.int x2, .ref 1, .ref t0]) (fun n => rfl) ?_
      obtain ⟨r6, hr6, h⟩ := Option.bind_eq_some_iff.mp h
      refine ev_cv (rest := []) rfl rfl (congrArg Prod.fst hk_t0) rfl (ok_fX2_readComparison hk_t0 hr6) ?_
      show Ev XL xs _ 24 (ev_M r6.2 c w) 27 [(3, .int r1.1), (0, .ref t0), (1, .ref 1), (2, .int x2)] [.int r6.1] _
      refine ev_i 1 (M1 := ev_M r6.2 c w) (pc1 := 34) (lv1 := [(3, .int r1.1), (0, .ref t0), (1, .ref 1), (2, .int x2)]) (st1 := []) (M2 := ev_M r6.2 c w) (pc2 := 30) (lv2 := [(3, .int r1.1), (0, .ref t0), (1, .ref 1), (2, .int x2)]) (st2 := []) (fun n => rfl) h (fun hc7 h => ?_) (fun hc7 h => ?_)
      · refine ev_sub (lv := []) (mn_of rfl (by repeat (first | exact trivial | refine And.intro rfl ?_))) ?_
        exact ok_fX2_readUnit_b_c34 hkB h
      · refine ev_s 2 (M' := ev_M r6.2 c w) (pc' := 35) (lv' := [(3, .int r1.1), (0, .ref t0), (1, .ref 1), (2, .int x2)]) (st' := [.int 1]) (fun n => rfl) ?_
        refine ev_sub (lv := []) (mn_of rfl (by repeat (first | exact trivial | refine And.intro rfl ?_))) ?_
        exact ok_fX2_readUnit_b_c35 hkB h
  · refine ev_i 3 (M1 := ev_M r2.2 c w) (pc1 := 44) (lv1 := [(3, .int r1.1), (0, .ref t0), (1, .ref 1), (2, .int x2)]) (st1 := []) (M2 := ev_M r2.2 c w) (pc2 := 42) (lv2 := [(3, .int r1.1), (0, .ref t0), (1, .ref 1), (2, .int x2)]) (st2 := []) (fun n => rfl) h (fun hc8 h => ?_) (fun hc8 h => ?_)
    · obtain ⟨r9, hr9, h⟩ := Option.bind_eq_some_iff.mp h
      refine ev_c 2 (y' := 85) (M1 := ev_M r2.2 c w) (la := lv_args 0 [.ref 1]) (rest := []) (pc' := 48) (lv' := [(3, .int r1.1), (0, .ref t0), (1, .ref 1), (2, .int x2)]) (fun n => rfl) (ok_fX8_skip hr9) ?_
      show Ev XL xs _ 24 (ev_M r9 c w) 48 [(3, .int r1.1), (0, .ref t0), (1, .ref 1), (2, .int x2)] [] _
      refine ev_i 3 (M1 := ev_M r9 c w) (pc1 := 54) (lv1 := [(3, .int r1.1), (0, .ref t0), (1, .ref 1), (2, .int x2)]) (st1 := []) (M2 := ev_M r9 c w) (pc2 := 81) (lv2 := [(3, .int r1.1), (0, .ref t0), (1, .ref 1), (2, .int x2)]) (st2 := []) (fun n => rfl) h (fun hc10 h => ?_) (fun hc10 h => ?_)
      · refine ev_s 6 (M' := ev_M r9 c w) (pc' := 60) (lv' := [(3, .int r1.1), (0, .ref t0), (1, .ref 1), (2, .int x2)]) (st' := [.int 0, .int (x2 + 1), .ref 1, .ref t0]) (fun n => rfl) ?_
        obtain ⟨r11, hr11, h⟩ := Option.bind_eq_some_iff.mp h
        refine ev_cv (rest := []) rfl rfl (congrArg Prod.fst hk_t0) rfl (ok_fX2_readCondition hkB hk_t0 hr11) ?_
        show Ev XL xs _ 24 (ev_M r11.2 c w) 63 [(3, .int r1.1), (0, .ref t0), (1, .ref 1), (2, .int x2)] [.int r11.1] _
        refine ev_i 1 (M1 := ev_M r11.2 c w) (pc1 := 79) (lv1 := [(3, .int r1.1), (0, .ref t0), (1, .ref 1), (2, .int x2)]) (st1 := []) (M2 := ev_M r11.2 c w) (pc2 := 66) (lv2 := [(3, .int r1.1), (0, .ref t0), (1, .ref 1), (2, .int x2)]) (st2 := []) (fun n => rfl) h (fun hc12 h => ?_) (fun hc12 h => ?_)
        · refine ev_sub (lv := []) (mn_of rfl (by repeat (first | exact trivial | refine And.intro rfl ?_))) ?_
          exact ok_fX2_readUnit_b_c79 hkB h
        · obtain ⟨r13, hr13, h⟩ := Option.bind_eq_some_iff.mp h
          refine ev_c 3 (y' := 86) (M1 := ev_M r11.2 c w) (la := lv_args 0 [.ref 1, .int 41]) (rest := []) (pc' := 72) (lv' := [(3, .int r1.1), (0, .ref t0), (1, .ref 1), (2, .int x2)]) (fun n => rfl) (ok_fX8_took hr13) ?_
          show Ev XL xs _ 24 (ev_M r13.2 c w) 72 [(3, .int r1.1), (0, .ref t0), (1, .ref 1), (2, .int x2)] [.int r13.1] _
          refine ev_i 1 (M1 := ev_M r13.2 c w) (pc1 := 79) (lv1 := [(3, .int r1.1), (0, .ref t0), (1, .ref 1), (2, .int x2)]) (st1 := []) (M2 := ev_M r13.2 c w) (pc2 := 75) (lv2 := [(3, .int r1.1), (0, .ref t0), (1, .ref 1), (2, .int x2)]) (st2 := []) (fun n => rfl) h (fun hc14 h => ?_) (fun hc14 h => ?_)
          · refine ev_sub (lv := []) (mn_of rfl (by repeat (first | exact trivial | refine And.intro rfl ?_))) ?_
            exact ok_fX2_readUnit_b_c79 hkB h
          · refine ev_s 2 (M' := ev_M r13.2 c w) (pc' := 80) (lv' := [(3, .int r1.1), (0, .ref t0), (1, .ref 1), (2, .int x2)]) (st' := [.int 1]) (fun n => rfl) ?_
            refine ev_sub (lv := []) (mn_of rfl (by repeat (first | exact trivial | refine And.intro rfl ?_))) ?_
            exact ok_fX2_readUnit_b_c80 hkB h
      · refine ev_s 5 (M' := ev_M r9 c w) (pc' := 86) (lv' := [(3, .int r1.1), (0, .ref t0), (1, .ref 1), (2, .int x2)]) (st' := [.int (x2 + 1), .ref 1, .ref t0]) (fun n => rfl) ?_
        obtain ⟨r15, hr15, h⟩ := Option.bind_eq_some_iff.mp h
        refine ev_cv (rest := []) rfl rfl (congrArg Prod.fst hk_t0) rfl (hkB 2 _ _ _ _ hk_t0 hr15) ?_
        show Ev XL xs _ 24 (ev_M r15.2 c w) 89 [(3, .int r1.1), (0, .ref t0), (1, .ref 1), (2, .int x2)] [.int r15.1] _
        refine ev_i 1 (M1 := ev_M r15.2 c w) (pc1 := 92) (lv1 := [(3, .int r1.1), (0, .ref t0), (1, .ref 1), (2, .int x2)]) (st1 := []) (M2 := ev_M r15.2 c w) (pc2 := 94) (lv2 := [(3, .int r1.1), (0, .ref t0), (1, .ref 1), (2, .int x2)]) (st2 := []) (fun n => rfl) h (fun hc16 h => ?_) (fun hc16 h => ?_)
        · cases h
          exact ev_r 2 (fun n => rfl)
        · refine ev_s 2 (M' := ev_M r15.2 c w) (pc' := 97) (lv' := [(3, .int r1.1), (0, .ref t0), (1, .ref 1), (2, .int x2)]) (st' := [.int ((-33) : Int32), .ref t0]) (fun n => rfl) ?_
          obtain ⟨r17, hr17, h⟩ := Option.bind_eq_some_iff.mp h
          refine ev_cv (rest := []) rfl rfl (congrArg Prod.fst hk_t0) rfl (ok_fX2_emit hk_t0 hr17) ?_
          show Ev XL xs _ 24 (ev_M r17 c w) 100 [(3, .int r1.1), (0, .ref t0), (1, .ref 1), (2, .int x2)] [] _
          cases h
          exact ev_r 2 (fun n => rfl)
    · cases h
      exact ev_r 2 (fun n => rfl)
def fX2_readUnit : Nat → mm_MM → Nat → Int32 → Option (Int32 × mm_MM)
  | 0 => fun _ _ _ => none
  | n + 1 => fun m t0 x2 => fX2_readUnit_b (fX2_readUnit n) m t0 x2
theorem ok_fX2_readUnit : ∀ (n j : Nat) (m : mm_MM) (t0 : Nat) (x2 : Int32) (q0 : Int32 × mm_MM) (hk_t0 : mm_kd t0 = (2, 4)), fX2_readUnit n m t0 x2 = some q0 → Ev XL xs (d + 3 * n + 42 + j) 24 (ev_M m c w) 0 (lv_args 0 [.ref t0, .ref 1, .int x2]) [] (fr_i c w q0) := by
  intro n
  induction n with
  | zero => intro j m t0 x2 q0 hk_t0 h; exact absurd (show (none : Option (Int32 × mm_MM)) = some q0 from h) (by simp)
  | succ n ih =>
    intro j m t0 x2 q0 hk_t0 h
    have h : fX2_readUnit_b (fX2_readUnit n) m t0 x2 = some q0 := h
    have g := ok_fX2_readUnit_b (XL := XL) (xs := xs) (c := c) (w := w) (d := d + 3 * n + j) (fun j2 m t0 x2 q0 hk_t0 h => by
      have i := ih (j + j2) m t0 x2 q0 hk_t0 h
      rwa [show d + 3 * n + 42 + (j + j2) = d + 3 * n + j + 42 + j2 by omega] at i) hk_t0 h
    rwa [show d + 3 * n + j + 45 = d + 3 * (n + 1) + 42 + j by omega] at g

def fX2_readClause_c18 (m : mm_MM) : Option (Int32 × mm_MM) :=
  some (0, m)
set_option maxRecDepth 20000 in
theorem ok_fX2_readClause_c18 {m : mm_MM} {q0 : Int32 × mm_MM} (h : fX2_readClause_c18 m = some q0) : Ev XL xs (d + 81) 20 (ev_M m c w) 18 [] [] (fr_i c w q0) := by
  unfold fX2_readClause_c18 at h
  cases h
  exact ev_r 2 (fun n => rfl)
def fX2_readClause_c76 (m : mm_MM) (s0 : Int32) : Option (Int32 × mm_MM) :=
  (if s0 = 0 ∨ s0 = 1 then some (s0, m) else none)
set_option maxRecDepth 20000 in
theorem ok_fX2_readClause_c76 {m : mm_MM} {s0 : Int32} {q0 : Int32 × mm_MM} (h : fX2_readClause_c76 m s0 = some q0) : Ev XL xs (d + 81) 20 (ev_M m c w) 76 [] [.int s0] (fr_i c w q0) := by
  unfold fX2_readClause_c76 at h
  exact ev_rg 1 (f := fr_i c w) (fun n => rfl) h
def fX2_readClause_c75 (m : mm_MM) : Option (Int32 × mm_MM) :=
  fX2_readClause_c76 m 0
set_option maxRecDepth 20000 in
theorem ok_fX2_readClause_c75 {m : mm_MM} {q0 : Int32 × mm_MM} (h : fX2_readClause_c75 m = some q0) : Ev XL xs (d + 81) 20 (ev_M m c w) 75 [] [] (fr_i c w q0) := by
  unfold fX2_readClause_c75 at h
  refine ev_s 1 (M' := ev_M m c w) (pc' := 76) (lv' := []) (st' := [.int 0]) (fun n => rfl) ?_
  exact ok_fX2_readClause_c76 h
def fX2_readClause_c100 (m : mm_MM) (s0 : Int32) : Option (Int32 × mm_MM) :=
  (if s0 = 0 ∨ s0 = 1 then some (s0, m) else none)
set_option maxRecDepth 20000 in
theorem ok_fX2_readClause_c100 {m : mm_MM} {s0 : Int32} {q0 : Int32 × mm_MM} (h : fX2_readClause_c100 m s0 = some q0) : Ev XL xs (d + 81) 20 (ev_M m c w) 100 [] [.int s0] (fr_i c w q0) := by
  unfold fX2_readClause_c100 at h
  exact ev_rg 1 (f := fr_i c w) (fun n => rfl) h
def fX2_readClause_c99 (m : mm_MM) : Option (Int32 × mm_MM) :=
  fX2_readClause_c100 m 0
set_option maxRecDepth 20000 in
theorem ok_fX2_readClause_c99 {m : mm_MM} {q0 : Int32 × mm_MM} (h : fX2_readClause_c99 m = some q0) : Ev XL xs (d + 81) 20 (ev_M m c w) 99 [] [] (fr_i c w q0) := by
  unfold fX2_readClause_c99 at h
  refine ev_s 1 (M' := ev_M m c w) (pc' := 100) (lv' := []) (st' := [.int 0]) (fun n => rfl) ?_
  exact ok_fX2_readClause_c100 h
def fX2_readClause (m : mm_MM) (t0 : Nat) : Option (Int32 × mm_MM) :=
  (fX8_took m 121).bind fun r1 =>
   (if r1.1 = 0 then
     fX2_readClause_c18 r1.2
    else
     (fX8_took r1.2 58).bind fun r3 =>
      (if r3.1 = 0 then
        fX2_readClause_c18 r3.2
       else
        (fX8_sign r3.2).bind fun r5 =>
         (fX2_nests r5.2 r5.1).bind fun r6 =>
          (if r6.1 = 0 then
            (fX2_readSum 12 r6.2 t0 0).bind fun r8 =>
             (if r8.1 = 0 then
               some (0, r8.2)
              else
               (fX8_sign r8.2).bind fun r10 =>
                (fX2_compares r10.2 r10.1).bind fun r11 =>
                 (if r11.1 = 0 then
                   some (1, r11.2)
                  else
                   (fX2_readCondition (fX2_readUnit 12) r11.2 t0 0 1).bind fun r13 =>
                    (if r13.1 = 0 then
                      fX2_readClause_c75 r13.2
                     else
                      (fX2_readGated r13.2 t0).bind fun r15 =>
                       (if r15.1 = 0 then
                         fX2_readClause_c75 r15.2
                        else
                         fX2_readClause_c76 r15.2 1))))
           else
            (fX2_readCondition (fX2_readUnit 12) r6.2 t0 0 0).bind fun r17 =>
             (if r17.1 = 0 then
               fX2_readClause_c99 r17.2
              else
               (fX2_readGated r17.2 t0).bind fun r19 =>
                (if r19.1 = 0 then
                  fX2_readClause_c99 r19.2
                 else
                  fX2_readClause_c100 r19.2 1)))))
set_option maxRecDepth 20000 in
theorem ok_fX2_readClause {m : mm_MM} {t0 : Nat} {q0 : Int32 × mm_MM} (hk_t0 : mm_kd t0 = (2, 4)) (h : fX2_readClause m t0 = some q0) : Ev XL xs (d + 81) 20 (ev_M m c w) 0 (lv_args 0 [.ref t0, .ref 1]) [] (fr_i c w q0) := by
  unfold fX2_readClause at h
  obtain ⟨r1, hr1, h⟩ := Option.bind_eq_some_iff.mp h
  refine ev_c 3 (y' := 86) (M1 := ev_M m c w) (la := lv_args 0 [.ref 1, .int 121]) (rest := []) (pc' := 6) (lv' := [(0, .ref t0), (1, .ref 1)]) (fun n => rfl) (ok_fX8_took hr1) ?_
  show Ev XL xs _ 20 (ev_M r1.2 c w) 6 [(0, .ref t0), (1, .ref 1)] [.int r1.1] _
  refine ev_i 1 (M1 := ev_M r1.2 c w) (pc1 := 18) (lv1 := [(0, .ref t0), (1, .ref 1)]) (st1 := []) (M2 := ev_M r1.2 c w) (pc2 := 9) (lv2 := [(0, .ref t0), (1, .ref 1)]) (st2 := []) (fun n => rfl) h (fun hc2 h => ?_) (fun hc2 h => ?_)
  · refine ev_sub (lv := []) (mn_of rfl (by repeat (first | exact trivial | refine And.intro rfl ?_))) ?_
    exact ok_fX2_readClause_c18 h
  · obtain ⟨r3, hr3, h⟩ := Option.bind_eq_some_iff.mp h
    refine ev_c 3 (y' := 86) (M1 := ev_M r1.2 c w) (la := lv_args 0 [.ref 1, .int 58]) (rest := []) (pc' := 15) (lv' := [(0, .ref t0), (1, .ref 1)]) (fun n => rfl) (ok_fX8_took hr3) ?_
    show Ev XL xs _ 20 (ev_M r3.2 c w) 15 [(0, .ref t0), (1, .ref 1)] [.int r3.1] _
    refine ev_i 1 (M1 := ev_M r3.2 c w) (pc1 := 18) (lv1 := [(0, .ref t0), (1, .ref 1)]) (st1 := []) (M2 := ev_M r3.2 c w) (pc2 := 20) (lv2 := [(0, .ref t0), (1, .ref 1)]) (st2 := []) (fun n => rfl) h (fun hc4 h => ?_) (fun hc4 h => ?_)
    · refine ev_sub (lv := []) (mn_of rfl (by repeat (first | exact trivial | refine And.intro rfl ?_))) ?_
      exact ok_fX2_readClause_c18 h
    · obtain ⟨r5, hr5, h⟩ := Option.bind_eq_some_iff.mp h
      refine ev_c 2 (y' := 83) (M1 := ev_M r3.2 c w) (la := lv_args 0 [.ref 1]) (rest := []) (pc' := 24) (lv' := [(0, .ref t0), (1, .ref 1)]) (fun n => rfl) (ok_fX8_sign hr5) ?_
      show Ev XL xs _ 20 (ev_M r5.2 c w) 24 [(0, .ref t0), (1, .ref 1)] [.int r5.1] _
      obtain ⟨r6, hr6, h⟩ := Option.bind_eq_some_iff.mp h
      refine ev_c 1 (y' := 29) (M1 := ev_M r5.2 c w) (la := lv_args 0 [.int r5.1]) (rest := []) (pc' := 27) (lv' := [(0, .ref t0), (1, .ref 1)]) (fun n => rfl) (ok_fX2_nests hr6) ?_
      show Ev XL xs _ 20 (ev_M r6.2 c w) 27 [(0, .ref t0), (1, .ref 1)] [.int r6.1] _
      refine ev_i 1 (M1 := ev_M r6.2 c w) (pc1 := 30) (lv1 := [(0, .ref t0), (1, .ref 1)]) (st1 := []) (M2 := ev_M r6.2 c w) (pc2 := 77) (lv2 := [(0, .ref t0), (1, .ref 1)]) (st2 := []) (fun n => rfl) h (fun hc7 h => ?_) (fun hc7 h => ?_)
      · refine ev_s 3 (M' := ev_M r6.2 c w) (pc' := 33) (lv' := [(0, .ref t0), (1, .ref 1)]) (st' := [.int 0, .ref 1, .ref t0]) (fun n => rfl) ?_
        obtain ⟨r8, hr8, h⟩ := Option.bind_eq_some_iff.mp h
        refine ev_cv (rest := []) rfl rfl (congrArg Prod.fst hk_t0) rfl (ok_fX2_readSum (d := d) 12 40 _ _ _ _ hk_t0 hr8) ?_
        show Ev XL xs _ 20 (ev_M r8.2 c w) 36 [(0, .ref t0), (1, .ref 1)] [.int r8.1] _
        refine ev_i 1 (M1 := ev_M r8.2 c w) (pc1 := 39) (lv1 := [(0, .ref t0), (1, .ref 1)]) (st1 := []) (M2 := ev_M r8.2 c w) (pc2 := 41) (lv2 := [(0, .ref t0), (1, .ref 1)]) (st2 := []) (fun n => rfl) h (fun hc9 h => ?_) (fun hc9 h => ?_)
        · cases h
          exact ev_r 2 (fun n => rfl)
        · obtain ⟨r10, hr10, h⟩ := Option.bind_eq_some_iff.mp h
          refine ev_c 2 (y' := 83) (M1 := ev_M r8.2 c w) (la := lv_args 0 [.ref 1]) (rest := []) (pc' := 45) (lv' := [(0, .ref t0), (1, .ref 1)]) (fun n => rfl) (ok_fX8_sign hr10) ?_
          show Ev XL xs _ 20 (ev_M r10.2 c w) 45 [(0, .ref t0), (1, .ref 1)] [.int r10.1] _
          obtain ⟨r11, hr11, h⟩ := Option.bind_eq_some_iff.mp h
          refine ev_c 1 (y' := 30) (M1 := ev_M r10.2 c w) (la := lv_args 0 [.int r10.1]) (rest := []) (pc' := 48) (lv' := [(0, .ref t0), (1, .ref 1)]) (fun n => rfl) (ok_fX2_compares hr11) ?_
          show Ev XL xs _ 20 (ev_M r11.2 c w) 48 [(0, .ref t0), (1, .ref 1)] [.int r11.1] _
          refine ev_i 1 (M1 := ev_M r11.2 c w) (pc1 := 51) (lv1 := [(0, .ref t0), (1, .ref 1)]) (st1 := []) (M2 := ev_M r11.2 c w) (pc2 := 53) (lv2 := [(0, .ref t0), (1, .ref 1)]) (st2 := []) (fun n => rfl) h (fun hc12 h => ?_) (fun hc12 h => ?_)
          · cases h
            exact ev_r 2 (fun n => rfl)
          · refine ev_s 4 (M' := ev_M r11.2 c w) (pc' := 57) (lv' := [(0, .ref t0), (1, .ref 1)]) (st' := [.int 1, .int 0, .ref 1, .ref t0]) (fun n => rfl) ?_
            obtain ⟨r13, hr13, h⟩ := Option.bind_eq_some_iff.mp h
            refine ev_cv (rest := []) rfl rfl (congrArg Prod.fst hk_t0) rfl (ok_fX2_readCondition (d := d + 3 * 12) (fun j => ok_fX2_readUnit (d := d) 12 j) hk_t0 hr13) ?_
            show Ev XL xs _ 20 (ev_M r13.2 c w) 60 [(0, .ref t0), (1, .ref 1)] [.int r13.1] _
            refine ev_i 1 (M1 := ev_M r13.2 c w) (pc1 := 75) (lv1 := [(0, .ref t0), (1, .ref 1)]) (st1 := []) (M2 := ev_M r13.2 c w) (pc2 := 63) (lv2 := [(0, .ref t0), (1, .ref 1)]) (st2 := []) (fun n => rfl) h (fun hc14 h => ?_) (fun hc14 h => ?_)
            · refine ev_sub (lv := []) (mn_of rfl (by repeat (first | exact trivial | refine And.intro rfl ?_))) ?_
              exact ok_fX2_readClause_c75 h
            · refine ev_s 2 (M' := ev_M r13.2 c w) (pc' := 65) (lv' := [(0, .ref t0), (1, .ref 1)]) (st' := [.ref 1, .ref t0]) (fun n => rfl) ?_
              obtain ⟨r15, hr15, h⟩ := Option.bind_eq_some_iff.mp h
              refine ev_cv (rest := []) rfl rfl (congrArg Prod.fst hk_t0) rfl (ok_fX2_readGated hk_t0 hr15) ?_
              show Ev XL xs _ 20 (ev_M r15.2 c w) 68 [(0, .ref t0), (1, .ref 1)] [.int r15.1] _
              refine ev_i 1 (M1 := ev_M r15.2 c w) (pc1 := 75) (lv1 := [(0, .ref t0), (1, .ref 1)]) (st1 := []) (M2 := ev_M r15.2 c w) (pc2 := 71) (lv2 := [(0, .ref t0), (1, .ref 1)]) (st2 := []) (fun n => rfl) h (fun hc16 h => ?_) (fun hc16 h => ?_)
              · refine ev_sub (lv := []) (mn_of rfl (by repeat (first | exact trivial | refine And.intro rfl ?_))) ?_
                exact ok_fX2_readClause_c75 h
              · refine ev_s 2 (M' := ev_M r15.2 c w) (pc' := 76) (lv' := [(0, .ref t0), (1, .ref 1)]) (st' := [.int 1]) (fun n => rfl) ?_
                refine ev_sub (lv := []) (mn_of rfl (by repeat (first | exact trivial | refine And.intro rfl ?_))) ?_
                exact ok_fX2_readClause_c76 h
      · refine ev_s 4 (M' := ev_M r6.2 c w) (pc' := 81) (lv' := [(0, .ref t0), (1, .ref 1)]) (st' := [.int 0, .int 0, .ref 1, .ref t0]) (fun n => rfl) ?_
        obtain ⟨r17, hr17, h⟩ := Option.bind_eq_some_iff.mp h
        refine ev_cv (rest := []) rfl rfl (congrArg Prod.fst hk_t0) rfl (ok_fX2_readCondition (d := d + 3 * 12) (fun j => ok_fX2_readUnit (d := d) 12 j) hk_t0 hr17) ?_
        show Ev XL xs _ 20 (ev_M r17.2 c w) 84 [(0, .ref t0), (1, .ref 1)] [.int r17.1] _
        refine ev_i 1 (M1 := ev_M r17.2 c w) (pc1 := 99) (lv1 := [(0, .ref t0), (1, .ref 1)]) (st1 := []) (M2 := ev_M r17.2 c w) (pc2 := 87) (lv2 := [(0, .ref t0), (1, .ref 1)]) (st2 := []) (fun n => rfl) h (fun hc18 h => ?_) (fun hc18 h => ?_)
        · refine ev_sub (lv := []) (mn_of rfl (by repeat (first | exact trivial | refine And.intro rfl ?_))) ?_
          exact ok_fX2_readClause_c99 h
        · refine ev_s 2 (M' := ev_M r17.2 c w) (pc' := 89) (lv' := [(0, .ref t0), (1, .ref 1)]) (st' := [.ref 1, .ref t0]) (fun n => rfl) ?_
          obtain ⟨r19, hr19, h⟩ := Option.bind_eq_some_iff.mp h
          refine ev_cv (rest := []) rfl rfl (congrArg Prod.fst hk_t0) rfl (ok_fX2_readGated hk_t0 hr19) ?_
          show Ev XL xs _ 20 (ev_M r19.2 c w) 92 [(0, .ref t0), (1, .ref 1)] [.int r19.1] _
          refine ev_i 1 (M1 := ev_M r19.2 c w) (pc1 := 99) (lv1 := [(0, .ref t0), (1, .ref 1)]) (st1 := []) (M2 := ev_M r19.2 c w) (pc2 := 95) (lv2 := [(0, .ref t0), (1, .ref 1)]) (st2 := []) (fun n => rfl) h (fun hc20 h => ?_) (fun hc20 h => ?_)
          · refine ev_sub (lv := []) (mn_of rfl (by repeat (first | exact trivial | refine And.intro rfl ?_))) ?_
            exact ok_fX2_readClause_c99 h
          · refine ev_s 2 (M' := ev_M r19.2 c w) (pc' := 100) (lv' := [(0, .ref t0), (1, .ref 1)]) (st' := [.int 1]) (fun n => rfl) ?_
            refine ev_sub (lv := []) (mn_of rfl (by repeat (first | exact trivial | refine And.intro rfl ?_))) ?_
            exact ok_fX2_readClause_c100 h
def fX2_read_c11 : Nat → mm_MM → Nat → Int32 → Option (Int32 × mm_MM)
  | 0 => fun _ _ _ => none
  | n + 1 => fun m t0 x2 =>
    (if x2 < 240 then
      (fX2_readClause m t0).bind fun r2 =>
       (if r2.1 = 0 then
         (fX8_head r2.2).bind fun r4 =>
          some (r4.1, r4.2)
        else
         (fX2_emit r2.2 t0 ((-59) : Int32)).bind fun r5 =>
          (fX8_sign r5).bind fun r6 =>
           (if r6.1 = ((-1) : Int32) then
             some (((-1) : Int32), r6.2)
            else
             (fX8_took r6.2 59).bind fun r8 =>
              (if r8.1 = 0 then
                (fX8_head r8.2).bind fun r10 =>
                 some (r10.1, r10.2)
               else
                fX2_read_c11 n r8.2 t0 (x2 + 1))))
     else
      (fX8_size m).bind fun r11 =>
       some (r11.1, r11.2))
theorem ok_fX2_read_c11 : ∀ (n : Nat) (m : mm_MM) (t0 : Nat) (x2 : Int32) (q0 : Int32 × mm_MM) (hk_t0 : mm_kd t0 = (2, 4)), fX2_read_c11 n m t0 x2 = some q0 → Ev XL xs (d + 82) 18 (ev_M m c w) 11 [(0, .ref t0), (1, .ref 1), (2, .int x2)] [] (fr_i c w q0) := by
  intro n
  induction n with
  | zero => intro m t0 x2 q0 hk_t0 h; exact absurd (show (none : Option (Int32 × mm_MM)) = some q0 from h) (by simp)
  | succ n ih =>
    intro m t0 x2 q0 hk_t0 h
    unfold fX2_read_c11 at h
    refine ev_i 3 (M1 := ev_M m c w) (pc1 := 18) (lv1 := [(0, .ref t0), (1, .ref 1), (2, .int x2)]) (st1 := []) (M2 := ev_M m c w) (pc2 := 67) (lv2 := [(0, .ref t0), (1, .ref 1), (2, .int x2)]) (st2 := []) (fun n => rfl) h (fun hc1 h => ?_) (fun hc1 h => ?_)
    · refine ev_s 2 (M' := ev_M m c w) (pc' := 20) (lv' := [(0, .ref t0), (1, .ref 1), (2, .int x2)]) (st' := [.ref 1, .ref t0]) (fun n => rfl) ?_
      obtain ⟨r2, hr2, h⟩ := Option.bind_eq_some_iff.mp h
      refine ev_cv (rest := []) rfl rfl (congrArg Prod.fst hk_t0) rfl (ok_fX2_readClause hk_t0 hr2) ?_
      show Ev XL xs _ 18 (ev_M r2.2 c w) 23 [(0, .ref t0), (1, .ref 1), (2, .int x2)] [.int r2.1] _
      refine ev_i 1 (M1 := ev_M r2.2 c w) (pc1 := 26) (lv1 := [(0, .ref t0), (1, .ref 1), (2, .int x2)]) (st1 := []) (M2 := ev_M r2.2 c w) (pc2 := 31) (lv2 := [(0, .ref t0), (1, .ref 1), (2, .int x2)]) (st2 := []) (fun n => rfl) h (fun hc3 h => ?_) (fun hc3 h => ?_)
      · obtain ⟨r4, hr4, h⟩ := Option.bind_eq_some_iff.mp h
        refine ev_c 2 (y' := 82) (M1 := ev_M r2.2 c w) (la := lv_args 0 [.ref 1]) (rest := []) (pc' := 30) (lv' := [(0, .ref t0), (1, .ref 1), (2, .int x2)]) (fun n => rfl) (ok_fX8_head hr4) ?_
        show Ev XL xs _ 18 (ev_M r4.2 c w) 30 [(0, .ref t0), (1, .ref 1), (2, .int x2)] [.int r4.1] _
        cases h
        exact ev_r 1 (fun n => rfl)
      · refine ev_s 2 (M' := ev_M r2.2 c w) (pc' := 34) (lv' := [(0, .ref t0), (1, .ref 1), (2, .int x2)]) (st' := [.int ((-59) : Int32), .ref t0]) (fun n => rfl) ?_
        obtain ⟨r5, hr5, h⟩ := Option.bind_eq_some_iff.mp h
        refine ev_cv (rest := []) rfl rfl (congrArg Prod.fst hk_t0) rfl (ok_fX2_emit hk_t0 hr5) ?_
        show Ev XL xs _ 18 (ev_M r5 c w) 37 [(0, .ref t0), (1, .ref 1), (2, .int x2)] [] _
        obtain ⟨r6, hr6, h⟩ := Option.bind_eq_some_iff.mp h
        refine ev_c 2 (y' := 83) (M1 := ev_M r5 c w) (la := lv_args 0 [.ref 1]) (rest := []) (pc' := 41) (lv' := [(0, .ref t0), (1, .ref 1), (2, .int x2)]) (fun n => rfl) (ok_fX8_sign hr6) ?_
        show Ev XL xs _ 18 (ev_M r6.2 c w) 41 [(0, .ref t0), (1, .ref 1), (2, .int x2)] [.int r6.1] _
        refine ev_i 2 (M1 := ev_M r6.2 c w) (pc1 := 45) (lv1 := [(0, .ref t0), (1, .ref 1), (2, .int x2)]) (st1 := []) (M2 := ev_M r6.2 c w) (pc2 := 47) (lv2 := [(0, .ref t0), (1, .ref 1), (2, .int x2)]) (st2 := []) (fun n => rfl) h (fun hc7 h => ?_) (fun hc7 h => ?_)
        · cases h
          exact ev_r 2 (fun n => rfl)
        · obtain ⟨r8, hr8, h⟩ := Option.bind_eq_some_iff.mp h
          refine ev_c 3 (y' := 86) (M1 := ev_M r6.2 c w) (la := lv_args 0 [.ref 1, .int 59]) (rest := []) (pc' := 53) (lv' := [(0, .ref t0), (1, .ref 1), (2, .int x2)]) (fun n => rfl) (ok_fX8_took hr8) ?_
          show Ev XL xs _ 18 (ev_M r8.2 c w) 53 [(0, .ref t0), (1, .ref 1), (2, .int x2)] [.int r8.1] _
          refine ev_i 1 (M1 := ev_M r8.2 c w) (pc1 := 56) (lv1 := [(0, .ref t0), (1, .ref 1), (2, .int x2)]) (st1 := []) (M2 := ev_M r8.2 c w) (pc2 := 61) (lv2 := [(0, .ref t0), (1, .ref 1), (2, .int x2)]) (st2 := []) (fun n => rfl) h (fun hc9 h => ?_) (fun hc9 h => ?_)
          · obtain ⟨r10, hr10, h⟩ := Option.bind_eq_some_iff.mp h
            refine ev_c 2 (y' := 82) (M1 := ev_M r8.2 c w) (la := lv_args 0 [.ref 1]) (rest := []) (pc' := 60) (lv' := [(0, .ref t0), (1, .ref 1), (2, .int x2)]) (fun n => rfl) (ok_fX8_head hr10) ?_
            show Ev XL xs _ 18 (ev_M r10.2 c w) 60 [(0, .ref t0), (1, .ref 1), (2, .int x2)] [.int r10.1] _
            cases h
            exact ev_r 1 (fun n => rfl)
          · refine ev_s 2 (M' := ev_M r8.2 c w) (pc' := 11) (lv' := [(2, .int (x2 + 1)), (0, .ref t0), (1, .ref 1)]) (st' := []) (fun n => rfl) ?_
            refine ev_sub (lv := [(0, .ref t0), (1, .ref 1), (2, .int (x2 + 1))]) (mn_of rfl (by repeat (first | exact trivial | refine And.intro rfl ?_))) ?_
            exact ih _ _ _ _ hk_t0 h
    · obtain ⟨r11, hr11, h⟩ := Option.bind_eq_some_iff.mp h
      refine ev_c 2 (y' := 79) (M1 := ev_M m c w) (la := lv_args 0 [.ref 1]) (rest := []) (pc' := 71) (lv' := [(0, .ref t0), (1, .ref 1), (2, .int x2)]) (fun n => rfl) (ok_fX8_size hr11) ?_
      show Ev XL xs _ 18 (ev_M r11.2 c w) 71 [(0, .ref t0), (1, .ref 1), (2, .int x2)] [.int r11.1] _
      cases h
      exact ev_r 1 (fun n => rfl)
def fX2_read (m : mm_MM) (t0 : Nat) : Option (Int32 × mm_MM) :=
  (fX8_rewind (wI m t0 2 0)).bind fun r1 =>
   fX2_read_c11 fu r1 t0 0
theorem ok_fX2_read {m : mm_MM} {t0 : Nat} {q0 : Int32 × mm_MM} (hk_t0 : mm_kd t0 = (2, 4)) (h : fX2_read m t0 = some q0) : Ev XL xs (d + 82) 18 (ev_M m c w) 0 (lv_args 0 [.ref t0, .ref 1]) [] (fr_i c w q0) := by
  unfold fX2_read at h
  refine ev_s 2 (M' := ev_M m c w) (pc' := 2) (lv' := [(0, .ref t0), (1, .ref 1)]) (st' := [.int 0, .ref t0]) (fun n => rfl) ?_
  refine ev_pfi rfl (congrArg Prod.fst hk_t0) rfl rfl rfl ?_
  obtain ⟨r1, hr1, h⟩ := Option.bind_eq_some_iff.mp h
  refine ev_c 2 (y' := 81) (M1 := ev_M (wI m t0 2 0) c w) (la := lv_args 0 [.ref 1]) (rest := []) (pc' := 9) (lv' := [(0, .ref t0), (1, .ref 1)]) (fun n => rfl) (ok_fX8_rewind hr1) ?_
  show Ev XL xs _ 18 (ev_M r1 c w) 9 [(0, .ref t0), (1, .ref 1)] [] _
  refine ev_s 2 (M' := ev_M r1 c w) (pc' := 11) (lv' := [(2, .int 0), (0, .ref t0), (1, .ref 1)]) (st' := []) (fun n => rfl) ?_
  refine ev_sub (lv := [(0, .ref t0), (1, .ref 1), (2, .int 0)]) (mn_of rfl (by repeat (first | exact trivial | refine And.intro rfl ?_))) ?_
  exact ok_fX2_read_c11 fu _ _ _ _ hk_t0 h
def fX10_fault_c37 (m : mm_MM) (s0 : Int32) : Option (Int32 × mm_MM) :=
  some (s0, m)
theorem ok_fX10_fault_c37 {m : mm_MM} {s0 : Int32} {q0 : Int32 × mm_MM} (h : fX10_fault_c37 m s0 = some q0) : Ev XL xs (d + 83) 95 (ev_M m c w) 37 [] [.int s0] (fr_i c w q0) := by
  unfold fX10_fault_c37 at h
  cases h
  exact ev_r 1 (fun n => rfl)
def fX10_fault (m : mm_MM) (x1 : Int32) : Option (Int32 × mm_MM) :=
  (if x1 = 0 then
    (fX1_read m 3).bind fun r2 =>
     some (r2.1, r2.2)
   else
    (if x1 = 1 then
      (fX2_read m 25).bind fun r4 =>
       fX10_fault_c37 r4.2 r4.1
     else
      fX10_fault_c37 m ((-2) : Int32)))
theorem ok_fX10_fault {m : mm_MM} {x1 : Int32} {q0 : Int32 × mm_MM} (h : fX10_fault m x1 = some q0) : Ev XL xs (d + 83) 95 (ev_M m c w) 0 (lv_args 0 [.ref 0, .int x1]) [] (fr_i c w q0) := by
  unfold fX10_fault at h
  refine ev_i 2 (M1 := ev_M m c w) (pc1 := 4) (lv1 := [(0, .ref 0), (1, .int x1)]) (st1 := []) (M2 := ev_M m c w) (pc2 := 16) (lv2 := [(0, .ref 0), (1, .int x1)]) (st2 := []) (fun n => rfl) h (fun hc1 h => ?_) (fun hc1 h => ?_)
  · obtain ⟨r2, hr2, h⟩ := Option.bind_eq_some_iff.mp h
    refine ev_c 5 (y' := 9) (M1 := ev_M m c w) (la := lv_args 0 [.ref 3, .ref 1]) (rest := []) (pc' := 15) (lv' := [(0, .ref 0), (1, .int x1)]) (fun n => rfl) (ok_fX1_read (rfl : mm_kd 3 = (1, 10)) hr2) ?_
    show Ev XL xs _ 95 (ev_M r2.2 c w) 15 [(0, .ref 0), (1, .int x1)] [.int r2.1] _
    cases h
    exact ev_r 1 (fun n => rfl)
  · refine ev_i 3 (M1 := ev_M m c w) (pc1 := 21) (lv1 := [(0, .ref 0), (1, .int x1)]) (st1 := []) (M2 := ev_M m c w) (pc2 := 35) (lv2 := [(0, .ref 0), (1, .int x1)]) (st2 := []) (fun n => rfl) h (fun hc3 h => ?_) (fun hc3 h => ?_)
    · obtain ⟨r4, hr4, h⟩ := Option.bind_eq_some_iff.mp h
      refine ev_c 5 (y' := 18) (M1 := ev_M m c w) (la := lv_args 0 [.ref 25, .ref 1]) (rest := []) (pc' := 32) (lv' := [(0, .ref 0), (1, .int x1)]) (fun n => rfl) (ok_fX2_read (rfl : mm_kd 25 = (2, 4)) hr4) ?_
      show Ev XL xs _ 95 (ev_M r4.2 c w) 32 [(0, .ref 0), (1, .int x1)] [.int r4.1] _
      refine ev_s 1 (M' := ev_M r4.2 c w) (pc' := 37) (lv' := [(0, .ref 0), (1, .int x1)]) (st' := [.int r4.1]) (fun n => rfl) ?_
      refine ev_sub (lv := []) (mn_of rfl (by repeat (first | exact trivial | refine And.intro rfl ?_))) ?_
      exact ok_fX10_fault_c37 h
    · refine ev_s 1 (M' := ev_M m c w) (pc' := 37) (lv' := [(0, .ref 0), (1, .int x1)]) (st' := [.int ((-2) : Int32)]) (fun n => rfl) ?_
      refine ev_sub (lv := []) (mn_of rfl (by repeat (first | exact trivial | refine And.intro rfl ?_))) ?_
      exact ok_fX10_fault_c37 h
def fX10_text_c80 (m : mm_MM) : Option (Int32 × mm_MM) :=
  some (((-1) : Int32), m)
theorem ok_fX10_text_c80 {m : mm_MM} {q0 : Int32 × mm_MM} (h : fX10_text_c80 m = some q0) : Ev XL xs (d + 83) 96 (ev_M m c w) 80 [] [] (fr_i c w q0) := by
  unfold fX10_text_c80 at h
  cases h
  exact ev_r 2 (fun n => rfl)
def fX10_text_c39 (m : mm_MM) (x1 : Int32) : Option (Int32 × mm_MM) :=
  (if x1 = 1 then
    (if m.1 0 16 < 4 then
      (fX2_read m 25).bind fun r3 =>
       (if r3.1 = ((-1) : Int32) then
         (fX8_cut r3.2 0).bind fun r5 =>
          (fX10_keepLaw r5).bind fun r6 =>
           some (r6.1, r6.2)
        else
         fX10_text_c80 r3.2)
     else
      fX10_text_c80 m)
   else
    fX10_text_c80 m)
theorem ok_fX10_text_c39 {m : mm_MM} {x1 : Int32} {q0 : Int32 × mm_MM} (h : fX10_text_c39 m x1 = some q0) : Ev XL xs (d + 83) 96 (ev_M m c w) 39 [(0, .ref 0), (1, .int x1)] [] (fr_i c w q0) := by
  unfold fX10_text_c39 at h
  refine ev_i 3 (M1 := ev_M m c w) (pc1 := 44) (lv1 := [(0, .ref 0), (1, .int x1)]) (st1 := []) (M2 := ev_M m c w) (pc2 := 80) (lv2 := [(0, .ref 0), (1, .int x1)]) (st2 := []) (fun n => rfl) h (fun hc1 h => ?_) (fun hc1 h => ?_)
  · refine ev_i 4 (M1 := ev_M m c w) (pc1 := 52) (lv1 := [(0, .ref 0), (1, .int x1)]) (st1 := []) (M2 := ev_M m c w) (pc2 := 80) (lv2 := [(0, .ref 0), (1, .int x1)]) (st2 := []) (fun n => rfl) h (fun hc2 h => ?_) (fun hc2 h => ?_)
    · obtain ⟨r3, hr3, h⟩ := Option.bind_eq_some_iff.mp h
      refine ev_c 5 (y' := 18) (M1 := ev_M m c w) (la := lv_args 0 [.ref 25, .ref 1]) (rest := []) (pc' := 63) (lv' := [(0, .ref 0), (1, .int x1)]) (fun n => rfl) (ok_fX2_read (rfl : mm_kd 25 = (2, 4)) hr3) ?_
      show Ev XL xs _ 96 (ev_M r3.2 c w) 63 [(0, .ref 0), (1, .int x1)] [.int r3.1] _
      refine ev_i 2 (M1 := ev_M r3.2 c w) (pc1 := 67) (lv1 := [(0, .ref 0), (1, .int x1)]) (st1 := []) (M2 := ev_M r3.2 c w) (pc2 := 80) (lv2 := [(0, .ref 0), (1, .int x1)]) (st2 := []) (fun n => rfl) h (fun hc4 h => ?_) (fun hc4 h => ?_)
      · obtain ⟨r5, hr5, h⟩ := Option.bind_eq_some_iff.mp h
        refine ev_c 4 (y' := 80) (M1 := ev_M r3.2 c w) (la := lv_args 0 [.ref 1, .int 0]) (rest := []) (pc' := 75) (lv' := [(0, .ref 0), (1, .int x1)]) (fun n => rfl) (ok_fX8_cut hr5) ?_
        show Ev XL xs _ 96 (ev_M r5 c w) 75 [(0, .ref 0), (1, .int x1)] [] _
        obtain ⟨r6, hr6, h⟩ := Option.bind_eq_some_iff.mp h
        refine ev_c 2 (y' := 98) (M1 := ev_M r5 c w) (la := lv_args 0 [.ref 0]) (rest := []) (pc' := 79) (lv' := [(0, .ref 0), (1, .int x1)]) (fun n => rfl) (ok_fX10_keepLaw hr6) ?_
        show Ev XL xs _ 96 (ev_M r6.2 c w) 79 [(0, .ref 0), (1, .int x1)] [.int r6.1] _
        cases h
        exact ev_r 1 (fun n => rfl)
      · refine ev_sub (lv := []) (mn_of rfl (by repeat (first | exact trivial | refine And.intro rfl ?_))) ?_
        exact ok_fX10_text_c80 h
    · refine ev_sub (lv := []) (mn_of rfl (by repeat (first | exact trivial | refine And.intro rfl ?_))) ?_
      exact ok_fX10_text_c80 h
  · refine ev_sub (lv := []) (mn_of rfl (by repeat (first | exact trivial | refine And.intro rfl ?_))) ?_
    exact ok_fX10_text_c80 h
def fX10_text (m : mm_MM) (x1 : Int32) : Option (Int32 × mm_MM) :=
  (if x1 = 0 then
    (fX1_read m 3).bind fun r2 =>
     (if r2.1 = ((-1) : Int32) then
       (fX8_cut r2.2 0).bind fun r4 =>
        (fX10_beginField r4).bind fun r5 =>
         some (r5.1 14 9, r5)
      else
       fX10_text_c39 r2.2 x1)
   else
    fX10_text_c39 m x1)
theorem ok_fX10_text {m : mm_MM} {x1 : Int32} {q0 : Int32 × mm_MM} (h : fX10_text m x1 = some q0) : Ev XL xs (d + 83) 96 (ev_M m c w) 0 (lv_args 0 [.ref 0, .int x1]) [] (fr_i c w q0) := by
  unfold fX10_text at h
  refine ev_i 2 (M1 := ev_M m c w) (pc1 := 4) (lv1 := [(0, .ref 0), (1, .int x1)]) (st1 := []) (M2 := ev_M m c w) (pc2 := 39) (lv2 := [(0, .ref 0), (1, .int x1)]) (st2 := []) (fun n => rfl) h (fun hc1 h => ?_) (fun hc1 h => ?_)
  · obtain ⟨r2, hr2, h⟩ := Option.bind_eq_some_iff.mp h
    refine ev_c 5 (y' := 9) (M1 := ev_M m c w) (la := lv_args 0 [.ref 3, .ref 1]) (rest := []) (pc' := 15) (lv' := [(0, .ref 0), (1, .int x1)]) (fun n => rfl) (ok_fX1_read (rfl : mm_kd 3 = (1, 10)) hr2) ?_
    show Ev XL xs _ 96 (ev_M r2.2 c w) 15 [(0, .ref 0), (1, .int x1)] [.int r2.1] _
    refine ev_i 2 (M1 := ev_M r2.2 c w) (pc1 := 19) (lv1 := [(0, .ref 0), (1, .int x1)]) (st1 := []) (M2 := ev_M r2.2 c w) (pc2 := 39) (lv2 := [(0, .ref 0), (1, .int x1)]) (st2 := []) (fun n => rfl) h (fun hc3 h => ?_) (fun hc3 h => ?_)
    · obtain ⟨r4, hr4, h⟩ := Option.bind_eq_some_iff.mp h
      refine ev_c 4 (y' := 80) (M1 := ev_M r2.2 c w) (la := lv_args 0 [.ref 1, .int 0]) (rest := []) (pc' := 27) (lv' := [(0, .ref 0), (1, .int x1)]) (fun n => rfl) (ok_fX8_cut hr4) ?_
      show Ev XL xs _ 96 (ev_M r4 c w) 27 [(0, .ref 0), (1, .int x1)] [] _
      obtain ⟨r5, hr5, h⟩ := Option.bind_eq_some_iff.mp h
      refine ev_c 2 (y' := 97) (M1 := ev_M r4 c w) (la := lv_args 0 [.ref 0]) (rest := []) (pc' := 31) (lv' := [(0, .ref 0), (1, .int x1)]) (fun n => rfl) (ok_fX10_beginField hr5) ?_
      show Ev XL xs _ 96 (ev_M r5 c w) 31 [(0, .ref 0), (1, .int x1)] [] _
      cases h
      exact ev_r 4 (fun n => rfl)
    · exact ok_fX10_text_c39 h
  · exact ok_fX10_text_c39 h
def fX11_atom_c89 (kB : mm_MM → Option (mm_MM)) (m : mm_MM) : Option (mm_MM) :=
  some m
theorem ok_fX11_atom_c89 {kB : mm_MM → Option (mm_MM)} (hkB : ∀ (j : Nat) (m : mm_MM) (q0 : mm_MM), kB m = some q0 → Ev XL xs (d + 3 + j) 196 (ev_M m c w) 0 (lv_args 0 [.ref 606]) [] (fr_v c w q0)) {m : mm_MM} {q0 : mm_MM} (h : fX11_atom_c89 kB m = some q0) : Ev XL xs (d + 4) 194 (ev_M m c w) 89 [] [] (fr_v c w q0) := by
  unfold fX11_atom_c89 at h
  cases h
  exact ev_r 1 (fun n => rfl)
def fX11_atom (kB : mm_MM → Option (mm_MM)) (m : mm_MM) : Option (mm_MM) :=
  (fX11_look m).bind fun r1 =>
   (fX11_isDigit r1.2 r1.1).bind fun r2 =>
    (if r2.1 = 0 then
      (fX11_letterOf r2.2 r1.1).bind fun r4 =>
       (if r4.1 = ((-1) : Int32) then
         (if r1.1 = 91 then
           (fX11_opens r4.2).bind fun r7 =>
            (if r7.1 606 4 = ((-1) : Int32) then
              (kB r7).bind fun r9 =>
               (fX11_closes r9 93).bind fun r10 =>
                fX11_atom_c89 kB r10
             else
              fX11_atom_c89 kB r7)
          else
           (fX11_bad r4.2).bind fun r11 =>
            fX11_atom_c89 kB r11)
        else
         (fX11_letterOf (wI r4.2 606 3 (r4.2.1 606 3 + 1)) r1.1).bind fun r12 =>
          (fX11_put r12.2 1 r12.1).bind fun r13 =>
           fX11_atom_c89 kB r13)
     else
      (fX11_plainNumber r2.2).bind fun r14 =>
       (fX11_put r14.2 0 r14.1).bind fun r15 =>
        fX11_atom_c89 kB r15)
theorem ok_fX11_atom {kB : mm_MM → Option (mm_MM)} (hkB : ∀ (j : Nat) (m : mm_MM) (q0 : mm_MM), kB m = some q0 → Ev XL xs (d + 3 + j) 196 (ev_M m c w) 0 (lv_args 0 [.ref 606]) [] (fr_v c w q0)) {m : mm_MM} {q0 : mm_MM} (h : fX11_atom kB m = some q0) : Ev XL xs (d + 4) 194 (ev_M m c w) 0 (lv_args 0 [.ref 606]) [] (fr_v c w q0) := by
  unfold fX11_atom at h
  obtain ⟨r1, hr1, h⟩ := Option.bind_eq_some_iff.mp h
  refine ev_c 2 (y' := 186) (M1 := ev_M m c w) (la := lv_args 0 [.ref 606]) (rest := []) (pc' := 4) (lv' := [(0, .ref 606)]) (fun n => rfl) (ok_fX11_look hr1) ?_
  show Ev XL xs _ 194 (ev_M r1.2 c w) 4 [(0, .ref 606)] [.int r1.1] _
  obtain ⟨r2, hr2, h⟩ := Option.bind_eq_some_iff.mp h
  refine ev_c 3 (y' := 188) (M1 := ev_M r1.2 c w) (la := lv_args 0 [.int r1.1]) (rest := []) (pc' := 9) (lv' := [(1, .int r1.1), (0, .ref 606)]) (fun n => rfl) (ok_fX11_isDigit hr2) ?_
  show Ev XL xs _ 194 (ev_M r2.2 c w) 9 [(1, .int r1.1), (0, .ref 606)] [.int r2.1] _
  refine ev_i 1 (M1 := ev_M r2.2 c w) (pc1 := 24) (lv1 := [(1, .int r1.1), (0, .ref 606)]) (st1 := []) (M2 := ev_M r2.2 c w) (pc2 := 12) (lv2 := [(1, .int r1.1), (0, .ref 606)]) (st2 := []) (fun n => rfl) h (fun hc3 h => ?_) (fun hc3 h => ?_)
  · obtain ⟨r4, hr4, h⟩ := Option.bind_eq_some_iff.mp h
    refine ev_c 2 (y' := 190) (M1 := ev_M r2.2 c w) (la := lv_args 0 [.int r1.1]) (rest := []) (pc' := 28) (lv' := [(1, .int r1.1), (0, .ref 606)]) (fun n => rfl) (ok_fX11_letterOf hr4) ?_
    show Ev XL xs _ 194 (ev_M r4.2 c w) 28 [(1, .int r1.1), (0, .ref 606)] [.int r4.1] _
    refine ev_i 2 (M1 := ev_M r4.2 c w) (pc1 := 54) (lv1 := [(1, .int r1.1), (0, .ref 606)]) (st1 := []) (M2 := ev_M r4.2 c w) (pc2 := 32) (lv2 := [(1, .int r1.1), (0, .ref 606)]) (st2 := []) (fun n => rfl) h (fun hc5 h => ?_) (fun hc5 h => ?_)
    · refine ev_i 3 (M1 := ev_M r4.2 c w) (pc1 := 60) (lv1 := [(1, .int r1.1), (0, .ref 606)]) (st1 := []) (M2 := ev_M r4.2 c w) (pc2 := 85) (lv2 := [(1, .int r1.1), (0, .ref 606)]) (st2 := []) (fun n => rfl) h (fun hc6 h => ?_) (fun hc6 h => ?_)
      · obtain ⟨r7, hr7, h⟩ := Option.bind_eq_some_iff.mp h
        refine ev_c 2 (y' := 191) (M1 := ev_M r4.2 c w) (la := lv_args 0 [.ref 606]) (rest := []) (pc' := 64) (lv' := [(1, .int r1.1), (0, .ref 606)]) (fun n => rfl) (ok_fX11_opens hr7) ?_
        show Ev XL xs _ 194 (ev_M r7 c w) 64 [(1, .int r1.1), (0, .ref 606)] [] _
        refine ev_i 4 (M1 := ev_M r7 c w) (pc1 := 72) (lv1 := [(1, .int r1.1), (0, .ref 606)]) (st1 := []) (M2 := ev_M r7 c w) (pc2 := 89) (lv2 := [(1, .int r1.1), (0, .ref 606)]) (st2 := []) (fun n => rfl) h (fun hc8 h => ?_) (fun hc8 h => ?_)
        · obtain ⟨r9, hr9, h⟩ := Option.bind_eq_some_iff.mp h
          refine ev_c 2 (y' := 196) (M1 := ev_M r7 c w) (la := lv_args 0 [.ref 606]) (rest := []) (pc' := 76) (lv' := [(1, .int r1.1), (0, .ref 606)]) (fun n => rfl) (hkB 0 _ _ hr9) ?_
          show Ev XL xs _ 194 (ev_M r9 c w) 76 [(1, .int r1.1), (0, .ref 606)] [] _
          obtain ⟨r10, hr10, h⟩ := Option.bind_eq_some_iff.mp h
          refine ev_c 3 (y' := 192) (M1 := ev_M r9 c w) (la := lv_args 0 [.ref 606, .int 93]) (rest := []) (pc' := 82) (lv' := [(1, .int r1.1), (0, .ref 606)]) (fun n => rfl) (ok_fX11_closes hr10) ?_
          show Ev XL xs _ 194 (ev_M r10 c w) 82 [(1, .int r1.1), (0, .ref 606)] [] _
          refine ev_s 1 (M' := ev_M r10 c w) (pc' := 89) (lv' := [(1, .int r1.1), (0, .ref 606)]) (st' := []) (fun n => rfl) ?_
          refine ev_sub (lv := []) (mn_of rfl (by repeat (first | exact trivial | refine And.intro rfl ?_))) ?_
          exact ok_fX11_atom_c89 hkB h
        · refine ev_sub (lv := []) (mn_of rfl (by repeat (first | exact trivial | refine And.intro rfl ?_))) ?_
          exact ok_fX11_atom_c89 hkB h
      · obtain ⟨r11, hr11, h⟩ := Option.bind_eq_some_iff.mp h
        refine ev_c 2 (y' := 187) (M1 := ev_M r4.2 c w) (la := lv_args 0 [.ref 606]) (rest := []) (pc' := 89) (lv' := [(1, .int r1.1), (0, .ref 606)]) (fun n => rfl) (ok_fX11_bad hr11) ?_
        show Ev XL xs _ 194 (ev_M r11 c w) 89 [(1, .int r1.1), (0, .ref 606)] [] _
        refine ev_sub (lv := []) (mn_of rfl (by repeat (first | exact trivial | refine And.intro rfl ?_))) ?_
        exact ok_fX11_atom_c89 hkB h
    · obtain ⟨r12, hr12, h⟩ := Option.bind_eq_some_iff.mp h
      refine ev_c 10 (y' := 190) (M1 := ev_M (wI r4.2 606 3 (r4.2.1 606 3 + 1)) c w) (la := lv_args 0 [.int r1.1]) (rest := [.int 1, .ref 606]) (pc' := 48) (lv' := [(1, .int r1.1), (0, .ref 606)]) (fun n => rfl) (ok_fX11_letterOf hr12) ?_
      show Ev XL xs _ 194 (ev_M r12.2 c w) 48 [(1, .int r1.1), (0, .ref 606)] [.int r12.1, .int 1, .ref 606] _
      obtain ⟨r13, hr13, h⟩ := Option.bind_eq_some_iff.mp h
      refine ev_c 1 (y' := 189) (M1 := ev_M r12.2 c w) (la := lv_args 0 [.ref 606, .int 1, .int r12.1]) (rest := []) (pc' := 51) (lv' := [(1, .int r1.1), (0, .ref 606)]) (fun n => rfl) (ok_fX11_put hr13) ?_
      show Ev XL xs _ 194 (ev_M r13 c w) 51 [(1, .int r1.1), (0, .ref 606)] [] _
      refine ev_s 1 (M' := ev_M r13 c w) (pc' := 89) (lv' := [(1, .int r1.1), (0, .ref 606)]) (st' := []) (fun n => rfl) ?_
      refine ev_sub (lv := []) (mn_of rfl (by repeat (first | exact trivial | refine And.intro rfl ?_))) ?_
      exact ok_fX11_atom_c89 hkB h
  · obtain ⟨r14, hr14, h⟩ := Option.bind_eq_some_iff.mp h
    refine ev_c 4 (y' := 193) (M1 := ev_M r2.2 c w) (la := lv_args 0 [.ref 606]) (rest := [.int 0, .ref 606]) (pc' := 18) (lv' := [(1, .int r1.1), (0, .ref 606)]) (fun n => rfl) (ok_fX11_plainNumber hr14) ?_
    show Ev XL xs _ 194 (ev_M r14.2 c w) 18 [(1, .int r1.1), (0, .ref 606)] [.int r14.1, .int 0, .ref 606] _
    obtain ⟨r15, hr15, h⟩ := Option.bind_eq_some_iff.mp h
    refine ev_c 1 (y' := 189) (M1 := ev_M r14.2 c w) (la := lv_args 0 [.ref 606, .int 0, .int r14.1]) (rest := []) (pc' := 21) (lv' := [(1, .int r1.1), (0, .ref 606)]) (fun n => rfl) (ok_fX11_put hr15) ?_
    show Ev XL xs _ 194 (ev_M r15 c w) 21 [(1, .int r1.1), (0, .ref 606)] [] _
    refine ev_s 1 (M' := ev_M r15 c w) (pc' := 89) (lv' := [(1, .int r1.1), (0, .ref 606)]) (st' := []) (fun n => rfl) ?_
    refine ev_sub (lv := []) (mn_of rfl (by repeat (first | exact trivial | refine And.intro rfl ?_))) ?_
    exact ok_fX11_atom_c89 hkB h
def fX11_term_c79 (kB : mm_MM → Option (mm_MM)) (kr21 : mm_MM → Int32 → Option (mm_MM)) (m : mm_MM) (s0 : Int32) : Option (mm_MM) :=
  kr21 m s0
theorem ok_fX11_term_c79 {kB : mm_MM → Option (mm_MM)} (hkB : ∀ (j : Nat) (m : mm_MM) (q0 : mm_MM), kB m = some q0 → Ev XL xs (d + 3 + j) 196 (ev_M m c w) 0 (lv_args 0 [.ref 606]) [] (fr_v c w q0)) {kr21 : mm_MM → Int32 → Option (mm_MM)} (hkr21 : ∀ (m : mm_MM) (x1 : Int32) (q0 : mm_MM), kr21 m x1 = some q0 → Ev XL xs (d + 5) 195 (ev_M m c w) 21 [(0, .ref 606), (1, .int x1)] [] (fr_v c w q0)) {m : mm_MM} {s0 : Int32} {q0 : mm_MM} (h : fX11_term_c79 kB kr21 m s0 = some q0) : Ev XL xs (d + 5) 195 (ev_M m c w) 79 [(0, .ref 606)] [.int s0] (fr_v c w q0) := by
  unfold fX11_term_c79 at h
  refine ev_s 2 (M' := ev_M m c w) (pc' := 21) (lv' := [(1, .int s0), (0, .ref 606)]) (st' := []) (fun n => rfl) ?_
  refine ev_sub (lv := [(0, .ref 606), (1, .int s0)]) (mn_of rfl (by repeat (first | exact trivial | refine And.intro rfl ?_))) ?_
  exact hkr21 _ _ _ h
def fX11_term_c59 (kB : mm_MM → Option (mm_MM)) (kr21 : mm_MM → Int32 → Option (mm_MM)) (m : mm_MM) (s1 : Int32) : Option (mm_MM) :=
  (fX11_put m s1 0).bind fun r1 =>
   (if r1.1 606 4 = ((-1) : Int32) then
     (fX11_look r1).bind fun r3 =>
      fX11_term_c79 kB kr21 r3.2 r3.1
    else
     fX11_term_c79 kB kr21 r1 ((-1) : Int32))
theorem ok_fX11_term_c59 {kB : mm_MM → Option (mm_MM)} (hkB : ∀ (j : Nat) (m : mm_MM) (q0 : mm_MM), kB m = some q0 → Ev XL xs (d + 3 + j) 196 (ev_M m c w) 0 (lv_args 0 [.ref 606]) [] (fr_v c w q0)) {kr21 : mm_MM → Int32 → Option (mm_MM)} (hkr21 : ∀ (m : mm_MM) (x1 : Int32) (q0 : mm_MM), kr21 m x1 = some q0 → Ev XL xs (d + 5) 195 (ev_M m c w) 21 [(0, .ref 606), (1, .int x1)] [] (fr_v c w q0)) {m : mm_MM} {s1 : Int32} {q0 : mm_MM} (h : fX11_term_c59 kB kr21 m s1 = some q0) : Ev XL xs (d + 5) 195 (ev_M m c w) 59 [(0, .ref 606)] [.int s1, .ref 606] (fr_v c w q0) := by
  unfold fX11_term_c59 at h
  obtain ⟨r1, hr1, h⟩ := Option.bind_eq_some_iff.mp h
  refine ev_c 2 (y' := 189) (M1 := ev_M m c w) (la := lv_args 0 [.ref 606, .int s1, .int 0]) (rest := []) (pc' := 63) (lv' := [(0, .ref 606)]) (fun n => rfl) (ok_fX11_put hr1) ?_
  show Ev XL xs _ 195 (ev_M r1 c w) 63 [(0, .ref 606)] [] _
  refine ev_i 4 (M1 := ev_M r1 c w) (pc1 := 71) (lv1 := [(0, .ref 606)]) (st1 := []) (M2 := ev_M r1 c w) (pc2 := 78) (lv2 := [(0, .ref 606)]) (st2 := []) (fun n => rfl) h (fun hc2 h => ?_) (fun hc2 h => ?_)
  · obtain ⟨r3, hr3, h⟩ := Option.bind_eq_some_iff.mp h
    refine ev_c 2 (y' := 186) (M1 := ev_M r1 c w) (la := lv_args 0 [.ref 606]) (rest := []) (pc' := 75) (lv' := [(0, .ref 606)]) (fun n => rfl) (ok_fX11_look hr3) ?_
    show Ev XL xs _ 195 (ev_M r3.2 c w) 75 [(0, .ref 606)] [.int r3.1] _
    refine ev_s 1 (M' := ev_M r3.2 c w) (pc' := 79) (lv' := [(0, .ref 606)]) (st' := [.int r3.1]) (fun n => rfl) ?_
    exact ok_fX11_term_c79 hkB hkr21 h
  · refine ev_s 1 (M' := ev_M r1 c w) (pc' := 79) (lv' := [(0, .ref 606)]) (st' := [.int ((-1) : Int32)]) (fun n => rfl) ?_
    exact ok_fX11_term_c79 hkB hkr21 h
def fX11_term_c33 (kB : mm_MM → Option (mm_MM)) (kr21 : mm_MM → Int32 → Option (mm_MM)) (m : mm_MM) (x1 : Int32) : Option (mm_MM) :=
  (fX11_atom kB (wI m 606 3 (m.1 606 3 + 1))).bind fun r1 =>
   (if x1 = 42 then
     fX11_term_c59 kB kr21 r1 4
    else
     fX11_term_c59 kB kr21 r1 5)
theorem ok_fX11_term_c33 {kB : mm_MM → Option (mm_MM)} (hkB : ∀ (j : Nat) (m : mm_MM) (q0 : mm_MM), kB m = some q0 → Ev XL xs (d + 3 + j) 196 (ev_M m c w) 0 (lv_args 0 [.ref 606]) [] (fr_v c w q0)) {kr21 : mm_MM → Int32 → Option (mm_MM)} (hkr21 : ∀ (m : mm_MM) (x1 : Int32) (q0 : mm_MM), kr21 m x1 = some q0 → Ev XL xs (d + 5) 195 (ev_M m c w) 21 [(0, .ref 606), (1, .int x1)] [] (fr_v c w q0)) {m : mm_MM} {x1 : Int32} {q0 : mm_MM} (h : fX11_term_c33 kB kr21 m x1 = some q0) : Ev XL xs (d + 5) 195 (ev_M m c w) 33 [(0, .ref 606), (1, .int x1)] [] (fr_v c w q0) := by
  unfold fX11_term_c33 at h
  obtain ⟨r1, hr1, h⟩ := Option.bind_eq_some_iff.mp h
  refine ev_c 8 (y' := 194) (M1 := ev_M (wI m 606 3 (m.1 606 3 + 1)) c w) (la := lv_args 0 [.ref 606]) (rest := []) (pc' := 47) (lv' := [(0, .ref 606), (1, .int x1)]) (fun n => rfl) (ok_fX11_atom hkB hr1) ?_
  show Ev XL xs _ 195 (ev_M r1 c w) 47 [(0, .ref 606), (1, .int x1)] [] _
  refine ev_i 4 (M1 := ev_M r1 c w) (pc1 := 54) (lv1 := [(0, .ref 606), (1, .int x1)]) (st1 := [.ref 606]) (M2 := ev_M r1 c w) (pc2 := 58) (lv2 := [(0, .ref 606), (1, .int x1)]) (st2 := [.ref 606]) (fun n => rfl) h (fun hc2 h => ?_) (fun hc2 h => ?_)
  · refine ev_s 2 (M' := ev_M r1 c w) (pc' := 59) (lv' := [(0, .ref 606), (1, .int x1)]) (st' := [.int 4, .ref 606]) (fun n => rfl) ?_
    refine ev_sub (lv := [(0, .ref 606)]) (mn_of rfl (by repeat (first | exact trivial | refine And.intro rfl ?_))) ?_
    exact ok_fX11_term_c59 hkB hkr21 h
  · refine ev_s 1 (M' := ev_M r1 c w) (pc' := 59) (lv' := [(0, .ref 606), (1, .int x1)]) (st' := [.int 5, .ref 606]) (fun n => rfl) ?_
    refine ev_sub (lv := [(0, .ref 606)]) (mn_of rfl (by repeat (first | exact trivial | refine And.intro rfl ?_))) ?_
    exact ok_fX11_term_c59 hkB hkr21 h
def fX11_term_c21 (kB : mm_MM → Option (mm_MM)) : Nat → mm_MM → Int32 → Option (mm_MM)
  | 0 => fun _ _ => none
  | n + 1 => fun m x1 =>
    (if x1 = 42 then
      fX11_term_c33 kB (fX11_term_c21 kB n) m x1
     else
      (if x1 = 47 then
        fX11_term_c33 kB (fX11_term_c21 kB n) m x1
       else
        some m))
theorem ok_fX11_term_c21 {kB : mm_MM → Option (mm_MM)} (hkB : ∀ (j : Nat) (m : mm_MM) (q0 : mm_MM), kB m = some q0 → Ev XL xs (d + 3 + j) 196 (ev_M m c w) 0 (lv_args 0 [.ref 606]) [] (fr_v c w q0)) : ∀ (n : Nat) (m : mm_MM) (x1 : Int32) (q0 : mm_MM), fX11_term_c21 kB n m x1 = some q0 → Ev XL xs (d + 5) 195 (ev_M m c w) 21 [(0, .ref 606), (1, .int x1)] [] (fr_v c w q0) := by
  intro n
  induction n with
  | zero => intro m x1 q0 h; exact absurd (show (none : Option (mm_MM)) = some q0 from h) (by simp)
  | succ n ih =>
    intro m x1 q0 h
    unfold fX11_term_c21 at h
    refine ev_i 3 (M1 := ev_M m c w) (pc1 := 33) (lv1 := [(0, .ref 606), (1, .int x1)]) (st1 := []) (M2 := ev_M m c w) (pc2 := 27) (lv2 := [(0, .ref 606), (1, .int x1)]) (st2 := []) (fun n => rfl) h (fun hc1 h => ?_) (fun hc1 h => ?_)
    · exact ok_fX11_term_c33 hkB ih h
    · refine ev_i 3 (M1 := ev_M m c w) (pc1 := 33) (lv1 := [(0, .ref 606), (1, .int x1)]) (st1 := []) (M2 := ev_M m c w) (pc2 := 83) (lv2 := [(0, .ref 606), (1, .int x1)]) (st2 := []) (fun n => rfl) h (fun hc2 h => ?_) (fun hc2 h => ?_)
      · exact ok_fX11_term_c33 hkB ih h
      · cases h
        exact ev_r 1 (fun n => rfl)
def fX11_term_c20 (kB : mm_MM → Option (mm_MM)) (m : mm_MM) (s0 : Int32) : Option (mm_MM) :=
  fX11_term_c21 kB fu m s0
theorem ok_fX11_term_c20 {kB : mm_MM → Option (mm_MM)} (hkB : ∀ (j : Nat) (m : mm_MM) (q0 : mm_MM), kB m = some q0 → Ev XL xs (d + 3 + j) 196 (ev_M m c w) 0 (lv_args 0 [.ref 606]) [] (fr_v c w q0)) {m : mm_MM} {s0 : Int32} {q0 : mm_MM} (h : fX11_term_c20 kB m s0 = some q0) : Ev XL xs (d + 5) 195 (ev_M m c w) 20 [(0, .ref 606)] [.int s0] (fr_v c w q0) := by
  unfold fX11_term_c20 at h
  refine ev_s 1 (M' := ev_M m c w) (pc' := 21) (lv' := [(1, .int s0), (0, .ref 606)]) (st' := []) (fun n => rfl) ?_
  refine ev_sub (lv := [(0, .ref 606), (1, .int s0)]) (mn_of rfl (by repeat (first | exact trivial | refine And.intro rfl ?_))) ?_
  exact ok_fX11_term_c21 hkB fu _ _ _ h
def fX11_term (kB : mm_MM → Option (mm_MM)) (m : mm_MM) : Option (mm_MM) :=
  (fX11_atom kB m).bind fun r1 =>
   (if r1.1 606 4 = ((-1) : Int32) then
     (fX11_look r1).bind fun r3 =>
      fX11_term_c20 kB r3.2 r3.1
    else
     fX11_term_c20 kB r1 ((-1) : Int32))
theorem ok_fX11_term {kB : mm_MM → Option (mm_MM)} (hkB : ∀ (j : Nat) (m : mm_MM) (q0 : mm_MM), kB m = some q0 → Ev XL xs (d + 3 + j) 196 (ev_M m c w) 0 (lv_args 0 [.ref 606]) [] (fr_v c w q0)) {m : mm_MM} {q0 : mm_MM} (h : fX11_term kB m = some q0) : Ev XL xs (d + 5) 195 (ev_M m c w) 0 (lv_args 0 [.ref 606]) [] (fr_v c w q0) := by
  unfold fX11_term at h
  obtain ⟨r1, hr1, h⟩ := Option.bind_eq_some_iff.mp h
  refine ev_c 2 (y' := 194) (M1 := ev_M m c w) (la := lv_args 0 [.ref 606]) (rest := []) (pc' := 4) (lv' := [(0, .ref 606)]) (fun n => rfl) (ok_fX11_atom hkB hr1) ?_
  show Ev XL xs _ 195 (ev_M r1 c w) 4 [(0, .ref 606)] [] _
  refine ev_i 4 (M1 := ev_M r1 c w) (pc1 := 12) (lv1 := [(0, .ref 606)]) (st1 := []) (M2 := ev_M r1 c w) (pc2 := 19) (lv2 := [(0, .ref 606)]) (st2 := []) (fun n => rfl) h (fun hc2 h => ?_) (fun hc2 h => ?_)
  · obtain ⟨r3, hr3, h⟩ := Option.bind_eq_some_iff.mp h
    refine ev_c 2 (y' := 186) (M1 := ev_M r1 c w) (la := lv_args 0 [.ref 606]) (rest := []) (pc' := 16) (lv' := [(0, .ref 606)]) (fun n => rfl) (ok_fX11_look hr3) ?_
    show Ev XL xs _ 195 (ev_M r3.2 c w) 16 [(0, .ref 606)] [.int r3.1] _
    refine ev_s 1 (M' := ev_M r3.2 c w) (pc' := 20) (lv' := [(0, .ref 606)]) (st' := [.int r3.1]) (fun n => rfl) ?_
    exact ok_fX11_term_c20 hkB h
  · refine ev_s 1 (M' := ev_M r1 c w) (pc' := 20) (lv' := [(0, .ref 606)]) (st' := [.int ((-1) : Int32)]) (fun n => rfl) ?_
    exact ok_fX11_term_c20 hkB h
def fX11_sum_b_c79 (kB : mm_MM → Option (mm_MM)) (kr21 : mm_MM → Int32 → Option (mm_MM)) (m : mm_MM) (s0 : Int32) : Option (mm_MM) :=
  kr21 m s0
theorem ok_fX11_sum_b_c79 {kB : mm_MM → Option (mm_MM)} (hkB : ∀ (j : Nat) (m : mm_MM) (q0 : mm_MM), kB m = some q0 → Ev XL xs (d + 3 + j) 196 (ev_M m c w) 0 (lv_args 0 [.ref 606]) [] (fr_v c w q0)) {kr21 : mm_MM → Int32 → Option (mm_MM)} (hkr21 : ∀ (m : mm_MM) (x1 : Int32) (q0 : mm_MM), kr21 m x1 = some q0 → Ev XL xs (d + 6) 196 (ev_M m c w) 21 [(0, .ref 606), (1, .int x1)] [] (fr_v c w q0)) {m : mm_MM} {s0 : Int32} {q0 : mm_MM} (h : fX11_sum_b_c79 kB kr21 m s0 = some q0) : Ev XL xs (d + 6) 196 (ev_M m c w) 79 [(0, .ref 606)] [.int s0] (fr_v c w q0) := by
  unfold fX11_sum_b_c79 at h
  refine ev_s 2 (M' := ev_M m c w) (pc' := 21) (lv' := [(1, .int s0), (0, .ref 606)]) (st' := []) (fun n => rfl) ?_
  refine ev_sub (lv := [(0, .ref 606), (1, .int s0)]) (mn_of rfl (by repeat (first | exact trivial | refine And.intro rfl ?_))) ?_
  exact hkr21 _ _ _ h
def fX11_sum_b_c59 (kB : mm_MM → Option (mm_MM)) (kr21 : mm_MM → Int32 → Option (mm_MM)) (m : mm_MM) (s1 : Int32) : Option (mm_MM) :=
  (fX11_put m s1 0).bind fun r1 =>
   (if r1.1 606 4 = ((-1) : Int32) then
     (fX11_look r1).bind fun r3 =>
      fX11_sum_b_c79 kB kr21 r3.2 r3.1
    else
     fX11_sum_b_c79 kB kr21 r1 ((-1) : Int32))
theorem ok_fX11_sum_b_c59 {kB : mm_MM → Option (mm_MM)} (hkB : ∀ (j : Nat) (m : mm_MM) (q0 : mm_MM), kB m = some q0 → Ev XL xs (d + 3 + j) 196 (ev_M m c w) 0 (lv_args 0 [.ref 606]) [] (fr_v c w q0)) {kr21 : mm_MM → Int32 → Option (mm_MM)} (hkr21 : ∀ (m : mm_MM) (x1 : Int32) (q0 : mm_MM), kr21 m x1 = some q0 → Ev XL xs (d + 6) 196 (ev_M m c w) 21 [(0, .ref 606), (1, .int x1)] [] (fr_v c w q0)) {m : mm_MM} {s1 : Int32} {q0 : mm_MM} (h : fX11_sum_b_c59 kB kr21 m s1 = some q0) : Ev XL xs (d + 6) 196 (ev_M m c w) 59 [(0, .ref 606)] [.int s1, .ref 606] (fr_v c w q0) := by
  unfold fX11_sum_b_c59 at h
  obtain ⟨r1, hr1, h⟩ := Option.bind_eq_some_iff.mp h
  refine ev_c 2 (y' := 189) (M1 := ev_M m c w) (la := lv_args 0 [.ref 606, .int s1, .int 0]) (rest := []) (pc' := 63) (lv' := [(0, .ref 606)]) (fun n => rfl) (ok_fX11_put hr1) ?_
  show Ev XL xs _ 196 (ev_M r1 c w) 63 [(0, .ref 606)] [] _
  refine ev_i 4 (M1 := ev_M r1 c w) (pc1 := 71) (lv1 := [(0, .ref 606)]) (st1 := []) (M2 := ev_M r1 c w) (pc2 := 78) (lv2 := [(0, .ref 606)]) (st2 := []) (fun n => rfl) h (fun hc2 h => ?_) (fun hc2 h => ?_)
  · obtain ⟨r3, hr3, h⟩ := Option.bind_eq_some_iff.mp h
    refine ev_c 2 (y' := 186) (M1 := ev_M r1 c w) (la := lv_args 0 [.ref 606]) (rest := []) (pc' := 75) (lv' := [(0, .ref 606)]) (fun n => rfl) (ok_fX11_look hr3) ?_
    show Ev XL xs _ 196 (ev_M r3.2 c w) 75 [(0, .ref 606)] [.int r3.1] _
    refine ev_s 1 (M' := ev_M r3.2 c w) (pc' := 79) (lv' := [(0, .ref 606)]) (st' := [.int r3.1]) (fun n => rfl) ?_
    exact ok_fX11_sum_b_c79 hkB hkr21 h
  · refine ev_s 1 (M' := ev_M r1 c w) (pc' := 79) (lv' := [(0, .ref 606)]) (st' := [.int ((-1) : Int32)]) (fun n => rfl) ?_
    exact ok_fX11_sum_b_c79 hkB hkr21 h
def fX11_sum_b_c33 (kB : mm_MM → Option (mm_MM)) (kr21 : mm_MM → Int32 → Option (mm_MM)) (m : mm_MM) (x1 : Int32) : Option (mm_MM) :=
  (fX11_term kB (wI m 606 3 (m.1 606 3 + 1))).bind fun r1 =>
   (if x1 = 43 then
     fX11_sum_b_c59 kB kr21 r1 2
    else
     fX11_sum_b_c59 kB kr21 r1 3)
theorem ok_fX11_sum_b_c33 {kB : mm_MM → Option (mm_MM)} (hkB : ∀ (j : Nat) (m : mm_MM) (q0 : mm_MM), kB m = some q0 → Ev XL xs (d + 3 + j) 196 (ev_M m c w) 0 (lv_args 0 [.ref 606]) [] (fr_v c w q0)) {kr21 : mm_MM → Int32 → Option (mm_MM)} (hkr21 : ∀ (m : mm_MM) (x1 : Int32) (q0 : mm_MM), kr21 m x1 = some q0 → Ev XL xs (d + 6) 196 (ev_M m c w) 21 [(0, .ref 606), (1, .int x1)] [] (fr_v c w q0)) {m : mm_MM} {x1 : Int32} {q0 : mm_MM} (h : fX11_sum_b_c33 kB kr21 m x1 = some q0) : Ev XL xs (d + 6) 196 (ev_M m c w) 33 [(0, .ref 606), (1, .int x1)] [] (fr_v c w q0) := by
  unfold fX11_sum_b_c33 at h
  obtain ⟨r1, hr1, h⟩ := Option.bind_eq_some_iff.mp h
  refine ev_c 8 (y' := 195) (M1 := ev_M (wI m 606 3 (m.1 606 3 + 1)) c w) (la := lv_args 0 [.ref 606]) (rest := []) (pc' := 47) (lv' := [(0, .ref 606), (1, .int x1)]) (fun n => rfl) (ok_fX11_term hkB hr1) ?_
  show Ev XL xs _ 196 (ev_M r1 c w) 47 [(0, .ref 606), (1, .int x1)] [] _
  refine ev_i 4 (M1 := ev_M r1 c w) (pc1 := 54) (lv1 := [(0, .ref 606), (1, .int x1)]) (st1 := [.ref 606]) (M2 := ev_M r1 c w) (pc2 := 58) (lv2 := [(0, .ref 606), (1, .int x1)]) (st2 := [.ref 606]) (fun n => rfl) h (fun hc2 h => ?_) (fun hc2 h => ?_)
  · refine ev_s 2 (M' := ev_M r1 c w) (pc' := 59) (lv' := [(0, .ref 606), (1, .int x1)]) (st' := [.int 2, .ref 606]) (fun n => rfl) ?_
    refine ev_sub (lv := [(0, .ref 606)]) (mn_of rfl (by repeat (first | exact trivial | refine And.intro rfl ?_))) ?_
    exact ok_fX11_sum_b_c59 hkB hkr21 h
  · refine ev_s 1 (M' := ev_M r1 c w) (pc' := 59) (lv' := [(0, .ref 606), (1, .int x1)]) (st' := [.int 3, .ref 606]) (fun n => rfl) ?_
    refine ev_sub (lv := [(0, .ref 606)]) (mn_of rfl (by repeat (first | exact trivial | refine And.intro rfl ?_))) ?_
    exact ok_fX11_sum_b_c59 hkB hkr21 h
def fX11_sum_b_c21 (kB : mm_MM → Option (mm_MM)) : Nat → mm_MM → Int32 → Option (mm_MM)
  | 0 => fun _ _ => none
  | n + 1 => fun m x1 =>
    (if x1 = 43 then
      fX11_sum_b_c33 kB (fX11_sum_b_c21 kB n) m x1
     else
      (if x1 = 45 then
        fX11_sum_b_c33 kB (fX11_sum_b_c21 kB n) m x1
       else
        some m))
theorem ok_fX11_sum_b_c21 {kB : mm_MM → Option (mm_MM)} (hkB : ∀ (j : Nat) (m : mm_MM) (q0 : mm_MM), kB m = some q0 → Ev XL xs (d + 3 + j) 196 (ev_M m c w) 0 (lv_args 0 [.ref 606]) [] (fr_v c w q0)) : ∀ (n : Nat) (m : mm_MM) (x1 : Int32) (q0 : mm_MM), fX11_sum_b_c21 kB n m x1 = some q0 → Ev XL xs (d + 6) 196 (ev_M m c w) 21 [(0, .ref 606), (1, .int x1)] [] (fr_v c w q0) := by
  intro n
  induction n with
  | zero => intro m x1 q0 h; exact absurd (show (none : Option (mm_MM)) = some q0 from h) (by simp)
  | succ n ih =>
    intro m x1 q0 h
    unfold fX11_sum_b_c21 at h
    refine ev_i 3 (M1 := ev_M m c w) (pc1 := 33) (lv1 := [(0, .ref 606), (1, .int x1)]) (st1 := []) (M2 := ev_M m c w) (pc2 := 27) (lv2 := [(0, .ref 606), (1, .int x1)]) (st2 := []) (fun n => rfl) h (fun hc1 h => ?_) (fun hc1 h => ?_)
    · exact ok_fX11_sum_b_c33 hkB ih h
    · refine ev_i 3 (M1 := ev_M m c w) (pc1 := 33) (lv1 := [(0, .ref 606), (1, .int x1)]) (st1 := []) (M2 := ev_M m c w) (pc2 := 83) (lv2 := [(0, .ref 606), (1, .int x1)]) (st2 := []) (fun n => rfl) h (fun hc2 h => ?_) (fun hc2 h => ?_)
      · exact ok_fX11_sum_b_c33 hkB ih h
      · cases h
        exact ev_r 1 (fun n => rfl)
def fX11_sum_b_c20 (kB : mm_MM → Option (mm_MM)) (m : mm_MM) (s0 : Int32) : Option (mm_MM) :=
  fX11_sum_b_c21 kB fu m s0
theorem ok_fX11_sum_b_c20 {kB : mm_MM → Option (mm_MM)} (hkB : ∀ (j : Nat) (m : mm_MM) (q0 : mm_MM), kB m = some q0 → Ev XL xs (d + 3 + j) 196 (ev_M m c w) 0 (lv_args 0 [.ref 606]) [] (fr_v c w q0)) {m : mm_MM} {s0 : Int32} {q0 : mm_MM} (h : fX11_sum_b_c20 kB m s0 = some q0) : Ev XL xs (d + 6) 196 (ev_M m c w) 20 [(0, .ref 606)] [.int s0] (fr_v c w q0) := by
  unfold fX11_sum_b_c20 at h
  refine ev_s 1 (M' := ev_M m c w) (pc' := 21) (lv' := [(1, .int s0), (0, .ref 606)]) (st' := []) (fun n => rfl) ?_
  refine ev_sub (lv := [(0, .ref 606), (1, .int s0)]) (mn_of rfl (by repeat (first | exact trivial | refine And.intro rfl ?_))) ?_
  exact ok_fX11_sum_b_c21 hkB fu _ _ _ h
def fX11_sum_b (kB : mm_MM → Option (mm_MM)) (m : mm_MM) : Option (mm_MM) :=
  (fX11_term kB m).bind fun r1 =>
   (if r1.1 606 4 = ((-1) : Int32) then
     (fX11_look r1).bind fun r3 =>
      fX11_sum_b_c20 kB r3.2 r3.1
    else
     fX11_sum_b_c20 kB r1 ((-1) : Int32))
theorem ok_fX11_sum_b {kB : mm_MM → Option (mm_MM)} (hkB : ∀ (j : Nat) (m : mm_MM) (q0 : mm_MM), kB m = some q0 → Ev XL xs (d + 3 + j) 196 (ev_M m c w) 0 (lv_args 0 [.ref 606]) [] (fr_v c w q0)) {m : mm_MM} {q0 : mm_MM} (h : fX11_sum_b kB m = some q0) : Ev XL xs (d + 6) 196 (ev_M m c w) 0 (lv_args 0 [.ref 606]) [] (fr_v c w q0) := by
  unfold fX11_sum_b at h
  obtain ⟨r1, hr1, h⟩ := Option.bind_eq_some_iff.mp h
  refine ev_c 2 (y' := 195) (M1 := ev_M m c w) (la := lv_args 0 [.ref 606]) (rest := []) (pc' := 4) (lv' := [(0, .ref 606)]) (fun n => rfl) (ok_fX11_term hkB hr1) ?_
  show Ev XL xs _ 196 (ev_M r1 c w) 4 [(0, .ref 606)] [] _
  refine ev_i 4 (M1 := ev_M r1 c w) (pc1 := 12) (lv1 := [(0, .ref 606)]) (st1 := []) (M2 := ev_M r1 c w) (pc2 := 19) (lv2 := [(0, .ref 606)]) (st2 := []) (fun n => rfl) h (fun hc2 h => ?_) (fun hc2 h => ?_)
  · obtain ⟨r3, hr3, h⟩ := Option.bind_eq_some_iff.mp h
    refine ev_c 2 (y' := 186) (M1 := ev_M r1 c w) (la := lv_args 0 [.ref 606]) (rest := []) (pc' := 16) (lv' := [(0, .ref 606)]) (fun n => rfl) (ok_fX11_look hr3) ?_
    show Ev XL xs _ 196 (ev_M r3.2 c w) 16 [(0, .ref 606)] [.int r3.1] _
    refine ev_s 1 (M' := ev_M r3.2 c w) (pc' := 20) (lv' := [(0, .ref 606)]) (st' := [.int r3.1]) (fun n => rfl) ?_
    exact ok_fX11_sum_b_c20 hkB h
  · refine ev_s 1 (M' := ev_M r1 c w) (pc' := 20) (lv' := [(0, .ref 606)]) (st' := [.int ((-1) : Int32)]) (fun n => rfl) ?_
    exact ok_fX11_sum_b_c20 hkB h
def fX11_sum : Nat → mm_MM → Option (mm_MM)
  | 0 => fun _ => none
  | n + 1 => fun m => fX11_sum_b (fX11_sum n) m
theorem ok_fX11_sum : ∀ (n j : Nat) (m : mm_MM) (q0 : mm_MM), fX11_sum n m = some q0 → Ev XL xs (d + 3 * n + 3 + j) 196 (ev_M m c w) 0 (lv_args 0 [.ref 606]) [] (fr_v c w q0) := by
  intro n
  induction n with
  | zero => intro j m q0 h; exact absurd (show (none : Option (mm_MM)) = some q0 from h) (by simp)
  | succ n ih =>
    intro j m q0 h
    have h : fX11_sum_b (fX11_sum n) m = some q0 := h
    have g := ok_fX11_sum_b (XL := XL) (xs := xs) (c := c) (w := w) (d := d + 3 * n + j) (fun j2 m q0 h => by
      have i := ih (j + j2) m q0 h
      rwa [show d + 3 * n + 3 + (j + j2) = d + 3 * n + j + 3 + j2 by omega] at i) h
    rwa [show d + 3 * n + j + 6 = d + 3 * (n + 1) + 3 + j by omega] at g

def fX11_compare_c68 (m : mm_MM) (s1 : Int32) : Option (mm_MM) :=
  (fX11_put m s1 0).bind fun r1 =>
   some r1
theorem ok_fX11_compare_c68 {m : mm_MM} {s1 : Int32} {q0 : mm_MM} (h : fX11_compare_c68 m s1 = some q0) : Ev XL xs (d + 40) 198 (ev_M m c w) 68 [] [.int s1, .ref 606] (fr_v c w q0) := by
  unfold fX11_compare_c68 at h
  obtain ⟨r1, hr1, h⟩ := Option.bind_eq_some_iff.mp h
  refine ev_c 2 (y' := 189) (M1 := ev_M m c w) (la := lv_args 0 [.ref 606, .int s1, .int 0]) (rest := []) (pc' := 72) (lv' := []) (fun n => rfl) (ok_fX11_put hr1) ?_
  show Ev XL xs _ 198 (ev_M r1 c w) 72 [] [] _
  cases h
  exact ev_r 1 (fun n => rfl)
def fX11_compare_c16 (m : mm_MM) (s0 : Int32) : Option (mm_MM) :=
  (fX11_isSign m s0).bind fun r1 =>
   (if r1.1 = 0 then
     (fX11_bad r1.2).bind fun r3 =>
      some r3
    else
     (fX11_sum 12 (wI r1.2 606 3 (r1.2.1 606 3 + 1))).bind fun r4 =>
      (if s0 = 61 then
        fX11_compare_c68 r4 6
       else
        (if s0 = 60 then
          fX11_compare_c68 r4 7
         else
          fX11_compare_c68 r4 8)))
theorem ok_fX11_compare_c16 {m : mm_MM} {s0 : Int32} {q0 : mm_MM} (h : fX11_compare_c16 m s0 = some q0) : Ev XL xs (d + 40) 198 (ev_M m c w) 16 [(0, .ref 606)] [.int s0] (fr_v c w q0) := by
  unfold fX11_compare_c16 at h
  obtain ⟨r1, hr1, h⟩ := Option.bind_eq_some_iff.mp h
  refine ev_c 3 (y' := 197) (M1 := ev_M m c w) (la := lv_args 0 [.int s0]) (rest := []) (pc' := 21) (lv' := [(1, .int s0), (0, .ref 606)]) (fun n => rfl) (ok_fX11_isSign hr1) ?_
  show Ev XL xs _ 198 (ev_M r1.2 c w) 21 [(1, .int s0), (0, .ref 606)] [.int r1.1] _
  refine ev_i 1 (M1 := ev_M r1.2 c w) (pc1 := 24) (lv1 := [(1, .int s0), (0, .ref 606)]) (st1 := []) (M2 := ev_M r1.2 c w) (pc2 := 29) (lv2 := [(1, .int s0), (0, .ref 606)]) (st2 := []) (fun n => rfl) h (fun hc2 h => ?_) (fun hc2 h => ?_)
  · obtain ⟨r3, hr3, h⟩ := Option.bind_eq_some_iff.mp h
    refine ev_c 2 (y' := 187) (M1 := ev_M r1.2 c w) (la := lv_args 0 [.ref 606]) (rest := []) (pc' := 28) (lv' := [(1, .int s0), (0, .ref 606)]) (fun n => rfl) (ok_fX11_bad hr3) ?_
    show Ev XL xs _ 198 (ev_M r3 c w) 28 [(1, .int s0), (0, .ref 606)] [] _
    cases h
    exact ev_r 1 (fun n => rfl)
  · obtain ⟨r4, hr4, h⟩ := Option.bind_eq_some_iff.mp h
    refine ev_c 8 (y' := 196) (M1 := ev_M (wI r1.2 606 3 (r1.2.1 606 3 + 1)) c w) (la := lv_args 0 [.ref 606]) (rest := []) (pc' := 43) (lv' := [(1, .int s0), (0, .ref 606)]) (fun n => rfl) (ok_fX11_sum (d := d) 12 0 _ _ hr4) ?_
    show Ev XL xs _ 198 (ev_M r4 c w) 43 [(1, .int s0), (0, .ref 606)] [] _
    refine ev_i 4 (M1 := ev_M r4 c w) (pc1 := 50) (lv1 := [(1, .int s0), (0, .ref 606)]) (st1 := [.ref 606]) (M2 := ev_M r4 c w) (pc2 := 55) (lv2 := [(1, .int s0), (0, .ref 606)]) (st2 := [.ref 606]) (fun n => rfl) h (fun hc5 h => ?_) (fun hc5 h => ?_)
    · refine ev_s 2 (M' := ev_M r4 c w) (pc' := 68) (lv' := [(1, .int s0), (0, .ref 606)]) (st' := [.int 6, .ref 606]) (fun n => rfl) ?_
      refine ev_sub (lv := []) (mn_of rfl (by repeat (first | exact trivial | refine And.intro rfl ?_))) ?_
      exact ok_fX11_compare_c68 h
    · refine ev_i 3 (M1 := ev_M r4 c w) (pc1 := 61) (lv1 := [(1, .int s0), (0, .ref 606)]) (st1 := [.ref 606]) (M2 := ev_M r4 c w) (pc2 := 66) (lv2 := [(1, .int s0), (0, .ref 606)]) (st2 := [.ref 606]) (fun n => rfl) h (fun hc6 h => ?_) (fun hc6 h => ?_)
      · refine ev_s 2 (M' := ev_M r4 c w) (pc' := 68) (lv' := [(1, .int s0), (0, .ref 606)]) (st' := [.int 7, .ref 606]) (fun n => rfl) ?_
        refine ev_sub (lv := []) (mn_of rfl (by repeat (first | exact trivial | refine And.intro rfl ?_))) ?_
        exact ok_fX11_compare_c68 h
      · refine ev_s 1 (M' := ev_M r4 c w) (pc' := 68) (lv' := [(1, .int s0), (0, .ref 606)]) (st' := [.int 8, .ref 606]) (fun n => rfl) ?_
        refine ev_sub (lv := []) (mn_of rfl (by repeat (first | exact trivial | refine And.intro rfl ?_))) ?_
        exact ok_fX11_compare_c68 h
def fX11_compare (m : mm_MM) : Option (mm_MM) :=
  (if m.1 606 4 = ((-1) : Int32) then
    (fX11_look m).bind fun r2 =>
     fX11_compare_c16 r2.2 r2.1
   else
    fX11_compare_c16 m ((-1) : Int32))
theorem ok_fX11_compare {m : mm_MM} {q0 : mm_MM} (h : fX11_compare m = some q0) : Ev XL xs (d + 40) 198 (ev_M m c w) 0 (lv_args 0 [.ref 606]) [] (fr_v c w q0) := by
  unfold fX11_compare at h
  refine ev_i 4 (M1 := ev_M m c w) (pc1 := 8) (lv1 := [(0, .ref 606)]) (st1 := []) (M2 := ev_M m c w) (pc2 := 15) (lv2 := [(0, .ref 606)]) (st2 := []) (fun n => rfl) h (fun hc1 h => ?_) (fun hc1 h => ?_)
  · obtain ⟨r2, hr2, h⟩ := Option.bind_eq_some_iff.mp h
    refine ev_c 2 (y' := 186) (M1 := ev_M m c w) (la := lv_args 0 [.ref 606]) (rest := []) (pc' := 12) (lv' := [(0, .ref 606)]) (fun n => rfl) (ok_fX11_look hr2) ?_
    show Ev XL xs _ 198 (ev_M r2.2 c w) 12 [(0, .ref 606)] [.int r2.1] _
    refine ev_s 1 (M' := ev_M r2.2 c w) (pc' := 16) (lv' := [(0, .ref 606)]) (st' := [.int r2.1]) (fun n => rfl) ?_
    exact ok_fX11_compare_c16 h
  · refine ev_s 1 (M' := ev_M m c w) (pc' := 16) (lv' := [(0, .ref 606)]) (st' := [.int ((-1) : Int32)]) (fun n => rfl) ?_
    exact ok_fX11_compare_c16 h
def fX11_goOnAnd_c41 (kB : mm_MM → Option (mm_MM)) (m : mm_MM) : Option (mm_MM) :=
  some m
theorem ok_fX11_goOnAnd_c41 {kB : mm_MM → Option (mm_MM)} (hkB : ∀ (j : Nat) (m : mm_MM) (q0 : mm_MM), kB m = some q0 → Ev XL xs (d + 41 + j) 199 (ev_M m c w) 0 (lv_args 0 [.ref 606]) [] (fr_v c w q0)) {m : mm_MM} {q0 : mm_MM} (h : fX11_goOnAnd_c41 kB m = some q0) : Ev XL xs (d + 42) 200 (ev_M m c w) 41 [] [] (fr_v c w q0) := by
  unfold fX11_goOnAnd_c41 at h
  cases h
  exact ev_r 1 (fun n => rfl)
def fX11_goOnAnd_c0 (kB : mm_MM → Option (mm_MM)) : Nat → mm_MM → Option (mm_MM)
  | 0 => fun _ => none
  | n + 1 => fun m =>
    (if m.1 606 4 = ((-1) : Int32) then
      (fX11_look m).bind fun r2 =>
       (if r2.1 = 38 then
         (kB (wI r2.2 606 3 (r2.2.1 606 3 + 1))).bind fun r4 =>
          (fX11_put r4 10 0).bind fun r5 =>
           fX11_goOnAnd_c0 kB n r5
        else
         fX11_goOnAnd_c41 kB r2.2)
     else
      fX11_goOnAnd_c41 kB m)
theorem ok_fX11_goOnAnd_c0 {kB : mm_MM → Option (mm_MM)} (hkB : ∀ (j : Nat) (m : mm_MM) (q0 : mm_MM), kB m = some q0 → Ev XL xs (d + 41 + j) 199 (ev_M m c w) 0 (lv_args 0 [.ref 606]) [] (fr_v c w q0)) : ∀ (n : Nat) (m : mm_MM) (q0 : mm_MM), fX11_goOnAnd_c0 kB n m = some q0 → Ev XL xs (d + 42) 200 (ev_M m c w) 0 [(0, .ref 606)] [] (fr_v c w q0) := by
  intro n
  induction n with
  | zero => intro m q0 h; exact absurd (show (none : Option (mm_MM)) = some q0 from h) (by simp)
  | succ n ih =>
    intro m q0 h
    unfold fX11_goOnAnd_c0 at h
    refine ev_i 4 (M1 := ev_M m c w) (pc1 := 8) (lv1 := [(0, .ref 606)]) (st1 := []) (M2 := ev_M m c w) (pc2 := 41) (lv2 := [(0, .ref 606)]) (st2 := []) (fun n => rfl) h (fun hc1 h => ?_) (fun hc1 h => ?_)
    · obtain ⟨r2, hr2, h⟩ := Option.bind_eq_some_iff.mp h
      refine ev_c 2 (y' := 186) (M1 := ev_M m c w) (la := lv_args 0 [.ref 606]) (rest := []) (pc' := 12) (lv' := [(0, .ref 606)]) (fun n => rfl) (ok_fX11_look hr2) ?_
      show Ev XL xs _ 200 (ev_M r2.2 c w) 12 [(0, .ref 606)] [.int r2.1] _
      refine ev_i 2 (M1 := ev_M r2.2 c w) (pc1 := 17) (lv1 := [(0, .ref 606)]) (st1 := []) (M2 := ev_M r2.2 c w) (pc2 := 41) (lv2 := [(0, .ref 606)]) (st2 := []) (fun n => rfl) h (fun hc3 h => ?_) (fun hc3 h => ?_)
      · obtain ⟨r4, hr4, h⟩ := Option.bind_eq_some_iff.mp h
        refine ev_c 8 (y' := 199) (M1 := ev_M (wI r2.2 606 3 (r2.2.1 606 3 + 1)) c w) (la := lv_args 0 [.ref 606]) (rest := []) (pc' := 31) (lv' := [(0, .ref 606)]) (fun n => rfl) (hkB 0 _ _ hr4) ?_
        show Ev XL xs _ 200 (ev_M r4 c w) 31 [(0, .ref 606)] [] _
        obtain ⟨r5, hr5, h⟩ := Option.bind_eq_some_iff.mp h
        refine ev_c 4 (y' := 189) (M1 := ev_M r4 c w) (la := lv_args 0 [.ref 606, .int 10, .int 0]) (rest := []) (pc' := 38) (lv' := [(0, .ref 606)]) (fun n => rfl) (ok_fX11_put hr5) ?_
        show Ev XL xs _ 200 (ev_M r5 c w) 38 [(0, .ref 606)] [] _
        refine ev_s 1 (M' := ev_M r5 c w) (pc' := 0) (lv' := [(0, .ref 606)]) (st' := []) (fun n => rfl) ?_
        exact ih _ _ h
      · refine ev_sub (lv := []) (mn_of rfl (by repeat (first | exact trivial | refine And.intro rfl ?_))) ?_
        exact ok_fX11_goOnAnd_c41 hkB h
    · refine ev_sub (lv := []) (mn_of rfl (by repeat (first | exact trivial | refine And.intro rfl ?_))) ?_
      exact ok_fX11_goOnAnd_c41 hkB h
def fX11_goOnAnd (kB : mm_MM → Option (mm_MM)) (m : mm_MM) : Option (mm_MM) :=
  fX11_goOnAnd_c0 kB fu m
theorem ok_fX11_goOnAnd {kB : mm_MM → Option (mm_MM)} (hkB : ∀ (j : Nat) (m : mm_MM) (q0 : mm_MM), kB m = some q0 → Ev XL xs (d + 41 + j) 199 (ev_M m c w) 0 (lv_args 0 [.ref 606]) [] (fr_v c w q0)) {m : mm_MM} {q0 : mm_MM} (h : fX11_goOnAnd kB m = some q0) : Ev XL xs (d + 42) 200 (ev_M m c w) 0 (lv_args 0 [.ref 606]) [] (fr_v c w q0) := by
  unfold fX11_goOnAnd at h
  exact ok_fX11_goOnAnd_c0 hkB fu _ _ h
def fX11_goOnOr_c45 (kB : mm_MM → Option (mm_MM)) (m : mm_MM) : Option (mm_MM) :=
  some m
theorem ok_fX11_goOnOr_c45 {kB : mm_MM → Option (mm_MM)} (hkB : ∀ (j : Nat) (m : mm_MM) (q0 : mm_MM), kB m = some q0 → Ev XL xs (d + 41 + j) 199 (ev_M m c w) 0 (lv_args 0 [.ref 606]) [] (fr_v c w q0)) {m : mm_MM} {q0 : mm_MM} (h : fX11_goOnOr_c45 kB m = some q0) : Ev XL xs (d + 43) 201 (ev_M m c w) 45 [] [] (fr_v c w q0) := by
  unfold fX11_goOnOr_c45 at h
  cases h
  exact ev_r 1 (fun n => rfl)
def fX11_goOnOr_c0 (kB : mm_MM → Option (mm_MM)) : Nat → mm_MM → Option (mm_MM)
  | 0 => fun _ => none
  | n + 1 => fun m =>
    (if m.1 606 4 = ((-1) : Int32) then
      (fX11_look m).bind fun r2 =>
       (if r2.1 = 124 then
         (kB (wI r2.2 606 3 (r2.2.1 606 3 + 1))).bind fun r4 =>
          (fX11_goOnAnd kB r4).bind fun r5 =>
           (fX11_put r5 11 0).bind fun r6 =>
            fX11_goOnOr_c0 kB n r6
        else
         fX11_goOnOr_c45 kB r2.2)
     else
      fX11_goOnOr_c45 kB m)
theorem ok_fX11_goOnOr_c0 {kB : mm_MM → Option (mm_MM)} (hkB : ∀ (j : Nat) (m : mm_MM) (q0 : mm_MM), kB m = some q0 → Ev XL xs (d + 41 + j) 199 (ev_M m c w) 0 (lv_args 0 [.ref 606]) [] (fr_v c w q0)) : ∀ (n : Nat) (m : mm_MM) (q0 : mm_MM), fX11_goOnOr_c0 kB n m = some q0 → Ev XL xs (d + 43) 201 (ev_M m c w) 0 [(0, .ref 606)] [] (fr_v c w q0) := by
  intro n
  induction n with
  | zero => intro m q0 h; exact absurd (show (none : Option (mm_MM)) = some q0 from h) (by simp)
  | succ n ih =>
    intro m q0 h
    unfold fX11_goOnOr_c0 at h
    refine ev_i 4 (M1 := ev_M m c w) (pc1 := 8) (lv1 := [(0, .ref 606)]) (st1 := []) (M2 := ev_M m c w) (pc2 := 45) (lv2 := [(0, .ref 606)]) (st2 := []) (fun n => rfl) h (fun hc1 h => ?_) (fun hc1 h => ?_)
    · obtain ⟨r2, hr2, h⟩ := Option.bind_eq_some_iff.mp h
      refine ev_c 2 (y' := 186) (M1 := ev_M m c w) (la := lv_args 0 [.ref 606]) (rest := []) (pc' := 12) (lv' := [(0, .ref 606)]) (fun n => rfl) (ok_fX11_look hr2) ?_
      show Ev XL xs _ 201 (ev_M r2.2 c w) 12 [(0, .ref 606)] [.int r2.1] _
      refine ev_i 2 (M1 := ev_M r2.2 c w) (pc1 := 17) (lv1 := [(0, .ref 606)]) (st1 := []) (M2 := ev_M r2.2 c w) (pc2 := 45) (lv2 := [(0, .ref 606)]) (st2 := []) (fun n => rfl) h (fun hc3 h => ?_) (fun hc3 h => ?_)
      · obtain ⟨r4, hr4, h⟩ := Option.bind_eq_some_iff.mp h
        refine ev_c 8 (y' := 199) (M1 := ev_M (wI r2.2 606 3 (r2.2.1 606 3 + 1)) c w) (la := lv_args 0 [.ref 606]) (rest := []) (pc' := 31) (lv' := [(0, .ref 606)]) (fun n => rfl) (hkB 1 _ _ hr4) ?_
        show Ev XL xs _ 201 (ev_M r4 c w) 31 [(0, .ref 606)] [] _
        obtain ⟨r5, hr5, h⟩ := Option.bind_eq_some_iff.mp h
        refine ev_c 2 (y' := 200) (M1 := ev_M r4 c w) (la := lv_args 0 [.ref 606]) (rest := []) (pc' := 35) (lv' := [(0, .ref 606)]) (fun n => rfl) (ok_fX11_goOnAnd hkB hr5) ?_
        show Ev XL xs _ 201 (ev_M r5 c w) 35 [(0, .ref 606)] [] _
        obtain ⟨r6, hr6, h⟩ := Option.bind_eq_some_iff.mp h
        refine ev_c 4 (y' := 189) (M1 := ev_M r5 c w) (la := lv_args 0 [.ref 606, .int 11, .int 0]) (rest := []) (pc' := 42) (lv' := [(0, .ref 606)]) (fun n => rfl) (ok_fX11_put hr6) ?_
        show Ev XL xs _ 201 (ev_M r6 c w) 42 [(0, .ref 606)] [] _
        refine ev_s 1 (M' := ev_M r6 c w) (pc' := 0) (lv' := [(0, .ref 606)]) (st' := []) (fun n => rfl) ?_
        exact ih _ _ h
      · refine ev_sub (lv := []) (mn_of rfl (by repeat (first | exact trivial | refine And.intro rfl ?_))) ?_
        exact ok_fX11_goOnOr_c45 hkB h
    · refine ev_sub (lv := []) (mn_of rfl (by repeat (first | exact trivial | refine And.intro rfl ?_))) ?_
      exact ok_fX11_goOnOr_c45 hkB h
def fX11_goOnOr (kB : mm_MM → Option (mm_MM)) (m : mm_MM) : Option (mm_MM) :=
  fX11_goOnOr_c0 kB fu m
theorem ok_fX11_goOnOr {kB : mm_MM → Option (mm_MM)} (hkB : ∀ (j : Nat) (m : mm_MM) (q0 : mm_MM), kB m = some q0 → Ev XL xs (d + 41 + j) 199 (ev_M m c w) 0 (lv_args 0 [.ref 606]) [] (fr_v c w q0)) {m : mm_MM} {q0 : mm_MM} (h : fX11_goOnOr kB m = some q0) : Ev XL xs (d + 43) 201 (ev_M m c w) 0 (lv_args 0 [.ref 606]) [] (fr_v c w q0) := by
  unfold fX11_goOnOr at h
  exact ok_fX11_goOnOr_c0 hkB fu _ _ h
def fX11_condition (kB : mm_MM → Option (mm_MM)) (m : mm_MM) : Option (mm_MM) :=
  (kB m).bind fun r1 =>
   (fX11_goOnAnd kB r1).bind fun r2 =>
    (fX11_goOnOr kB r2).bind fun r3 =>
     some r3
theorem ok_fX11_condition {kB : mm_MM → Option (mm_MM)} (hkB : ∀ (j : Nat) (m : mm_MM) (q0 : mm_MM), kB m = some q0 → Ev XL xs (d + 41 + j) 199 (ev_M m c w) 0 (lv_args 0 [.ref 606]) [] (fr_v c w q0)) {m : mm_MM} {q0 : mm_MM} (h : fX11_condition kB m = some q0) : Ev XL xs (d + 44) 202 (ev_M m c w) 0 (lv_args 0 [.ref 606]) [] (fr_v c w q0) := by
  unfold fX11_condition at h
  obtain ⟨r1, hr1, h⟩ := Option.bind_eq_some_iff.mp h
  refine ev_c 2 (y' := 199) (M1 := ev_M m c w) (la := lv_args 0 [.ref 606]) (rest := []) (pc' := 4) (lv' := [(0, .ref 606)]) (fun n => rfl) (hkB 2 _ _ hr1) ?_
  show Ev XL xs _ 202 (ev_M r1 c w) 4 [(0, .ref 606)] [] _
  obtain ⟨r2, hr2, h⟩ := Option.bind_eq_some_iff.mp h
  refine ev_c 2 (y' := 200) (M1 := ev_M r1 c w) (la := lv_args 0 [.ref 606]) (rest := []) (pc' := 8) (lv' := [(0, .ref 606)]) (fun n => rfl) (ok_fX11_goOnAnd (d := d + 1) (fun j m q0 h => by have i := hkB (1 + j) m q0 h; rwa [show d + 41 + (1 + j) = d + 1 + 41 + j by omega] at i) hr2) ?_
  show Ev XL xs _ 202 (ev_M r2 c w) 8 [(0, .ref 606)] [] _
  obtain ⟨r3, hr3, h⟩ := Option.bind_eq_some_iff.mp h
  refine ev_c 2 (y' := 201) (M1 := ev_M r2 c w) (la := lv_args 0 [.ref 606]) (rest := []) (pc' := 12) (lv' := [(0, .ref 606)]) (fun n => rfl) (ok_fX11_goOnOr hkB hr3) ?_
  show Ev XL xs _ 202 (ev_M r3 c w) 12 [(0, .ref 606)] [] _
  cases h
  exact ev_r 1 (fun n => rfl)
def fX11_unit_b_c94 (kB : mm_MM → Option (mm_MM)) (m : mm_MM) : Option (mm_MM) :=
  some m
set_option maxRecDepth 20000 in
theorem ok_fX11_unit_b_c94 {kB : mm_MM → Option (mm_MM)} (hkB : ∀ (j : Nat) (m : mm_MM) (q0 : mm_MM), kB m = some q0 → Ev XL xs (d + 41 + j) 199 (ev_M m c w) 0 (lv_args 0 [.ref 606]) [] (fr_v c w q0)) {m : mm_MM} {q0 : mm_MM} (h : fX11_unit_b_c94 kB m = some q0) : Ev XL xs (d + 45) 199 (ev_M m c w) 94 [] [] (fr_v c w q0) := by
  unfold fX11_unit_b_c94 at h
  cases h
  exact ev_r 1 (fun n => rfl)
def fX11_unit_b (kB : mm_MM → Option (mm_MM)) (m : mm_MM) : Option (mm_MM) :=
  (fX11_look m).bind fun r1 =>
   (if r1.1 = 33 then
     (fX11_opens r1.2).bind fun r3 =>
      (if r3.1 606 4 = ((-1) : Int32) then
        (kB r3).bind fun r5 =>
         (fX11_put r5 9 0).bind fun r6 =>
          fX11_unit_b_c94 kB (wI r6 606 5 (r6.1 606 5 - 1))
       else
        fX11_unit_b_c94 kB r3)
    else
     (if r1.1 = 40 then
       (fX11_opens r1.2).bind fun r8 =>
        (if r8.1 606 4 = ((-1) : Int32) then
          (fX11_condition kB r8).bind fun r10 =>
           (fX11_closes r10 41).bind fun r11 =>
            fX11_unit_b_c94 kB r11
         else
          fX11_unit_b_c94 kB r8)
      else
       (fX11_sum 12 r1.2).bind fun r12 =>
        (if r12.1 606 4 = ((-1) : Int32) then
          (fX11_compare r12).bind fun r14 =>
           fX11_unit_b_c94 kB r14
         else
          fX11_unit_b_c94 kB r12)))
set_option maxRecDepth 20000 in
theorem ok_fX11_unit_b {kB : mm_MM → Option (mm_MM)} (hkB : ∀ (j : Nat) (m : mm_MM) (q0 : mm_MM), kB m = some q0 → Ev XL xs (d + 41 + j) 199 (ev_M m c w) 0 (lv_args 0 [.ref 606]) [] (fr_v c w q0)) {m : mm_MM} {q0 : mm_MM} (h : fX11_unit_b kB m = some q0) : Ev XL xs (d + 45) 199 (ev_M m c w) 0 (lv_args 0 [.ref 606]) [] (fr_v c w q0) := by
  unfold fX11_unit_b at h
  obtain ⟨r1, hr1, h⟩ := Option.bind_eq_some_iff.mp h
  refine ev_c 2 (y' := 186) (M1 := ev_M m c w) (la := lv_args 0 [.ref 606]) (rest := []) (pc' := 4) (lv' := [(0, .ref 606)]) (fun n => rfl) (ok_fX11_look hr1) ?_
  show Ev XL xs _ 199 (ev_M r1.2 c w) 4 [(0, .ref 606)] [.int r1.1] _
  refine ev_i 4 (M1 := ev_M r1.2 c w) (pc1 := 11) (lv1 := [(1, .int r1.1), (0, .ref 606)]) (st1 := []) (M2 := ev_M r1.2 c w) (pc2 := 47) (lv2 := [(1, .int r1.1), (0, .ref 606)]) (st2 := []) (fun n => rfl) h (fun hc2 h => ?_) (fun hc2 h => ?_)
  · obtain ⟨r3, hr3, h⟩ := Option.bind_eq_some_iff.mp h
    refine ev_c 2 (y' := 191) (M1 := ev_M r1.2 c w) (la := lv_args 0 [.ref 606]) (rest := []) (pc' := 15) (lv' := [(1, .int r1.1), (0, .ref 606)]) (fun n => rfl) (ok_fX11_opens hr3) ?_
    show Ev XL xs _ 199 (ev_M r3 c w) 15 [(1, .int r1.1), (0, .ref 606)] [] _
    refine ev_i 4 (M1 := ev_M r3 c w) (pc1 := 23) (lv1 := [(1, .int r1.1), (0, .ref 606)]) (st1 := []) (M2 := ev_M r3 c w) (pc2 := 94) (lv2 := [(1, .int r1.1), (0, .ref 606)]) (st2 := []) (fun n => rfl) h (fun hc4 h => ?_) (fun hc4 h => ?_)
    · obtain ⟨r5, hr5, h⟩ := Option.bind_eq_some_iff.mp h
      refine ev_c 2 (y' := 199) (M1 := ev_M r3 c w) (la := lv_args 0 [.ref 606]) (rest := []) (pc' := 27) (lv' := [(1, .int r1.1), (0, .ref 606)]) (fun n => rfl) (hkB 3 _ _ hr5) ?_
      show Ev XL xs _ 199 (ev_M r5 c w) 27 [(1, .int r1.1), (0, .ref 606)] [] _
      obtain ⟨r6, hr6, h⟩ := Option.bind_eq_some_iff.mp h
      refine ev_c 4 (y' := 189) (M1 := ev_M r5 c w) (la := lv_args 0 [.ref 606, .int 9, .int 0]) (rest := []) (pc' := 34) (lv' := [(1, .int r1.1), (0, .ref 606)]) (fun n => rfl) (ok_fX11_put hr6) ?_
      show Ev XL xs _ 199 (ev_M r6 c w) 34 [(1, .int r1.1), (0, .ref 606)] [] _
      refine ev_s 7 (M' := ev_M (wI r6 606 5 (r6.1 606 5 - 1)) c w) (pc' := 94) (lv' := [(1, .int r1.1), (0, .ref 606)]) (st' := []) (fun n => rfl) ?_
      refine ev_sub (lv := []) (mn_of rfl (by repeat (first | exact trivial | refine And.intro rfl ?_))) ?_
      exact ok_fX11_unit_b_c94 hkB h
    · refine ev_sub (lv := []) (mn_of rfl (by repeat (first | exact trivial | refine And.intro rfl ?_))) ?_
      exact ok_fX11_unit_b_c94 hkB h
  · refine ev_i 3 (M1 := ev_M r1.2 c w) (pc1 := 53) (lv1 := [(1, .int r1.1), (0, .ref 606)]) (st1 := []) (M2 := ev_M r1.2 c w) (pc2 := 78) (lv2 := [(1, .int r1.1), (0, .ref 606)]) (st2 := []) (fun n => rfl) h (fun hc7 h => ?_) (fun hc7 h => ?_)
    · obtain ⟨r8, hr8, h⟩ := Option.bind_eq_some_iff.mp h
      refine ev_c 2 (y' := 191) (M1 := ev_M r1.2 c w) (la := lv_args 0 [.ref 606]) (rest := []) (pc' := 57) (lv' := [(1, .int r1.1), (0, .ref 606)]) (fun n => rfl) (ok_fX11_opens hr8) ?_
      show Ev XL xs _ 199 (ev_M r8 c w) 57 [(1, .int r1.1), (0, .ref 606)] [] _
      refine ev_i 4 (M1 := ev_M r8 c w) (pc1 := 65) (lv1 := [(1, .int r1.1), (0, .ref 606)]) (st1 := []) (M2 := ev_M r8 c w) (pc2 := 94) (lv2 := [(1, .int r1.1), (0, .ref 606)]) (st2 := []) (fun n => rfl) h (fun hc9 h => ?_) (fun hc9 h => ?_)
      · obtain ⟨r10, hr10, h⟩ := Option.bind_eq_some_iff.mp h
        refine ev_c 2 (y' := 202) (M1 := ev_M r8 c w) (la := lv_args 0 [.ref 606]) (rest := []) (pc' := 69) (lv' := [(1, .int r1.1), (0, .ref 606)]) (fun n => rfl) (ok_fX11_condition hkB hr10) ?_
        show Ev XL xs _ 199 (ev_M r10 c w) 69 [(1, .int r1.1), (0, .ref 606)] [] _
        obtain ⟨r11, hr11, h⟩ := Option.bind_eq_some_iff.mp h
        refine ev_c 3 (y' := 192) (M1 := ev_M r10 c w) (la := lv_args 0 [.ref 606, .int 41]) (rest := []) (pc' := 75) (lv' := [(1, .int r1.1), (0, .ref 606)]) (fun n => rfl) (ok_fX11_closes hr11) ?_
        show Ev XL xs _ 199 (ev_M r11 c w) 75 [(1, .int r1.1), (0, .ref 606)] [] _
        refine ev_s 1 (M' := ev_M r11 c w) (pc' := 94) (lv' := [(1, .int r1.1), (0, .ref 606)]) (st' := []) (fun n => rfl) ?_
        refine ev_sub (lv := []) (mn_of rfl (by repeat (first | exact trivial | refine And.intro rfl ?_))) ?_
        exact ok_fX11_unit_b_c94 hkB h
      · refine ev_sub (lv := []) (mn_of rfl (by repeat (first | exact trivial | refine And.intro rfl ?_))) ?_
        exact ok_fX11_unit_b_c94 hkB h
    · obtain ⟨r12, hr12, h⟩ := Option.bind_eq_some_iff.mp h
      refine ev_c 2 (y' := 196) (M1 := ev_M r1.2 c w) (la := lv_args 0 [.ref 606]) (rest := []) (pc' := 82) (lv' := [(1, .int r1.1), (0, .ref 606)]) (fun n => rfl) (ok_fX11_sum (d := d) 12 5 _ _ hr12) ?_
      show Ev XL xs _ 199 (ev_M r12 c w) 82 [(1, .int r1.1), (0, .ref 606)] [] _
      refine ev_i 4 (M1 := ev_M r12 c w) (pc1 := 90) (lv1 := [(1, .int r1.1), (0, .ref 606)]) (st1 := []) (M2 := ev_M r12 c w) (pc2 := 94) (lv2 := [(1, .int r1.1), (0, .ref 606)]) (st2 := []) (fun n => rfl) h (fun hc13 h => ?_) (fun hc13 h => ?_)
      · obtain ⟨r14, hr14, h⟩ := Option.bind_eq_some_iff.mp h
        refine ev_c 2 (y' := 198) (M1 := ev_M r12 c w) (la := lv_args 0 [.ref 606]) (rest := []) (pc' := 94) (lv' := [(1, .int r1.1), (0, .ref 606)]) (fun n => rfl) (ok_fX11_compare hr14) ?_
        show Ev XL xs _ 199 (ev_M r14 c w) 94 [(1, .int r1.1), (0, .ref 606)] [] _
        refine ev_sub (lv := []) (mn_of rfl (by repeat (first | exact trivial | refine And.intro rfl ?_))) ?_
        exact ok_fX11_unit_b_c94 hkB h
      · refine ev_sub (lv := []) (mn_of rfl (by repeat (first | exact trivial | refine And.intro rfl ?_))) ?_
        exact ok_fX11_unit_b_c94 hkB h
def fX11_unit : Nat → mm_MM → Option (mm_MM)
  | 0 => fun _ => none
  | n + 1 => fun m => fX11_unit_b (fX11_unit n) m
theorem ok_fX11_unit : ∀ (n j : Nat) (m : mm_MM) (q0 : mm_MM), fX11_unit n m = some q0 → Ev XL xs (d + 4 * n + 41 + j) 199 (ev_M m c w) 0 (lv_args 0 [.ref 606]) [] (fr_v c w q0) := by
  intro n
  induction n with
  | zero => intro j m q0 h; exact absurd (show (none : Option (mm_MM)) = some q0 from h) (by simp)
  | succ n ih =>
    intro j m q0 h
    have h : fX11_unit_b (fX11_unit n) m = some q0 := h
    have g := ok_fX11_unit_b (XL := XL) (xs := xs) (c := c) (w := w) (d := d + 4 * n + j) (fun j2 m q0 h => by
      have i := ih (j + j2) m q0 h
      rwa [show d + 4 * n + 41 + (j + j2) = d + 4 * n + j + 41 + j2 by omega] at i) h
    rwa [show d + 4 * n + j + 45 = d + 4 * (n + 1) + 41 + j by omega] at g

def fX11_clause_c251 (m : mm_MM) (x1 : Int32) : Option (mm_MM) :=
  (if m.1 606 14 < 0 ∨ 5 ≤ (m.1 606 14).toNatClampNeg then none else
   (if x1 < 0 ∨ 700 ≤ x1.toNatClampNeg then none else
    (if m.1 606 14 < 0 ∨ 5 ≤ (m.1 606 14).toNatClampNeg then none else
     (if m.1 606 14 < 0 ∨ 5 ≤ (m.1 606 14).toNatClampNeg then none else
      some (wI (wI m 614 x1.toNatClampNeg (m.1 610 ((m.1 606 14).toNatClampNeg))) 611 ((m.1 606 14).toNatClampNeg) (m.1 611 ((m.1 606 14).toNatClampNeg) + 1))))))
set_option maxRecDepth 20000 in
theorem ok_fX11_clause_c251 {m : mm_MM} {x1 : Int32} {q0 : mm_MM} (h : fX11_clause_c251 m x1 = some q0) : Ev XL xs (d + 93) 203 (ev_M m c w) 251 [(0, .ref 606), (1, .int x1)] [] (fr_v c w q0) := by
  unfold fX11_clause_c251 at h
  refine ev_g 8 (M1 := ev_M m c w) (pc1 := 265) (lv1 := [(0, .ref 606), (1, .int x1)]) (st1 := [.int (m.1 610 ((m.1 606 14).toNatClampNeg)), .int x1, .ref 614]) (fun n => rfl) h (fun _ h => ?_)
  refine ev_g 1 (M1 := ev_M (wI m 614 x1.toNatClampNeg (m.1 610 ((m.1 606 14).toNatClampNeg))) c w) (pc1 := 266) (lv1 := [(0, .ref 606), (1, .int x1)]) (st1 := []) (fun n => rfl) h (fun _ h => ?_)
  refine ev_g 6 (M1 := ev_M (wI m 614 x1.toNatClampNeg (m.1 610 ((m.1 606 14).toNatClampNeg))) c w) (pc1 := 276) (lv1 := [(0, .ref 606), (1, .int x1)]) (st1 := [.int (m.1 611 ((m.1 606 14).toNatClampNeg)), .int (m.1 606 14), .ref 611]) (fun n => rfl) h (fun _ h => ?_)
  refine ev_g 3 (M1 := ev_M (wI (wI m 614 x1.toNatClampNeg (m.1 610 ((m.1 606 14).toNatClampNeg))) 611 ((m.1 606 14).toNatClampNeg) (m.1 611 ((m.1 606 14).toNatClampNeg) + 1)) c w) (pc1 := 279) (lv1 := [(0, .ref 606), (1, .int x1)]) (st1 := []) (fun n => rfl) h (fun _ h => ?_)
  cases h
  exact ev_r 1 (fun n => rfl)
def fX11_clause_c184 (m : mm_MM) (x1 : Int32) (x2 : Int32) : Option (mm_MM) :=
  (if x1 < 0 ∨ 700 ≤ x1.toNatClampNeg then none else
   (if x1 < 0 ∨ 700 ≤ x1.toNatClampNeg then none else
    (if x2 = 0 then
      fX11_clause_c251 (wI m 613 x1.toNatClampNeg (m.1 612 x1.toNatClampNeg)) x1
     else
      (if m.1 606 4 = ((-1) : Int32) then
        (fX11_look (wI m 613 x1.toNatClampNeg (m.1 612 x1.toNatClampNeg))).bind fun r3 =>
         (if r3.1 = 63 then
           (if r3.2.1 606 14 < 0 ∨ 5 ≤ (r3.2.1 606 14).toNatClampNeg then none else
            (if x1 < 0 ∨ 700 ≤ x1.toNatClampNeg then none else
             (fX11_sum 12 (wI (wI r3.2 606 3 (r3.2.1 606 3 + 1)) 613 x1.toNatClampNeg (r3.2.1 610 ((r3.2.1 606 14).toNatClampNeg)))).bind fun r5 =>
              fX11_clause_c251 r5 x1))
          else
           (fX11_bad r3.2).bind fun r6 =>
            some r6)
       else
        fX11_clause_c251 (wI m 613 x1.toNatClampNeg (m.1 612 x1.toNatClampNeg)) x1))))
set_option maxRecDepth 20000 in
theorem ok_fX11_clause_c184 {m : mm_MM} {x1 : Int32} {x2 : Int32} {q0 : mm_MM} (h : fX11_clause_c184 m x1 x2 = some q0) : Ev XL xs (d + 93) 203 (ev_M m c w) 184 [(0, .ref 606), (1, .int x1), (2, .int x2)] [] (fr_v c w q0) := by
  unfold fX11_clause_c184 at h
  refine ev_g 7 (M1 := ev_M m c w) (pc1 := 195) (lv1 := [(0, .ref 606), (1, .int x1), (2, .int x2)]) (st1 := [.int (m.1 612 x1.toNatClampNeg), .int x1, .ref 613]) (fun n => rfl) h (fun _ h => ?_)
  refine ev_g 1 (M1 := ev_M (wI m 613 x1.toNatClampNeg (m.1 612 x1.toNatClampNeg)) c w) (pc1 := 196) (lv1 := [(0, .ref 606), (1, .int x1), (2, .int x2)]) (st1 := []) (fun n => rfl) h (fun _ h => ?_)
  refine ev_i 2 (M1 := ev_M (wI m 613 x1.toNatClampNeg (m.1 612 x1.toNatClampNeg)) c w) (pc1 := 251) (lv1 := [(0, .ref 606), (1, .int x1), (2, .int x2)]) (st1 := []) (M2 := ev_M (wI m 613 x1.toNatClampNeg (m.1 612 x1.toNatClampNeg)) c w) (pc2 := 200) (lv2 := [(0, .ref 606), (1, .int x1), (2, .int x2)]) (st2 := []) (fun n => rfl) h (fun hc1 h => ?_) (fun hc1 h => ?_)
  · refine ev_sub (lv := [(0, .ref 606), (1, .int x1)]) (mn_of rfl (by repeat (first | exact trivial | refine And.intro rfl ?_))) ?_
    exact ok_fX11_clause_c251 h
  · refine ev_i 4 (M1 := ev_M (wI m 613 x1.toNatClampNeg (m.1 612 x1.toNatClampNeg)) c w) (pc1 := 208) (lv1 := [(0, .ref 606), (1, .int x1), (2, .int x2)]) (st1 := []) (M2 := ev_M (wI m 613 x1.toNatClampNeg (m.1 612 x1.toNatClampNeg)) c w) (pc2 := 251) (lv2 := [(0, .ref 606), (1, .int x1), (2, .int x2)]) (st2 := []) (fun n => rfl) h (fun hc2 h => ?_) (fun hc2 h => ?_)
    · obtain ⟨r3, hr3, h⟩ := Option.bind_eq_some_iff.mp h
      refine ev_c 2 (y' := 186) (M1 := ev_M (wI m 613 x1.toNatClampNeg (m.1 612 x1.toNatClampNeg)) c w) (la := lv_args 0 [.ref 606]) (rest := []) (pc' := 212) (lv' := [(0, .ref 606), (1, .int x1), (2, .int x2)]) (fun n => rfl) (ok_fX11_look hr3) ?_
      show Ev XL xs _ 203 (ev_M r3.2 c w) 212 [(0, .ref 606), (1, .int x1), (2, .int x2)] [.int r3.1] _
      refine ev_i 2 (M1 := ev_M r3.2 c w) (pc1 := 222) (lv1 := [(0, .ref 606), (1, .int x1), (2, .int x2)]) (st1 := []) (M2 := ev_M r3.2 c w) (pc2 := 217) (lv2 := [(0, .ref 606), (1, .int x1), (2, .int x2)]) (st2 := []) (fun n => rfl) h (fun hc4 h => ?_) (fun hc4 h => ?_)
      · refine ev_g 14 (M1 := ev_M (wI r3.2 606 3 (r3.2.1 606 3 + 1)) c w) (pc1 := 246) (lv1 := [(0, .ref 606), (1, .int x1), (2, .int x2)]) (st1 := [.int (r3.2.1 610 ((r3.2.1 606 14).toNatClampNeg)), .int x1, .ref 613]) (fun n => rfl) h (fun _ h => ?_)
        refine ev_g 1 (M1 := ev_M (wI (wI r3.2 606 3 (r3.2.1 606 3 + 1)) 613 x1.toNatClampNeg (r3.2.1 610 ((r3.2.1 606 14).toNatClampNeg))) c w) (pc1 := 247) (lv1 := [(0, .ref 606), (1, .int x1), (2, .int x2)]) (st1 := []) (fun n => rfl) h (fun _ h => ?_)
        obtain ⟨r5, hr5, h⟩ := Option.bind_eq_some_iff.mp h
        refine ev_c 2 (y' := 196) (M1 := ev_M (wI (wI r3.2 606 3 (r3.2.1 606 3 + 1)) 613 x1.toNatClampNeg (r3.2.1 610 ((r3.2.1 606 14).toNatClampNeg))) c w) (la := lv_args 0 [.ref 606]) (rest := []) (pc' := 251) (lv' := [(0, .ref 606), (1, .int x1), (2, .int x2)]) (fun n => rfl) (ok_fX11_sum (d := d) 12 53 _ _ hr5) ?_
        show Ev XL xs _ 203 (ev_M r5 c w) 251 [(0, .ref 606), (1, .int x1), (2, .int x2)] [] _
        refine ev_sub (lv := [(0, .ref 606), (1, .int x1)]) (mn_of rfl (by repeat (first | exact trivial | refine And.intro rfl ?_))) ?_
        exact ok_fX11_clause_c251 h
      · obtain ⟨r6, hr6, h⟩ := Option.bind_eq_some_iff.mp h
        refine ev_c 2 (y' := 187) (M1 := ev_M r3.2 c w) (la := lv_args 0 [.ref 606]) (rest := []) (pc' := 221) (lv' := [(0, .ref 606), (1, .int x1), (2, .int x2)]) (fun n => rfl) (ok_fX11_bad hr6) ?_
        show Ev XL xs _ 203 (ev_M r6 c w) 221 [(0, .ref 606), (1, .int x1), (2, .int x2)] [] _
        cases h
        exact ev_r 1 (fun n => rfl)
    · refine ev_sub (lv := [(0, .ref 606), (1, .int x1)]) (mn_of rfl (by repeat (first | exact trivial | refine And.intro rfl ?_))) ?_
      exact ok_fX11_clause_c251 h
def fX11_clause_c167 (m : mm_MM) (x1 : Int32) (s0 : Int32) : Option (mm_MM) :=
  (if s0 = 0 then
    fX11_clause_c184 m x1 s0
   else
    (fX11_compare m).bind fun r2 =>
     (fX11_goOnAnd (fX11_unit 12) r2).bind fun r3 =>
      (fX11_goOnOr (fX11_unit 12) r3).bind fun r4 =>
       fX11_clause_c184 r4 x1 s0)
set_option maxRecDepth 20000 in
theorem ok_fX11_clause_c167 {m : mm_MM} {x1 : Int32} {s0 : Int32} {q0 : mm_MM} (h : fX11_clause_c167 m x1 s0 = some q0) : Ev XL xs (d + 93) 203 (ev_M m c w) 167 [(0, .ref 606), (1, .int x1)] [.int s0] (fr_v c w q0) := by
  unfold fX11_clause_c167 at h
  refine ev_i 3 (M1 := ev_M m c w) (pc1 := 184) (lv1 := [(2, .int s0), (0, .ref 606), (1, .int x1)]) (st1 := []) (M2 := ev_M m c w) (pc2 := 172) (lv2 := [(2, .int s0), (0, .ref 606), (1, .int x1)]) (st2 := []) (fun n => rfl) h (fun hc1 h => ?_) (fun hc1 h => ?_)
  · refine ev_sub (lv := [(0, .ref 606), (1, .int x1), (2, .int s0)]) (mn_of rfl (by repeat (first | exact trivial | refine And.intro rfl ?_))) ?_
    exact ok_fX11_clause_c184 h
  · obtain ⟨r2, hr2, h⟩ := Option.bind_eq_some_iff.mp h
    refine ev_c 2 (y' := 198) (M1 := ev_M m c w) (la := lv_args 0 [.ref 606]) (rest := []) (pc' := 176) (lv' := [(2, .int s0), (0, .ref 606), (1, .int x1)]) (fun n => rfl) (ok_fX11_compare hr2) ?_
    show Ev XL xs _ 203 (ev_M r2 c w) 176 [(2, .int s0), (0, .ref 606), (1, .int x1)] [] _
    obtain ⟨r3, hr3, h⟩ := Option.bind_eq_some_iff.mp h
    refine ev_c 2 (y' := 200) (M1 := ev_M r2 c w) (la := lv_args 0 [.ref 606]) (rest := []) (pc' := 180) (lv' := [(2, .int s0), (0, .ref 606), (1, .int x1)]) (fun n => rfl) (ok_fX11_goOnAnd (d := (d + 2) + 4 * 12) (fun j => ok_fX11_unit (d := (d + 2)) 12 j) hr3) ?_
    show Ev XL xs _ 203 (ev_M r3 c w) 180 [(2, .int s0), (0, .ref 606), (1, .int x1)] [] _
    obtain ⟨r4, hr4, h⟩ := Option.bind_eq_some_iff.mp h
    refine ev_c 2 (y' := 201) (M1 := ev_M r3 c w) (la := lv_args 0 [.ref 606]) (rest := []) (pc' := 184) (lv' := [(2, .int s0), (0, .ref 606), (1, .int x1)]) (fun n => rfl) (ok_fX11_goOnOr (d := (d + 1) + 4 * 12) (fun j => ok_fX11_unit (d := (d + 1)) 12 j) hr4) ?_
    show Ev XL xs _ 203 (ev_M r4 c w) 184 [(2, .int s0), (0, .ref 606), (1, .int x1)] [] _
    refine ev_sub (lv := [(0, .ref 606), (1, .int x1), (2, .int s0)]) (mn_of rfl (by repeat (first | exact trivial | refine And.intro rfl ?_))) ?_
    exact ok_fX11_clause_c184 h
def fX11_clause_c166 (m : mm_MM) (x1 : Int32) : Option (mm_MM) :=
  fX11_clause_c167 m x1 0
set_option maxRecDepth 20000 in
theorem ok_fX11_clause_c166 {m : mm_MM} {x1 : Int32} {q0 : mm_MM} (h : fX11_clause_c166 m x1 = some q0) : Ev XL xs (d + 93) 203 (ev_M m c w) 166 [(0, .ref 606), (1, .int x1)] [] (fr_v c w q0) := by
  unfold fX11_clause_c166 at h
  refine ev_s 1 (M' := ev_M m c w) (pc' := 167) (lv' := [(0, .ref 606), (1, .int x1)]) (st' := [.int 0]) (fun n => rfl) ?_
  exact ok_fX11_clause_c167 h
def fX11_clause_c128 (m : mm_MM) (x1 : Int32) (s0 : Int32) : Option (mm_MM) :=
  (if s0 = 0 then
    (fX11_sum 12 m).bind fun r2 =>
     (if r2.1 606 4 = ((-1) : Int32) then
       (fX11_look r2).bind fun r4 =>
        (fX11_isSign r4.2 r4.1).bind fun r5 =>
         (if r5.1 = 0 then
           fX11_clause_c166 r5.2 x1
          else
           fX11_clause_c167 r5.2 x1 1)
      else
       fX11_clause_c166 r2 x1)
   else
    (fX11_condition (fX11_unit 12) m).bind fun r7 =>
     fX11_clause_c184 r7 x1 s0)
set_option maxRecDepth 20000 in
theorem ok_fX11_clause_c128 {m : mm_MM} {x1 : Int32} {s0 : Int32} {q0 : mm_MM} (h : fX11_clause_c128 m x1 s0 = some q0) : Ev XL xs (d + 93) 203 (ev_M m c w) 128 [(0, .ref 606), (1, .int x1)] [.int s0] (fr_v c w q0) := by
  unfold fX11_clause_c128 at h
  refine ev_i 3 (M1 := ev_M m c w) (pc1 := 140) (lv1 := [(2, .int s0), (0, .ref 606), (1, .int x1)]) (st1 := []) (M2 := ev_M m c w) (pc2 := 133) (lv2 := [(2, .int s0), (0, .ref 606), (1, .int x1)]) (st2 := []) (fun n => rfl) h (fun hc1 h => ?_) (fun hc1 h => ?_)
  · obtain ⟨r2, hr2, h⟩ := Option.bind_eq_some_iff.mp h
    refine ev_c 2 (y' := 196) (M1 := ev_M m c w) (la := lv_args 0 [.ref 606]) (rest := []) (pc' := 144) (lv' := [(2, .int s0), (0, .ref 606), (1, .int x1)]) (fun n => rfl) (ok_fX11_sum (d := d) 12 53 _ _ hr2) ?_
    show Ev XL xs _ 203 (ev_M r2 c w) 144 [(2, .int s0), (0, .ref 606), (1, .int x1)] [] _
    refine ev_i 4 (M1 := ev_M r2 c w) (pc1 := 152) (lv1 := [(2, .int s0), (0, .ref 606), (1, .int x1)]) (st1 := []) (M2 := ev_M r2 c w) (pc2 := 166) (lv2 := [(2, .int s0), (0, .ref 606), (1, .int x1)]) (st2 := []) (fun n => rfl) h (fun hc3 h => ?_) (fun hc3 h => ?_)
    · obtain ⟨r4, hr4, h⟩ := Option.bind_eq_some_iff.mp h
      refine ev_c 2 (y' := 186) (M1 := ev_M r2 c w) (la := lv_args 0 [.ref 606]) (rest := []) (pc' := 156) (lv' := [(2, .int s0), (0, .ref 606), (1, .int x1)]) (fun n => rfl) (ok_fX11_look hr4) ?_
      show Ev XL xs _ 203 (ev_M r4.2 c w) 156 [(2, .int s0), (0, .ref 606), (1, .int x1)] [.int r4.1] _
      obtain ⟨r5, hr5, h⟩ := Option.bind_eq_some_iff.mp h
      refine ev_c 1 (y' := 197) (M1 := ev_M r4.2 c w) (la := lv_args 0 [.int r4.1]) (rest := []) (pc' := 159) (lv' := [(2, .int s0), (0, .ref 606), (1, .int x1)]) (fun n => rfl) (ok_fX11_isSign hr5) ?_
      show Ev XL xs _ 203 (ev_M r5.2 c w) 159 [(2, .int s0), (0, .ref 606), (1, .int x1)] [.int r5.1] _
      refine ev_i 1 (M1 := ev_M r5.2 c w) (pc1 := 166) (lv1 := [(2, .int s0), (0, .ref 606), (1, .int x1)]) (st1 := []) (M2 := ev_M r5.2 c w) (pc2 := 162) (lv2 := [(2, .int s0), (0, .ref 606), (1, .int x1)]) (st2 := []) (fun n => rfl) h (fun hc6 h => ?_) (fun hc6 h => ?_)
      · refine ev_sub (lv := [(0, .ref 606), (1, .int x1)]) (mn_of rfl (by repeat (first | exact trivial | refine And.intro rfl ?_))) ?_
        exact ok_fX11_clause_c166 h
      · refine ev_s 2 (M' := ev_M r5.2 c w) (pc' := 167) (lv' := [(2, .int s0), (0, .ref 606), (1, .int x1)]) (st' := [.int 1]) (fun n => rfl) ?_
        refine ev_sub (lv := [(0, .ref 606), (1, .int x1)]) (mn_of rfl (by repeat (first | exact trivial | refine And.intro rfl ?_))) ?_
        exact ok_fX11_clause_c167 h
    · refine ev_sub (lv := [(0, .ref 606), (1, .int x1)]) (mn_of rfl (by repeat (first | exact trivial | refine And.intro rfl ?_))) ?_
      exact ok_fX11_clause_c166 h
  · obtain ⟨r7, hr7, h⟩ := Option.bind_eq_some_iff.mp h
    refine ev_c 2 (y' := 202) (M1 := ev_M m c w) (la := lv_args 0 [.ref 606]) (rest := []) (pc' := 137) (lv' := [(2, .int s0), (0, .ref 606), (1, .int x1)]) (fun n => rfl) (ok_fX11_condition (d := d + 4 * 12) (fun j => ok_fX11_unit (d := d) 12 j) hr7) ?_
    show Ev XL xs _ 203 (ev_M r7 c w) 137 [(2, .int s0), (0, .ref 606), (1, .int x1)] [] _
    refine ev_s 1 (M' := ev_M r7 c w) (pc' := 184) (lv' := [(2, .int s0), (0, .ref 606), (1, .int x1)]) (st' := []) (fun n => rfl) ?_
    refine ev_sub (lv := [(0, .ref 606), (1, .int x1), (2, .int s0)]) (mn_of rfl (by repeat (first | exact trivial | refine And.intro rfl ?_))) ?_
    exact ok_fX11_clause_c184 h
def fX11_clause_c123 (m : mm_MM) (x1 : Int32) : Option (mm_MM) :=
  fX11_clause_c128 m x1 1
set_option maxRecDepth 20000 in
theorem ok_fX11_clause_c123 {m : mm_MM} {x1 : Int32} {q0 : mm_MM} (h : fX11_clause_c123 m x1 = some q0) : Ev XL xs (d + 93) 203 (ev_M m c w) 123 [(0, .ref 606), (1, .int x1)] [] (fr_v c w q0) := by
  unfold fX11_clause_c123 at h
  refine ev_s 2 (M' := ev_M m c w) (pc' := 128) (lv' := [(0, .ref 606), (1, .int x1)]) (st' := [.int 1]) (fun n => rfl) ?_
  exact ok_fX11_clause_c128 h
def fX11_clause_c71 (m : mm_MM) (x1 : Int32) : Option (mm_MM) :=
  (if m.1 606 4 = ((-1) : Int32) then
    (if m.1 606 14 < 0 ∨ 5 ≤ (m.1 606 14).toNatClampNeg then none else
     (if x1 < 0 ∨ 700 ≤ x1.toNatClampNeg then none else
      (fX11_look (wI (wI m 606 3 (m.1 606 3 + 1)) 612 x1.toNatClampNeg (m.1 610 ((m.1 606 14).toNatClampNeg)))).bind fun r2 =>
       (if r2.1 = 33 then
         fX11_clause_c123 r2.2 x1
        else
         (fX11_look r2.2).bind fun r4 =>
          (if r4.1 = 40 then
            fX11_clause_c123 r4.2 x1
           else
            fX11_clause_c128 r4.2 x1 0))))
   else
    some (wI m 606 3 (m.1 606 3 + 1)))
set_option maxRecDepth 20000 in
theorem ok_fX11_clause_c71 {m : mm_MM} {x1 : Int32} {q0 : mm_MM} (h : fX11_clause_c71 m x1 = some q0) : Ev XL xs (d + 93) 203 (ev_M m c w) 71 [(0, .ref 606), (1, .int x1)] [] (fr_v c w q0) := by
  unfold fX11_clause_c71 at h
  refine ev_i 10 (M1 := ev_M (wI m 606 3 (m.1 606 3 + 1)) c w) (pc1 := 90) (lv1 := [(0, .ref 606), (1, .int x1)]) (st1 := []) (M2 := ev_M (wI m 606 3 (m.1 606 3 + 1)) c w) (pc2 := 89) (lv2 := [(0, .ref 606), (1, .int x1)]) (st2 := []) (fun n => rfl) h (fun hc1 h => ?_) (fun hc1 h => ?_)
  · refine ev_g 8 (M1 := ev_M (wI m 606 3 (m.1 606 3 + 1)) c w) (pc1 := 104) (lv1 := [(0, .ref 606), (1, .int x1)]) (st1 := [.int (m.1 610 ((m.1 606 14).toNatClampNeg)), .int x1, .ref 612]) (fun n => rfl) h (fun _ h => ?_)
    refine ev_g 1 (M1 := ev_M (wI (wI m 606 3 (m.1 606 3 + 1)) 612 x1.toNatClampNeg (m.1 610 ((m.1 606 14).toNatClampNeg))) c w) (pc1 := 105) (lv1 := [(0, .ref 606), (1, .int x1)]) (st1 := []) (fun n => rfl) h (fun _ h => ?_)
    obtain ⟨r2, hr2, h⟩ := Option.bind_eq_some_iff.mp h
    refine ev_c 2 (y' := 186) (M1 := ev_M (wI (wI m 606 3 (m.1 606 3 + 1)) 612 x1.toNatClampNeg (m.1 610 ((m.1 606 14).toNatClampNeg))) c w) (la := lv_args 0 [.ref 606]) (rest := []) (pc' := 109) (lv' := [(0, .ref 606), (1, .int x1)]) (fun n => rfl) (ok_fX11_look hr2) ?_
    show Ev XL xs _ 203 (ev_M r2.2 c w) 109 [(0, .ref 606), (1, .int x1)] [.int r2.1] _
    refine ev_i 2 (M1 := ev_M r2.2 c w) (pc1 := 123) (lv1 := [(0, .ref 606), (1, .int x1)]) (st1 := []) (M2 := ev_M r2.2 c w) (pc2 := 114) (lv2 := [(0, .ref 606), (1, .int x1)]) (st2 := []) (fun n => rfl) h (fun hc3 h => ?_) (fun hc3 h => ?_)
    · exact ok_fX11_clause_c123 h
    · obtain ⟨r4, hr4, h⟩ := Option.bind_eq_some_iff.mp h
      refine ev_c 2 (y' := 186) (M1 := ev_M r2.2 c w) (la := lv_args 0 [.ref 606]) (rest := []) (pc' := 118) (lv' := [(0, .ref 606), (1, .int x1)]) (fun n => rfl) (ok_fX11_look hr4) ?_
      show Ev XL xs _ 203 (ev_M r4.2 c w) 118 [(0, .ref 606), (1, .int x1)] [.int r4.1] _
      refine ev_i 2 (M1 := ev_M r4.2 c w) (pc1 := 123) (lv1 := [(0, .ref 606), (1, .int x1)]) (st1 := []) (M2 := ev_M r4.2 c w) (pc2 := 127) (lv2 := [(0, .ref 606), (1, .int x1)]) (st2 := []) (fun n => rfl) h (fun hc5 h => ?_) (fun hc5 h => ?_)
      · exact ok_fX11_clause_c123 h
      · refine ev_s 1 (M' := ev_M r4.2 c w) (pc' := 128) (lv' := [(0, .ref 606), (1, .int x1)]) (st' := [.int 0]) (fun n => rfl) ?_
        exact ok_fX11_clause_c128 h
  · cases h
    exact ev_r 1 (fun n => rfl)
def fX11_clause_c40 (m : mm_MM) (x1 : Int32) : Option (mm_MM) :=
  (if m.1 606 4 = ((-1) : Int32) then
    (fX11_look (wI m 606 3 (m.1 606 3 + 1))).bind fun r2 =>
     (if r2.1 = 58 then
       fX11_clause_c71 r2.2 x1
      else
       (fX11_bad r2.2).bind fun r4 =>
        fX11_clause_c71 r4 x1)
   else
    fX11_clause_c71 (wI m 606 3 (m.1 606 3 + 1)) x1)
set_option maxRecDepth 20000 in
theorem ok_fX11_clause_c40 {m : mm_MM} {x1 : Int32} {q0 : mm_MM} (h : fX11_clause_c40 m x1 = some q0) : Ev XL xs (d + 93) 203 (ev_M m c w) 40 [(0, .ref 606), (1, .int x1)] [] (fr_v c w q0) := by
  unfold fX11_clause_c40 at h
  refine ev_i 10 (M1 := ev_M (wI m 606 3 (m.1 606 3 + 1)) c w) (pc1 := 58) (lv1 := [(0, .ref 606), (1, .int x1)]) (st1 := []) (M2 := ev_M (wI m 606 3 (m.1 606 3 + 1)) c w) (pc2 := 71) (lv2 := [(0, .ref 606), (1, .int x1)]) (st2 := []) (fun n => rfl) h (fun hc1 h => ?_) (fun hc1 h => ?_)
  · obtain ⟨r2, hr2, h⟩ := Option.bind_eq_some_iff.mp h
    refine ev_c 2 (y' := 186) (M1 := ev_M (wI m 606 3 (m.1 606 3 + 1)) c w) (la := lv_args 0 [.ref 606]) (rest := []) (pc' := 62) (lv' := [(0, .ref 606), (1, .int x1)]) (fun n => rfl) (ok_fX11_look hr2) ?_
    show Ev XL xs _ 203 (ev_M r2.2 c w) 62 [(0, .ref 606), (1, .int x1)] [.int r2.1] _
    refine ev_i 2 (M1 := ev_M r2.2 c w) (pc1 := 71) (lv1 := [(0, .ref 606), (1, .int x1)]) (st1 := []) (M2 := ev_M r2.2 c w) (pc2 := 67) (lv2 := [(0, .ref 606), (1, .int x1)]) (st2 := []) (fun n => rfl) h (fun hc3 h => ?_) (fun hc3 h => ?_)
    · exact ok_fX11_clause_c71 h
    · obtain ⟨r4, hr4, h⟩ := Option.bind_eq_some_iff.mp h
      refine ev_c 2 (y' := 187) (M1 := ev_M r2.2 c w) (la := lv_args 0 [.ref 606]) (rest := []) (pc' := 71) (lv' := [(0, .ref 606), (1, .int x1)]) (fun n => rfl) (ok_fX11_bad hr4) ?_
      show Ev XL xs _ 203 (ev_M r4 c w) 71 [(0, .ref 606), (1, .int x1)] [] _
      exact ok_fX11_clause_c71 h
  · exact ok_fX11_clause_c71 h
def fX11_clause (m : mm_MM) : Option (mm_MM) :=
  (if m.1 606 14 < 0 ∨ 5 ≤ (m.1 606 14).toNatClampNeg then none else
   (if m.1 606 4 = ((-1) : Int32) then
     (fX11_look m).bind fun r2 =>
      (if r2.1 = 121 then
        fX11_clause_c40 r2.2 ((140 * m.1 606 14) + m.1 611 ((m.1 606 14).toNatClampNeg))
       else
        (fX11_bad r2.2).bind fun r4 =>
         fX11_clause_c40 r4 ((140 * m.1 606 14) + m.1 611 ((m.1 606 14).toNatClampNeg)))
    else
     fX11_clause_c40 m ((140 * m.1 606 14) + m.1 611 ((m.1 606 14).toNatClampNeg))))
set_option maxRecDepth 20000 in
theorem ok_fX11_clause {m : mm_MM} {q0 : mm_MM} (h : fX11_clause m = some q0) : Ev XL xs (d + 93) 203 (ev_M m c w) 0 (lv_args 0 [.ref 606]) [] (fr_v c w q0) := by
  unfold fX11_clause at h
  refine ev_g 9 (M1 := ev_M m c w) (pc1 := 17) (lv1 := [(0, .ref 606)]) (st1 := [.int (m.1 611 ((m.1 606 14).toNatClampNeg)), .int (140 * m.1 606 14)]) (fun n => rfl) h (fun _ h => ?_)
  refine ev_i 6 (M1 := ev_M m c w) (pc1 := 27) (lv1 := [(1, .int ((140 * m.1 606 14) + m.1 611 ((m.1 606 14).toNatClampNeg))), (0, .ref 606)]) (st1 := []) (M2 := ev_M m c w) (pc2 := 40) (lv2 := [(1, .int ((140 * m.1 606 14) + m.1 611 ((m.1 606 14).toNatClampNeg))), (0, .ref 606)]) (st2 := []) (fun n => rfl) h (fun hc1 h => ?_) (fun hc1 h => ?_)
  · obtain ⟨r2, hr2, h⟩ := Option.bind_eq_some_iff.mp h
    refine ev_c 2 (y' := 186) (M1 := ev_M m c w) (la := lv_args 0 [.ref 606]) (rest := []) (pc' := 31) (lv' := [(1, .int ((140 * m.1 606 14) + m.1 611 ((m.1 606 14).toNatClampNeg))), (0, .ref 606)]) (fun n => rfl) (ok_fX11_look hr2) ?_
    show Ev XL xs _ 203 (ev_M r2.2 c w) 31 [(1, .int ((140 * m.1 606 14) + m.1 611 ((m.1 606 14).toNatClampNeg))), (0, .ref 606)] [.int r2.1] _
    refine ev_i 2 (M1 := ev_M r2.2 c w) (pc1 := 40) (lv1 := [(1, .int ((140 * m.1 606 14) + m.1 611 ((m.1 606 14).toNatClampNeg))), (0, .ref 606)]) (st1 := []) (M2 := ev_M r2.2 c w) (pc2 := 36) (lv2 := [(1, .int ((140 * m.1 606 14) + m.1 611 ((m.1 606 14).toNatClampNeg))), (0, .ref 606)]) (st2 := []) (fun n => rfl) h (fun hc3 h => ?_) (fun hc3 h => ?_)
    · refine ev_sub (lv := [(0, .ref 606), (1, .int ((140 * m.1 606 14) + m.1 611 ((m.1 606 14).toNatClampNeg)))]) (mn_of rfl (by repeat (first | exact trivial | refine And.intro rfl ?_))) ?_
      exact ok_fX11_clause_c40 h
    · obtain ⟨r4, hr4, h⟩ := Option.bind_eq_some_iff.mp h
      refine ev_c 2 (y' := 187) (M1 := ev_M r2.2 c w) (la := lv_args 0 [.ref 606]) (rest := []) (pc' := 40) (lv' := [(1, .int ((140 * m.1 606 14) + m.1 611 ((m.1 606 14).toNatClampNeg))), (0, .ref 606)]) (fun n => rfl) (ok_fX11_bad hr4) ?_
      show Ev XL xs _ 203 (ev_M r4 c w) 40 [(1, .int ((140 * m.1 606 14) + m.1 611 ((m.1 606 14).toNatClampNeg))), (0, .ref 606)] [] _
      refine ev_sub (lv := [(0, .ref 606), (1, .int ((140 * m.1 606 14) + m.1 611 ((m.1 606 14).toNatClampNeg)))]) (mn_of rfl (by repeat (first | exact trivial | refine And.intro rfl ?_))) ?_
      exact ok_fX11_clause_c40 h
  · refine ev_sub (lv := [(0, .ref 606), (1, .int ((140 * m.1 606 14) + m.1 611 ((m.1 606 14).toNatClampNeg)))]) (mn_of rfl (by repeat (first | exact trivial | refine And.intro rfl ?_))) ?_
    exact ok_fX11_clause_c40 h
def fX11_readLaw_c43 (m : mm_MM) : Option (Int32 × mm_MM) :=
  (fX11_atEnd m).bind fun r1 =>
   some (r1.1, r1.2)
theorem ok_fX11_readLaw_c43 {m : mm_MM} {q0 : Int32 × mm_MM} (h : fX11_readLaw_c43 m = some q0) : Ev XL xs (d + 94) 206 (ev_M m c w) 43 [(0, .ref 606)] [] (fr_i c w q0) := by
  unfold fX11_readLaw_c43 at h
  obtain ⟨r1, hr1, h⟩ := Option.bind_eq_some_iff.mp h
  refine ev_c 2 (y' := 205) (M1 := ev_M m c w) (la := lv_args 0 [.ref 606]) (rest := []) (pc' := 47) (lv' := [(0, .ref 606)]) (fun n => rfl) (ok_fX11_atEnd hr1) ?_
  show Ev XL xs _ 206 (ev_M r1.2 c w) 47 [(0, .ref 606)] [.int r1.1] _
  cases h
  exact ev_r 1 (fun n => rfl)
def fX11_readLaw_c9 : Nat → mm_MM → Option (Int32 × mm_MM)
  | 0 => fun _ => none
  | n + 1 => fun m =>
    (if m.1 606 4 = ((-1) : Int32) then
      (fX11_look m).bind fun r2 =>
       (if r2.1 = 59 then
         (fX11_clause (wI r2.2 606 3 (r2.2.1 606 3 + 1))).bind fun r4 =>
          fX11_readLaw_c9 n r4
        else
         fX11_readLaw_c43 r2.2)
     else
      fX11_readLaw_c43 m)
theorem ok_fX11_readLaw_c9 : ∀ (n : Nat) (m : mm_MM) (q0 : Int32 × mm_MM), fX11_readLaw_c9 n m = some q0 → Ev XL xs (d + 94) 206 (ev_M m c w) 9 [(0, .ref 606)] [] (fr_i c w q0) := by
  intro n
  induction n with
  | zero => intro m q0 h; exact absurd (show (none : Option (Int32 × mm_MM)) = some q0 from h) (by simp)
  | succ n ih =>
    intro m q0 h
    unfold fX11_readLaw_c9 at h
    refine ev_i 4 (M1 := ev_M m c w) (pc1 := 17) (lv1 := [(0, .ref 606)]) (st1 := []) (M2 := ev_M m c w) (pc2 := 43) (lv2 := [(0, .ref 606)]) (st2 := []) (fun n => rfl) h (fun hc1 h => ?_) (fun hc1 h => ?_)
    · obtain ⟨r2, hr2, h⟩ := Option.bind_eq_some_iff.mp h
      refine ev_c 2 (y' := 186) (M1 := ev_M m c w) (la := lv_args 0 [.ref 606]) (rest := []) (pc' := 21) (lv' := [(0, .ref 606)]) (fun n => rfl) (ok_fX11_look hr2) ?_
      show Ev XL xs _ 206 (ev_M r2.2 c w) 21 [(0, .ref 606)] [.int r2.1] _
      refine ev_i 2 (M1 := ev_M r2.2 c w) (pc1 := 26) (lv1 := [(0, .ref 606)]) (st1 := []) (M2 := ev_M r2.2 c w) (pc2 := 43) (lv2 := [(0, .ref 606)]) (st2 := []) (fun n => rfl) h (fun hc3 h => ?_) (fun hc3 h => ?_)
      · obtain ⟨r4, hr4, h⟩ := Option.bind_eq_some_iff.mp h
        refine ev_c 8 (y' := 203) (M1 := ev_M (wI r2.2 606 3 (r2.2.1 606 3 + 1)) c w) (la := lv_args 0 [.ref 606]) (rest := []) (pc' := 40) (lv' := [(0, .ref 606)]) (fun n => rfl) (ok_fX11_clause hr4) ?_
        show Ev XL xs _ 206 (ev_M r4 c w) 40 [(0, .ref 606)] [] _
        refine ev_s 1 (M' := ev_M r4 c w) (pc' := 9) (lv' := [(0, .ref 606)]) (st' := []) (fun n => rfl) ?_
        exact ih _ _ h
      · exact ok_fX11_readLaw_c43 h
    · exact ok_fX11_readLaw_c43 h
def fX11_readLaw (m : mm_MM) (x1 : Int32) : Option (Int32 × mm_MM) :=
  (fX11_open m x1).bind fun r1 =>
   (fX11_clause r1).bind fun r2 =>
    fX11_readLaw_c9 fu r2
theorem ok_fX11_readLaw {m : mm_MM} {x1 : Int32} {q0 : Int32 × mm_MM} (h : fX11_readLaw m x1 = some q0) : Ev XL xs (d + 94) 206 (ev_M m c w) 0 (lv_args 0 [.ref 606, .int x1]) [] (fr_i c w q0) := by
  unfold fX11_readLaw at h
  obtain ⟨r1, hr1, h⟩ := Option.bind_eq_some_iff.mp h
  refine ev_c 3 (y' := 204) (M1 := ev_M m c w) (la := lv_args 0 [.ref 606, .int x1]) (rest := []) (pc' := 5) (lv' := [(0, .ref 606), (1, .int x1)]) (fun n => rfl) (ok_fX11_open hr1) ?_
  show Ev XL xs _ 206 (ev_M r1 c w) 5 [(0, .ref 606), (1, .int x1)] [] _
  obtain ⟨r2, hr2, h⟩ := Option.bind_eq_some_iff.mp h
  refine ev_c 2 (y' := 203) (M1 := ev_M r1 c w) (la := lv_args 0 [.ref 606]) (rest := []) (pc' := 9) (lv' := [(0, .ref 606), (1, .int x1)]) (fun n => rfl) (ok_fX11_clause hr2) ?_
  show Ev XL xs _ 206 (ev_M r2 c w) 9 [(0, .ref 606), (1, .int x1)] [] _
  refine ev_sub (lv := [(0, .ref 606)]) (mn_of rfl (by repeat (first | exact trivial | refine And.intro rfl ?_))) ?_
  exact ok_fX11_readLaw_c9 fu _ _ h
def fX11_fault_c26 (m : mm_MM) (s0 : Int32) : Option (Int32 × mm_MM) :=
  some (s0, m)
theorem ok_fX11_fault_c26 {m : mm_MM} {s0 : Int32} {q0 : Int32 × mm_MM} (h : fX11_fault_c26 m s0 = some q0) : Ev XL xs (d + 95) 219 (ev_M m c w) 26 [] [.int s0] (fr_i c w q0) := by
  unfold fX11_fault_c26 at h
  cases h
  exact ev_r 1 (fun n => rfl)
def fX11_fault (m : mm_MM) (x1 : Int32) : Option (Int32 × mm_MM) :=
  (if x1 = 0 then
    (fX11_readField m).bind fun r2 =>
     fX11_fault_c26 r2.2 r2.1
   else
    (if x1 = 1 then
      (fX11_readLaw m 4).bind fun r4 =>
       fX11_fault_c26 r4.2 r4.1
     else
      fX11_fault_c26 m ((-2) : Int32)))
theorem ok_fX11_fault {m : mm_MM} {x1 : Int32} {q0 : Int32 × mm_MM} (h : fX11_fault m x1 = some q0) : Ev XL xs (d + 95) 219 (ev_M m c w) 0 (lv_args 0 [.ref 606, .int x1]) [] (fr_i c w q0) := by
  unfold fX11_fault at h
  refine ev_i 2 (M1 := ev_M m c w) (pc1 := 4) (lv1 := [(0, .ref 606), (1, .int x1)]) (st1 := []) (M2 := ev_M m c w) (pc2 := 11) (lv2 := [(0, .ref 606), (1, .int x1)]) (st2 := []) (fun n => rfl) h (fun hc1 h => ?_) (fun hc1 h => ?_)
  · obtain ⟨r2, hr2, h⟩ := Option.bind_eq_some_iff.mp h
    refine ev_c 2 (y' := 218) (M1 := ev_M m c w) (la := lv_args 0 [.ref 606]) (rest := []) (pc' := 8) (lv' := [(0, .ref 606), (1, .int x1)]) (fun n => rfl) (ok_fX11_readField hr2) ?_
    show Ev XL xs _ 219 (ev_M r2.2 c w) 8 [(0, .ref 606), (1, .int x1)] [.int r2.1] _
    refine ev_s 1 (M' := ev_M r2.2 c w) (pc' := 26) (lv' := [(0, .ref 606), (1, .int x1)]) (st' := [.int r2.1]) (fun n => rfl) ?_
    refine ev_sub (lv := []) (mn_of rfl (by repeat (first | exact trivial | refine And.intro rfl ?_))) ?_
    exact ok_fX11_fault_c26 h
  · refine ev_i 3 (M1 := ev_M m c w) (pc1 := 16) (lv1 := [(0, .ref 606), (1, .int x1)]) (st1 := []) (M2 := ev_M m c w) (pc2 := 24) (lv2 := [(0, .ref 606), (1, .int x1)]) (st2 := []) (fun n => rfl) h (fun hc3 h => ?_) (fun hc3 h => ?_)
    · obtain ⟨r4, hr4, h⟩ := Option.bind_eq_some_iff.mp h
      refine ev_c 3 (y' := 206) (M1 := ev_M m c w) (la := lv_args 0 [.ref 606, .int 4]) (rest := []) (pc' := 21) (lv' := [(0, .ref 606), (1, .int x1)]) (fun n => rfl) (ok_fX11_readLaw hr4) ?_
      show Ev XL xs _ 219 (ev_M r4.2 c w) 21 [(0, .ref 606), (1, .int x1)] [.int r4.1] _
      refine ev_s 1 (M' := ev_M r4.2 c w) (pc' := 26) (lv' := [(0, .ref 606), (1, .int x1)]) (st' := [.int r4.1]) (fun n => rfl) ?_
      refine ev_sub (lv := []) (mn_of rfl (by repeat (first | exact trivial | refine And.intro rfl ?_))) ?_
      exact ok_fX11_fault_c26 h
    · refine ev_s 1 (M' := ev_M m c w) (pc' := 26) (lv' := [(0, .ref 606), (1, .int x1)]) (st' := [.int ((-2) : Int32)]) (fun n => rfl) ?_
      refine ev_sub (lv := []) (mn_of rfl (by repeat (first | exact trivial | refine And.intro rfl ?_))) ?_
      exact ok_fX11_fault_c26 h
def fX11_text_c69 (m : mm_MM) : Option (Int32 × mm_MM) :=
  some (((-1) : Int32), m)
theorem ok_fX11_text_c69 {m : mm_MM} {q0 : Int32 × mm_MM} (h : fX11_text_c69 m = some q0) : Ev XL xs (d + 95) 224 (ev_M m c w) 69 [] [] (fr_i c w q0) := by
  unfold fX11_text_c69 at h
  cases h
  exact ev_r 2 (fun n => rfl)
def fX11_text_c22 (m : mm_MM) (x1 : Int32) : Option (Int32 × mm_MM) :=
  (if x1 = 1 then
    (if m.1 606 13 < 4 then
      (fX11_readLaw m (m.1 606 13)).bind fun r3 =>
       (if r3.1 = ((-1) : Int32) then
         some (((r3.2.1 606 13 + 1) - 1), (wI (wI r3.2 606 2 0) 606 13 (r3.2.1 606 13 + 1)))
        else
         fX11_text_c69 r3.2)
     else
      fX11_text_c69 m)
   else
    fX11_text_c69 m)
theorem ok_fX11_text_c22 {m : mm_MM} {x1 : Int32} {q0 : Int32 × mm_MM} (h : fX11_text_c22 m x1 = some q0) : Ev XL xs (d + 95) 224 (ev_M m c w) 22 [(0, .ref 606), (1, .int x1)] [] (fr_i c w q0) := by
  unfold fX11_text_c22 at h
  refine ev_i 3 (M1 := ev_M m c w) (pc1 := 27) (lv1 := [(0, .ref 606), (1, .int x1)]) (st1 := []) (M2 := ev_M m c w) (pc2 := 69) (lv2 := [(0, .ref 606), (1, .int x1)]) (st2 := []) (fun n => rfl) h (fun hc1 h => ?_) (fun hc1 h => ?_)
  · refine ev_i 4 (M1 := ev_M m c w) (pc1 := 35) (lv1 := [(0, .ref 606), (1, .int x1)]) (st1 := []) (M2 := ev_M m c w) (pc2 := 69) (lv2 := [(0, .ref 606), (1, .int x1)]) (st2 := []) (fun n => rfl) h (fun hc2 h => ?_) (fun hc2 h => ?_)
    · obtain ⟨r3, hr3, h⟩ := Option.bind_eq_some_iff.mp h
      refine ev_c 4 (y' := 206) (M1 := ev_M m c w) (la := lv_args 0 [.ref 606, .int (m.1 606 13)]) (rest := []) (pc' := 43) (lv' := [(0, .ref 606), (1, .int x1)]) (fun n => rfl) (ok_fX11_readLaw hr3) ?_
      show Ev XL xs _ 224 (ev_M r3.2 c w) 43 [(0, .ref 606), (1, .int x1)] [.int r3.1] _
      refine ev_i 2 (M1 := ev_M r3.2 c w) (pc1 := 47) (lv1 := [(0, .ref 606), (1, .int x1)]) (st1 := []) (M2 := ev_M r3.2 c w) (pc2 := 69) (lv2 := [(0, .ref 606), (1, .int x1)]) (st2 := []) (fun n => rfl) h (fun hc4 h => ?_) (fun hc4 h => ?_)
      · cases h
        exact ev_r 14 (fun n => rfl)
      · refine ev_sub (lv := []) (mn_of rfl (by repeat (first | exact trivial | refine And.intro rfl ?_))) ?_
        exact ok_fX11_text_c69 h
    · refine ev_sub (lv := []) (mn_of rfl (by repeat (first | exact trivial | refine And.intro rfl ?_))) ?_
      exact ok_fX11_text_c69 h
  · refine ev_sub (lv := []) (mn_of rfl (by repeat (first | exact trivial | refine And.intro rfl ?_))) ?_
    exact ok_fX11_text_c69 h
def fX11_text (m : mm_MM) (x1 : Int32) : Option (Int32 × mm_MM) :=
  (if x1 = 0 then
    (fX11_readField m).bind fun r2 =>
     (if r2.1 = ((-1) : Int32) then
       (fX11_takeField (wI r2.2 606 2 0)).bind fun r4 =>
        some (r4.1, r4.2)
      else
       fX11_text_c22 r2.2 x1)
   else
    fX11_text_c22 m x1)
theorem ok_fX11_text {m : mm_MM} {x1 : Int32} {q0 : Int32 × mm_MM} (h : fX11_text m x1 = some q0) : Ev XL xs (d + 95) 224 (ev_M m c w) 0 (lv_args 0 [.ref 606, .int x1]) [] (fr_i c w q0) := by
  unfold fX11_text at h
  refine ev_i 2 (M1 := ev_M m c w) (pc1 := 4) (lv1 := [(0, .ref 606), (1, .int x1)]) (st1 := []) (M2 := ev_M m c w) (pc2 := 22) (lv2 := [(0, .ref 606), (1, .int x1)]) (st2 := []) (fun n => rfl) h (fun hc1 h => ?_) (fun hc1 h => ?_)
  · obtain ⟨r2, hr2, h⟩ := Option.bind_eq_some_iff.mp h
    refine ev_c 2 (y' := 218) (M1 := ev_M m c w) (la := lv_args 0 [.ref 606]) (rest := []) (pc' := 8) (lv' := [(0, .ref 606), (1, .int x1)]) (fun n => rfl) (ok_fX11_readField hr2) ?_
    show Ev XL xs _ 224 (ev_M r2.2 c w) 8 [(0, .ref 606), (1, .int x1)] [.int r2.1] _
    refine ev_i 2 (M1 := ev_M r2.2 c w) (pc1 := 12) (lv1 := [(0, .ref 606), (1, .int x1)]) (st1 := []) (M2 := ev_M r2.2 c w) (pc2 := 22) (lv2 := [(0, .ref 606), (1, .int x1)]) (st2 := []) (fun n => rfl) h (fun hc3 h => ?_) (fun hc3 h => ?_)
    · obtain ⟨r4, hr4, h⟩ := Option.bind_eq_some_iff.mp h
      refine ev_c 5 (y' := 223) (M1 := ev_M (wI r2.2 606 2 0) c w) (la := lv_args 0 [.ref 606]) (rest := []) (pc' := 21) (lv' := [(0, .ref 606), (1, .int x1)]) (fun n => rfl) (ok_fX11_takeField hr4) ?_
      show Ev XL xs _ 224 (ev_M r4.2 c w) 21 [(0, .ref 606), (1, .int x1)] [.int r4.1] _
      cases h
      exact ev_r 1 (fun n => rfl)
    · exact ok_fX11_text_c22 h
  · exact ok_fX11_text_c22 h
def fX11_tryLaying_b_c48 (kB : mm_MM → Int32 → Int32 → Int32 → Option (mm_MM)) (m : mm_MM) : Option (mm_MM) :=
  some m
set_option maxRecDepth 20000 in
theorem ok_fX11_tryLaying_b_c48 {kB : mm_MM → Int32 → Int32 → Int32 → Option (mm_MM)} (hkB : ∀ (j : Nat) (m : mm_MM) (x1 : Int32) (x2 : Int32) (x3 : Int32) (q0 : mm_MM), kB m x1 x2 x3 = some q0 → Ev XL xs (d + 3 + j) 273 (ev_M m c w) 0 (lv_args 0 [.ref 606, .int x1, .int x2, .int x3]) [] (fr_v c w q0)) {m : mm_MM} {q0 : mm_MM} (h : fX11_tryLaying_b_c48 kB m = some q0) : Ev XL xs (d + 4) 273 (ev_M m c w) 48 [] [] (fr_v c w q0) := by
  unfold fX11_tryLaying_b_c48 at h
  cases h
  exact ev_r 1 (fun n => rfl)
def fX11_tryLaying_b_c38 (kB : mm_MM → Int32 → Int32 → Int32 → Option (mm_MM)) (m : mm_MM) (x2 : Int32) (x3 : Int32) : Option (mm_MM) :=
  fX11_tryLaying_b_c48 kB (wI (wI m 606 40 x2) 606 39 x3)
set_option maxRecDepth 20000 in
theorem ok_fX11_tryLaying_b_c38 {kB : mm_MM → Int32 → Int32 → Int32 → Option (mm_MM)} (hkB : ∀ (j : Nat) (m : mm_MM) (x1 : Int32) (x2 : Int32) (x3 : Int32) (q0 : mm_MM), kB m x1 x2 x3 = some q0 → Ev XL xs (d + 3 + j) 273 (ev_M m c w) 0 (lv_args 0 [.ref 606, .int x1, .int x2, .int x3]) [] (fr_v c w q0)) {m : mm_MM} {x2 : Int32} {x3 : Int32} {q0 : mm_MM} (h : fX11_tryLaying_b_c38 kB m x2 x3 = some q0) : Ev XL xs (d + 4) 273 (ev_M m c w) 38 [(0, .ref 606), (2, .int x2), (3, .int x3)] [] (fr_v c w q0) := by
  unfold fX11_tryLaying_b_c38 at h
  refine ev_s 6 (M' := ev_M (wI (wI m 606 40 x2) 606 39 x3) c w) (pc' := 48) (lv' := [(0, .ref 606), (2, .int x2), (3, .int x3)]) (st' := []) (fun n => rfl) ?_
  refine ev_sub (lv := []) (mn_of rfl (by repeat (first | exact trivial | refine And.intro rfl ?_))) ?_
  exact ok_fX11_tryLaying_b_c48 hkB h
def fX11_tryLaying_b_c65 (kB : mm_MM → Int32 → Int32 → Int32 → Option (mm_MM)) (m : mm_MM) (x1 : Int32) (x2 : Int32) (x3 : Int32) : Option (mm_MM) :=
  (kB m (x1 + 1) ((10 * x2) + 9) x3).bind fun r1 =>
   some r1
set_option maxRecDepth 20000 in
theorem ok_fX11_tryLaying_b_c65 {kB : mm_MM → Int32 → Int32 → Int32 → Option (mm_MM)} (hkB : ∀ (j : Nat) (m : mm_MM) (x1 : Int32) (x2 : Int32) (x3 : Int32) (q0 : mm_MM), kB m x1 x2 x3 = some q0 → Ev XL xs (d + 3 + j) 273 (ev_M m c w) 0 (lv_args 0 [.ref 606, .int x1, .int x2, .int x3]) [] (fr_v c w q0)) {m : mm_MM} {x1 : Int32} {x2 : Int32} {x3 : Int32} {q0 : mm_MM} (h : fX11_tryLaying_b_c65 kB m x1 x2 x3 = some q0) : Ev XL xs (d + 4) 273 (ev_M m c w) 65 [(0, .ref 606), (1, .int x1), (2, .int x2), (3, .int x3)] [] (fr_v c w q0) := by
  unfold fX11_tryLaying_b_c65 at h
  obtain ⟨r1, hr1, h⟩ := Option.bind_eq_some_iff.mp h
  refine ev_c 11 (y' := 273) (M1 := ev_M m c w) (la := lv_args 0 [.ref 606, .int (x1 + 1), .int ((10 * x2) + 9), .int x3]) (rest := []) (pc' := 80) (lv' := [(0, .ref 606), (1, .int x1), (2, .int x2), (3, .int x3)]) (fun n => rfl) (hkB 0 _ _ _ _ _ hr1) ?_
  show Ev XL xs _ 273 (ev_M r1 c w) 80 [(0, .ref 606), (1, .int x1), (2, .int x2), (3, .int x3)] [] _
  cases h
  exact ev_r 1 (fun n => rfl)
def fX11_tryLaying_b_c154 (kB : mm_MM → Int32 → Int32 → Int32 → Option (mm_MM)) (kr84 : mm_MM → Int32 → Int32 → Int32 → Int32 → Option (mm_MM)) (m : mm_MM) (x1 : Int32) (x2 : Int32) (x3 : Int32) (x4 : Int32) : Option (mm_MM) :=
  kr84 m x1 x2 x3 (x4 + 1)
set_option maxRecDepth 20000 in
theorem ok_fX11_tryLaying_b_c154 {kB : mm_MM → Int32 → Int32 → Int32 → Option (mm_MM)} (hkB : ∀ (j : Nat) (m : mm_MM) (x1 : Int32) (x2 : Int32) (x3 : Int32) (q0 : mm_MM), kB m x1 x2 x3 = some q0 → Ev XL xs (d + 3 + j) 273 (ev_M m c w) 0 (lv_args 0 [.ref 606, .int x1, .int x2, .int x3]) [] (fr_v c w q0)) {kr84 : mm_MM → Int32 → Int32 → Int32 → Int32 → Option (mm_MM)} (hkr84 : ∀ (m : mm_MM) (x1 : Int32) (x2 : Int32) (x3 : Int32) (x4 : Int32) (q0 : mm_MM), kr84 m x1 x2 x3 x4 = some q0 → Ev XL xs (d + 4) 273 (ev_M m c w) 84 [(0, .ref 606), (1, .int x1), (2, .int x2), (3, .int x3), (4, .int x4)] [] (fr_v c w q0)) {m : mm_MM} {x1 : Int32} {x2 : Int32} {x3 : Int32} {x4 : Int32} {q0 : mm_MM} (h : fX11_tryLaying_b_c154 kB kr84 m x1 x2 x3 x4 = some q0) : Ev XL xs (d + 4) 273 (ev_M m c w) 154 [(0, .ref 606), (1, .int x1), (2, .int x2), (3, .int x3), (4, .int x4)] [] (fr_v c w q0) := by
  unfold fX11_tryLaying_b_c154 at h
  refine ev_s 2 (M' := ev_M m c w) (pc' := 84) (lv' := [(4, .int (x4 + 1)), (0, .ref 606), (1, .int x1), (2, .int x2), (3, .int x3)]) (st' := []) (fun n => rfl) ?_
  refine ev_sub (lv := [(0, .ref 606), (1, .int x1), (2, .int x2), (3, .int x3), (4, .int (x4 + 1))]) (mn_of rfl (by repeat (first | exact trivial | refine And.intro rfl ?_))) ?_
  exact hkr84 _ _ _ _ _ _ h
def fX11_tryLaying_b_c84 (kB : mm_MM → Int32 → Int32 → Int32 → Option (mm_MM)) : Nat → mm_MM → Int32 → Int32 → Int32 → Int32 → Option (mm_MM)
  | 0 => fun _ _ _ _ _ => none
  | n + 1 => fun m x1 x2 x3 x4 =>
    (if x4 < m.1 620 1 then
      (if x4 < 0 ∨ 4 ≤ x4.toNatClampNeg then none else
       (if m.1 629 x4.toNatClampNeg ≤ 0 then
         fX11_tryLaying_b_c154 kB (fX11_tryLaying_b_c84 kB n) m x1 x2 x3 x4
        else
         (if x4 < 0 ∨ 4 ≤ x4.toNatClampNeg then none else
          (if x4 < 0 ∨ 4 ≤ x4.toNatClampNeg then none else
           (if ((5 * x1) + x4) < 0 ∨ 40 ≤ ((5 * x1) + x4).toNatClampNeg then none else
            (kB (wI m 629 x4.toNatClampNeg (m.1 629 x4.toNatClampNeg - 1)) (x1 + 1) ((10 * x2) + x4) (x3 + m.1 628 (((5 * x1) + x4).toNatClampNeg))).bind fun r3 =>
             (if x4 < 0 ∨ 4 ≤ x4.toNatClampNeg then none else
              (if x4 < 0 ∨ 4 ≤ x4.toNatClampNeg then none else
               fX11_tryLaying_b_c154 kB (fX11_tryLaying_b_c84 kB n) (wI r3 629 x4.toNatClampNeg (r3.1 629 x4.toNatClampNeg + 1)) x1 x2 x3 x4)))))))
     else
      (if ((5 * x1) + 4) < 0 ∨ 40 ≤ ((5 * x1) + 4).toNatClampNeg then none else
       (kB m (x1 + 1) ((10 * x2) + 9) (x3 + m.1 628 (((5 * x1) + 4).toNatClampNeg))).bind fun r4 =>
        some r4))
set_option maxRecDepth 20000 in
theorem ok_fX11_tryLaying_b_c84 {kB : mm_MM → Int32 → Int32 → Int32 → Option (mm_MM)} (hkB : ∀ (j : Nat) (m : mm_MM) (x1 : Int32) (x2 : Int32) (x3 : Int32) (q0 : mm_MM), kB m x1 x2 x3 = some q0 → Ev XL xs (d + 3 + j) 273 (ev_M m c w) 0 (lv_args 0 [.ref 606, .int x1, .int x2, .int x3]) [] (fr_v c w q0)) : ∀ (n : Nat) (m : mm_MM) (x1 : Int32) (x2 : Int32) (x3 : Int32) (x4 : Int32) (q0 : mm_MM), fX11_tryLaying_b_c84 kB n m x1 x2 x3 x4 = some q0 → Ev XL xs (d + 4) 273 (ev_M m c w) 84 [(0, .ref 606), (1, .int x1), (2, .int x2), (3, .int x3), (4, .int x4)] [] (fr_v c w q0) := by
  intro n
  induction n with
  | zero => intro m x1 x2 x3 x4 q0 h; exact absurd (show (none : Option (mm_MM)) = some q0 from h) (by simp)
  | succ n ih =>
    intro m x1 x2 x3 x4 q0 h
    unfold fX11_tryLaying_b_c84 at h
    refine ev_i 6 (M1 := ev_M m c w) (pc1 := 95) (lv1 := [(0, .ref 606), (1, .int x1), (2, .int x2), (3, .int x3), (4, .int x4)]) (st1 := []) (M2 := ev_M m c w) (pc2 := 160) (lv2 := [(0, .ref 606), (1, .int x1), (2, .int x2), (3, .int x3), (4, .int x4)]) (st2 := []) (fun n => rfl) h (fun hc1 h => ?_) (fun hc1 h => ?_)
    · refine ev_g 4 (M1 := ev_M m c w) (pc1 := 102) (lv1 := [(0, .ref 606), (1, .int x1), (2, .int x2), (3, .int x3), (4, .int x4)]) (st1 := [.int (m.1 629 x4.toNatClampNeg)]) (fun n => rfl) h (fun _ h => ?_)
      refine ev_i 1 (M1 := ev_M m c w) (pc1 := 154) (lv1 := [(0, .ref 606), (1, .int x1), (2, .int x2), (3, .int x3), (4, .int x4)]) (st1 := []) (M2 := ev_M m c w) (pc2 := 105) (lv2 := [(0, .ref 606), (1, .int x1), (2, .int x2), (3, .int x3), (4, .int x4)]) (st2 := []) (fun n => rfl) h (fun hc2 h => ?_) (fun hc2 h => ?_)
      · exact ok_fX11_tryLaying_b_c154 hkB ih h
      · refine ev_g 5 (M1 := ev_M m c w) (pc1 := 113) (lv1 := [(0, .ref 606), (1, .int x1), (2, .int x2), (3, .int x3), (4, .int x4)]) (st1 := [.int (m.1 629 x4.toNatClampNeg), .int x4, .ref 629]) (fun n => rfl) h (fun _ h => ?_)
        refine ev_g 3 (M1 := ev_M (wI m 629 x4.toNatClampNeg (m.1 629 x4.toNatClampNeg - 1)) c w) (pc1 := 116) (lv1 := [(0, .ref 606), (1, .int x1), (2, .int x2), (3, .int x3), (4, .int x4)]) (st1 := []) (fun n => rfl) h (fun _ h => ?_)
        refine ev_s 17 (M' := ev_M (wI m 629 x4.toNatClampNeg (m.1 629 x4.toNatClampNeg - 1)) c w) (pc' := 138) (lv' := [(0, .ref 606), (1, .int x1), (2, .int x2), (3, .int x3), (4, .int x4)]) (st' := [.int ((5 * x1) + x4), .ref 628, .int x3, .int ((10 * x2) + x4), .int (x1 + 1), .ref 606]) (fun n => rfl) ?_
        refine ev_g 1 (M1 := ev_M (wI m 629 x4.toNatClampNeg (m.1 629 x4.toNatClampNeg - 1)) c w) (pc1 := 139) (lv1 := [(0, .ref 606), (1, .int x1), (2, .int x2), (3, .int x3), (4, .int x4)]) (st1 := [.int (m.1 628 (((5 * x1) + x4).toNatClampNeg)), .int x3, .int ((10 * x2) + x4), .int (x1 + 1), .ref 606]) (fun n => rfl) h (fun _ h => ?_)
        obtain ⟨r3, hr3, h⟩ := Option.bind_eq_some_iff.mp h
        refine ev_c 2 (y' := 273) (M1 := ev_M (wI m 629 x4.toNatClampNeg (m.1 629 x4.toNatClampNeg - 1)) c w) (la := lv_args 0 [.ref 606, .int (x1 + 1), .int ((10 * x2) + x4), .int (x3 + m.1 628 (((5 * x1) + x4).toNatClampNeg))]) (rest := []) (pc' := 143) (lv' := [(0, .ref 606), (1, .int x1), (2, .int x2), (3, .int x3), (4, .int x4)]) (fun n => rfl) (hkB 0 _ _ _ _ _ hr3) ?_
        show Ev XL xs _ 273 (ev_M r3 c w) 143 [(0, .ref 606), (1, .int x1), (2, .int x2), (3, .int x3), (4, .int x4)] [] _
        refine ev_g 5 (M1 := ev_M r3 c w) (pc1 := 151) (lv1 := [(0, .ref 606), (1, .int x1), (2, .int x2), (3, .int x3), (4, .int x4)]) (st1 := [.int (r3.1 629 x4.toNatClampNeg), .int x4, .ref 629]) (fun n => rfl) h (fun _ h => ?_)
        refine ev_g 3 (M1 := ev_M (wI r3 629 x4.toNatClampNeg (r3.1 629 x4.toNatClampNeg + 1)) c w) (pc1 := 154) (lv1 := [(0, .ref 606), (1, .int x1), (2, .int x2), (3, .int x3), (4, .int x4)]) (st1 := []) (fun n => rfl) h (fun _ h => ?_)
        exact ok_fX11_tryLaying_b_c154 hkB ih h
    · refine ev_s 17 (M' := ev_M m c w) (pc' := 181) (lv' := [(0, .ref 606), (1, .int x1), (2, .int x2), (3, .int x3), (4, .int x4)]) (st' := [.int ((5 * x1) + 4), .ref 628, .int x3, .int ((10 * x2) + 9), .int (x1 + 1), .ref 606]) (fun n => rfl) ?_
      refine ev_g 1 (M1 := ev_M m c w) (pc1 := 182) (lv1 := [(0, .ref 606), (1, .int x1), (2, .int x2), (3, .int x3), (4, .int x4)]) (st1 := [.int (m.1 628 (((5 * x1) + 4).toNatClampNeg)), .int x3, .int ((10 * x2) + 9), .int (x1 + 1), .ref 606]) (fun n => rfl) h (fun _ h => ?_)
      obtain ⟨r4, hr4, h⟩ := Option.bind_eq_some_iff.mp h
      refine ev_c 2 (y' := 273) (M1 := ev_M m c w) (la := lv_args 0 [.ref 606, .int (x1 + 1), .int ((10 * x2) + 9), .int (x3 + m.1 628 (((5 * x1) + 4).toNatClampNeg))]) (rest := []) (pc' := 186) (lv' := [(0, .ref 606), (1, .int x1), (2, .int x2), (3, .int x3), (4, .int x4)]) (fun n => rfl) (hkB 0 _ _ _ _ _ hr4) ?_
      show Ev XL xs _ 273 (ev_M r4 c w) 186 [(0, .ref 606), (1, .int x1), (2, .int x2), (3, .int x3), (4, .int x4)] [] _
      cases h
      exact ev_r 1 (fun n => rfl)
def fX11_tryLaying_b (kB : mm_MM → Int32 → Int32 → Int32 → Option (mm_MM)) (m : mm_MM) (x1 : Int32) (x2 : Int32) (x3 : Int32) : Option (mm_MM) :=
  (if x1 = 8 then
    (if m.1 606 40 = ((-1) : Int32) then
      fX11_tryLaying_b_c38 kB m x2 x3
     else
      (if x3 ≤ m.1 606 39 then
        (if x3 = m.1 606 39 then
          (if x2 < m.1 606 40 then
            fX11_tryLaying_b_c38 kB m x2 x3
           else
            fX11_tryLaying_b_c48 kB m)
         else
          fX11_tryLaying_b_c48 kB m)
       else
        fX11_tryLaying_b_c38 kB m x2 x3))
   else
    (fX11_isThere m x1).bind fun r6 =>
     (if r6.1 = 0 then
       fX11_tryLaying_b_c65 kB r6.2 x1 x2 x3
      else
       (fX11_doesLie r6.2 x1).bind fun r8 =>
        (if r8.1 = 0 then
          fX11_tryLaying_b_c84 kB fu r8.2 x1 x2 x3 0
         else
          fX11_tryLaying_b_c65 kB r8.2 x1 x2 x3)))
set_option maxRecDepth 20000 in
theorem ok_fX11_tryLaying_b {kB : mm_MM → Int32 → Int32 → Int32 → Option (mm_MM)} (hkB : ∀ (j : Nat) (m : mm_MM) (x1 : Int32) (x2 : Int32) (x3 : Int32) (q0 : mm_MM), kB m x1 x2 x3 = some q0 → Ev XL xs (d + 3 + j) 273 (ev_M m c w) 0 (lv_args 0 [.ref 606, .int x1, .int x2, .int x3]) [] (fr_v c w q0)) {m : mm_MM} {x1 : Int32} {x2 : Int32} {x3 : Int32} {q0 : mm_MM} (h : fX11_tryLaying_b kB m x1 x2 x3 = some q0) : Ev XL xs (d + 4) 273 (ev_M m c w) 0 (lv_args 0 [.ref 606, .int x1, .int x2, .int x3]) [] (fr_v c w q0) := by
  unfold fX11_tryLaying_b at h
  refine ev_i 3 (M1 := ev_M m c w) (pc1 := 6) (lv1 := [(0, .ref 606), (1, .int x1), (2, .int x2), (3, .int x3)]) (st1 := []) (M2 := ev_M m c w) (pc2 := 49) (lv2 := [(0, .ref 606), (1, .int x1), (2, .int x2), (3, .int x3)]) (st2 := []) (fun n => rfl) h (fun hc1 h => ?_) (fun hc1 h => ?_)
  · refine ev_i 4 (M1 := ev_M m c w) (pc1 := 38) (lv1 := [(0, .ref 606), (1, .int x1), (2, .int x2), (3, .int x3)]) (st1 := []) (M2 := ev_M m c w) (pc2 := 14) (lv2 := [(0, .ref 606), (1, .int x1), (2, .int x2), (3, .int x3)]) (st2 := []) (fun n => rfl) h (fun hc2 h => ?_) (fun hc2 h => ?_)
    · refine ev_sub (lv := [(0, .ref 606), (2, .int x2), (3, .int x3)]) (mn_of rfl (by repeat (first | exact trivial | refine And.intro rfl ?_))) ?_
      exact ok_fX11_tryLaying_b_c38 hkB h
    · refine ev_i 4 (M1 := ev_M m c w) (pc1 := 22) (lv1 := [(0, .ref 606), (1, .int x1), (2, .int x2), (3, .int x3)]) (st1 := []) (M2 := ev_M m c w) (pc2 := 38) (lv2 := [(0, .ref 606), (1, .int x1), (2, .int x2), (3, .int x3)]) (st2 := []) (fun n => rfl) h (fun hc3 h => ?_) (fun hc3 h => ?_)
      · refine ev_i 4 (M1 := ev_M m c w) (pc1 := 30) (lv1 := [(0, .ref 606), (1, .int x1), (2, .int x2), (3, .int x3)]) (st1 := []) (M2 := ev_M m c w) (pc2 := 48) (lv2 := [(0, .ref 606), (1, .int x1), (2, .int x2), (3, .int x3)]) (st2 := []) (fun n => rfl) h (fun hc4 h => ?_) (fun hc4 h => ?_)
        · refine ev_i 4 (M1 := ev_M m c w) (pc1 := 38) (lv1 := [(0, .ref 606), (1, .int x1), (2, .int x2), (3, .int x3)]) (st1 := []) (M2 := ev_M m c w) (pc2 := 48) (lv2 := [(0, .ref 606), (1, .int x1), (2, .int x2), (3, .int x3)]) (st2 := []) (fun n => rfl) h (fun hc5 h => ?_) (fun hc5 h => ?_)
          · refine ev_sub (lv := [(0, .ref 606), (2, .int x2), (3, .int x3)]) (mn_of rfl (by repeat (first | exact trivial | refine And.intro rfl ?_))) ?_
            exact ok_fX11_tryLaying_b_c38 hkB h
          · refine ev_sub (lv := []) (mn_of rfl (by repeat (first | exact trivial | refine And.intro rfl ?_))) ?_
            exact ok_fX11_tryLaying_b_c48 hkB h
        · refine ev_sub (lv := []) (mn_of rfl (by repeat (first | exact trivial | refine And.intro rfl ?_))) ?_
          exact ok_fX11_tryLaying_b_c48 hkB h
      · refine ev_sub (lv := [(0, .ref 606), (2, .int x2), (3, .int x3)]) (mn_of rfl (by repeat (first | exact trivial | refine And.intro rfl ?_))) ?_
        exact ok_fX11_tryLaying_b_c38 hkB h
  · obtain ⟨r6, hr6, h⟩ := Option.bind_eq_some_iff.mp h
    refine ev_c 3 (y' := 225) (M1 := ev_M m c w) (la := lv_args 0 [.ref 606, .int x1]) (rest := []) (pc' := 54) (lv' := [(0, .ref 606), (1, .int x1), (2, .int x2), (3, .int x3)]) (fun n => rfl) (ok_fX11_isThere hr6) ?_
    show Ev XL xs _ 273 (ev_M r6.2 c w) 54 [(0, .ref 606), (1, .int x1), (2, .int x2), (3, .int x3)] [.int r6.1] _
    refine ev_i 1 (M1 := ev_M r6.2 c w) (pc1 := 65) (lv1 := [(0, .ref 606), (1, .int x1), (2, .int x2), (3, .int x3)]) (st1 := []) (M2 := ev_M r6.2 c w) (pc2 := 57) (lv2 := [(0, .ref 606), (1, .int x1), (2, .int x2), (3, .int x3)]) (st2 := []) (fun n => rfl) h (fun hc7 h => ?_) (fun hc7 h => ?_)
    · exact ok_fX11_tryLaying_b_c65 hkB h
    · obtain ⟨r8, hr8, h⟩ := Option.bind_eq_some_iff.mp h
      refine ev_c 3 (y' := 226) (M1 := ev_M r6.2 c w) (la := lv_args 0 [.ref 606, .int x1]) (rest := []) (pc' := 62) (lv' := [(0, .ref 606), (1, .int x1), (2, .int x2), (3, .int x3)]) (fun n => rfl) (ok_fX11_doesLie hr8) ?_
      show Ev XL xs _ 273 (ev_M r8.2 c w) 62 [(0, .ref 606), (1, .int x1), (2, .int x2), (3, .int x3)] [.int r8.1] _
      refine ev_i 1 (M1 := ev_M r8.2 c w) (pc1 := 81) (lv1 := [(0, .ref 606), (1, .int x1), (2, .int x2), (3, .int x3)]) (st1 := []) (M2 := ev_M r8.2 c w) (pc2 := 65) (lv2 := [(0, .ref 606), (1, .int x1), (2, .int x2), (3, .int x3)]) (st2 := []) (fun n => rfl) h (fun hc9 h => ?_) (fun hc9 h => ?_)
      · refine ev_s 2 (M' := ev_M r8.2 c w) (pc' := 84) (lv' := [(4, .int 0), (0, .ref 606), (1, .int x1), (2, .int x2), (3, .int x3)]) (st' := []) (fun n => rfl) ?_
        refine ev_sub (lv := [(0, .ref 606), (1, .int x1), (2, .int x2), (3, .int x3), (4, .int 0)]) (mn_of rfl (by repeat (first | exact trivial | refine And.intro rfl ?_))) ?_
        exact ok_fX11_tryLaying_b_c84 hkB fu _ _ _ _ _ _ h
      · exact ok_fX11_tryLaying_b_c65 hkB h
def fX11_tryLaying : Nat → mm_MM → Int32 → Int32 → Int32 → Option (mm_MM)
  | 0 => fun _ _ _ _ => none
  | n + 1 => fun m x1 x2 x3 => fX11_tryLaying_b (fX11_tryLaying n) m x1 x2 x3
theorem ok_fX11_tryLaying : ∀ (n j : Nat) (m : mm_MM) (x1 : Int32) (x2 : Int32) (x3 : Int32) (q0 : mm_MM), fX11_tryLaying n m x1 x2 x3 = some q0 → Ev XL xs (d + 1 * n + 3 + j) 273 (ev_M m c w) 0 (lv_args 0 [.ref 606, .int x1, .int x2, .int x3]) [] (fr_v c w q0) := by
  intro n
  induction n with
  | zero => intro j m x1 x2 x3 q0 h; exact absurd (show (none : Option (mm_MM)) = some q0 from h) (by simp)
  | succ n ih =>
    intro j m x1 x2 x3 q0 h
    have h : fX11_tryLaying_b (fX11_tryLaying n) m x1 x2 x3 = some q0 := h
    have g := ok_fX11_tryLaying_b (XL := XL) (xs := xs) (c := c) (w := w) (d := d + 1 * n + j) (fun j2 m x1 x2 x3 q0 h => by
      have i := ih (j + j2) m x1 x2 x3 q0 h
      rwa [show d + 1 * n + 3 + (j + j2) = d + 1 * n + j + 3 + j2 by omega] at i) h
    rwa [show d + 1 * n + j + 4 = d + 1 * (n + 1) + 3 + j by omega] at g

def fX11_laying_c26 (m : mm_MM) : Option (Int32 × mm_MM) :=
  some (((-1) : Int32), m)
theorem ok_fX11_laying_c26 {m : mm_MM} {q0 : Int32 × mm_MM} (h : fX11_laying_c26 m = some q0) : Ev XL xs (d + 16) 274 (ev_M m c w) 26 [] [] (fr_i c w q0) := by
  unfold fX11_laying_c26 at h
  cases h
  exact ev_r 2 (fun n => rfl)
def fX11_laying_c65 (m : mm_MM) (s0 : Int32) : Option (Int32 × mm_MM) :=
  some (s0, m)
theorem ok_fX11_laying_c65 {m : mm_MM} {s0 : Int32} {q0 : Int32 × mm_MM} (h : fX11_laying_c65 m s0 = some q0) : Ev XL xs (d + 16) 274 (ev_M m c w) 65 [] [.int s0] (fr_i c w q0) := by
  unfold fX11_laying_c65 at h
  cases h
  exact ev_r 1 (fun n => rfl)
def fX11_laying (m : mm_MM) (x1 : Int32) (x2 : Int32) : Option (Int32 × mm_MM) :=
  (if m.1 606 26 = 0 then
    fX11_laying_c26 m
   else
    (fX11_in m x1 1 24).bind fun r2 =>
     (if r2.1 = 0 then
       fX11_laying_c26 r2.2
      else
       (fX11_in r2.2 x2 0 1).bind fun r4 =>
        (if r4.1 = 0 then
          fX11_laying_c26 r4.2
         else
          (fX11_layLaid r4.2 x1).bind fun r6 =>
           (fX11_tryLaying 12 (wI (wI r6 606 40 ((-1) : Int32)) 606 39 0) 0 0 0).bind fun r7 =>
            (if x2 = 0 then
              fX11_laying_c65 r7 (r7.1 606 39)
             else
              fX11_laying_c65 r7 (r7.1 606 40)))))
theorem ok_fX11_laying {m : mm_MM} {x1 : Int32} {x2 : Int32} {q0 : Int32 × mm_MM} (h : fX11_laying m x1 x2 = some q0) : Ev XL xs (d + 16) 274 (ev_M m c w) 0 (lv_args 0 [.ref 606, .int x1, .int x2]) [] (fr_i c w q0) := by
  unfold fX11_laying at h
  refine ev_i 3 (M1 := ev_M m c w) (pc1 := 26) (lv1 := [(0, .ref 606), (1, .int x1), (2, .int x2)]) (st1 := []) (M2 := ev_M m c w) (pc2 := 7) (lv2 := [(0, .ref 606), (1, .int x1), (2, .int x2)]) (st2 := []) (fun n => rfl) h (fun hc1 h => ?_) (fun hc1 h => ?_)
  · refine ev_sub (lv := []) (mn_of rfl (by repeat (first | exact trivial | refine And.intro rfl ?_))) ?_
    exact ok_fX11_laying_c26 h
  · obtain ⟨r2, hr2, h⟩ := Option.bind_eq_some_iff.mp h
    refine ev_c 4 (y' := 178) (M1 := ev_M m c w) (la := lv_args 0 [.int x1, .int 1, .int 24]) (rest := []) (pc' := 14) (lv' := [(0, .ref 606), (1, .int x1), (2, .int x2)]) (fun n => rfl) (ok_fX11_in hr2) ?_
    show Ev XL xs _ 274 (ev_M r2.2 c w) 14 [(0, .ref 606), (1, .int x1), (2, .int x2)] [.int r2.1] _
    refine ev_i 1 (M1 := ev_M r2.2 c w) (pc1 := 26) (lv1 := [(0, .ref 606), (1, .int x1), (2, .int x2)]) (st1 := []) (M2 := ev_M r2.2 c w) (pc2 := 17) (lv2 := [(0, .ref 606), (1, .int x1), (2, .int x2)]) (st2 := []) (fun n => rfl) h (fun hc3 h => ?_) (fun hc3 h => ?_)
    · refine ev_sub (lv := []) (mn_of rfl (by repeat (first | exact trivial | refine And.intro rfl ?_))) ?_
      exact ok_fX11_laying_c26 h
    · obtain ⟨r4, hr4, h⟩ := Option.bind_eq_some_iff.mp h
      refine ev_c 4 (y' := 178) (M1 := ev_M r2.2 c w) (la := lv_args 0 [.int x2, .int 0, .int 1]) (rest := []) (pc' := 23) (lv' := [(0, .ref 606), (1, .int x1), (2, .int x2)]) (fun n => rfl) (ok_fX11_in hr4) ?_
      show Ev XL xs _ 274 (ev_M r4.2 c w) 23 [(0, .ref 606), (1, .int x1), (2, .int x2)] [.int r4.1] _
      refine ev_i 1 (M1 := ev_M r4.2 c w) (pc1 := 26) (lv1 := [(0, .ref 606), (1, .int x1), (2, .int x2)]) (st1 := []) (M2 := ev_M r4.2 c w) (pc2 := 28) (lv2 := [(0, .ref 606), (1, .int x1), (2, .int x2)]) (st2 := []) (fun n => rfl) h (fun hc5 h => ?_) (fun hc5 h => ?_)
      · refine ev_sub (lv := []) (mn_of rfl (by repeat (first | exact trivial | refine And.intro rfl ?_))) ?_
        exact ok_fX11_laying_c26 h
      · obtain ⟨r6, hr6, h⟩ := Option.bind_eq_some_iff.mp h
        refine ev_c 3 (y' := 272) (M1 := ev_M r4.2 c w) (la := lv_args 0 [.ref 606, .int x1]) (rest := []) (pc' := 33) (lv' := [(0, .ref 606), (1, .int x1), (2, .int x2)]) (fun n => rfl) (ok_fX11_layLaid hr6) ?_
        show Ev XL xs _ 274 (ev_M r6 c w) 33 [(0, .ref 606), (1, .int x1), (2, .int x2)] [] _
        obtain ⟨r7, hr7, h⟩ := Option.bind_eq_some_iff.mp h
        refine ev_c 11 (y' := 273) (M1 := ev_M (wI (wI r6 606 40 ((-1) : Int32)) 606 39 0) c w) (la := lv_args 0 [.ref 606, .int 0, .int 0, .int 0]) (rest := []) (pc' := 50) (lv' := [(0, .ref 606), (1, .int x1), (2, .int x2)]) (fun n => rfl) (ok_fX11_tryLaying (d := d) 12 0 _ _ _ _ _ hr7) ?_
        show Ev XL xs _ 274 (ev_M r7 c w) 50 [(0, .ref 606), (1, .int x1), (2, .int x2)] [] _
        refine ev_i 2 (M1 := ev_M r7 c w) (pc1 := 54) (lv1 := [(0, .ref 606), (1, .int x1), (2, .int x2)]) (st1 := []) (M2 := ev_M r7 c w) (pc2 := 61) (lv2 := [(0, .ref 606), (1, .int x1), (2, .int x2)]) (st2 := []) (fun n => rfl) h (fun hc8 h => ?_) (fun hc8 h => ?_)
        · refine ev_s 3 (M' := ev_M r7 c w) (pc' := 65) (lv' := [(0, .ref 606), (1, .int x1), (2, .int x2)]) (st' := [.int (r7.1 606 39)]) (fun n => rfl) ?_
          refine ev_sub (lv := []) (mn_of rfl (by repeat (first | exact trivial | refine And.intro rfl ?_))) ?_
          exact ok_fX11_laying_c65 h
        · refine ev_s 2 (M' := ev_M r7 c w) (pc' := 65) (lv' := [(0, .ref 606), (1, .int x1), (2, .int x2)]) (st' := [.int (r7.1 606 40)]) (fun n => rfl) ?_
          refine ev_sub (lv := []) (mn_of rfl (by repeat (first | exact trivial | refine And.intro rfl ?_))) ?_
          exact ok_fX11_laying_c65 h
def fX11_oddsFrom_b_c21 (kB : mm_MM → Int32 → Int32 → Int32 → Int32 → Int32 → Int32 → Option (Int32 × mm_MM)) (m : mm_MM) (s0 : Int32) : Option (Int32 × mm_MM) :=
  some (s0, m)
set_option maxRecDepth 20000 in
theorem ok_fX11_oddsFrom_b_c21 {kB : mm_MM → Int32 → Int32 → Int32 → Int32 → Int32 → Int32 → Option (Int32 × mm_MM)} (hkB : ∀ (j : Nat) (m : mm_MM) (x1 : Int32) (x2 : Int32) (x3 : Int32) (x4 : Int32) (x5 : Int32) (x6 : Int32) (q0 : Int32 × mm_MM), kB m x1 x2 x3 x4 x5 x6 = some q0 → Ev XL xs (d + 7 + j) 291 (ev_M m c w) 0 (lv_args 0 [.ref 606, .int x1, .int x2, .int x3, .int x4, .int x5, .int x6]) [] (fr_i c w q0)) {m : mm_MM} {s0 : Int32} {q0 : Int32 × mm_MM} (h : fX11_oddsFrom_b_c21 kB m s0 = some q0) : Ev XL xs (d + 8) 291 (ev_M m c w) 21 [] [.int s0] (fr_i c w q0) := by
  unfold fX11_oddsFrom_b_c21 at h
  cases h
  exact ev_r 1 (fun n => rfl)
def fX11_oddsFrom_b_c104 (kB : mm_MM → Int32 → Int32 → Int32 → Int32 → Int32 → Int32 → Option (Int32 × mm_MM)) (kr47 : mm_MM → Int32 → Int32 → Int32 → Int32 → Int32 → Int32 → Int32 → Int32 → Int32 → Option (Int32 × mm_MM)) (m : mm_MM) (x1 : Int32) (x2 : Int32) (x3 : Int32) (x4 : Int32) (x5 : Int32) (x6 : Int32) (x7 : Int32) (x9 : Int32) (s0 : Int32) (s2 : Int32) (s3 : Int32) (s4 : Int32) (s5 : Int32) (s6 : Int32) (s7 : Int32) : Option (Int32 × mm_MM) :=
  (kB m s2 s3 s4 s5 s6 s7).bind fun r1 =>
   (fX11_takeBack r1.2 x1).bind fun r2 =>
    kr47 r2 x1 x2 x3 x4 x5 x6 x7 (s0 + r1.1) (x9 + 1)
set_option maxRecDepth 20000 in
theorem ok_fX11_oddsFrom_b_c104 {kB : mm_MM → Int32 → Int32 → Int32 → Int32 → Int32 → Int32 → Option (Int32 × mm_MM)} (hkB : ∀ (j : Nat) (m : mm_MM) (x1 : Int32) (x2 : Int32) (x3 : Int32) (x4 : Int32) (x5 : Int32) (x6 : Int32) (q0 : Int32 × mm_MM), kB m x1 x2 x3 x4 x5 x6 = some q0 → Ev XL xs (d + 7 + j) 291 (ev_M m c w) 0 (lv_args 0 [.ref 606, .int x1, .int x2, .int x3, .int x4, .int x5, .int x6]) [] (fr_i c w q0)) {kr47 : mm_MM → Int32 → Int32 → Int32 → Int32 → Int32 → Int32 → Int32 → Int32 → Int32 → Option (Int32 × mm_MM)} (hkr47 : ∀ (m : mm_MM) (x1 : Int32) (x2 : Int32) (x3 : Int32) (x4 : Int32) (x5 : Int32) (x6 : Int32) (x7 : Int32) (x8 : Int32) (x9 : Int32) (q0 : Int32 × mm_MM), kr47 m x1 x2 x3 x4 x5 x6 x7 x8 x9 = some q0 → Ev XL xs (d + 8) 291 (ev_M m c w) 47 [(0, .ref 606), (1, .int x1), (2, .int x2), (3, .int x3), (4, .int x4), (5, .int x5), (6, .int x6), (7, .int x7), (8, .int x8), (9, .int x9)] [] (fr_i c w q0)) {m : mm_MM} {x1 : Int32} {x2 : Int32} {x3 : Int32} {x4 : Int32} {x5 : Int32} {x6 : Int32} {x7 : Int32} {x9 : Int32} {s0 : Int32} {s2 : Int32} {s3 : Int32} {s4 : Int32} {s5 : Int32} {s6 : Int32} {s7 : Int32} {q0 : Int32 × mm_MM} (h : fX11_oddsFrom_b_c104 kB kr47 m x1 x2 x3 x4 x5 x6 x7 x9 s0 s2 s3 s4 s5 s6 s7 = some q0) : Ev XL xs (d + 8) 291 (ev_M m c w) 104 [(0, .ref 606), (1, .int x1), (2, .int x2), (3, .int x3), (4, .int x4), (5, .int x5), (6, .int x6), (7, .int x7), (9, .int x9)] [.int s7, .int s6, .int s5, .int s4, .int s3, .int s2, .ref 606, .int s0] (fr_i c w q0) := by
  unfold fX11_oddsFrom_b_c104 at h
  obtain ⟨r1, hr1, h⟩ := Option.bind_eq_some_iff.mp h
  refine ev_c 1 (y' := 291) (M1 := ev_M m c w) (la := lv_args 0 [.ref 606, .int s2, .int s3, .int s4, .int s5, .int s6, .int s7]) (rest := [.int s0]) (pc' := 107) (lv' := [(0, .ref 606), (1, .int x1), (2, .int x2), (3, .int x3), (4, .int x4), (5, .int x5), (6, .int x6), (7, .int x7), (9, .int x9)]) (fun n => rfl) (hkB 0 _ _ _ _ _ _ _ _ hr1) ?_
  show Ev XL xs _ 291 (ev_M r1.2 c w) 107 [(0, .ref 606), (1, .int x1), (2, .int x2), (3, .int x3), (4, .int x4), (5, .int x5), (6, .int x6), (7, .int x7), (9, .int x9)] [.int r1.1, .int s0] _
  obtain ⟨r2, hr2, h⟩ := Option.bind_eq_some_iff.mp h
  refine ev_c 5 (y' := 265) (M1 := ev_M r1.2 c w) (la := lv_args 0 [.ref 606, .int x1]) (rest := []) (pc' := 115) (lv' := [(8, .int (s0 + r1.1)), (0, .ref 606), (1, .int x1), (2, .int x2), (3, .int x3), (4, .int x4), (5, .int x5), (6, .int x6), (7, .int x7), (9, .int x9)]) (fun n => rfl) (ok_fX11_takeBack hr2) ?_
  show Ev XL xs _ 291 (ev_M r2 c w) 115 [(8, .int (s0 + r1.1)), (0, .ref 606), (1, .int x1), (2, .int x2), (3, .int x3), (4, .int x4), (5, .int x5), (6, .int x6), (7, .int x7), (9, .int x9)] [] _
  refine ev_s 2 (M' := ev_M r2 c w) (pc' := 47) (lv' := [(9, .int (x9 + 1)), (8, .int (s0 + r1.1)), (0, .ref 606), (1, .int x1), (2, .int x2), (3, .int x3), (4, .int x4), (5, .int x5), (6, .int x6), (7, .int x7)]) (st' := []) (fun n => rfl) ?_
  refine ev_sub (lv := [(0, .ref 606), (1, .int x1), (2, .int x2), (3, .int x3), (4, .int x4), (5, .int x5), (6, .int x6), (7, .int x7), (8, .int (s0 + r1.1)), (9, .int (x9 + 1))]) (mn_of rfl (by repeat (first | exact trivial | refine And.intro rfl ?_))) ?_
  exact hkr47 _ _ _ _ _ _ _ _ _ _ _ h
def fX11_oddsFrom_b_c47 (kB : mm_MM → Int32 → Int32 → Int32 → Int32 → Int32 → Int32 → Option (Int32 × mm_MM)) : Nat → mm_MM → Int32 → Int32 → Int32 → Int32 → Int32 → Int32 → Int32 → Int32 → Int32 → Option (Int32 × mm_MM)
  | 0 => fun _ _ _ _ _ _ _ _ _ _ => none
  | n + 1 => fun m x1 x2 x3 x4 x5 x6 x7 x8 x9 =>
    (if x9 < 2 then
      (fX11_of m x2 0).bind fun r2 =>
       (if (x9 + 1) = (0 : Int32) then none else
        (fX11_set r2.2 x2 0 ((r2.1 : Int32) / (x9 + 1))).bind fun r3 =>
         (fX11_live r3).bind fun r4 =>
          (if x9 = 1 then
            fX11_oddsFrom_b_c104 kB (fX11_oddsFrom_b_c47 kB n) r4 x1 x2 x3 x4 x5 x6 x7 x9 x8 (x1 + 1) x2 x3 (x4 - 1) x5 x7
           else
            fX11_oddsFrom_b_c104 kB (fX11_oddsFrom_b_c47 kB n) r4 x1 x2 x3 x4 x5 x6 x7 x9 x8 (x1 + 1) x2 x3 (x4 - 1) x5 (x6 - x7)))
     else
      some (x8, m))
set_option maxRecDepth 20000 in
theorem ok_fX11_oddsFrom_b_c47 {kB : mm_MM → Int32 → Int32 → Int32 → Int32 → Int32 → Int32 → Option (Int32 × mm_MM)} (hkB : ∀ (j : Nat) (m : mm_MM) (x1 : Int32) (x2 : Int32) (x3 : Int32) (x4 : Int32) (x5 : Int32) (x6 : Int32) (q0 : Int32 × mm_MM), kB m x1 x2 x3 x4 x5 x6 = some q0 → Ev XL xs (d + 7 + j) 291 (ev_M m c w) 0 (lv_args 0 [.ref 606, .int x1, .int x2, .int x3, .int x4, .int x5, .int x6]) [] (fr_i c w q0)) : ∀ (n : Nat) (m : mm_MM) (x1 : Int32) (x2 : Int32) (x3 : Int32) (x4 : Int32) (x5 : Int32) (x6 : Int32) (x7 : Int32) (x8 : Int32) (x9 : Int32) (q0 : Int32 × mm_MM), fX11_oddsFrom_b_c47 kB n m x1 x2 x3 x4 x5 x6 x7 x8 x9 = some q0 → Ev XL xs (d + 8) 291 (ev_M m c w) 47 [(0, .ref 606), (1, .int x1), (2, .int x2), (3, .int x3), (4, .int x4), (5, .int x5), (6, .int x6), (7, .int x7), (8, .int x8), (9, .int x9)] [] (fr_i c w q0) := by
  intro n
  induction n with
  | zero => intro m x1 x2 x3 x4 x5 x6 x7 x8 x9 q0 h; exact absurd (show (none : Option (Int32 × mm_MM)) = some q0 from h) (by simp)
  | succ n ih =>
    intro m x1 x2 x3 x4 x5 x6 x7 x8 x9 q0 h
    unfold fX11_oddsFrom_b_c47 at h
    refine ev_i 3 (M1 := ev_M m c w) (pc1 := 53) (lv1 := [(0, .ref 606), (1, .int x1), (2, .int x2), (3, .int x3), (4, .int x4), (5, .int x5), (6, .int x6), (7, .int x7), (8, .int x8), (9, .int x9)]) (st1 := []) (M2 := ev_M m c w) (pc2 := 121) (lv2 := [(0, .ref 606), (1, .int x1), (2, .int x2), (3, .int x3), (4, .int x4), (5, .int x5), (6, .int x6), (7, .int x7), (8, .int x8), (9, .int x9)]) (st2 := []) (fun n => rfl) h (fun hc1 h => ?_) (fun hc1 h => ?_)
    · obtain ⟨r2, hr2, h⟩ := Option.bind_eq_some_iff.mp h
      refine ev_c 7 (y' := 220) (M1 := ev_M m c w) (la := lv_args 0 [.ref 606, .int x2, .int 0]) (rest := [.int 0, .int x2, .ref 606]) (pc' := 62) (lv' := [(0, .ref 606), (1, .int x1), (2, .int x2), (3, .int x3), (4, .int x4), (5, .int x5), (6, .int x6), (7, .int x7), (8, .int x8), (9, .int x9)]) (fun n => rfl) (ok_fX11_of hr2) ?_
      show Ev XL xs _ 291 (ev_M r2.2 c w) 62 [(0, .ref 606), (1, .int x1), (2, .int x2), (3, .int x3), (4, .int x4), (5, .int x5), (6, .int x6), (7, .int x7), (8, .int x8), (9, .int x9)] [.int r2.1, .int 0, .int x2, .ref 606] _
      refine ev_g 4 (M1 := ev_M r2.2 c w) (pc1 := 67) (lv1 := [(0, .ref 606), (1, .int x1), (2, .int x2), (3, .int x3), (4, .int x4), (5, .int x5), (6, .int x6), (7, .int x7), (8, .int x8), (9, .int x9)]) (st1 := [.int ((r2.1 : Int32) / (x9 + 1)), .int 0, .int x2, .ref 606]) (fun n => rfl) h (fun _ h => ?_)
      obtain ⟨r3, hr3, h⟩ := Option.bind_eq_some_iff.mp h
      refine ev_c 1 (y' := 221) (M1 := ev_M r2.2 c w) (la := lv_args 0 [.ref 606, .int x2, .int 0, .int ((r2.1 : Int32) / (x9 + 1))]) (rest := []) (pc' := 70) (lv' := [(0, .ref 606), (1, .int x1), (2, .int x2), (3, .int x3), (4, .int x4), (5, .int x5), (6, .int x6), (7, .int x7), (8, .int x8), (9, .int x9)]) (fun n => rfl) (ok_fX11_set hr3) ?_
      show Ev XL xs _ 291 (ev_M r3 c w) 70 [(0, .ref 606), (1, .int x1), (2, .int x2), (3, .int x3), (4, .int x4), (5, .int x5), (6, .int x6), (7, .int x7), (8, .int x8), (9, .int x9)] [] _
      obtain ⟨r4, hr4, h⟩ := Option.bind_eq_some_iff.mp h
      refine ev_c 2 (y' := 236) (M1 := ev_M r3 c w) (la := lv_args 0 [.ref 606]) (rest := []) (pc' := 74) (lv' := [(0, .ref 606), (1, .int x1), (2, .int x2), (3, .int x3), (4, .int x4), (5, .int x5), (6, .int x6), (7, .int x7), (8, .int x8), (9, .int x9)]) (fun n => rfl) (ok_fX11_live hr4) ?_
      show Ev XL xs _ 291 (ev_M r4 c w) 74 [(0, .ref 606), (1, .int x1), (2, .int x2), (3, .int x3), (4, .int x4), (5, .int x5), (6, .int x6), (7, .int x7), (8, .int x8), (9, .int x9)] [] _
      refine ev_i 14 (M1 := ev_M r4 c w) (pc1 := 94) (lv1 := [(0, .ref 606), (1, .int x1), (2, .int x2), (3, .int x3), (4, .int x4), (5, .int x5), (6, .int x6), (7, .int x7), (8, .int x8), (9, .int x9)]) (st1 := [.int x5, .int (x4 - 1), .int x3, .int x2, .int (x1 + 1), .ref 606, .int x8]) (M2 := ev_M r4 c w) (pc2 := 99) (lv2 := [(0, .ref 606), (1, .int x1), (2, .int x2), (3, .int x3), (4, .int x4), (5, .int x5), (6, .int x6), (7, .int x7), (8, .int x8), (9, .int x9)]) (st2 := [.int x5, .int (x4 - 1), .int x3, .int x2, .int (x1 + 1), .ref 606, .int x8]) (fun n => rfl) h (fun hc5 h => ?_) (fun hc5 h => ?_)
      · refine ev_s 2 (M' := ev_M r4 c w) (pc' := 104) (lv' := [(0, .ref 606), (1, .int x1), (2, .int x2), (3, .int x3), (4, .int x4), (5, .int x5), (6, .int x6), (7, .int x7), (8, .int x8), (9, .int x9)]) (st' := [.int x7, .int x5, .int (x4 - 1), .int x3, .int x2, .int (x1 + 1), .ref 606, .int x8]) (fun n => rfl) ?_
        refine ev_sub (lv := [(0, .ref 606), (1, .int x1), (2, .int x2), (3, .int x3), (4, .int x4), (5, .int x5), (6, .int x6), (7, .int x7), (9, .int x9)]) (mn_of rfl (by repeat (first | exact trivial | refine And.intro rfl ?_))) ?_
        exact ok_fX11_oddsFrom_b_c104 hkB ih h
      · refine ev_s 3 (M' := ev_M r4 c w) (pc' := 104) (lv' := [(0, .ref 606), (1, .int x1), (2, .int x2), (3, .int x3), (4, .int x4), (5, .int x5), (6, .int x6), (7, .int x7), (8, .int x8), (9, .int x9)]) (st' := [.int (x6 - x7), .int x5, .int (x4 - 1), .int x3, .int x2, .int (x1 + 1), .ref 606, .int x8]) (fun n => rfl) ?_
        refine ev_sub (lv := [(0, .ref 606), (1, .int x1), (2, .int x2), (3, .int x3), (4, .int x4), (5, .int x5), (6, .int x6), (7, .int x7), (9, .int x9)]) (mn_of rfl (by repeat (first | exact trivial | refine And.intro rfl ?_))) ?_
        exact ok_fX11_oddsFrom_b_c104 hkB ih h
    · cases h
      exact ev_r 2 (fun n => rfl)
def fX11_oddsFrom_b (kB : mm_MM → Int32 → Int32 → Int32 → Int32 → Int32 → Int32 → Option (Int32 × mm_MM)) (m : mm_MM) (x1 : Int32) (x2 : Int32) (x3 : Int32) (x4 : Int32) (x5 : Int32) (x6 : Int32) : Option (Int32 × mm_MM) :=
  (if x4 = 0 then
    (fX11_of m x2 0).bind fun r2 =>
     (if r2.1 < x3 then
       fX11_oddsFrom_b_c21 kB r2.2 0
      else
       fX11_oddsFrom_b_c21 kB r2.2 x6)
   else
    (fX11_putAside m x1).bind fun r4 =>
     fX11_oddsFrom_b_c47 kB fu r4 x1 x2 x3 x4 x5 x6 (Int64.toInt32 ((((Int32.toInt64 x6) * (Int32.toInt64 x5)) : Int64) / 100)) 0 0)
set_option maxRecDepth 20000 in
theorem ok_fX11_oddsFrom_b {kB : mm_MM → Int32 → Int32 → Int32 → Int32 → Int32 → Int32 → Option (Int32 × mm_MM)} (hkB : ∀ (j : Nat) (m : mm_MM) (x1 : Int32) (x2 : Int32) (x3 : Int32) (x4 : Int32) (x5 : Int32) (x6 : Int32) (q0 : Int32 × mm_MM), kB m x1 x2 x3 x4 x5 x6 = some q0 → Ev XL xs (d + 7 + j) 291 (ev_M m c w) 0 (lv_args 0 [.ref 606, .int x1, .int x2, .int x3, .int x4, .int x5, .int x6]) [] (fr_i c w q0)) {m : mm_MM} {x1 : Int32} {x2 : Int32} {x3 : Int32} {x4 : Int32} {x5 : Int32} {x6 : Int32} {q0 : Int32 × mm_MM} (h : fX11_oddsFrom_b kB m x1 x2 x3 x4 x5 x6 = some q0) : Ev XL xs (d + 8) 291 (ev_M m c w) 0 (lv_args 0 [.ref 606, .int x1, .int x2, .int x3, .int x4, .int x5, .int x6]) [] (fr_i c w q0) := by
  unfold fX11_oddsFrom_b at h
  refine ev_i 2 (M1 := ev_M m c w) (pc1 := 5) (lv1 := [(0, .ref 606), (1, .int x1), (2, .int x2), (3, .int x3), (4, .int x4), (5, .int x5), (6, .int x6)]) (st1 := []) (M2 := ev_M m c w) (pc2 := 22) (lv2 := [(0, .ref 606), (1, .int x1), (2, .int x2), (3, .int x3), (4, .int x4), (5, .int x5), (6, .int x6)]) (st2 := []) (fun n => rfl) h (fun hc1 h => ?_) (fun hc1 h => ?_)
  · obtain ⟨r2, hr2, h⟩ := Option.bind_eq_some_iff.mp h
    refine ev_c 4 (y' := 220) (M1 := ev_M m c w) (la := lv_args 0 [.ref 606, .int x2, .int 0]) (rest := []) (pc' := 11) (lv' := [(0, .ref 606), (1, .int x1), (2, .int x2), (3, .int x3), (4, .int x4), (5, .int x5), (6, .int x6)]) (fun n => rfl) (ok_fX11_of hr2) ?_
    show Ev XL xs _ 291 (ev_M r2.2 c w) 11 [(0, .ref 606), (1, .int x1), (2, .int x2), (3, .int x3), (4, .int x4), (5, .int x5), (6, .int x6)] [.int r2.1] _
    refine ev_i 2 (M1 := ev_M r2.2 c w) (pc1 := 20) (lv1 := [(0, .ref 606), (1, .int x1), (2, .int x2), (3, .int x3), (4, .int x4), (5, .int x5), (6, .int x6)]) (st1 := []) (M2 := ev_M r2.2 c w) (pc2 := 15) (lv2 := [(0, .ref 606), (1, .int x1), (2, .int x2), (3, .int x3), (4, .int x4), (5, .int x5), (6, .int x6)]) (st2 := []) (fun n => rfl) h (fun hc3 h => ?_) (fun hc3 h => ?_)
    · refine ev_s 1 (M' := ev_M r2.2 c w) (pc' := 21) (lv' := [(0, .ref 606), (1, .int x1), (2, .int x2), (3, .int x3), (4, .int x4), (5, .int x5), (6, .int x6)]) (st' := [.int 0]) (fun n => rfl) ?_
      refine ev_sub (lv := []) (mn_of rfl (by repeat (first | exact trivial | refine And.intro rfl ?_))) ?_
      exact ok_fX11_oddsFrom_b_c21 hkB h
    · refine ev_s 2 (M' := ev_M r2.2 c w) (pc' := 21) (lv' := [(0, .ref 606), (1, .int x1), (2, .int x2), (3, .int x3), (4, .int x4), (5, .int x5), (6, .int x6)]) (st' := [.int x6]) (fun n => rfl) ?_
      refine ev_sub (lv := []) (mn_of rfl (by repeat (first | exact trivial | refine And.intro rfl ?_))) ?_
      exact ok_fX11_oddsFrom_b_c21 hkB h
  · obtain ⟨r4, hr4, h⟩ := Option.bind_eq_some_iff.mp h
    refine ev_c 14 (y' := 264) (M1 := ev_M m c w) (la := lv_args 0 [.ref 606, .int x1]) (rest := []) (pc' := 44) (lv' := [(8, .int 0), (7, .int (Int64.toInt32 ((((Int32.toInt64 x6) * (Int32.toInt64 x5)) : Int64) / 100))), (0, .ref 606), (1, .int x1), (2, .int x2), (3, .int x3), (4, .int x4), (5, .int x5), (6, .int x6)]) (fun n => rfl) (ok_fX11_putAside hr4) ?_
    show Ev XL xs _ 291 (ev_M r4 c w) 44 [(8, .int 0), (7, .int (Int64.toInt32 ((((Int32.toInt64 x6) * (Int32.toInt64 x5)) : Int64) / 100))), (0, .ref 606), (1, .int x1), (2, .int x2), (3, .int x3), (4, .int x4), (5, .int x5), (6, .int x6)] [] _
    refine ev_s 2 (M' := ev_M r4 c w) (pc' := 47) (lv' := [(9, .int 0), (8, .int 0), (7, .int (Int64.toInt32 ((((Int32.toInt64 x6) * (Int32.toInt64 x5)) : Int64) / 100))), (0, .ref 606), (1, .int x1), (2, .int x2), (3, .int x3), (4, .int x4), (5, .int x5), (6, .int x6)]) (st' := []) (fun n => rfl) ?_
    refine ev_sub (lv := [(0, .ref 606), (1, .int x1), (2, .int x2), (3, .int x3), (4, .int x4), (5, .int x5), (6, .int x6), (7, .int (Int64.toInt32 ((((Int32.toInt64 x6) * (Int32.toInt64 x5)) : Int64) / 100))), (8, .int 0), (9, .int 0)]) (mn_of rfl (by repeat (first | exact trivial | refine And.intro rfl ?_))) ?_
    exact ok_fX11_oddsFrom_b_c47 hkB fu _ _ _ _ _ _ _ _ _ _ _ h
def fX11_oddsFrom : Nat → mm_MM → Int32 → Int32 → Int32 → Int32 → Int32 → Int32 → Option (Int32 × mm_MM)
  | 0 => fun _ _ _ _ _ _ _ => none
  | n + 1 => fun m x1 x2 x3 x4 x5 x6 => fX11_oddsFrom_b (fX11_oddsFrom n) m x1 x2 x3 x4 x5 x6
theorem ok_fX11_oddsFrom : ∀ (n j : Nat) (m : mm_MM) (x1 : Int32) (x2 : Int32) (x3 : Int32) (x4 : Int32) (x5 : Int32) (x6 : Int32) (q0 : Int32 × mm_MM), fX11_oddsFrom n m x1 x2 x3 x4 x5 x6 = some q0 → Ev XL xs (d + 1 * n + 7 + j) 291 (ev_M m c w) 0 (lv_args 0 [.ref 606, .int x1, .int x2, .int x3, .int x4, .int x5, .int x6]) [] (fr_i c w q0) := by
  intro n
  induction n with
  | zero => intro j m x1 x2 x3 x4 x5 x6 q0 h; exact absurd (show (none : Option (Int32 × mm_MM)) = some q0 from h) (by simp)
  | succ n ih =>
    intro j m x1 x2 x3 x4 x5 x6 q0 h
    have h : fX11_oddsFrom_b (fX11_oddsFrom n) m x1 x2 x3 x4 x5 x6 = some q0 := h
    have g := ok_fX11_oddsFrom_b (XL := XL) (xs := xs) (c := c) (w := w) (d := d + 1 * n + j) (fun j2 m x1 x2 x3 x4 x5 x6 q0 h => by
      have i := ih (j + j2) m x1 x2 x3 x4 x5 x6 q0 h
      rwa [show d + 1 * n + 7 + (j + j2) = d + 1 * n + j + 7 + j2 by omega] at i) h
    rwa [show d + 1 * n + j + 8 = d + 1 * (n + 1) + 7 + j by omega] at g

def fX11_odds_c40 (m : mm_MM) : Option (Int32 × mm_MM) :=
  some (((-1) : Int32), m)
theorem ok_fX11_odds_c40 {m : mm_MM} {q0 : Int32 × mm_MM} (h : fX11_odds_c40 m = some q0) : Ev XL xs (d + 20) 292 (ev_M m c w) 40 [] [] (fr_i c w q0) := by
  unfold fX11_odds_c40 at h
  cases h
  exact ev_r 2 (fun n => rfl)
def fX11_odds (m : mm_MM) (x1 : Int32) (x2 : Int32) (x3 : Int32) (x4 : Int32) : Option (Int32 × mm_MM) :=
  (fX11_doesLie m x1).bind fun r1 =>
   (if r1.1 = 0 then
     fX11_odds_c40 r1.2
    else
     (fX11_in r1.2 x2 0 6).bind fun r3 =>
      (if r3.1 = 0 then
        fX11_odds_c40 r3.2
       else
        (fX11_in r3.2 x3 0 200).bind fun r5 =>
         (if r5.1 = 0 then
           fX11_odds_c40 r5.2
          else
           (fX11_in r5.2 x4 0 100).bind fun r7 =>
            (if r7.1 = 0 then
              fX11_odds_c40 r7.2
             else
              (fX11_oddsFrom 12 r7.2 0 x1 x3 x2 x4 1000000000).bind fun r9 =>
               some (r9.1, r9.2)))))
theorem ok_fX11_odds {m : mm_MM} {x1 : Int32} {x2 : Int32} {x3 : Int32} {x4 : Int32} {q0 : Int32 × mm_MM} (h : fX11_odds m x1 x2 x3 x4 = some q0) : Ev XL xs (d + 20) 292 (ev_M m c w) 0 (lv_args 0 [.ref 606, .int x1, .int x2, .int x3, .int x4]) [] (fr_i c w q0) := by
  unfold fX11_odds at h
  obtain ⟨r1, hr1, h⟩ := Option.bind_eq_some_iff.mp h
  refine ev_c 3 (y' := 226) (M1 := ev_M m c w) (la := lv_args 0 [.ref 606, .int x1]) (rest := []) (pc' := 5) (lv' := [(0, .ref 606), (1, .int x1), (2, .int x2), (3, .int x3), (4, .int x4)]) (fun n => rfl) (ok_fX11_doesLie hr1) ?_
  show Ev XL xs _ 292 (ev_M r1.2 c w) 5 [(0, .ref 606), (1, .int x1), (2, .int x2), (3, .int x3), (4, .int x4)] [.int r1.1] _
  refine ev_i 1 (M1 := ev_M r1.2 c w) (pc1 := 40) (lv1 := [(0, .ref 606), (1, .int x1), (2, .int x2), (3, .int x3), (4, .int x4)]) (st1 := []) (M2 := ev_M r1.2 c w) (pc2 := 8) (lv2 := [(0, .ref 606), (1, .int x1), (2, .int x2), (3, .int x3), (4, .int x4)]) (st2 := []) (fun n => rfl) h (fun hc2 h => ?_) (fun hc2 h => ?_)
  · refine ev_sub (lv := []) (mn_of rfl (by repeat (first | exact trivial | refine And.intro rfl ?_))) ?_
    exact ok_fX11_odds_c40 h
  · obtain ⟨r3, hr3, h⟩ := Option.bind_eq_some_iff.mp h
    refine ev_c 4 (y' := 178) (M1 := ev_M r1.2 c w) (la := lv_args 0 [.int x2, .int 0, .int 6]) (rest := []) (pc' := 15) (lv' := [(0, .ref 606), (1, .int x1), (2, .int x2), (3, .int x3), (4, .int x4)]) (fun n => rfl) (ok_fX11_in hr3) ?_
    show Ev XL xs _ 292 (ev_M r3.2 c w) 15 [(0, .ref 606), (1, .int x1), (2, .int x2), (3, .int x3), (4, .int x4)] [.int r3.1] _
    refine ev_i 1 (M1 := ev_M r3.2 c w) (pc1 := 40) (lv1 := [(0, .ref 606), (1, .int x1), (2, .int x2), (3, .int x3), (4, .int x4)]) (st1 := []) (M2 := ev_M r3.2 c w) (pc2 := 18) (lv2 := [(0, .ref 606), (1, .int x1), (2, .int x2), (3, .int x3), (4, .int x4)]) (st2 := []) (fun n => rfl) h (fun hc4 h => ?_) (fun hc4 h => ?_)
    · refine ev_sub (lv := []) (mn_of rfl (by repeat (first | exact trivial | refine And.intro rfl ?_))) ?_
      exact ok_fX11_odds_c40 h
    · obtain ⟨r5, hr5, h⟩ := Option.bind_eq_some_iff.mp h
      refine ev_c 4 (y' := 178) (M1 := ev_M r3.2 c w) (la := lv_args 0 [.int x3, .int 0, .int 200]) (rest := []) (pc' := 26) (lv' := [(0, .ref 606), (1, .int x1), (2, .int x2), (3, .int x3), (4, .int x4)]) (fun n => rfl) (ok_fX11_in hr5) ?_
      show Ev XL xs _ 292 (ev_M r5.2 c w) 26 [(0, .ref 606), (1, .int x1), (2, .int x2), (3, .int x3), (4, .int x4)] [.int r5.1] _
      refine ev_i 1 (M1 := ev_M r5.2 c w) (pc1 := 40) (lv1 := [(0, .ref 606), (1, .int x1), (2, .int x2), (3, .int x3), (4, .int x4)]) (st1 := []) (M2 := ev_M r5.2 c w) (pc2 := 29) (lv2 := [(0, .ref 606), (1, .int x1), (2, .int x2), (3, .int x3), (4, .int x4)]) (st2 := []) (fun n => rfl) h (fun hc6 h => ?_) (fun hc6 h => ?_)
      · refine ev_sub (lv := []) (mn_of rfl (by repeat (first | exact trivial | refine And.intro rfl ?_))) ?_
        exact ok_fX11_odds_c40 h
      · obtain ⟨r7, hr7, h⟩ := Option.bind_eq_some_iff.mp h
        refine ev_c 4 (y' := 178) (M1 := ev_M r5.2 c w) (la := lv_args 0 [.int x4, .int 0, .int 100]) (rest := []) (pc' := 37) (lv' := [(0, .ref 606), (1, .int x1), (2, .int x2), (3, .int x3), (4, .int x4)]) (fun n => rfl) (ok_fX11_in hr7) ?_
        show Ev XL xs _ 292 (ev_M r7.2 c w) 37 [(0, .ref 606), (1, .int x1), (2, .int x2), (3, .int x3), (4, .int x4)] [.int r7.1] _
        refine ev_i 1 (M1 := ev_M r7.2 c w) (pc1 := 40) (lv1 := [(0, .ref 606), (1, .int x1), (2, .int x2), (3, .int x3), (4, .int x4)]) (st1 := []) (M2 := ev_M r7.2 c w) (pc2 := 42) (lv2 := [(0, .ref 606), (1, .int x1), (2, .int x2), (3, .int x3), (4, .int x4)]) (st2 := []) (fun n => rfl) h (fun hc8 h => ?_) (fun hc8 h => ?_)
        · refine ev_sub (lv := []) (mn_of rfl (by repeat (first | exact trivial | refine And.intro rfl ?_))) ?_
          exact ok_fX11_odds_c40 h
        · obtain ⟨r9, hr9, h⟩ := Option.bind_eq_some_iff.mp h
          refine ev_c 8 (y' := 291) (M1 := ev_M r7.2 c w) (la := lv_args 0 [.ref 606, .int 0, .int x1, .int x3, .int x2, .int x4, .int 1000000000]) (rest := []) (pc' := 55) (lv' := [(0, .ref 606), (1, .int x1), (2, .int x2), (3, .int x3), (4, .int x4)]) (fun n => rfl) (ok_fX11_oddsFrom (d := d) 12 0 _ _ _ _ _ _ _ _ hr9) ?_
          show Ev XL xs _ 292 (ev_M r9.2 c w) 55 [(0, .ref 606), (1, .int x1), (2, .int x2), (3, .int x3), (4, .int x4)] [.int r9.1] _
          cases h
          exact ev_r 1 (fun n => rfl)
end EV
