section EV
variable {XL : Nat} {xs : Nat → Int32} {d c w : Nat}

def fX11_in_c15 (m : mm_MM) (s0 : Int32) : Option (Int32 × mm_MM) :=
  (if s0 = 0 ∨ s0 = 1 then some (s0, m) else none)
theorem ok_fX11_in_c15 {m : mm_MM} {s0 : Int32} {q0 : Int32 × mm_MM} (h : fX11_in_c15 m s0 = some q0) : Ev XL xs d 178 (ev_M m c w) 15 [] [.int s0] (fr_i c w q0) := by
  unfold fX11_in_c15 at h
  exact ev_rg 1 (f := fr_i c w) (fun n => rfl) h
def fX11_in_c14 (m : mm_MM) : Option (Int32 × mm_MM) :=
  fX11_in_c15 m 0
theorem ok_fX11_in_c14 {m : mm_MM} {q0 : Int32 × mm_MM} (h : fX11_in_c14 m = some q0) : Ev XL xs d 178 (ev_M m c w) 14 [] [] (fr_i c w q0) := by
  unfold fX11_in_c14 at h
  refine ev_s 1 (M' := ev_M m c w) (pc' := 15) (lv' := []) (st' := [.int 0]) (fun n => rfl) ?_
  exact ok_fX11_in_c15 h
def fX11_in (m : mm_MM) (x0 : Int32) (x1 : Int32) (x2 : Int32) : Option (Int32 × mm_MM) :=
  (if x0 < x1 then
    fX11_in_c14 m
   else
    (if x0 ≤ x2 then
      fX11_in_c15 m 1
     else
      fX11_in_c14 m))
theorem ok_fX11_in {m : mm_MM} {x0 : Int32} {x1 : Int32} {x2 : Int32} {q0 : Int32 × mm_MM} (h : fX11_in m x0 x1 x2 = some q0) : Ev XL xs d 178 (ev_M m c w) 0 (lv_args 0 [.int x0, .int x1, .int x2]) [] (fr_i c w q0) := by
  unfold fX11_in at h
  refine ev_i 3 (M1 := ev_M m c w) (pc1 := 14) (lv1 := [(0, .int x0), (1, .int x1), (2, .int x2)]) (st1 := []) (M2 := ev_M m c w) (pc2 := 5) (lv2 := [(0, .int x0), (1, .int x1), (2, .int x2)]) (st2 := []) (fun n => rfl) h (fun hc1 h => ?_) (fun hc1 h => ?_)
  · refine ev_sub (lv := []) (mn_of rfl (by repeat (first | exact trivial | refine And.intro rfl ?_))) ?_
    exact ok_fX11_in_c14 h
  · refine ev_i 3 (M1 := ev_M m c w) (pc1 := 10) (lv1 := [(0, .int x0), (1, .int x1), (2, .int x2)]) (st1 := []) (M2 := ev_M m c w) (pc2 := 14) (lv2 := [(0, .int x0), (1, .int x1), (2, .int x2)]) (st2 := []) (fun n => rfl) h (fun hc2 h => ?_) (fun hc2 h => ?_)
    · refine ev_s 2 (M' := ev_M m c w) (pc' := 15) (lv' := [(0, .int x0), (1, .int x1), (2, .int x2)]) (st' := [.int 1]) (fun n => rfl) ?_
      refine ev_sub (lv := []) (mn_of rfl (by repeat (first | exact trivial | refine And.intro rfl ?_))) ?_
      exact ok_fX11_in_c15 h
    · refine ev_sub (lv := []) (mn_of rfl (by repeat (first | exact trivial | refine And.intro rfl ?_))) ?_
      exact ok_fX11_in_c14 h
def fX11_has_c14 (m : mm_MM) (s0 : Int32) : Option (Int32 × mm_MM) :=
  (if s0 = 0 ∨ s0 = 1 then some (s0, m) else none)
theorem ok_fX11_has_c14 {m : mm_MM} {s0 : Int32} {q0 : Int32 × mm_MM} (h : fX11_has_c14 m s0 = some q0) : Ev XL xs d 179 (ev_M m c w) 14 [] [.int s0] (fr_i c w q0) := by
  unfold fX11_has_c14 at h
  exact ev_rg 1 (f := fr_i c w) (fun n => rfl) h
def fX11_has (m : mm_MM) (x0 : Int32) (x1 : Int32) : Option (Int32 × mm_MM) :=
  (if (((x0 : Int32) >>> (x1 &&& 31)) &&& 1) = 1 then
    fX11_has_c14 m 1
   else
    fX11_has_c14 m 0)
theorem ok_fX11_has {m : mm_MM} {x0 : Int32} {x1 : Int32} {q0 : Int32 × mm_MM} (h : fX11_has m x0 x1 = some q0) : Ev XL xs d 179 (ev_M m c w) 0 (lv_args 0 [.int x0, .int x1]) [] (fr_i c w q0) := by
  unfold fX11_has at h
  refine ev_i 7 (M1 := ev_M m c w) (pc1 := 9) (lv1 := [(0, .int x0), (1, .int x1)]) (st1 := []) (M2 := ev_M m c w) (pc2 := 13) (lv2 := [(0, .int x0), (1, .int x1)]) (st2 := []) (fun n => rfl) h (fun hc1 h => ?_) (fun hc1 h => ?_)
  · refine ev_s 2 (M' := ev_M m c w) (pc' := 14) (lv' := [(0, .int x0), (1, .int x1)]) (st' := [.int 1]) (fun n => rfl) ?_
    refine ev_sub (lv := []) (mn_of rfl (by repeat (first | exact trivial | refine And.intro rfl ?_))) ?_
    exact ok_fX11_has_c14 h
  · refine ev_s 1 (M' := ev_M m c w) (pc' := 14) (lv' := [(0, .int x0), (1, .int x1)]) (st' := [.int 0]) (fun n => rfl) ?_
    refine ev_sub (lv := []) (mn_of rfl (by repeat (first | exact trivial | refine And.intro rfl ?_))) ?_
    exact ok_fX11_has_c14 h
def fX11_thrown (m : mm_MM) : Option (Int32 × mm_MM) :=
  some (m.1 606 0, m)
theorem ok_fX11_thrown {m : mm_MM} {q0 : Int32 × mm_MM} (h : fX11_thrown m = some q0) : Ev XL xs d 181 (ev_M m c w) 0 (lv_args 0 [.ref 606]) [] (fr_i c w q0) := by
  unfold fX11_thrown at h
  cases h
  exact ev_r 3 (fun n => rfl)
def fX11_byteOf_c45 (m : mm_MM) (x5 : Int32) (s0 : Int32) : Option (Int32 × mm_MM) :=
  some ((((s0 : Int32) >>> ((24 - (8 * ((x5 : Int32) - x5 / 4 * 4))) &&& 31)) &&& 255), m)
theorem ok_fX11_byteOf_c45 {m : mm_MM} {x5 : Int32} {s0 : Int32} {q0 : Int32 × mm_MM} (h : fX11_byteOf_c45 m x5 s0 = some q0) : Ev XL xs d 182 (ev_M m c w) 45 [(5, .int x5)] [.int s0] (fr_i c w q0) := by
  unfold fX11_byteOf_c45 at h
  cases h
  exact ev_r 13 (fun n => rfl)
def fX11_byteOf (m : mm_MM) (x0 : Int32) (x1 : Int32) (x2 : Int32) (x3 : Int32) (x4 : Int32) (x5 : Int32) : Option (Int32 × mm_MM) :=
  (if x5 < 4 then
    fX11_byteOf_c45 m x5 x0
   else
    (if x5 < 8 then
      fX11_byteOf_c45 m x5 x1
     else
      (if x5 < 12 then
        fX11_byteOf_c45 m x5 x2
       else
        (if x5 < 16 then
          fX11_byteOf_c45 m x5 x3
         else
          fX11_byteOf_c45 m x5 x4))))
theorem ok_fX11_byteOf {m : mm_MM} {x0 : Int32} {x1 : Int32} {x2 : Int32} {x3 : Int32} {x4 : Int32} {x5 : Int32} {q0 : Int32 × mm_MM} (h : fX11_byteOf m x0 x1 x2 x3 x4 x5 = some q0) : Ev XL xs d 182 (ev_M m c w) 0 (lv_args 0 [.int x0, .int x1, .int x2, .int x3, .int x4, .int x5]) [] (fr_i c w q0) := by
  unfold fX11_byteOf at h
  refine ev_i 3 (M1 := ev_M m c w) (pc1 := 6) (lv1 := [(0, .int x0), (1, .int x1), (2, .int x2), (3, .int x3), (4, .int x4), (5, .int x5)]) (st1 := []) (M2 := ev_M m c w) (pc2 := 10) (lv2 := [(0, .int x0), (1, .int x1), (2, .int x2), (3, .int x3), (4, .int x4), (5, .int x5)]) (st2 := []) (fun n => rfl) h (fun hc1 h => ?_) (fun hc1 h => ?_)
  · refine ev_s 2 (M' := ev_M m c w) (pc' := 45) (lv' := [(0, .int x0), (1, .int x1), (2, .int x2), (3, .int x3), (4, .int x4), (5, .int x5)]) (st' := [.int x0]) (fun n => rfl) ?_
    refine ev_sub (lv := [(5, .int x5)]) (mn_of rfl (by repeat (first | exact trivial | refine And.intro rfl ?_))) ?_
    exact ok_fX11_byteOf_c45 h
  · refine ev_i 3 (M1 := ev_M m c w) (pc1 := 17) (lv1 := [(0, .int x0), (1, .int x1), (2, .int x2), (3, .int x3), (4, .int x4), (5, .int x5)]) (st1 := []) (M2 := ev_M m c w) (pc2 := 21) (lv2 := [(0, .int x0), (1, .int x1), (2, .int x2), (3, .int x3), (4, .int x4), (5, .int x5)]) (st2 := []) (fun n => rfl) h (fun hc2 h => ?_) (fun hc2 h => ?_)
    · refine ev_s 2 (M' := ev_M m c w) (pc' := 45) (lv' := [(0, .int x0), (1, .int x1), (2, .int x2), (3, .int x3), (4, .int x4), (5, .int x5)]) (st' := [.int x1]) (fun n => rfl) ?_
      refine ev_sub (lv := [(5, .int x5)]) (mn_of rfl (by repeat (first | exact trivial | refine And.intro rfl ?_))) ?_
      exact ok_fX11_byteOf_c45 h
    · refine ev_i 3 (M1 := ev_M m c w) (pc1 := 28) (lv1 := [(0, .int x0), (1, .int x1), (2, .int x2), (3, .int x3), (4, .int x4), (5, .int x5)]) (st1 := []) (M2 := ev_M m c w) (pc2 := 32) (lv2 := [(0, .int x0), (1, .int x1), (2, .int x2), (3, .int x3), (4, .int x4), (5, .int x5)]) (st2 := []) (fun n => rfl) h (fun hc3 h => ?_) (fun hc3 h => ?_)
      · refine ev_s 2 (M' := ev_M m c w) (pc' := 45) (lv' := [(0, .int x0), (1, .int x1), (2, .int x2), (3, .int x3), (4, .int x4), (5, .int x5)]) (st' := [.int x2]) (fun n => rfl) ?_
        refine ev_sub (lv := [(5, .int x5)]) (mn_of rfl (by repeat (first | exact trivial | refine And.intro rfl ?_))) ?_
        exact ok_fX11_byteOf_c45 h
      · refine ev_i 3 (M1 := ev_M m c w) (pc1 := 39) (lv1 := [(0, .int x0), (1, .int x1), (2, .int x2), (3, .int x3), (4, .int x4), (5, .int x5)]) (st1 := []) (M2 := ev_M m c w) (pc2 := 43) (lv2 := [(0, .int x0), (1, .int x1), (2, .int x2), (3, .int x3), (4, .int x4), (5, .int x5)]) (st2 := []) (fun n => rfl) h (fun hc4 h => ?_) (fun hc4 h => ?_)
        · refine ev_s 2 (M' := ev_M m c w) (pc' := 45) (lv' := [(0, .int x0), (1, .int x1), (2, .int x2), (3, .int x3), (4, .int x4), (5, .int x5)]) (st' := [.int x3]) (fun n => rfl) ?_
          refine ev_sub (lv := [(5, .int x5)]) (mn_of rfl (by repeat (first | exact trivial | refine And.intro rfl ?_))) ?_
          exact ok_fX11_byteOf_c45 h
        · refine ev_s 1 (M' := ev_M m c w) (pc' := 45) (lv' := [(0, .int x0), (1, .int x1), (2, .int x2), (3, .int x3), (4, .int x4), (5, .int x5)]) (st' := [.int x4]) (fun n => rfl) ?_
          refine ev_sub (lv := [(5, .int x5)]) (mn_of rfl (by repeat (first | exact trivial | refine And.intro rfl ?_))) ?_
          exact ok_fX11_byteOf_c45 h
def fX11_feed_c35 (kr6 : mm_MM → Int32 → Int32 → Int32 → Int32 → Int32 → Int32 → Int32 → Option (Int32 × mm_MM)) (m : mm_MM) (x1 : Int32) (x2 : Int32) (x3 : Int32) (x4 : Int32) (x5 : Int32) (x7 : Int32) (s0 : Int32) (s1 : Int32) : Option (Int32 × mm_MM) :=
  kr6 m x1 x2 x3 x4 x5 (s0 + s1) (x7 + 1)
set_option maxRecDepth 20000 in
theorem ok_fX11_feed_c35 {kr6 : mm_MM → Int32 → Int32 → Int32 → Int32 → Int32 → Int32 → Int32 → Option (Int32 × mm_MM)} (hkr6 : ∀ (m : mm_MM) (x1 : Int32) (x2 : Int32) (x3 : Int32) (x4 : Int32) (x5 : Int32) (x6 : Int32) (x7 : Int32) (q0 : Int32 × mm_MM), kr6 m x1 x2 x3 x4 x5 x6 x7 = some q0 → Ev XL xs (d + 1) 183 (ev_M m c w) 6 [(0, .ref 606), (1, .int x1), (2, .int x2), (3, .int x3), (4, .int x4), (5, .int x5), (6, .int x6), (7, .int x7)] [] (fr_i c w q0)) {m : mm_MM} {x1 : Int32} {x2 : Int32} {x3 : Int32} {x4 : Int32} {x5 : Int32} {x7 : Int32} {s0 : Int32} {s1 : Int32} {q0 : Int32 × mm_MM} (h : fX11_feed_c35 kr6 m x1 x2 x3 x4 x5 x7 s0 s1 = some q0) : Ev XL xs (d + 1) 183 (ev_M m c w) 35 [(0, .ref 606), (1, .int x1), (2, .int x2), (3, .int x3), (4, .int x4), (5, .int x5), (7, .int x7)] [.int s1, .int s0] (fr_i c w q0) := by
  unfold fX11_feed_c35 at h
  refine ev_s 4 (M' := ev_M m c w) (pc' := 6) (lv' := [(7, .int (x7 + 1)), (6, .int (s0 + s1)), (0, .ref 606), (1, .int x1), (2, .int x2), (3, .int x3), (4, .int x4), (5, .int x5)]) (st' := []) (fun n => rfl) ?_
  refine ev_sub (lv := [(0, .ref 606), (1, .int x1), (2, .int x2), (3, .int x3), (4, .int x4), (5, .int x5), (6, .int (s0 + s1)), (7, .int (x7 + 1))]) (mn_of rfl (by repeat (first | exact trivial | refine And.intro rfl ?_))) ?_
  exact hkr6 _ _ _ _ _ _ _ _ _ h
def fX11_feed_c109 (kr62 : mm_MM → Int32 → Int32 → Int32 → Int32 → Int32 → Int32 → Option (Int32 × mm_MM)) (m : mm_MM) (x1 : Int32) (x2 : Int32) (x3 : Int32) (x4 : Int32) (x5 : Int32) (x7 : Int32) : Option (Int32 × mm_MM) :=
  kr62 m x1 x2 x3 x4 x5 (x7 + 1)
set_option maxRecDepth 20000 in
theorem ok_fX11_feed_c109 {kr62 : mm_MM → Int32 → Int32 → Int32 → Int32 → Int32 → Int32 → Option (Int32 × mm_MM)} (hkr62 : ∀ (m : mm_MM) (x1 : Int32) (x2 : Int32) (x3 : Int32) (x4 : Int32) (x5 : Int32) (x7 : Int32) (q0 : Int32 × mm_MM), kr62 m x1 x2 x3 x4 x5 x7 = some q0 → Ev XL xs (d + 1) 183 (ev_M m c w) 62 [(0, .ref 606), (1, .int x1), (2, .int x2), (3, .int x3), (4, .int x4), (5, .int x5), (7, .int x7)] [] (fr_i c w q0)) {m : mm_MM} {x1 : Int32} {x2 : Int32} {x3 : Int32} {x4 : Int32} {x5 : Int32} {x7 : Int32} {q0 : Int32 × mm_MM} (h : fX11_feed_c109 kr62 m x1 x2 x3 x4 x5 x7 = some q0) : Ev XL xs (d + 1) 183 (ev_M m c w) 109 [(0, .ref 606), (1, .int x1), (2, .int x2), (3, .int x3), (4, .int x4), (5, .int x5), (7, .int x7)] [] (fr_i c w q0) := by
  unfold fX11_feed_c109 at h
  refine ev_s 2 (M' := ev_M m c w) (pc' := 62) (lv' := [(7, .int (x7 + 1)), (0, .ref 606), (1, .int x1), (2, .int x2), (3, .int x3), (4, .int x4), (5, .int x5)]) (st' := []) (fun n => rfl) ?_
  refine ev_sub (lv := [(0, .ref 606), (1, .int x1), (2, .int x2), (3, .int x3), (4, .int x4), (5, .int x5), (7, .int (x7 + 1))]) (mn_of rfl (by repeat (first | exact trivial | refine And.intro rfl ?_))) ?_
  exact hkr62 _ _ _ _ _ _ _ _ h
def fX11_feed_c62 : Nat → mm_MM → Int32 → Int32 → Int32 → Int32 → Int32 → Int32 → Option (Int32 × mm_MM)
  | 0 => fun _ _ _ _ _ _ _ => none
  | n + 1 => fun m x1 x2 x3 x4 x5 x7 =>
    (if x7 < 20 then
      (fX11_byteOf m x1 x2 x3 x4 x5 x7).bind fun r2 =>
       (if r2.1 = 0 then
         fX11_feed_c109 (fX11_feed_c62 n) r2.2 x1 x2 x3 x4 x5 x7
        else
         (if r2.2.1 606 2 < 0 ∨ 240 ≤ (r2.2.1 606 2).toNatClampNeg then none else
          fX11_feed_c109 (fX11_feed_c62 n) (wI (wI r2.2 607 ((r2.2.1 606 2).toNatClampNeg) r2.1) 606 2 (r2.2.1 606 2 + 1)) x1 x2 x3 x4 x5 x7))
     else
      some (m.1 606 2, m))
set_option maxRecDepth 20000 in
theorem ok_fX11_feed_c62 : ∀ (n : Nat) (m : mm_MM) (x1 : Int32) (x2 : Int32) (x3 : Int32) (x4 : Int32) (x5 : Int32) (x7 : Int32) (q0 : Int32 × mm_MM), fX11_feed_c62 n m x1 x2 x3 x4 x5 x7 = some q0 → Ev XL xs (d + 1) 183 (ev_M m c w) 62 [(0, .ref 606), (1, .int x1), (2, .int x2), (3, .int x3), (4, .int x4), (5, .int x5), (7, .int x7)] [] (fr_i c w q0) := by
  intro n
  induction n with
  | zero => intro m x1 x2 x3 x4 x5 x7 q0 h; exact absurd (show (none : Option (Int32 × mm_MM)) = some q0 from h) (by simp)
  | succ n ih =>
    intro m x1 x2 x3 x4 x5 x7 q0 h
    unfold fX11_feed_c62 at h
    refine ev_i 3 (M1 := ev_M m c w) (pc1 := 69) (lv1 := [(0, .ref 606), (1, .int x1), (2, .int x2), (3, .int x3), (4, .int x4), (5, .int x5), (7, .int x7)]) (st1 := []) (M2 := ev_M m c w) (pc2 := 115) (lv2 := [(0, .ref 606), (1, .int x1), (2, .int x2), (3, .int x3), (4, .int x4), (5, .int x5), (7, .int x7)]) (st2 := []) (fun n => rfl) h (fun hc1 h => ?_) (fun hc1 h => ?_)
    · obtain ⟨r2, hr2, h⟩ := Option.bind_eq_some_iff.mp h
      refine ev_c 7 (y' := 182) (M1 := ev_M m c w) (la := lv_args 0 [.int x1, .int x2, .int x3, .int x4, .int x5, .int x7]) (rest := []) (pc' := 81) (lv' := [(0, .ref 606), (1, .int x1), (2, .int x2), (3, .int x3), (4, .int x4), (5, .int x5), (7, .int x7)]) (fun n => rfl) (ok_fX11_byteOf hr2) ?_
      show Ev XL xs _ 183 (ev_M r2.2 c w) 81 [(0, .ref 606), (1, .int x1), (2, .int x2), (3, .int x3), (4, .int x4), (5, .int x5), (7, .int x7)] [.int r2.1] _
      refine ev_i 3 (M1 := ev_M r2.2 c w) (pc1 := 109) (lv1 := [(8, .int r2.1), (0, .ref 606), (1, .int x1), (2, .int x2), (3, .int x3), (4, .int x4), (5, .int x5), (7, .int x7)]) (st1 := []) (M2 := ev_M r2.2 c w) (pc2 := 88) (lv2 := [(8, .int r2.1), (0, .ref 606), (1, .int x1), (2, .int x2), (3, .int x3), (4, .int x4), (5, .int x5), (7, .int x7)]) (st2 := []) (fun n => rfl) h (fun hc3 h => ?_) (fun hc3 h => ?_)
      · refine ev_sub (lv := [(0, .ref 606), (1, .int x1), (2, .int x2), (3, .int x3), (4, .int x4), (5, .int x5), (7, .int x7)]) (mn_of rfl (by repeat (first | exact trivial | refine And.intro rfl ?_))) ?_
        exact ok_fX11_feed_c109 ih h
      · refine ev_g 6 (M1 := ev_M (wI r2.2 607 ((r2.2.1 606 2).toNatClampNeg) r2.1) c w) (pc1 := 99) (lv1 := [(8, .int r2.1), (0, .ref 606), (1, .int x1), (2, .int x2), (3, .int x3), (4, .int x4), (5, .int x5), (7, .int x7)]) (st1 := []) (fun n => rfl) h (fun _ h => ?_)
        refine ev_s 6 (M' := ev_M (wI (wI r2.2 607 ((r2.2.1 606 2).toNatClampNeg) r2.1) 606 2 (r2.2.1 606 2 + 1)) c w) (pc' := 109) (lv' := [(8, .int r2.1), (0, .ref 606), (1, .int x1), (2, .int x2), (3, .int x3), (4, .int x4), (5, .int x5), (7, .int x7)]) (st' := []) (fun n => rfl) ?_
        refine ev_sub (lv := [(0, .ref 606), (1, .int x1), (2, .int x2), (3, .int x3), (4, .int x4), (5, .int x5), (7, .int x7)]) (mn_of rfl (by repeat (first | exact trivial | refine And.intro rfl ?_))) ?_
        exact ok_fX11_feed_c109 ih h
    · cases h
      exact ev_r 3 (fun n => rfl)
def fX11_feed_c6 : Nat → mm_MM → Int32 → Int32 → Int32 → Int32 → Int32 → Int32 → Int32 → Option (Int32 × mm_MM)
  | 0 => fun _ _ _ _ _ _ _ _ => none
  | n + 1 => fun m x1 x2 x3 x4 x5 x6 x7 =>
    (if x7 < 20 then
      (fX11_byteOf m x1 x2 x3 x4 x5 x7).bind fun r2 =>
       (if r2.1 = 0 then
         fX11_feed_c35 (fX11_feed_c6 n) r2.2 x1 x2 x3 x4 x5 x7 x6 0
        else
         fX11_feed_c35 (fX11_feed_c6 n) r2.2 x1 x2 x3 x4 x5 x7 x6 1)
     else
      (if (m.1 606 2 + x6) ≤ 240 then
        fX11_feed_c62 fu m x1 x2 x3 x4 x5 0
       else
        some (((-1) : Int32), m)))
set_option maxRecDepth 20000 in
theorem ok_fX11_feed_c6 : ∀ (n : Nat) (m : mm_MM) (x1 : Int32) (x2 : Int32) (x3 : Int32) (x4 : Int32) (x5 : Int32) (x6 : Int32) (x7 : Int32) (q0 : Int32 × mm_MM), fX11_feed_c6 n m x1 x2 x3 x4 x5 x6 x7 = some q0 → Ev XL xs (d + 1) 183 (ev_M m c w) 6 [(0, .ref 606), (1, .int x1), (2, .int x2), (3, .int x3), (4, .int x4), (5, .int x5), (6, .int x6), (7, .int x7)] [] (fr_i c w q0) := by
  intro n
  induction n with
  | zero => intro m x1 x2 x3 x4 x5 x6 x7 q0 h; exact absurd (show (none : Option (Int32 × mm_MM)) = some q0 from h) (by simp)
  | succ n ih =>
    intro m x1 x2 x3 x4 x5 x6 x7 q0 h
    unfold fX11_feed_c6 at h
    refine ev_i 3 (M1 := ev_M m c w) (pc1 := 13) (lv1 := [(0, .ref 606), (1, .int x1), (2, .int x2), (3, .int x3), (4, .int x4), (5, .int x5), (6, .int x6), (7, .int x7)]) (st1 := []) (M2 := ev_M m c w) (pc2 := 44) (lv2 := [(0, .ref 606), (1, .int x1), (2, .int x2), (3, .int x3), (4, .int x4), (5, .int x5), (6, .int x6), (7, .int x7)]) (st2 := []) (fun n => rfl) h (fun hc1 h => ?_) (fun hc1 h => ?_)
    · obtain ⟨r2, hr2, h⟩ := Option.bind_eq_some_iff.mp h
      refine ev_c 8 (y' := 182) (M1 := ev_M m c w) (la := lv_args 0 [.int x1, .int x2, .int x3, .int x4, .int x5, .int x7]) (rest := [.int x6]) (pc' := 27) (lv' := [(0, .ref 606), (1, .int x1), (2, .int x2), (3, .int x3), (4, .int x4), (5, .int x5), (6, .int x6), (7, .int x7)]) (fun n => rfl) (ok_fX11_byteOf hr2) ?_
      show Ev XL xs _ 183 (ev_M r2.2 c w) 27 [(0, .ref 606), (1, .int x1), (2, .int x2), (3, .int x3), (4, .int x4), (5, .int x5), (6, .int x6), (7, .int x7)] [.int r2.1, .int x6] _
      refine ev_i 1 (M1 := ev_M r2.2 c w) (pc1 := 34) (lv1 := [(0, .ref 606), (1, .int x1), (2, .int x2), (3, .int x3), (4, .int x4), (5, .int x5), (6, .int x6), (7, .int x7)]) (st1 := [.int x6]) (M2 := ev_M r2.2 c w) (pc2 := 30) (lv2 := [(0, .ref 606), (1, .int x1), (2, .int x2), (3, .int x3), (4, .int x4), (5, .int x5), (6, .int x6), (7, .int x7)]) (st2 := [.int x6]) (fun n => rfl) h (fun hc3 h => ?_) (fun hc3 h => ?_)
      · refine ev_s 1 (M' := ev_M r2.2 c w) (pc' := 35) (lv' := [(0, .ref 606), (1, .int x1), (2, .int x2), (3, .int x3), (4, .int x4), (5, .int x5), (6, .int x6), (7, .int x7)]) (st' := [.int 0, .int x6]) (fun n => rfl) ?_
        refine ev_sub (lv := [(0, .ref 606), (1, .int x1), (2, .int x2), (3, .int x3), (4, .int x4), (5, .int x5), (7, .int x7)]) (mn_of rfl (by repeat (first | exact trivial | refine And.intro rfl ?_))) ?_
        exact ok_fX11_feed_c35 ih h
      · refine ev_s 2 (M' := ev_M r2.2 c w) (pc' := 35) (lv' := [(0, .ref 606), (1, .int x1), (2, .int x2), (3, .int x3), (4, .int x4), (5, .int x5), (6, .int x6), (7, .int x7)]) (st' := [.int 1, .int x6]) (fun n => rfl) ?_
        refine ev_sub (lv := [(0, .ref 606), (1, .int x1), (2, .int x2), (3, .int x3), (4, .int x4), (5, .int x5), (7, .int x7)]) (mn_of rfl (by repeat (first | exact trivial | refine And.intro rfl ?_))) ?_
        exact ok_fX11_feed_c35 ih h
    · refine ev_i 6 (M1 := ev_M m c w) (pc1 := 59) (lv1 := [(0, .ref 606), (1, .int x1), (2, .int x2), (3, .int x3), (4, .int x4), (5, .int x5), (6, .int x6), (7, .int x7)]) (st1 := []) (M2 := ev_M m c w) (pc2 := 57) (lv2 := [(0, .ref 606), (1, .int x1), (2, .int x2), (3, .int x3), (4, .int x4), (5, .int x5), (6, .int x6), (7, .int x7)]) (st2 := []) (fun n => rfl) h (fun hc4 h => ?_) (fun hc4 h => ?_)
      · refine ev_s 2 (M' := ev_M m c w) (pc' := 62) (lv' := [(7, .int 0), (0, .ref 606), (1, .int x1), (2, .int x2), (3, .int x3), (4, .int x4), (5, .int x5), (6, .int x6)]) (st' := []) (fun n => rfl) ?_
        refine ev_sub (lv := [(0, .ref 606), (1, .int x1), (2, .int x2), (3, .int x3), (4, .int x4), (5, .int x5), (7, .int 0)]) (mn_of rfl (by repeat (first | exact trivial | refine And.intro rfl ?_))) ?_
        exact ok_fX11_feed_c62 fu _ _ _ _ _ _ _ _ h
      · cases h
        exact ev_r 2 (fun n => rfl)
def fX11_feed (m : mm_MM) (x1 : Int32) (x2 : Int32) (x3 : Int32) (x4 : Int32) (x5 : Int32) : Option (Int32 × mm_MM) :=
  fX11_feed_c6 fu m x1 x2 x3 x4 x5 0 0
set_option maxRecDepth 20000 in
theorem ok_fX11_feed {m : mm_MM} {x1 : Int32} {x2 : Int32} {x3 : Int32} {x4 : Int32} {x5 : Int32} {q0 : Int32 × mm_MM} (h : fX11_feed m x1 x2 x3 x4 x5 = some q0) : Ev XL xs (d + 1) 183 (ev_M m c w) 0 (lv_args 0 [.ref 606, .int x1, .int x2, .int x3, .int x4, .int x5]) [] (fr_i c w q0) := by
  unfold fX11_feed at h
  refine ev_s 4 (M' := ev_M m c w) (pc' := 6) (lv' := [(7, .int 0), (6, .int 0), (0, .ref 606), (1, .int x1), (2, .int x2), (3, .int x3), (4, .int x4), (5, .int x5)]) (st' := []) (fun n => rfl) ?_
  refine ev_sub (lv := [(0, .ref 606), (1, .int x1), (2, .int x2), (3, .int x3), (4, .int x4), (5, .int x5), (6, .int 0), (7, .int 0)]) (mn_of rfl (by repeat (first | exact trivial | refine And.intro rfl ?_))) ?_
  exact ok_fX11_feed_c6 fu _ _ _ _ _ _ _ _ _ h
def fX11_end_c12 (m : mm_MM) : Option (Int32 × mm_MM) :=
  some (0, m)
theorem ok_fX11_end_c12 {m : mm_MM} {q0 : Int32 × mm_MM} (h : fX11_end_c12 m = some q0) : Ev XL xs d 184 (ev_M m c w) 12 [] [] (fr_i c w q0) := by
  unfold fX11_end_c12 at h
  cases h
  exact ev_r 2 (fun n => rfl)
def fX11_end (m : mm_MM) (x1 : Int32) : Option (Int32 × mm_MM) :=
  (if x1 < 0 then
    fX11_end_c12 m
   else
    (if x1 ≤ m.1 606 2 then
      some (1, (wI m 606 2 x1))
     else
      fX11_end_c12 m))
theorem ok_fX11_end {m : mm_MM} {x1 : Int32} {q0 : Int32 × mm_MM} (h : fX11_end m x1 = some q0) : Ev XL xs d 184 (ev_M m c w) 0 (lv_args 0 [.ref 606, .int x1]) [] (fr_i c w q0) := by
  unfold fX11_end at h
  refine ev_i 2 (M1 := ev_M m c w) (pc1 := 12) (lv1 := [(0, .ref 606), (1, .int x1)]) (st1 := []) (M2 := ev_M m c w) (pc2 := 4) (lv2 := [(0, .ref 606), (1, .int x1)]) (st2 := []) (fun n => rfl) h (fun hc1 h => ?_) (fun hc1 h => ?_)
  · refine ev_sub (lv := []) (mn_of rfl (by repeat (first | exact trivial | refine And.intro rfl ?_))) ?_
    exact ok_fX11_end_c12 h
  · refine ev_i 4 (M1 := ev_M m c w) (pc1 := 14) (lv1 := [(0, .ref 606), (1, .int x1)]) (st1 := []) (M2 := ev_M m c w) (pc2 := 12) (lv2 := [(0, .ref 606), (1, .int x1)]) (st2 := []) (fun n => rfl) h (fun hc2 h => ?_) (fun hc2 h => ?_)
    · cases h
      exact ev_r 5 (fun n => rfl)
    · refine ev_sub (lv := []) (mn_of rfl (by repeat (first | exact trivial | refine And.intro rfl ?_))) ?_
      exact ok_fX11_end_c12 h
def fX11_here_c24 (m : mm_MM) (s0 : Int32) : Option (Int32 × mm_MM) :=
  some (s0, m)
theorem ok_fX11_here_c24 {m : mm_MM} {s0 : Int32} {q0 : Int32 × mm_MM} (h : fX11_here_c24 m s0 = some q0) : Ev XL xs d 185 (ev_M m c w) 24 [] [.int s0] (fr_i c w q0) := by
  unfold fX11_here_c24 at h
  cases h
  exact ev_r 1 (fun n => rfl)
def fX11_here (m : mm_MM) : Option (Int32 × mm_MM) :=
  (if m.1 606 3 < m.1 606 2 then
    (if m.1 606 3 < 0 ∨ 240 ≤ (m.1 606 3).toNatClampNeg then none else
     fX11_here_c24 m (m.1 607 ((m.1 606 3).toNatClampNeg)))
   else
    fX11_here_c24 m ((-1) : Int32))
theorem ok_fX11_here {m : mm_MM} {q0 : Int32 × mm_MM} (h : fX11_here m = some q0) : Ev XL xs d 185 (ev_M m c w) 0 (lv_args 0 [.ref 606]) [] (fr_i c w q0) := by
  unfold fX11_here at h
  refine ev_i 5 (M1 := ev_M m c w) (pc1 := 11) (lv1 := [(0, .ref 606)]) (st1 := []) (M2 := ev_M m c w) (pc2 := 23) (lv2 := [(0, .ref 606)]) (st2 := []) (fun n => rfl) h (fun hc1 h => ?_) (fun hc1 h => ?_)
  · refine ev_g 5 (M1 := ev_M m c w) (pc1 := 20) (lv1 := [(0, .ref 606)]) (st1 := [.int (m.1 607 ((m.1 606 3).toNatClampNeg))]) (fun n => rfl) h (fun _ h => ?_)
    refine ev_s 1 (M' := ev_M m c w) (pc' := 24) (lv' := [(0, .ref 606)]) (st' := [.int (m.1 607 ((m.1 606 3).toNatClampNeg))]) (fun n => rfl) ?_
    refine ev_sub (lv := []) (mn_of rfl (by repeat (first | exact trivial | refine And.intro rfl ?_))) ?_
    exact ok_fX11_here_c24 h
  · refine ev_s 1 (M' := ev_M m c w) (pc' := 24) (lv' := [(0, .ref 606)]) (st' := [.int ((-1) : Int32)]) (fun n => rfl) ?_
    refine ev_sub (lv := []) (mn_of rfl (by repeat (first | exact trivial | refine And.intro rfl ?_))) ?_
    exact ok_fX11_here_c24 h
def fX11_look_c0 : Nat → mm_MM → Option (Int32 × mm_MM)
  | 0 => fun _ => none
  | n + 1 => fun m =>
    (fX11_here m).bind fun r1 =>
     (if r1.1 = 32 then
       fX11_look_c0 n (wI r1.2 606 3 (r1.2.1 606 3 + 1))
      else
       (fX11_here r1.2).bind fun r3 =>
        some (r3.1, r3.2))
theorem ok_fX11_look_c0 : ∀ (n : Nat) (m : mm_MM) (q0 : Int32 × mm_MM), fX11_look_c0 n m = some q0 → Ev XL xs (d + 1) 186 (ev_M m c w) 0 [(0, .ref 606)] [] (fr_i c w q0) := by
  intro n
  induction n with
  | zero => intro m q0 h; exact absurd (show (none : Option (Int32 × mm_MM)) = some q0 from h) (by simp)
  | succ n ih =>
    intro m q0 h
    unfold fX11_look_c0 at h
    obtain ⟨r1, hr1, h⟩ := Option.bind_eq_some_iff.mp h
    refine ev_c 2 (y' := 185) (M1 := ev_M m c w) (la := lv_args 0 [.ref 606]) (rest := []) (pc' := 4) (lv' := [(0, .ref 606)]) (fun n => rfl) (ok_fX11_here hr1) ?_
    show Ev XL xs _ 186 (ev_M r1.2 c w) 4 [(0, .ref 606)] [.int r1.1] _
    refine ev_i 2 (M1 := ev_M r1.2 c w) (pc1 := 9) (lv1 := [(0, .ref 606)]) (st1 := []) (M2 := ev_M r1.2 c w) (pc2 := 22) (lv2 := [(0, .ref 606)]) (st2 := []) (fun n => rfl) h (fun hc2 h => ?_) (fun hc2 h => ?_)
    · refine ev_s 7 (M' := ev_M (wI r1.2 606 3 (r1.2.1 606 3 + 1)) c w) (pc' := 0) (lv' := [(0, .ref 606)]) (st' := []) (fun n => rfl) ?_
      exact ih _ _ h
    · obtain ⟨r3, hr3, h⟩ := Option.bind_eq_some_iff.mp h
      refine ev_c 2 (y' := 185) (M1 := ev_M r1.2 c w) (la := lv_args 0 [.ref 606]) (rest := []) (pc' := 26) (lv' := [(0, .ref 606)]) (fun n => rfl) (ok_fX11_here hr3) ?_
      show Ev XL xs _ 186 (ev_M r3.2 c w) 26 [(0, .ref 606)] [.int r3.1] _
      cases h
      exact ev_r 1 (fun n => rfl)
def fX11_look (m : mm_MM) : Option (Int32 × mm_MM) :=
  fX11_look_c0 fu m
theorem ok_fX11_look {m : mm_MM} {q0 : Int32 × mm_MM} (h : fX11_look m = some q0) : Ev XL xs (d + 1) 186 (ev_M m c w) 0 (lv_args 0 [.ref 606]) [] (fr_i c w q0) := by
  unfold fX11_look at h
  exact ok_fX11_look_c0 fu _ _ h
def fX11_bad_c20 (m : mm_MM) (s1 : Int32) : Option (mm_MM) :=
  some (wI m 606 4 s1)
theorem ok_fX11_bad_c20 {m : mm_MM} {s1 : Int32} {q0 : mm_MM} (h : fX11_bad_c20 m s1 = some q0) : Ev XL xs d 187 (ev_M m c w) 20 [] [.int s1, .ref 606] (fr_v c w q0) := by
  unfold fX11_bad_c20 at h
  cases h
  exact ev_r 2 (fun n => rfl)
def fX11_bad (m : mm_MM) : Option (mm_MM) :=
  (if m.1 606 4 = ((-1) : Int32) then
    fX11_bad_c20 m (m.1 606 3)
   else
    fX11_bad_c20 m (m.1 606 4))
theorem ok_fX11_bad {m : mm_MM} {q0 : mm_MM} (h : fX11_bad m = some q0) : Ev XL xs d 187 (ev_M m c w) 0 (lv_args 0 [.ref 606]) [] (fr_v c w q0) := by
  unfold fX11_bad at h
  refine ev_i 5 (M1 := ev_M m c w) (pc1 := 9) (lv1 := [(0, .ref 606)]) (st1 := [.ref 606]) (M2 := ev_M m c w) (pc2 := 16) (lv2 := [(0, .ref 606)]) (st2 := [.ref 606]) (fun n => rfl) h (fun hc1 h => ?_) (fun hc1 h => ?_)
  · refine ev_s 3 (M' := ev_M m c w) (pc' := 20) (lv' := [(0, .ref 606)]) (st' := [.int (m.1 606 3), .ref 606]) (fun n => rfl) ?_
    refine ev_sub (lv := []) (mn_of rfl (by repeat (first | exact trivial | refine And.intro rfl ?_))) ?_
    exact ok_fX11_bad_c20 h
  · refine ev_s 2 (M' := ev_M m c w) (pc' := 20) (lv' := [(0, .ref 606)]) (st' := [.int (m.1 606 4), .ref 606]) (fun n => rfl) ?_
    refine ev_sub (lv := []) (mn_of rfl (by repeat (first | exact trivial | refine And.intro rfl ?_))) ?_
    exact ok_fX11_bad_c20 h
def fX11_isDigit_c17 (m : mm_MM) (s0 : Int32) : Option (Int32 × mm_MM) :=
  (if s0 = 0 ∨ s0 = 1 then some (s0, m) else none)
theorem ok_fX11_isDigit_c17 {m : mm_MM} {s0 : Int32} {q0 : Int32 × mm_MM} (h : fX11_isDigit_c17 m s0 = some q0) : Ev XL xs d 188 (ev_M m c w) 17 [] [.int s0] (fr_i c w q0) := by
  unfold fX11_isDigit_c17 at h
  exact ev_rg 1 (f := fr_i c w) (fun n => rfl) h
def fX11_isDigit_c16 (m : mm_MM) : Option (Int32 × mm_MM) :=
  fX11_isDigit_c17 m 0
theorem ok_fX11_isDigit_c16 {m : mm_MM} {q0 : Int32 × mm_MM} (h : fX11_isDigit_c16 m = some q0) : Ev XL xs d 188 (ev_M m c w) 16 [] [] (fr_i c w q0) := by
  unfold fX11_isDigit_c16 at h
  refine ev_s 1 (M' := ev_M m c w) (pc' := 17) (lv' := []) (st' := [.int 0]) (fun n => rfl) ?_
  exact ok_fX11_isDigit_c17 h
def fX11_isDigit (m : mm_MM) (x0 : Int32) : Option (Int32 × mm_MM) :=
  (if x0 < 48 then
    fX11_isDigit_c16 m
   else
    (if x0 ≤ 57 then
      fX11_isDigit_c17 m 1
     else
      fX11_isDigit_c16 m))
theorem ok_fX11_isDigit {m : mm_MM} {x0 : Int32} {q0 : Int32 × mm_MM} (h : fX11_isDigit m x0 = some q0) : Ev XL xs d 188 (ev_M m c w) 0 (lv_args 0 [.int x0]) [] (fr_i c w q0) := by
  unfold fX11_isDigit at h
  refine ev_i 3 (M1 := ev_M m c w) (pc1 := 16) (lv1 := [(0, .int x0)]) (st1 := []) (M2 := ev_M m c w) (pc2 := 6) (lv2 := [(0, .int x0)]) (st2 := []) (fun n => rfl) h (fun hc1 h => ?_) (fun hc1 h => ?_)
  · refine ev_sub (lv := []) (mn_of rfl (by repeat (first | exact trivial | refine And.intro rfl ?_))) ?_
    exact ok_fX11_isDigit_c16 h
  · refine ev_i 3 (M1 := ev_M m c w) (pc1 := 12) (lv1 := [(0, .int x0)]) (st1 := []) (M2 := ev_M m c w) (pc2 := 16) (lv2 := [(0, .int x0)]) (st2 := []) (fun n => rfl) h (fun hc2 h => ?_) (fun hc2 h => ?_)
    · refine ev_s 2 (M' := ev_M m c w) (pc' := 17) (lv' := [(0, .int x0)]) (st' := [.int 1]) (fun n => rfl) ?_
      refine ev_sub (lv := []) (mn_of rfl (by repeat (first | exact trivial | refine And.intro rfl ?_))) ?_
      exact ok_fX11_isDigit_c17 h
    · refine ev_sub (lv := []) (mn_of rfl (by repeat (first | exact trivial | refine And.intro rfl ?_))) ?_
      exact ok_fX11_isDigit_c16 h
def fX11_put (m : mm_MM) (x1 : Int32) (x2 : Int32) : Option (mm_MM) :=
  (if m.1 606 14 < 0 ∨ 5 ≤ (m.1 606 14).toNatClampNeg then none else
   (if ((520 * m.1 606 14) + m.1 610 ((m.1 606 14).toNatClampNeg)) < 0 ∨ 2600 ≤ ((520 * m.1 606 14) + m.1 610 ((m.1 606 14).toNatClampNeg)).toNatClampNeg then none else
    (if m.1 606 14 < 0 ∨ 5 ≤ (m.1 606 14).toNatClampNeg then none else
     (if ((520 * m.1 606 14) + m.1 610 ((m.1 606 14).toNatClampNeg)) < 0 ∨ 2600 ≤ ((520 * m.1 606 14) + m.1 610 ((m.1 606 14).toNatClampNeg)).toNatClampNeg then none else
      (if m.1 606 14 < 0 ∨ 5 ≤ (m.1 606 14).toNatClampNeg then none else
       (if m.1 606 14 < 0 ∨ 5 ≤ (m.1 606 14).toNatClampNeg then none else
        some (wI (wI (wI m 608 (((520 * m.1 606 14) + m.1 610 ((m.1 606 14).toNatClampNeg)).toNatClampNeg) x1) 609 (((520 * m.1 606 14) + m.1 610 ((m.1 606 14).toNatClampNeg)).toNatClampNeg) x2) 610 ((m.1 606 14).toNatClampNeg) (m.1 610 ((m.1 606 14).toNatClampNeg) + 1))))))))
theorem ok_fX11_put {m : mm_MM} {x1 : Int32} {x2 : Int32} {q0 : mm_MM} (h : fX11_put m x1 x2 = some q0) : Ev XL xs d 189 (ev_M m c w) 0 (lv_args 0 [.ref 606, .int x1, .int x2]) [] (fr_v c w q0) := by
  unfold fX11_put at h
  refine ev_g 11 (M1 := ev_M m c w) (pc1 := 21) (lv1 := [(0, .ref 606), (1, .int x1), (2, .int x2)]) (st1 := [.int (m.1 610 ((m.1 606 14).toNatClampNeg)), .int (520 * m.1 606 14), .ref 608]) (fun n => rfl) h (fun _ h => ?_)
  refine ev_g 3 (M1 := ev_M (wI m 608 (((520 * m.1 606 14) + m.1 610 ((m.1 606 14).toNatClampNeg)).toNatClampNeg) x1) c w) (pc1 := 24) (lv1 := [(0, .ref 606), (1, .int x1), (2, .int x2)]) (st1 := []) (fun n => rfl) h (fun _ h => ?_)
  refine ev_g 11 (M1 := ev_M (wI m 608 (((520 * m.1 606 14) + m.1 610 ((m.1 606 14).toNatClampNeg)).toNatClampNeg) x1) c w) (pc1 := 45) (lv1 := [(0, .ref 606), (1, .int x1), (2, .int x2)]) (st1 := [.int (m.1 610 ((m.1 606 14).toNatClampNeg)), .int (520 * m.1 606 14), .ref 609]) (fun n => rfl) h (fun _ h => ?_)
  refine ev_g 3 (M1 := ev_M (wI (wI m 608 (((520 * m.1 606 14) + m.1 610 ((m.1 606 14).toNatClampNeg)).toNatClampNeg) x1) 609 (((520 * m.1 606 14) + m.1 610 ((m.1 606 14).toNatClampNeg)).toNatClampNeg) x2) c w) (pc1 := 48) (lv1 := [(0, .ref 606), (1, .int x1), (2, .int x2)]) (st1 := []) (fun n => rfl) h (fun _ h => ?_)
  refine ev_g 6 (M1 := ev_M (wI (wI m 608 (((520 * m.1 606 14) + m.1 610 ((m.1 606 14).toNatClampNeg)).toNatClampNeg) x1) 609 (((520 * m.1 606 14) + m.1 610 ((m.1 606 14).toNatClampNeg)).toNatClampNeg) x2) c w) (pc1 := 58) (lv1 := [(0, .ref 606), (1, .int x1), (2, .int x2)]) (st1 := [.int (m.1 610 ((m.1 606 14).toNatClampNeg)), .int (m.1 606 14), .ref 610]) (fun n => rfl) h (fun _ h => ?_)
  refine ev_g 3 (M1 := ev_M (wI (wI (wI m 608 (((520 * m.1 606 14) + m.1 610 ((m.1 606 14).toNatClampNeg)).toNatClampNeg) x1) 609 (((520 * m.1 606 14) + m.1 610 ((m.1 606 14).toNatClampNeg)).toNatClampNeg) x2) 610 ((m.1 606 14).toNatClampNeg) (m.1 610 ((m.1 606 14).toNatClampNeg) + 1)) c w) (pc1 := 61) (lv1 := [(0, .ref 606), (1, .int x1), (2, .int x2)]) (st1 := []) (fun n => rfl) h (fun _ h => ?_)
  cases h
  exact ev_r 1 (fun n => rfl)
def fX11_letterOf_c61 (m : mm_MM) (s0 : Int32) : Option (Int32 × mm_MM) :=
  some (s0, m)
theorem ok_fX11_letterOf_c61 {m : mm_MM} {s0 : Int32} {q0 : Int32 × mm_MM} (h : fX11_letterOf_c61 m s0 = some q0) : Ev XL xs d 190 (ev_M m c w) 61 [] [.int s0] (fr_i c w q0) := by
  unfold fX11_letterOf_c61 at h
  cases h
  exact ev_r 1 (fun n => rfl)
def fX11_letterOf (m : mm_MM) (x0 : Int32) : Option (Int32 × mm_MM) :=
  (if x0 = 118 then
    fX11_letterOf_c61 m 0
   else
    (if x0 = 115 then
      fX11_letterOf_c61 m 1
     else
      (if x0 = 100 then
        fX11_letterOf_c61 m 2
       else
        (if x0 = 109 then
          fX11_letterOf_c61 m 3
         else
          (if x0 = 110 then
            fX11_letterOf_c61 m 4
           else
            (if x0 = 116 then
              fX11_letterOf_c61 m 5
             else
              fX11_letterOf_c61 m ((-1) : Int32)))))))
theorem ok_fX11_letterOf {m : mm_MM} {x0 : Int32} {q0 : Int32 × mm_MM} (h : fX11_letterOf m x0 = some q0) : Ev XL xs d 190 (ev_M m c w) 0 (lv_args 0 [.int x0]) [] (fr_i c w q0) := by
  unfold fX11_letterOf at h
  refine ev_i 3 (M1 := ev_M m c w) (pc1 := 6) (lv1 := [(0, .int x0)]) (st1 := []) (M2 := ev_M m c w) (pc2 := 10) (lv2 := [(0, .int x0)]) (st2 := []) (fun n => rfl) h (fun hc1 h => ?_) (fun hc1 h => ?_)
  · refine ev_s 2 (M' := ev_M m c w) (pc' := 61) (lv' := [(0, .int x0)]) (st' := [.int 0]) (fun n => rfl) ?_
    refine ev_sub (lv := []) (mn_of rfl (by repeat (first | exact trivial | refine And.intro rfl ?_))) ?_
    exact ok_fX11_letterOf_c61 h
  · refine ev_i 3 (M1 := ev_M m c w) (pc1 := 16) (lv1 := [(0, .int x0)]) (st1 := []) (M2 := ev_M m c w) (pc2 := 20) (lv2 := [(0, .int x0)]) (st2 := []) (fun n => rfl) h (fun hc2 h => ?_) (fun hc2 h => ?_)
    · refine ev_s 2 (M' := ev_M m c w) (pc' := 61) (lv' := [(0, .int x0)]) (st' := [.int 1]) (fun n => rfl) ?_
      refine ev_sub (lv := []) (mn_of rfl (by repeat (first | exact trivial | refine And.intro rfl ?_))) ?_
      exact ok_fX11_letterOf_c61 h
    · refine ev_i 3 (M1 := ev_M m c w) (pc1 := 26) (lv1 := [(0, .int x0)]) (st1 := []) (M2 := ev_M m c w) (pc2 := 30) (lv2 := [(0, .int x0)]) (st2 := []) (fun n => rfl) h (fun hc3 h => ?_) (fun hc3 h => ?_)
      · refine ev_s 2 (M' := ev_M m c w) (pc' := 61) (lv' := [(0, .int x0)]) (st' := [.int 2]) (fun n => rfl) ?_
        refine ev_sub (lv := []) (mn_of rfl (by repeat (first | exact trivial | refine And.intro rfl ?_))) ?_
        exact ok_fX11_letterOf_c61 h
      · refine ev_i 3 (M1 := ev_M m c w) (pc1 := 36) (lv1 := [(0, .int x0)]) (st1 := []) (M2 := ev_M m c w) (pc2 := 40) (lv2 := [(0, .int x0)]) (st2 := []) (fun n => rfl) h (fun hc4 h => ?_) (fun hc4 h => ?_)
        · refine ev_s 2 (M' := ev_M m c w) (pc' := 61) (lv' := [(0, .int x0)]) (st' := [.int 3]) (fun n => rfl) ?_
          refine ev_sub (lv := []) (mn_of rfl (by repeat (first | exact trivial | refine And.intro rfl ?_))) ?_
          exact ok_fX11_letterOf_c61 h
        · refine ev_i 3 (M1 := ev_M m c w) (pc1 := 46) (lv1 := [(0, .int x0)]) (st1 := []) (M2 := ev_M m c w) (pc2 := 50) (lv2 := [(0, .int x0)]) (st2 := []) (fun n => rfl) h (fun hc5 h => ?_) (fun hc5 h => ?_)
          · refine ev_s 2 (M' := ev_M m c w) (pc' := 61) (lv' := [(0, .int x0)]) (st' := [.int 4]) (fun n => rfl) ?_
            refine ev_sub (lv := []) (mn_of rfl (by repeat (first | exact trivial | refine And.intro rfl ?_))) ?_
            exact ok_fX11_letterOf_c61 h
          · refine ev_i 3 (M1 := ev_M m c w) (pc1 := 56) (lv1 := [(0, .int x0)]) (st1 := []) (M2 := ev_M m c w) (pc2 := 60) (lv2 := [(0, .int x0)]) (st2 := []) (fun n => rfl) h (fun hc6 h => ?_) (fun hc6 h => ?_)
            · refine ev_s 2 (M' := ev_M m c w) (pc' := 61) (lv' := [(0, .int x0)]) (st' := [.int 5]) (fun n => rfl) ?_
              refine ev_sub (lv := []) (mn_of rfl (by repeat (first | exact trivial | refine And.intro rfl ?_))) ?_
              exact ok_fX11_letterOf_c61 h
            · refine ev_s 1 (M' := ev_M m c w) (pc' := 61) (lv' := [(0, .int x0)]) (st' := [.int ((-1) : Int32)]) (fun n => rfl) ?_
              refine ev_sub (lv := []) (mn_of rfl (by repeat (first | exact trivial | refine And.intro rfl ?_))) ?_
              exact ok_fX11_letterOf_c61 h
def fX11_opens_c13 (m : mm_MM) : Option (mm_MM) :=
  some (wI (wI m 606 5 (m.1 606 5 + 1)) 606 3 (m.1 606 3 + 1))
theorem ok_fX11_opens_c13 {m : mm_MM} {q0 : mm_MM} (h : fX11_opens_c13 m = some q0) : Ev XL xs (d + 1) 191 (ev_M m c w) 13 [(0, .ref 606)] [] (fr_v c w q0) := by
  unfold fX11_opens_c13 at h
  cases h
  exact ev_r 13 (fun n => rfl)
def fX11_opens (m : mm_MM) : Option (mm_MM) :=
  (if m.1 606 5 = 6 then
    (fX11_bad m).bind fun r2 =>
     fX11_opens_c13 r2
   else
    fX11_opens_c13 m)
theorem ok_fX11_opens {m : mm_MM} {q0 : mm_MM} (h : fX11_opens m = some q0) : Ev XL xs (d + 1) 191 (ev_M m c w) 0 (lv_args 0 [.ref 606]) [] (fr_v c w q0) := by
  unfold fX11_opens at h
  refine ev_i 4 (M1 := ev_M m c w) (pc1 := 9) (lv1 := [(0, .ref 606)]) (st1 := []) (M2 := ev_M m c w) (pc2 := 13) (lv2 := [(0, .ref 606)]) (st2 := []) (fun n => rfl) h (fun hc1 h => ?_) (fun hc1 h => ?_)
  · obtain ⟨r2, hr2, h⟩ := Option.bind_eq_some_iff.mp h
    refine ev_c 2 (y' := 187) (M1 := ev_M m c w) (la := lv_args 0 [.ref 606]) (rest := []) (pc' := 13) (lv' := [(0, .ref 606)]) (fun n => rfl) (ok_fX11_bad hr2) ?_
    show Ev XL xs _ 191 (ev_M r2 c w) 13 [(0, .ref 606)] [] _
    exact ok_fX11_opens_c13 h
  · exact ok_fX11_opens_c13 h
def fX11_closes_c20 (m : mm_MM) : Option (mm_MM) :=
  some (wI (wI m 606 3 (m.1 606 3 + 1)) 606 5 (m.1 606 5 - 1))
theorem ok_fX11_closes_c20 {m : mm_MM} {q0 : mm_MM} (h : fX11_closes_c20 m = some q0) : Ev XL xs (d + 2) 192 (ev_M m c w) 20 [(0, .ref 606)] [] (fr_v c w q0) := by
  unfold fX11_closes_c20 at h
  cases h
  exact ev_r 13 (fun n => rfl)
def fX11_closes (m : mm_MM) (x1 : Int32) : Option (mm_MM) :=
  (if m.1 606 4 = ((-1) : Int32) then
    (fX11_look m).bind fun r2 =>
     (if r2.1 = x1 then
       fX11_closes_c20 r2.2
      else
       (fX11_bad r2.2).bind fun r4 =>
        fX11_closes_c20 r4)
   else
    fX11_closes_c20 m)
theorem ok_fX11_closes {m : mm_MM} {x1 : Int32} {q0 : mm_MM} (h : fX11_closes m x1 = some q0) : Ev XL xs (d + 2) 192 (ev_M m c w) 0 (lv_args 0 [.ref 606, .int x1]) [] (fr_v c w q0) := by
  unfold fX11_closes at h
  refine ev_i 4 (M1 := ev_M m c w) (pc1 := 8) (lv1 := [(0, .ref 606), (1, .int x1)]) (st1 := []) (M2 := ev_M m c w) (pc2 := 20) (lv2 := [(0, .ref 606), (1, .int x1)]) (st2 := []) (fun n => rfl) h (fun hc1 h => ?_) (fun hc1 h => ?_)
  · obtain ⟨r2, hr2, h⟩ := Option.bind_eq_some_iff.mp h
    refine ev_c 2 (y' := 186) (M1 := ev_M m c w) (la := lv_args 0 [.ref 606]) (rest := []) (pc' := 12) (lv' := [(0, .ref 606), (1, .int x1)]) (fun n => rfl) (ok_fX11_look hr2) ?_
    show Ev XL xs _ 192 (ev_M r2.2 c w) 12 [(0, .ref 606), (1, .int x1)] [.int r2.1] _
    refine ev_i 2 (M1 := ev_M r2.2 c w) (pc1 := 20) (lv1 := [(0, .ref 606), (1, .int x1)]) (st1 := []) (M2 := ev_M r2.2 c w) (pc2 := 16) (lv2 := [(0, .ref 606), (1, .int x1)]) (st2 := []) (fun n => rfl) h (fun hc3 h => ?_) (fun hc3 h => ?_)
    · refine ev_sub (lv := [(0, .ref 606)]) (mn_of rfl (by repeat (first | exact trivial | refine And.intro rfl ?_))) ?_
      exact ok_fX11_closes_c20 h
    · obtain ⟨r4, hr4, h⟩ := Option.bind_eq_some_iff.mp h
      refine ev_c 2 (y' := 187) (M1 := ev_M r2.2 c w) (la := lv_args 0 [.ref 606]) (rest := []) (pc' := 20) (lv' := [(0, .ref 606), (1, .int x1)]) (fun n => rfl) (ok_fX11_bad hr4) ?_
      show Ev XL xs _ 192 (ev_M r4 c w) 20 [(0, .ref 606), (1, .int x1)] [] _
      refine ev_sub (lv := [(0, .ref 606)]) (mn_of rfl (by repeat (first | exact trivial | refine And.intro rfl ?_))) ?_
      exact ok_fX11_closes_c20 h
  · refine ev_sub (lv := [(0, .ref 606)]) (mn_of rfl (by repeat (first | exact trivial | refine And.intro rfl ?_))) ?_
    exact ok_fX11_closes_c20 h
def fX11_plainNumber_c62 (m : mm_MM) (x1 : Int32) : Option (Int32 × mm_MM) :=
  some (x1, m)
theorem ok_fX11_plainNumber_c62 {m : mm_MM} {x1 : Int32} {q0 : Int32 × mm_MM} (h : fX11_plainNumber_c62 m x1 = some q0) : Ev XL xs (d + 1) 193 (ev_M m c w) 62 [(1, .int x1)] [] (fr_i c w q0) := by
  unfold fX11_plainNumber_c62 at h
  cases h
  exact ev_r 2 (fun n => rfl)
def fX11_plainNumber_c48 (m : mm_MM) (x1 : Int32) : Option (Int32 × mm_MM) :=
  (fX11_here m).bind fun r1 =>
   (fX11_isDigit r1.2 r1.1).bind fun r2 =>
    (if r2.1 = 0 then
      fX11_plainNumber_c62 r2.2 x1
     else
      (fX11_bad r2.2).bind fun r4 =>
       fX11_plainNumber_c62 r4 x1)
theorem ok_fX11_plainNumber_c48 {m : mm_MM} {x1 : Int32} {q0 : Int32 × mm_MM} (h : fX11_plainNumber_c48 m x1 = some q0) : Ev XL xs (d + 1) 193 (ev_M m c w) 48 [(0, .ref 606), (1, .int x1)] [] (fr_i c w q0) := by
  unfold fX11_plainNumber_c48 at h
  obtain ⟨r1, hr1, h⟩ := Option.bind_eq_some_iff.mp h
  refine ev_c 2 (y' := 185) (M1 := ev_M m c w) (la := lv_args 0 [.ref 606]) (rest := []) (pc' := 52) (lv' := [(0, .ref 606), (1, .int x1)]) (fun n => rfl) (ok_fX11_here hr1) ?_
  show Ev XL xs _ 193 (ev_M r1.2 c w) 52 [(0, .ref 606), (1, .int x1)] [.int r1.1] _
  obtain ⟨r2, hr2, h⟩ := Option.bind_eq_some_iff.mp h
  refine ev_c 1 (y' := 188) (M1 := ev_M r1.2 c w) (la := lv_args 0 [.int r1.1]) (rest := []) (pc' := 55) (lv' := [(0, .ref 606), (1, .int x1)]) (fun n => rfl) (ok_fX11_isDigit hr2) ?_
  show Ev XL xs _ 193 (ev_M r2.2 c w) 55 [(0, .ref 606), (1, .int x1)] [.int r2.1] _
  refine ev_i 1 (M1 := ev_M r2.2 c w) (pc1 := 62) (lv1 := [(0, .ref 606), (1, .int x1)]) (st1 := []) (M2 := ev_M r2.2 c w) (pc2 := 58) (lv2 := [(0, .ref 606), (1, .int x1)]) (st2 := []) (fun n => rfl) h (fun hc3 h => ?_) (fun hc3 h => ?_)
  · refine ev_sub (lv := [(1, .int x1)]) (mn_of rfl (by repeat (first | exact trivial | refine And.intro rfl ?_))) ?_
    exact ok_fX11_plainNumber_c62 h
  · obtain ⟨r4, hr4, h⟩ := Option.bind_eq_some_iff.mp h
    refine ev_c 2 (y' := 187) (M1 := ev_M r2.2 c w) (la := lv_args 0 [.ref 606]) (rest := []) (pc' := 62) (lv' := [(0, .ref 606), (1, .int x1)]) (fun n => rfl) (ok_fX11_bad hr4) ?_
    show Ev XL xs _ 193 (ev_M r4 c w) 62 [(0, .ref 606), (1, .int x1)] [] _
    refine ev_sub (lv := [(1, .int x1)]) (mn_of rfl (by repeat (first | exact trivial | refine And.intro rfl ?_))) ?_
    exact ok_fX11_plainNumber_c62 h
def fX11_plainNumber_c4 : Nat → mm_MM → Int32 → Int32 → Option (Int32 × mm_MM)
  | 0 => fun _ _ _ => none
  | n + 1 => fun m x1 x2 =>
    (if x2 < 4 then
      (fX11_here m).bind fun r2 =>
       (fX11_isDigit r2.2 r2.1).bind fun r3 =>
        (if r3.1 = 0 then
          fX11_plainNumber_c48 r3.2 x1
         else
          (fX11_here r3.2).bind fun r5 =>
           fX11_plainNumber_c4 n (wI r5.2 606 3 (r5.2.1 606 3 + 1)) (((10 * x1) + r5.1) - 48) (x2 + 1))
     else
      fX11_plainNumber_c48 m x1)
theorem ok_fX11_plainNumber_c4 : ∀ (n : Nat) (m : mm_MM) (x1 : Int32) (x2 : Int32) (q0 : Int32 × mm_MM), fX11_plainNumber_c4 n m x1 x2 = some q0 → Ev XL xs (d + 1) 193 (ev_M m c w) 4 [(0, .ref 606), (1, .int x1), (2, .int x2)] [] (fr_i c w q0) := by
  intro n
  induction n with
  | zero => intro m x1 x2 q0 h; exact absurd (show (none : Option (Int32 × mm_MM)) = some q0 from h) (by simp)
  | succ n ih =>
    intro m x1 x2 q0 h
    unfold fX11_plainNumber_c4 at h
    refine ev_i 3 (M1 := ev_M m c w) (pc1 := 9) (lv1 := [(0, .ref 606), (1, .int x1), (2, .int x2)]) (st1 := []) (M2 := ev_M m c w) (pc2 := 48) (lv2 := [(0, .ref 606), (1, .int x1), (2, .int x2)]) (st2 := []) (fun n => rfl) h (fun hc1 h => ?_) (fun hc1 h => ?_)
    · obtain ⟨r2, hr2, h⟩ := Option.bind_eq_some_iff.mp h
      refine ev_c 2 (y' := 185) (M1 := ev_M m c w) (la := lv_args 0 [.ref 606]) (rest := []) (pc' := 13) (lv' := [(0, .ref 606), (1, .int x1), (2, .int x2)]) (fun n => rfl) (ok_fX11_here hr2) ?_
      show Ev XL xs _ 193 (ev_M r2.2 c w) 13 [(0, .ref 606), (1, .int x1), (2, .int x2)] [.int r2.1] _
      obtain ⟨r3, hr3, h⟩ := Option.bind_eq_some_iff.mp h
      refine ev_c 1 (y' := 188) (M1 := ev_M r2.2 c w) (la := lv_args 0 [.int r2.1]) (rest := []) (pc' := 16) (lv' := [(0, .ref 606), (1, .int x1), (2, .int x2)]) (fun n => rfl) (ok_fX11_isDigit hr3) ?_
      show Ev XL xs _ 193 (ev_M r3.2 c w) 16 [(0, .ref 606), (1, .int x1), (2, .int x2)] [.int r3.1] _
      refine ev_i 1 (M1 := ev_M r3.2 c w) (pc1 := 48) (lv1 := [(0, .ref 606), (1, .int x1), (2, .int x2)]) (st1 := []) (M2 := ev_M r3.2 c w) (pc2 := 19) (lv2 := [(0, .ref 606), (1, .int x1), (2, .int x2)]) (st2 := []) (fun n => rfl) h (fun hc4 h => ?_) (fun hc4 h => ?_)
      · refine ev_sub (lv := [(0, .ref 606), (1, .int x1)]) (mn_of rfl (by repeat (first | exact trivial | refine And.intro rfl ?_))) ?_
        exact ok_fX11_plainNumber_c48 h
      · obtain ⟨r5, hr5, h⟩ := Option.bind_eq_some_iff.mp h
        refine ev_c 5 (y' := 185) (M1 := ev_M r3.2 c w) (la := lv_args 0 [.ref 606]) (rest := [.int (10 * x1)]) (pc' := 27) (lv' := [(0, .ref 606), (1, .int x1), (2, .int x2)]) (fun n => rfl) (ok_fX11_here hr5) ?_
        show Ev XL xs _ 193 (ev_M r5.2 c w) 27 [(0, .ref 606), (1, .int x1), (2, .int x2)] [.int r5.1, .int (10 * x1)] _
        refine ev_s 12 (M' := ev_M (wI r5.2 606 3 (r5.2.1 606 3 + 1)) c w) (pc' := 4) (lv' := [(2, .int (x2 + 1)), (1, .int (((10 * x1) + r5.1) - 48)), (0, .ref 606)]) (st' := []) (fun n => rfl) ?_
        refine ev_sub (lv := [(0, .ref 606), (1, .int (((10 * x1) + r5.1) - 48)), (2, .int (x2 + 1))]) (mn_of rfl (by repeat (first | exact trivial | refine And.intro rfl ?_))) ?_
        exact ih _ _ _ _ h
    · refine ev_sub (lv := [(0, .ref 606), (1, .int x1)]) (mn_of rfl (by repeat (first | exact trivial | refine And.intro rfl ?_))) ?_
      exact ok_fX11_plainNumber_c48 h
def fX11_plainNumber (m : mm_MM) : Option (Int32 × mm_MM) :=
  fX11_plainNumber_c4 fu m 0 0
theorem ok_fX11_plainNumber {m : mm_MM} {q0 : Int32 × mm_MM} (h : fX11_plainNumber m = some q0) : Ev XL xs (d + 1) 193 (ev_M m c w) 0 (lv_args 0 [.ref 606]) [] (fr_i c w q0) := by
  unfold fX11_plainNumber at h
  refine ev_s 4 (M' := ev_M m c w) (pc' := 4) (lv' := [(2, .int 0), (1, .int 0), (0, .ref 606)]) (st' := []) (fun n => rfl) ?_
  refine ev_sub (lv := [(0, .ref 606), (1, .int 0), (2, .int 0)]) (mn_of rfl (by repeat (first | exact trivial | refine And.intro rfl ?_))) ?_
  exact ok_fX11_plainNumber_c4 fu _ _ _ _ h
def fX11_isSign_c23 (m : mm_MM) (s0 : Int32) : Option (Int32 × mm_MM) :=
  (if s0 = 0 ∨ s0 = 1 then some (s0, m) else none)
theorem ok_fX11_isSign_c23 {m : mm_MM} {s0 : Int32} {q0 : Int32 × mm_MM} (h : fX11_isSign_c23 m s0 = some q0) : Ev XL xs d 197 (ev_M m c w) 23 [] [.int s0] (fr_i c w q0) := by
  unfold fX11_isSign_c23 at h
  exact ev_rg 1 (f := fr_i c w) (fun n => rfl) h
def fX11_isSign_c18 (m : mm_MM) : Option (Int32 × mm_MM) :=
  fX11_isSign_c23 m 1
theorem ok_fX11_isSign_c18 {m : mm_MM} {q0 : Int32 × mm_MM} (h : fX11_isSign_c18 m = some q0) : Ev XL xs d 197 (ev_M m c w) 18 [] [] (fr_i c w q0) := by
  unfold fX11_isSign_c18 at h
  refine ev_s 2 (M' := ev_M m c w) (pc' := 23) (lv' := []) (st' := [.int 1]) (fun n => rfl) ?_
  exact ok_fX11_isSign_c23 h
def fX11_isSign (m : mm_MM) (x0 : Int32) : Option (Int32 × mm_MM) :=
  (if x0 = 61 then
    fX11_isSign_c18 m
   else
    (if x0 = 60 then
      fX11_isSign_c18 m
     else
      (if x0 = 62 then
        fX11_isSign_c18 m
       else
        fX11_isSign_c23 m 0)))
theorem ok_fX11_isSign {m : mm_MM} {x0 : Int32} {q0 : Int32 × mm_MM} (h : fX11_isSign m x0 = some q0) : Ev XL xs d 197 (ev_M m c w) 0 (lv_args 0 [.int x0]) [] (fr_i c w q0) := by
  unfold fX11_isSign at h
  refine ev_i 3 (M1 := ev_M m c w) (pc1 := 18) (lv1 := [(0, .int x0)]) (st1 := []) (M2 := ev_M m c w) (pc2 := 6) (lv2 := [(0, .int x0)]) (st2 := []) (fun n => rfl) h (fun hc1 h => ?_) (fun hc1 h => ?_)
  · refine ev_sub (lv := []) (mn_of rfl (by repeat (first | exact trivial | refine And.intro rfl ?_))) ?_
    exact ok_fX11_isSign_c18 h
  · refine ev_i 3 (M1 := ev_M m c w) (pc1 := 18) (lv1 := [(0, .int x0)]) (st1 := []) (M2 := ev_M m c w) (pc2 := 12) (lv2 := [(0, .int x0)]) (st2 := []) (fun n => rfl) h (fun hc2 h => ?_) (fun hc2 h => ?_)
    · refine ev_sub (lv := []) (mn_of rfl (by repeat (first | exact trivial | refine And.intro rfl ?_))) ?_
      exact ok_fX11_isSign_c18 h
    · refine ev_i 3 (M1 := ev_M m c w) (pc1 := 18) (lv1 := [(0, .int x0)]) (st1 := []) (M2 := ev_M m c w) (pc2 := 22) (lv2 := [(0, .int x0)]) (st2 := []) (fun n => rfl) h (fun hc3 h => ?_) (fun hc3 h => ?_)
      · refine ev_sub (lv := []) (mn_of rfl (by repeat (first | exact trivial | refine And.intro rfl ?_))) ?_
        exact ok_fX11_isSign_c18 h
      · refine ev_s 1 (M' := ev_M m c w) (pc' := 23) (lv' := [(0, .int x0)]) (st' := [.int 0]) (fun n => rfl) ?_
        refine ev_sub (lv := []) (mn_of rfl (by repeat (first | exact trivial | refine And.intro rfl ?_))) ?_
        exact ok_fX11_isSign_c23 h
def fX11_open (m : mm_MM) (x1 : Int32) : Option (mm_MM) :=
  (if x1 < 0 ∨ 5 ≤ x1.toNatClampNeg then none else
   (if x1 < 0 ∨ 5 ≤ x1.toNatClampNeg then none else
    some (wI (wI (wI (wI (wI (wI m 606 14 x1) 606 3 0) 606 4 ((-1) : Int32)) 606 5 0) 610 x1.toNatClampNeg 0) 611 x1.toNatClampNeg 0)))
theorem ok_fX11_open {m : mm_MM} {x1 : Int32} {q0 : mm_MM} (h : fX11_open m x1 = some q0) : Ev XL xs d 204 (ev_M m c w) 0 (lv_args 0 [.ref 606, .int x1]) [] (fr_v c w q0) := by
  unfold fX11_open at h
  refine ev_g 17 (M1 := ev_M (wI (wI (wI (wI (wI m 606 14 x1) 606 3 0) 606 4 ((-1) : Int32)) 606 5 0) 610 x1.toNatClampNeg 0) c w) (pc1 := 27) (lv1 := [(0, .ref 606), (1, .int x1)]) (st1 := []) (fun n => rfl) h (fun _ h => ?_)
  refine ev_g 5 (M1 := ev_M (wI (wI (wI (wI (wI (wI m 606 14 x1) 606 3 0) 606 4 ((-1) : Int32)) 606 5 0) 610 x1.toNatClampNeg 0) 611 x1.toNatClampNeg 0) c w) (pc1 := 34) (lv1 := [(0, .ref 606), (1, .int x1)]) (st1 := []) (fun n => rfl) h (fun _ h => ?_)
  cases h
  exact ev_r 1 (fun n => rfl)
def fX11_atEnd_c20 (m : mm_MM) : Option (Int32 × mm_MM) :=
  some (m.1 606 4, m)
theorem ok_fX11_atEnd_c20 {m : mm_MM} {q0 : Int32 × mm_MM} (h : fX11_atEnd_c20 m = some q0) : Ev XL xs (d + 2) 205 (ev_M m c w) 20 [(0, .ref 606)] [] (fr_i c w q0) := by
  unfold fX11_atEnd_c20 at h
  cases h
  exact ev_r 3 (fun n => rfl)
def fX11_atEnd (m : mm_MM) : Option (Int32 × mm_MM) :=
  (if m.1 606 4 = ((-1) : Int32) then
    (fX11_look m).bind fun r2 =>
     (if r2.1 = ((-1) : Int32) then
       fX11_atEnd_c20 r2.2
      else
       (fX11_bad r2.2).bind fun r4 =>
        fX11_atEnd_c20 r4)
   else
    fX11_atEnd_c20 m)
theorem ok_fX11_atEnd {m : mm_MM} {q0 : Int32 × mm_MM} (h : fX11_atEnd m = some q0) : Ev XL xs (d + 2) 205 (ev_M m c w) 0 (lv_args 0 [.ref 606]) [] (fr_i c w q0) := by
  unfold fX11_atEnd at h
  refine ev_i 4 (M1 := ev_M m c w) (pc1 := 8) (lv1 := [(0, .ref 606)]) (st1 := []) (M2 := ev_M m c w) (pc2 := 20) (lv2 := [(0, .ref 606)]) (st2 := []) (fun n => rfl) h (fun hc1 h => ?_) (fun hc1 h => ?_)
  · obtain ⟨r2, hr2, h⟩ := Option.bind_eq_some_iff.mp h
    refine ev_c 2 (y' := 186) (M1 := ev_M m c w) (la := lv_args 0 [.ref 606]) (rest := []) (pc' := 12) (lv' := [(0, .ref 606)]) (fun n => rfl) (ok_fX11_look hr2) ?_
    show Ev XL xs _ 205 (ev_M r2.2 c w) 12 [(0, .ref 606)] [.int r2.1] _
    refine ev_i 2 (M1 := ev_M r2.2 c w) (pc1 := 20) (lv1 := [(0, .ref 606)]) (st1 := []) (M2 := ev_M r2.2 c w) (pc2 := 16) (lv2 := [(0, .ref 606)]) (st2 := []) (fun n => rfl) h (fun hc3 h => ?_) (fun hc3 h => ?_)
    · exact ok_fX11_atEnd_c20 h
    · obtain ⟨r4, hr4, h⟩ := Option.bind_eq_some_iff.mp h
      refine ev_c 2 (y' := 187) (M1 := ev_M r2.2 c w) (la := lv_args 0 [.ref 606]) (rest := []) (pc' := 20) (lv' := [(0, .ref 606)]) (fun n => rfl) (ok_fX11_bad hr4) ?_
      show Ev XL xs _ 205 (ev_M r4 c w) 20 [(0, .ref 606)] [] _
      exact ok_fX11_atEnd_c20 h
  · exact ok_fX11_atEnd_c20 h
def fX11_bounded (m : mm_MM) (x0 : Int64) : Option (Int32 × mm_MM) :=
  (fJ9_min_f86c9 m 1000000 x0).bind fun r1 =>
   (fJ9_max_f86c9 r1.2 ((-1000000) : Int64) r1.1).bind fun r2 =>
    some ((Int64.toInt32 r2.1), r2.2)
theorem ok_fX11_bounded {m : mm_MM} {x0 : Int64} {q0 : Int32 × mm_MM} (h : fX11_bounded m x0 = some q0) : Ev XL xs (d + 1) 207 (ev_M m c w) 0 (lv_args 0 [.long x0]) [] (fr_i c w q0) := by
  unfold fX11_bounded at h
  obtain ⟨r1, hr1, h⟩ := Option.bind_eq_some_iff.mp h
  refine ev_c 4 (y' := 309) (M1 := ev_M m c w) (la := lv_args 0 [.long 1000000, .long x0]) (rest := [.long ((-1000000) : Int64)]) (pc' := 10) (lv' := [(0, .long x0)]) (fun n => rfl) (ok_fJ9_min_f86c9 hr1) ?_
  show Ev XL xs _ 207 (ev_M r1.2 c w) 10 [(0, .long x0)] [.long r1.1, .long ((-1000000) : Int64)] _
  obtain ⟨r2, hr2, h⟩ := Option.bind_eq_some_iff.mp h
  refine ev_c 1 (y' := 307) (M1 := ev_M r1.2 c w) (la := lv_args 0 [.long ((-1000000) : Int64), .long r1.1]) (rest := []) (pc' := 13) (lv' := [(0, .long x0)]) (fun n => rfl) (ok_fJ9_max_f86c9 hr2) ?_
  show Ev XL xs _ 207 (ev_M r2.2 c w) 13 [(0, .long x0)] [.long r2.1] _
  cases h
  exact ev_r 2 (fun n => rfl)
def fX11_worked_c89 (m : mm_MM) (s0 : Int32) : Option (Int32 × mm_MM) :=
  some (s0, m)
set_option maxRecDepth 20000 in
theorem ok_fX11_worked_c89 {m : mm_MM} {s0 : Int32} {q0 : Int32 × mm_MM} (h : fX11_worked_c89 m s0 = some q0) : Ev XL xs (d + 2) 208 (ev_M m c w) 89 [] [.int s0] (fr_i c w q0) := by
  unfold fX11_worked_c89 at h
  cases h
  exact ev_r 1 (fun n => rfl)
def fX11_worked_c101 (m : mm_MM) (s0 : Int32) : Option (Int32 × mm_MM) :=
  some (s0, m)
set_option maxRecDepth 20000 in
theorem ok_fX11_worked_c101 {m : mm_MM} {s0 : Int32} {q0 : Int32 × mm_MM} (h : fX11_worked_c101 m s0 = some q0) : Ev XL xs (d + 2) 208 (ev_M m c w) 101 [] [.int s0] (fr_i c w q0) := by
  unfold fX11_worked_c101 at h
  cases h
  exact ev_r 1 (fun n => rfl)
def fX11_worked_c113 (m : mm_MM) (s0 : Int32) : Option (Int32 × mm_MM) :=
  some (s0, m)
set_option maxRecDepth 20000 in
theorem ok_fX11_worked_c113 {m : mm_MM} {s0 : Int32} {q0 : Int32 × mm_MM} (h : fX11_worked_c113 m s0 = some q0) : Ev XL xs (d + 2) 208 (ev_M m c w) 113 [] [.int s0] (fr_i c w q0) := by
  unfold fX11_worked_c113 at h
  cases h
  exact ev_r 1 (fun n => rfl)
def fX11_worked_c125 (m : mm_MM) (s0 : Int32) : Option (Int32 × mm_MM) :=
  some (s0, m)
set_option maxRecDepth 20000 in
theorem ok_fX11_worked_c125 {m : mm_MM} {s0 : Int32} {q0 : Int32 × mm_MM} (h : fX11_worked_c125 m s0 = some q0) : Ev XL xs (d + 2) 208 (ev_M m c w) 125 [] [.int s0] (fr_i c w q0) := by
  unfold fX11_worked_c125 at h
  cases h
  exact ev_r 1 (fun n => rfl)
def fX11_worked_c143 (m : mm_MM) (s0 : Int32) : Option (Int32 × mm_MM) :=
  some (s0, m)
set_option maxRecDepth 20000 in
theorem ok_fX11_worked_c143 {m : mm_MM} {s0 : Int32} {q0 : Int32 × mm_MM} (h : fX11_worked_c143 m s0 = some q0) : Ev XL xs (d + 2) 208 (ev_M m c w) 143 [] [.int s0] (fr_i c w q0) := by
  unfold fX11_worked_c143 at h
  cases h
  exact ev_r 1 (fun n => rfl)
def fX11_worked_c142 (m : mm_MM) : Option (Int32 × mm_MM) :=
  fX11_worked_c143 m 0
set_option maxRecDepth 20000 in
theorem ok_fX11_worked_c142 {m : mm_MM} {q0 : Int32 × mm_MM} (h : fX11_worked_c142 m = some q0) : Ev XL xs (d + 2) 208 (ev_M m c w) 142 [] [] (fr_i c w q0) := by
  unfold fX11_worked_c142 at h
  refine ev_s 1 (M' := ev_M m c w) (pc' := 143) (lv' := []) (st' := [.int 0]) (fun n => rfl) ?_
  exact ok_fX11_worked_c143 h
def fX11_worked_c161 (m : mm_MM) (s0 : Int32) : Option (Int32 × mm_MM) :=
  some (s0, m)
set_option maxRecDepth 20000 in
theorem ok_fX11_worked_c161 {m : mm_MM} {s0 : Int32} {q0 : Int32 × mm_MM} (h : fX11_worked_c161 m s0 = some q0) : Ev XL xs (d + 2) 208 (ev_M m c w) 161 [] [.int s0] (fr_i c w q0) := by
  unfold fX11_worked_c161 at h
  cases h
  exact ev_r 1 (fun n => rfl)
def fX11_worked_c156 (m : mm_MM) : Option (Int32 × mm_MM) :=
  fX11_worked_c161 m 1
set_option maxRecDepth 20000 in
theorem ok_fX11_worked_c156 {m : mm_MM} {q0 : Int32 × mm_MM} (h : fX11_worked_c156 m = some q0) : Ev XL xs (d + 2) 208 (ev_M m c w) 156 [] [] (fr_i c w q0) := by
  unfold fX11_worked_c156 at h
  refine ev_s 2 (M' := ev_M m c w) (pc' := 161) (lv' := []) (st' := [.int 1]) (fun n => rfl) ?_
  exact ok_fX11_worked_c161 h
def fX11_worked (m : mm_MM) (x0 : Int32) (x1 : Int64) (x3 : Int64) : Option (Int32 × mm_MM) :=
  (if x0 = 2 then
    (fX11_bounded m (x1 + x3)).bind fun r1 =>
     some (r1.1, r1.2)
   else (if x0 = 3 then
    (fX11_bounded m (x1 - x3)).bind fun r3 =>
     some (r3.1, r3.2)
   else (if x0 = 4 then
    (fX11_bounded m (x1 * x3)).bind fun r5 =>
     some (r5.1, r5.2)
   else (if x0 = 5 then
    (if (lg_cmp x3 0) = 0 then
      fX11_worked_c89 m 0
     else
      (if x3 = (0 : Int64) then none else
       (fX11_bounded m ((x1 : Int64) / x3)).bind fun r8 =>
        fX11_worked_c89 r8.2 r8.1))
   else (if x0 = 6 then
    (if (lg_cmp x1 x3) = 0 then
      fX11_worked_c101 m 1
     else
      fX11_worked_c101 m 0)
   else (if x0 = 7 then
    (if (lg_cmp x1 x3) < 0 then
      fX11_worked_c113 m 1
     else
      fX11_worked_c113 m 0)
   else (if x0 = 8 then
    (if (lg_cmp x1 x3) ≤ 0 then
      fX11_worked_c125 m 0
     else
      fX11_worked_c125 m 1)
   else (if x0 = 9 then
    (if (lg_cmp x1 0) = 0 then
      (if (lg_cmp x3 0) = 0 then
        fX11_worked_c161 m 0
       else
        fX11_worked_c156 m)
     else
      fX11_worked_c156 m)
   else (if x0 = 10 then
    (if (lg_cmp x1 0) = 0 then
      fX11_worked_c142 m
     else
      (if (lg_cmp x3 0) = 0 then
        fX11_worked_c142 m
       else
        fX11_worked_c143 m 1))
   else (if (lg_cmp x1 0) = 0 then
    (if (lg_cmp x3 0) = 0 then
      fX11_worked_c161 m 0
     else
      fX11_worked_c156 m)
   else
    fX11_worked_c156 m))))))))))
set_option maxRecDepth 20000 in
theorem ok_fX11_worked {m : mm_MM} {x0 : Int32} {x1 : Int64} {x3 : Int64} {q0 : Int32 × mm_MM} (h : fX11_worked m x0 x1 x3 = some q0) : Ev XL xs (d + 2) 208 (ev_M m c w) 0 (lv_args 0 [.int x0, .long x1, .long x3]) [] (fr_i c w q0) := by
  unfold fX11_worked at h
  refine ev_s 1 (M' := ev_M m c w) (pc' := 1) (lv' := [(0, .int x0), (1, .long x1), (3, .long x3)]) (st' := [.int x0]) (fun n => rfl) ?_
  refine ev_e 2 h (fun hv2 h => ?_) (fun hv2 h => ?_)
  · refine ev_s 1 (M' := ev_M m c w) (pc' := 52) (lv' := [(0, .int x0), (1, .long x1), (3, .long x3)]) (st' := []) (fun n => by rw [hv2]; rfl) ?_
    obtain ⟨r1, hr1, h⟩ := Option.bind_eq_some_iff.mp h
    refine ev_c 4 (y' := 207) (M1 := ev_M m c w) (la := lv_args 0 [.long (x1 + x3)]) (rest := []) (pc' := 58) (lv' := [(0, .int x0), (1, .long x1), (3, .long x3)]) (fun n => rfl) (ok_fX11_bounded hr1) ?_
    show Ev XL xs _ 208 (ev_M r1.2 c w) 58 [(0, .int x0), (1, .long x1), (3, .long x3)] [.int r1.1] _
    cases h
    exact ev_r 1 (fun n => rfl)
  refine ev_e 3 h (fun hv4 h => ?_) (fun hv4 h => ?_)
  · refine ev_s 1 (M' := ev_M m c w) (pc' := 59) (lv' := [(0, .int x0), (1, .long x1), (3, .long x3)]) (st' := []) (fun n => by rw [hv4]; rfl) ?_
    obtain ⟨r3, hr3, h⟩ := Option.bind_eq_some_iff.mp h
    refine ev_c 4 (y' := 207) (M1 := ev_M m c w) (la := lv_args 0 [.long (x1 - x3)]) (rest := []) (pc' := 65) (lv' := [(0, .int x0), (1, .long x1), (3, .long x3)]) (fun n => rfl) (ok_fX11_bounded hr3) ?_
    show Ev XL xs _ 208 (ev_M r3.2 c w) 65 [(0, .int x0), (1, .long x1), (3, .long x3)] [.int r3.1] _
    cases h
    exact ev_r 1 (fun n => rfl)
  refine ev_e 4 h (fun hv6 h => ?_) (fun hv6 h => ?_)
  · refine ev_s 1 (M' := ev_M m c w) (pc' := 66) (lv' := [(0, .int x0), (1, .long x1), (3, .long x3)]) (st' := []) (fun n => by rw [hv6]; rfl) ?_
    obtain ⟨r5, hr5, h⟩ := Option.bind_eq_some_iff.mp h
    refine ev_c 4 (y' := 207) (M1 := ev_M m c w) (la := lv_args 0 [.long (x1 * x3)]) (rest := []) (pc' := 72) (lv' := [(0, .int x0), (1, .long x1), (3, .long x3)]) (fun n => rfl) (ok_fX11_bounded hr5) ?_
    show Ev XL xs _ 208 (ev_M r5.2 c w) 72 [(0, .int x0), (1, .long x1), (3, .long x3)] [.int r5.1] _
    cases h
    exact ev_r 1 (fun n => rfl)
  refine ev_e 5 h (fun hv9 h => ?_) (fun hv9 h => ?_)
  · refine ev_s 1 (M' := ev_M m c w) (pc' := 73) (lv' := [(0, .int x0), (1, .long x1), (3, .long x3)]) (st' := []) (fun n => by rw [hv9]; rfl) ?_
    refine ev_i 4 (M1 := ev_M m c w) (pc1 := 79) (lv1 := [(0, .int x0), (1, .long x1), (3, .long x3)]) (st1 := []) (M2 := ev_M m c w) (pc2 := 83) (lv2 := [(0, .int x0), (1, .long x1), (3, .long x3)]) (st2 := []) (fun n => rfl) h (fun hc7 h => ?_) (fun hc7 h => ?_)
    · refine ev_s 2 (M' := ev_M m c w) (pc' := 89) (lv' := [(0, .int x0), (1, .long x1), (3, .long x3)]) (st' := [.int 0]) (fun n => rfl) ?_
      refine ev_sub (lv := []) (mn_of rfl (by repeat (first | exact trivial | refine And.intro rfl ?_))) ?_
      exact ok_fX11_worked_c89 h
    · refine ev_g 3 (M1 := ev_M m c w) (pc1 := 86) (lv1 := [(0, .int x0), (1, .long x1), (3, .long x3)]) (st1 := [.long ((x1 : Int64) / x3)]) (fun n => rfl) h (fun _ h => ?_)
      obtain ⟨r8, hr8, h⟩ := Option.bind_eq_some_iff.mp h
      refine ev_c 1 (y' := 207) (M1 := ev_M m c w) (la := lv_args 0 [.long ((x1 : Int64) / x3)]) (rest := []) (pc' := 89) (lv' := [(0, .int x0), (1, .long x1), (3, .long x3)]) (fun n => rfl) (ok_fX11_bounded hr8) ?_
      show Ev XL xs _ 208 (ev_M r8.2 c w) 89 [(0, .int x0), (1, .long x1), (3, .long x3)] [.int r8.1] _
      refine ev_sub (lv := []) (mn_of rfl (by repeat (first | exact trivial | refine And.intro rfl ?_))) ?_
      exact ok_fX11_worked_c89 h
  refine ev_e 6 h (fun hv11 h => ?_) (fun hv11 h => ?_)
  · refine ev_s 1 (M' := ev_M m c w) (pc' := 90) (lv' := [(0, .int x0), (1, .long x1), (3, .long x3)]) (st' := []) (fun n => by rw [hv11]; rfl) ?_
    refine ev_i 4 (M1 := ev_M m c w) (pc1 := 96) (lv1 := [(0, .int x0), (1, .long x1), (3, .long x3)]) (st1 := []) (M2 := ev_M m c w) (pc2 := 100) (lv2 := [(0, .int x0), (1, .long x1), (3, .long x3)]) (st2 := []) (fun n => rfl) h (fun hc10 h => ?_) (fun hc10 h => ?_)
    · refine ev_s 2 (M' := ev_M m c w) (pc' := 101) (lv' := [(0, .int x0), (1, .long x1), (3, .long x3)]) (st' := [.int 1]) (fun n => rfl) ?_
      refine ev_sub (lv := []) (mn_of rfl (by repeat (first | exact trivial | refine And.intro rfl ?_))) ?_
      exact ok_fX11_worked_c101 h
    · refine ev_s 1 (M' := ev_M m c w) (pc' := 101) (lv' := [(0, .int x0), (1, .long x1), (3, .long x3)]) (st' := [.int 0]) (fun n => rfl) ?_
      refine ev_sub (lv := []) (mn_of rfl (by repeat (first | exact trivial | refine And.intro rfl ?_))) ?_
      exact ok_fX11_worked_c101 h
  refine ev_e 7 h (fun hv13 h => ?_) (fun hv13 h => ?_)
  · refine ev_s 1 (M' := ev_M m c w) (pc' := 102) (lv' := [(0, .int x0), (1, .long x1), (3, .long x3)]) (st' := []) (fun n => by rw [hv13]; rfl) ?_
    refine ev_i 4 (M1 := ev_M m c w) (pc1 := 108) (lv1 := [(0, .int x0), (1, .long x1), (3, .long x3)]) (st1 := []) (M2 := ev_M m c w) (pc2 := 112) (lv2 := [(0, .int x0), (1, .long x1), (3, .long x3)]) (st2 := []) (fun n => rfl) h (fun hc12 h => ?_) (fun hc12 h => ?_)
    · refine ev_s 2 (M' := ev_M m c w) (pc' := 113) (lv' := [(0, .int x0), (1, .long x1), (3, .long x3)]) (st' := [.int 1]) (fun n => rfl) ?_
      refine ev_sub (lv := []) (mn_of rfl (by repeat (first | exact trivial | refine And.intro rfl ?_))) ?_
      exact ok_fX11_worked_c113 h
    · refine ev_s 1 (M' := ev_M m c w) (pc' := 113) (lv' := [(0, .int x0), (1, .long x1), (3, .long x3)]) (st' := [.int 0]) (fun n => rfl) ?_
      refine ev_sub (lv := []) (mn_of rfl (by repeat (first | exact trivial | refine And.intro rfl ?_))) ?_
      exact ok_fX11_worked_c113 h
  refine ev_e 8 h (fun hv15 h => ?_) (fun hv15 h => ?_)
  · refine ev_s 1 (M' := ev_M m c w) (pc' := 114) (lv' := [(0, .int x0), (1, .long x1), (3, .long x3)]) (st' := []) (fun n => by rw [hv15]; rfl) ?_
    refine ev_i 4 (M1 := ev_M m c w) (pc1 := 124) (lv1 := [(0, .int x0), (1, .long x1), (3, .long x3)]) (st1 := []) (M2 := ev_M m c w) (pc2 := 120) (lv2 := [(0, .int x0), (1, .long x1), (3, .long x3)]) (st2 := []) (fun n => rfl) h (fun hc14 h => ?_) (fun hc14 h => ?_)
    · refine ev_s 1 (M' := ev_M m c w) (pc' := 125) (lv' := [(0, .int x0), (1, .long x1), (3, .long x3)]) (st' := [.int 0]) (fun n => rfl) ?_
      refine ev_sub (lv := []) (mn_of rfl (by repeat (first | exact trivial | refine And.intro rfl ?_))) ?_
      exact ok_fX11_worked_c125 h
    · refine ev_s 2 (M' := ev_M m c w) (pc' := 125) (lv' := [(0, .int x0), (1, .long x1), (3, .long x3)]) (st' := [.int 1]) (fun n => rfl) ?_
      refine ev_sub (lv := []) (mn_of rfl (by repeat (first | exact trivial | refine And.intro rfl ?_))) ?_
      exact ok_fX11_worked_c125 h
  refine ev_e 9 h (fun hv18 h => ?_) (fun hv18 h => ?_)
  · refine ev_s 1 (M' := ev_M m c w) (pc' := 144) (lv' := [(0, .int x0), (1, .long x1), (3, .long x3)]) (st' := []) (fun n => by rw [hv18]; rfl) ?_
    refine ev_i 4 (M1 := ev_M m c w) (pc1 := 150) (lv1 := [(0, .int x0), (1, .long x1), (3, .long x3)]) (st1 := []) (M2 := ev_M m c w) (pc2 := 156) (lv2 := [(0, .int x0), (1, .long x1), (3, .long x3)]) (st2 := []) (fun n => rfl) h (fun hc16 h => ?_) (fun hc16 h => ?_)
    · refine ev_i 4 (M1 := ev_M m c w) (pc1 := 160) (lv1 := [(0, .int x0), (1, .long x1), (3, .long x3)]) (st1 := []) (M2 := ev_M m c w) (pc2 := 156) (lv2 := [(0, .int x0), (1, .long x1), (3, .long x3)]) (st2 := []) (fun n => rfl) h (fun hc17 h => ?_) (fun hc17 h => ?_)
      · refine ev_s 1 (M' := ev_M m c w) (pc' := 161) (lv' := [(0, .int x0), (1, .long x1), (3, .long x3)]) (st' := [.int 0]) (fun n => rfl) ?_
        refine ev_sub (lv := []) (mn_of rfl (by repeat (first | exact trivial | refine And.intro rfl ?_))) ?_
        exact ok_fX11_worked_c161 h
      · refine ev_sub (lv := []) (mn_of rfl (by repeat (first | exact trivial | refine And.intro rfl ?_))) ?_
        exact ok_fX11_worked_c156 h
    · refine ev_sub (lv := []) (mn_of rfl (by repeat (first | exact trivial | refine And.intro rfl ?_))) ?_
      exact ok_fX11_worked_c156 h
  refine ev_e 10 h (fun hv21 h => ?_) (fun hv21 h => ?_)
  · refine ev_s 1 (M' := ev_M m c w) (pc' := 126) (lv' := [(0, .int x0), (1, .long x1), (3, .long x3)]) (st' := []) (fun n => by rw [hv21]; rfl) ?_
    refine ev_i 4 (M1 := ev_M m c w) (pc1 := 142) (lv1 := [(0, .int x0), (1, .long x1), (3, .long x3)]) (st1 := []) (M2 := ev_M m c w) (pc2 := 132) (lv2 := [(0, .int x0), (1, .long x1), (3, .long x3)]) (st2 := []) (fun n => rfl) h (fun hc19 h => ?_) (fun hc19 h => ?_)
    · refine ev_sub (lv := []) (mn_of rfl (by repeat (first | exact trivial | refine And.intro rfl ?_))) ?_
      exact ok_fX11_worked_c142 h
    · refine ev_i 4 (M1 := ev_M m c w) (pc1 := 142) (lv1 := [(0, .int x0), (1, .long x1), (3, .long x3)]) (st1 := []) (M2 := ev_M m c w) (pc2 := 138) (lv2 := [(0, .int x0), (1, .long x1), (3, .long x3)]) (st2 := []) (fun n => rfl) h (fun hc20 h => ?_) (fun hc20 h => ?_)
      · refine ev_sub (lv := []) (mn_of rfl (by repeat (first | exact trivial | refine And.intro rfl ?_))) ?_
        exact ok_fX11_worked_c142 h
      · refine ev_s 2 (M' := ev_M m c w) (pc' := 143) (lv' := [(0, .int x0), (1, .long x1), (3, .long x3)]) (st' := [.int 1]) (fun n => rfl) ?_
        refine ev_sub (lv := []) (mn_of rfl (by repeat (first | exact trivial | refine And.intro rfl ?_))) ?_
        exact ok_fX11_worked_c143 h
  have ghv2 : (x0 : Int32).toInt ≠ 2 := fun z => hv2 (Int32.toInt_inj.mp (z.trans rfl))
  have ghv4 : (x0 : Int32).toInt ≠ 3 := fun z => hv4 (Int32.toInt_inj.mp (z.trans rfl))
  have ghv6 : (x0 : Int32).toInt ≠ 4 := fun z => hv6 (Int32.toInt_inj.mp (z.trans rfl))
  have ghv9 : (x0 : Int32).toInt ≠ 5 := fun z => hv9 (Int32.toInt_inj.mp (z.trans rfl))
  have ghv11 : (x0 : Int32).toInt ≠ 6 := fun z => hv11 (Int32.toInt_inj.mp (z.trans rfl))
  have ghv13 : (x0 : Int32).toInt ≠ 7 := fun z => hv13 (Int32.toInt_inj.mp (z.trans rfl))
  have ghv15 : (x0 : Int32).toInt ≠ 8 := fun z => hv15 (Int32.toInt_inj.mp (z.trans rfl))
  have ghv18 : (x0 : Int32).toInt ≠ 9 := fun z => hv18 (Int32.toInt_inj.mp (z.trans rfl))
  have ghv21 : (x0 : Int32).toInt ≠ 10 := fun z => hv21 (Int32.toInt_inj.mp (z.trans rfl))
  refine ev_td (M' := ev_M m c w) (pc' := 144) (lv' := [(0, .int x0), (1, .long x1), (3, .long x3)]) (st' := []) rfl (by omega) rfl ?_
  refine ev_i 4 (M1 := ev_M m c w) (pc1 := 150) (lv1 := [(0, .int x0), (1, .long x1), (3, .long x3)]) (st1 := []) (M2 := ev_M m c w) (pc2 := 156) (lv2 := [(0, .int x0), (1, .long x1), (3, .long x3)]) (st2 := []) (fun n => rfl) h (fun hc22 h => ?_) (fun hc22 h => ?_)
  · refine ev_i 4 (M1 := ev_M m c w) (pc1 := 160) (lv1 := [(0, .int x0), (1, .long x1), (3, .long x3)]) (st1 := []) (M2 := ev_M m c w) (pc2 := 156) (lv2 := [(0, .int x0), (1, .long x1), (3, .long x3)]) (st2 := []) (fun n => rfl) h (fun hc23 h => ?_) (fun hc23 h => ?_)
    · refine ev_s 1 (M' := ev_M m c w) (pc' := 161) (lv' := [(0, .int x0), (1, .long x1), (3, .long x3)]) (st' := [.int 0]) (fun n => rfl) ?_
      refine ev_sub (lv := []) (mn_of rfl (by repeat (first | exact trivial | refine And.intro rfl ?_))) ?_
      exact ok_fX11_worked_c161 h
    · refine ev_sub (lv := []) (mn_of rfl (by repeat (first | exact trivial | refine And.intro rfl ?_))) ?_
      exact ok_fX11_worked_c156 h
  · refine ev_sub (lv := []) (mn_of rfl (by repeat (first | exact trivial | refine And.intro rfl ?_))) ?_
    exact ok_fX11_worked_c156 h
def fX11_workOut_c165 (kr12 : mm_MM → Int32 → Int32 → Int32 → Int32 → Option (Int32 × mm_MM)) (m : mm_MM) (x1 : Int32) (x3 : Int32) (x4 : Int32) (x5 : Int32) : Option (Int32 × mm_MM) :=
  kr12 m x1 x3 x4 (x5 + 1)
set_option maxRecDepth 20000 in
theorem ok_fX11_workOut_c165 {kr12 : mm_MM → Int32 → Int32 → Int32 → Int32 → Option (Int32 × mm_MM)} (hkr12 : ∀ (m : mm_MM) (x1 : Int32) (x3 : Int32) (x4 : Int32) (x5 : Int32) (q0 : Int32 × mm_MM), kr12 m x1 x3 x4 x5 = some q0 → Ev XL xs (d + 3) 209 (ev_M m c w) 12 [(0, .ref 606), (1, .int x1), (3, .int x3), (4, .int x4), (5, .int x5)] [] (fr_i c w q0)) {m : mm_MM} {x1 : Int32} {x3 : Int32} {x4 : Int32} {x5 : Int32} {q0 : Int32 × mm_MM} (h : fX11_workOut_c165 kr12 m x1 x3 x4 x5 = some q0) : Ev XL xs (d + 3) 209 (ev_M m c w) 165 [(0, .ref 606), (1, .int x1), (3, .int x3), (4, .int x4), (5, .int x5)] [] (fr_i c w q0) := by
  unfold fX11_workOut_c165 at h
  refine ev_s 2 (M' := ev_M m c w) (pc' := 12) (lv' := [(5, .int (x5 + 1)), (0, .ref 606), (1, .int x1), (3, .int x3), (4, .int x4)]) (st' := []) (fun n => rfl) ?_
  refine ev_sub (lv := [(0, .ref 606), (1, .int x1), (3, .int x3), (4, .int x4), (5, .int (x5 + 1))]) (mn_of rfl (by repeat (first | exact trivial | refine And.intro rfl ?_))) ?_
  exact hkr12 _ _ _ _ _ _ h
def fX11_workOut_c83 (kr12 : mm_MM → Int32 → Int32 → Int32 → Int32 → Option (Int32 × mm_MM)) (m : mm_MM) (x1 : Int32) (x3 : Int32) (x4 : Int32) (x5 : Int32) (s1 : Int32) (s2 : Int32) : Option (Int32 × mm_MM) :=
  (if s1 < 0 ∨ 80 ≤ s1.toNatClampNeg then none else
   fX11_workOut_c165 kr12 (wI m 616 s1.toNatClampNeg s2) x1 x3 (x4 + 1) x5)
set_option maxRecDepth 20000 in
theorem ok_fX11_workOut_c83 {kr12 : mm_MM → Int32 → Int32 → Int32 → Int32 → Option (Int32 × mm_MM)} (hkr12 : ∀ (m : mm_MM) (x1 : Int32) (x3 : Int32) (x4 : Int32) (x5 : Int32) (q0 : Int32 × mm_MM), kr12 m x1 x3 x4 x5 = some q0 → Ev XL xs (d + 3) 209 (ev_M m c w) 12 [(0, .ref 606), (1, .int x1), (3, .int x3), (4, .int x4), (5, .int x5)] [] (fr_i c w q0)) {m : mm_MM} {x1 : Int32} {x3 : Int32} {x4 : Int32} {x5 : Int32} {s1 : Int32} {s2 : Int32} {q0 : Int32 × mm_MM} (h : fX11_workOut_c83 kr12 m x1 x3 x4 x5 s1 s2 = some q0) : Ev XL xs (d + 3) 209 (ev_M m c w) 83 [(0, .ref 606), (1, .int x1), (3, .int x3), (4, .int x4), (5, .int x5)] [.int s2, .int s1, .ref 616] (fr_i c w q0) := by
  unfold fX11_workOut_c83 at h
  refine ev_g 1 (M1 := ev_M (wI m 616 s1.toNatClampNeg s2) c w) (pc1 := 84) (lv1 := [(0, .ref 606), (1, .int x1), (3, .int x3), (4, .int x4), (5, .int x5)]) (st1 := []) (fun n => rfl) h (fun _ h => ?_)
  refine ev_s 2 (M' := ev_M (wI m 616 s1.toNatClampNeg s2) c w) (pc' := 165) (lv' := [(4, .int (x4 + 1)), (0, .ref 606), (1, .int x1), (3, .int x3), (5, .int x5)]) (st' := []) (fun n => rfl) ?_
  refine ev_sub (lv := [(0, .ref 606), (1, .int x1), (3, .int x3), (4, .int (x4 + 1)), (5, .int x5)]) (mn_of rfl (by repeat (first | exact trivial | refine And.intro rfl ?_))) ?_
  exact ok_fX11_workOut_c165 hkr12 h
def fX11_workOut_c45 (kr12 : mm_MM → Int32 → Int32 → Int32 → Int32 → Option (Int32 × mm_MM)) (m : mm_MM) (x1 : Int32) (x3 : Int32) (x4 : Int32) (x5 : Int32) : Option (Int32 × mm_MM) :=
  (if x5 < 0 ∨ 2600 ≤ x5.toNatClampNeg then none else
   (if m.1 608 x5.toNatClampNeg = 0 then
     (if x5 < 0 ∨ 2600 ≤ x5.toNatClampNeg then none else
      fX11_workOut_c83 kr12 m x1 x3 x4 x5 x4 (m.1 609 x5.toNatClampNeg))
    else
     (if x5 < 0 ∨ 2600 ≤ x5.toNatClampNeg then none else
      (if m.1 609 x5.toNatClampNeg < 0 ∨ 6 ≤ (m.1 609 x5.toNatClampNeg).toNatClampNeg then none else
       fX11_workOut_c83 kr12 m x1 x3 x4 x5 x4 (m.1 615 ((m.1 609 x5.toNatClampNeg).toNatClampNeg))))))
set_option maxRecDepth 20000 in
theorem ok_fX11_workOut_c45 {kr12 : mm_MM → Int32 → Int32 → Int32 → Int32 → Option (Int32 × mm_MM)} (hkr12 : ∀ (m : mm_MM) (x1 : Int32) (x3 : Int32) (x4 : Int32) (x5 : Int32) (q0 : Int32 × mm_MM), kr12 m x1 x3 x4 x5 = some q0 → Ev XL xs (d + 3) 209 (ev_M m c w) 12 [(0, .ref 606), (1, .int x1), (3, .int x3), (4, .int x4), (5, .int x5)] [] (fr_i c w q0)) {m : mm_MM} {x1 : Int32} {x3 : Int32} {x4 : Int32} {x5 : Int32} {q0 : Int32 × mm_MM} (h : fX11_workOut_c45 kr12 m x1 x3 x4 x5 = some q0) : Ev XL xs (d + 3) 209 (ev_M m c w) 45 [(0, .ref 606), (1, .int x1), (3, .int x3), (4, .int x4), (5, .int x5)] [] (fr_i c w q0) := by
  unfold fX11_workOut_c45 at h
  refine ev_g 7 (M1 := ev_M m c w) (pc1 := 58) (lv1 := [(0, .ref 606), (1, .int x1), (3, .int x3), (4, .int x4), (5, .int x5)]) (st1 := [.int (m.1 608 x5.toNatClampNeg), .int x4, .ref 616]) (fun n => rfl) h (fun _ h => ?_)
  refine ev_i 1 (M1 := ev_M m c w) (pc1 := 61) (lv1 := [(0, .ref 606), (1, .int x1), (3, .int x3), (4, .int x4), (5, .int x5)]) (st1 := [.int x4, .ref 616]) (M2 := ev_M m c w) (pc2 := 71) (lv2 := [(0, .ref 606), (1, .int x1), (3, .int x3), (4, .int x4), (5, .int x5)]) (st2 := [.int x4, .ref 616]) (fun n => rfl) h (fun hc1 h => ?_) (fun hc1 h => ?_)
  · refine ev_g 4 (M1 := ev_M m c w) (pc1 := 68) (lv1 := [(0, .ref 606), (1, .int x1), (3, .int x3), (4, .int x4), (5, .int x5)]) (st1 := [.int (m.1 609 x5.toNatClampNeg), .int x4, .ref 616]) (fun n => rfl) h (fun _ h => ?_)
    refine ev_s 1 (M' := ev_M m c w) (pc' := 83) (lv' := [(0, .ref 606), (1, .int x1), (3, .int x3), (4, .int x4), (5, .int x5)]) (st' := [.int (m.1 609 x5.toNatClampNeg), .int x4, .ref 616]) (fun n => rfl) ?_
    exact ok_fX11_workOut_c83 hkr12 h
  · refine ev_g 6 (M1 := ev_M m c w) (pc1 := 82) (lv1 := [(0, .ref 606), (1, .int x1), (3, .int x3), (4, .int x4), (5, .int x5)]) (st1 := [.int (m.1 609 x5.toNatClampNeg), .ref 615, .int x4, .ref 616]) (fun n => rfl) h (fun _ h => ?_)
    refine ev_g 1 (M1 := ev_M m c w) (pc1 := 83) (lv1 := [(0, .ref 606), (1, .int x1), (3, .int x3), (4, .int x4), (5, .int x5)]) (st1 := [.int (m.1 615 ((m.1 609 x5.toNatClampNeg).toNatClampNeg)), .int x4, .ref 616]) (fun n => rfl) h (fun _ h => ?_)
    exact ok_fX11_workOut_c83 hkr12 h
def fX11_workOut_c128 (kr12 : mm_MM → Int32 → Int32 → Int32 → Int32 → Option (Int32 × mm_MM)) (m : mm_MM) (x1 : Int32) (x3 : Int32) (x4 : Int32) (x5 : Int32) : Option (Int32 × mm_MM) :=
  (if x5 < 0 ∨ 2600 ≤ x5.toNatClampNeg then none else
   (if (x4 - 1) < 0 ∨ 80 ≤ (x4 - 1).toNatClampNeg then none else
    (if x4 < 0 ∨ 80 ≤ x4.toNatClampNeg then none else
     (fX11_worked m (m.1 608 x5.toNatClampNeg) (Int32.toInt64 (m.1 616 ((x4 - 1).toNatClampNeg))) (Int32.toInt64 (m.1 616 x4.toNatClampNeg))).bind fun r1 =>
      (if (x4 - 1) < 0 ∨ 80 ≤ (x4 - 1).toNatClampNeg then none else
       fX11_workOut_c165 kr12 (wI r1.2 616 ((x4 - 1).toNatClampNeg) r1.1) x1 x3 x4 x5))))
set_option maxRecDepth 20000 in
theorem ok_fX11_workOut_c128 {kr12 : mm_MM → Int32 → Int32 → Int32 → Int32 → Option (Int32 × mm_MM)} (hkr12 : ∀ (m : mm_MM) (x1 : Int32) (x3 : Int32) (x4 : Int32) (x5 : Int32) (q0 : Int32 × mm_MM), kr12 m x1 x3 x4 x5 = some q0 → Ev XL xs (d + 3) 209 (ev_M m c w) 12 [(0, .ref 606), (1, .int x1), (3, .int x3), (4, .int x4), (5, .int x5)] [] (fr_i c w q0)) {m : mm_MM} {x1 : Int32} {x3 : Int32} {x4 : Int32} {x5 : Int32} {q0 : Int32 × mm_MM} (h : fX11_workOut_c128 kr12 m x1 x3 x4 x5 = some q0) : Ev XL xs (d + 3) 209 (ev_M m c w) 128 [(0, .ref 606), (1, .int x1), (3, .int x3), (4, .int x4), (5, .int x5)] [] (fr_i c w q0) := by
  unfold fX11_workOut_c128 at h
  refine ev_g 9 (M1 := ev_M m c w) (pc1 := 143) (lv1 := [(0, .ref 606), (1, .int x1), (3, .int x3), (4, .int x4), (5, .int x5)]) (st1 := [.int (m.1 608 x5.toNatClampNeg), .int (x4 - 1), .ref 616]) (fun n => rfl) h (fun _ h => ?_)
  refine ev_g 6 (M1 := ev_M m c w) (pc1 := 152) (lv1 := [(0, .ref 606), (1, .int x1), (3, .int x3), (4, .int x4), (5, .int x5)]) (st1 := [.int (m.1 616 ((x4 - 1).toNatClampNeg)), .int (m.1 608 x5.toNatClampNeg), .int (x4 - 1), .ref 616]) (fun n => rfl) h (fun _ h => ?_)
  refine ev_g 5 (M1 := ev_M m c w) (pc1 := 160) (lv1 := [(0, .ref 606), (1, .int x1), (3, .int x3), (4, .int x4), (5, .int x5)]) (st1 := [.int (m.1 616 x4.toNatClampNeg), .long (Int32.toInt64 (m.1 616 ((x4 - 1).toNatClampNeg))), .int (m.1 608 x5.toNatClampNeg), .int (x4 - 1), .ref 616]) (fun n => rfl) h (fun _ h => ?_)
  obtain ⟨r1, hr1, h⟩ := Option.bind_eq_some_iff.mp h
  refine ev_c 2 (y' := 208) (M1 := ev_M m c w) (la := lv_args 0 [.int (m.1 608 x5.toNatClampNeg), .long (Int32.toInt64 (m.1 616 ((x4 - 1).toNatClampNeg))), .long (Int32.toInt64 (m.1 616 x4.toNatClampNeg))]) (rest := [.int (x4 - 1), .ref 616]) (pc' := 164) (lv' := [(0, .ref 606), (1, .int x1), (3, .int x3), (4, .int x4), (5, .int x5)]) (fun n => rfl) (ok_fX11_worked hr1) ?_
  show Ev XL xs _ 209 (ev_M r1.2 c w) 164 [(0, .ref 606), (1, .int x1), (3, .int x3), (4, .int x4), (5, .int x5)] [.int r1.1, .int (x4 - 1), .ref 616] _
  refine ev_g 1 (M1 := ev_M (wI r1.2 616 ((x4 - 1).toNatClampNeg) r1.1) c w) (pc1 := 165) (lv1 := [(0, .ref 606), (1, .int x1), (3, .int x3), (4, .int x4), (5, .int x5)]) (st1 := []) (fun n => rfl) h (fun _ h => ?_)
  exact ok_fX11_workOut_c165 hkr12 h
def fX11_workOut_c12 : Nat → mm_MM → Int32 → Int32 → Int32 → Int32 → Option (Int32 × mm_MM)
  | 0 => fun _ _ _ _ _ => none
  | n + 1 => fun m x1 x3 x4 x5 =>
    (if x5 < ((520 * x1) + x3) then
      (if x5 < 0 ∨ 2600 ≤ x5.toNatClampNeg then none else
       (if m.1 608 x5.toNatClampNeg = 0 then
         fX11_workOut_c45 (fX11_workOut_c12 n) m x1 x3 x4 x5
        else
         (if x5 < 0 ∨ 2600 ≤ x5.toNatClampNeg then none else
          (if m.1 608 x5.toNatClampNeg = 1 then
            fX11_workOut_c45 (fX11_workOut_c12 n) m x1 x3 x4 x5
           else
            (if x5 < 0 ∨ 2600 ≤ x5.toNatClampNeg then none else
             (if m.1 608 x5.toNatClampNeg = 9 then
               (if (x4 - 1) < 0 ∨ 80 ≤ (x4 - 1).toNatClampNeg then none else
                (if (x4 - 1) < 0 ∨ 80 ≤ (x4 - 1).toNatClampNeg then none else
                 fX11_workOut_c165 (fX11_workOut_c12 n) (wI m 616 ((x4 - 1).toNatClampNeg) (1 - m.1 616 ((x4 - 1).toNatClampNeg))) x1 x3 x4 x5))
              else
               fX11_workOut_c128 (fX11_workOut_c12 n) m x1 x3 (x4 + (-1)) x5))))))
     else
      some (m.1 616 0, m))
set_option maxRecDepth 20000 in
theorem ok_fX11_workOut_c12 : ∀ (n : Nat) (m : mm_MM) (x1 : Int32) (x3 : Int32) (x4 : Int32) (x5 : Int32) (q0 : Int32 × mm_MM), fX11_workOut_c12 n m x1 x3 x4 x5 = some q0 → Ev XL xs (d + 3) 209 (ev_M m c w) 12 [(0, .ref 606), (1, .int x1), (3, .int x3), (4, .int x4), (5, .int x5)] [] (fr_i c w q0) := by
  intro n
  induction n with
  | zero => intro m x1 x3 x4 x5 q0 h; exact absurd (show (none : Option (Int32 × mm_MM)) = some q0 from h) (by simp)
  | succ n ih =>
    intro m x1 x3 x4 x5 q0 h
    unfold fX11_workOut_c12 at h
    refine ev_i 7 (M1 := ev_M m c w) (pc1 := 24) (lv1 := [(0, .ref 606), (1, .int x1), (3, .int x3), (4, .int x4), (5, .int x5)]) (st1 := []) (M2 := ev_M m c w) (pc2 := 171) (lv2 := [(0, .ref 606), (1, .int x1), (3, .int x3), (4, .int x4), (5, .int x5)]) (st2 := []) (fun n => rfl) h (fun hc1 h => ?_) (fun hc1 h => ?_)
    · refine ev_g 4 (M1 := ev_M m c w) (pc1 := 31) (lv1 := [(0, .ref 606), (1, .int x1), (3, .int x3), (4, .int x4), (5, .int x5)]) (st1 := [.int (m.1 608 x5.toNatClampNeg)]) (fun n => rfl) h (fun _ h => ?_)
      refine ev_i 1 (M1 := ev_M m c w) (pc1 := 45) (lv1 := [(0, .ref 606), (1, .int x1), (3, .int x3), (4, .int x4), (5, .int x5)]) (st1 := []) (M2 := ev_M m c w) (pc2 := 34) (lv2 := [(0, .ref 606), (1, .int x1), (3, .int x3), (4, .int x4), (5, .int x5)]) (st2 := []) (fun n => rfl) h (fun hc2 h => ?_) (fun hc2 h => ?_)
      · exact ok_fX11_workOut_c45 ih h
      · refine ev_g 4 (M1 := ev_M m c w) (pc1 := 41) (lv1 := [(0, .ref 606), (1, .int x1), (3, .int x3), (4, .int x4), (5, .int x5)]) (st1 := [.int (m.1 608 x5.toNatClampNeg)]) (fun n => rfl) h (fun _ h => ?_)
        refine ev_i 2 (M1 := ev_M m c w) (pc1 := 45) (lv1 := [(0, .ref 606), (1, .int x1), (3, .int x3), (4, .int x4), (5, .int x5)]) (st1 := []) (M2 := ev_M m c w) (pc2 := 90) (lv2 := [(0, .ref 606), (1, .int x1), (3, .int x3), (4, .int x4), (5, .int x5)]) (st2 := []) (fun n => rfl) h (fun hc3 h => ?_) (fun hc3 h => ?_)
        · exact ok_fX11_workOut_c45 ih h
        · refine ev_g 4 (M1 := ev_M m c w) (pc1 := 97) (lv1 := [(0, .ref 606), (1, .int x1), (3, .int x3), (4, .int x4), (5, .int x5)]) (st1 := [.int (m.1 608 x5.toNatClampNeg)]) (fun n => rfl) h (fun _ h => ?_)
          refine ev_i 2 (M1 := ev_M m c w) (pc1 := 102) (lv1 := [(0, .ref 606), (1, .int x1), (3, .int x3), (4, .int x4), (5, .int x5)]) (st1 := []) (M2 := ev_M m c w) (pc2 := 125) (lv2 := [(0, .ref 606), (1, .int x1), (3, .int x3), (4, .int x4), (5, .int x5)]) (st2 := []) (fun n => rfl) h (fun hc4 h => ?_) (fun hc4 h => ?_)
          · refine ev_g 12 (M1 := ev_M m c w) (pc1 := 120) (lv1 := [(0, .ref 606), (1, .int x1), (3, .int x3), (4, .int x4), (5, .int x5)]) (st1 := [.int (m.1 616 ((x4 - 1).toNatClampNeg)), .int 1, .int (x4 - 1), .ref 616]) (fun n => rfl) h (fun _ h => ?_)
            refine ev_g 2 (M1 := ev_M (wI m 616 ((x4 - 1).toNatClampNeg) (1 - m.1 616 ((x4 - 1).toNatClampNeg))) c w) (pc1 := 122) (lv1 := [(0, .ref 606), (1, .int x1), (3, .int x3), (4, .int x4), (5, .int x5)]) (st1 := []) (fun n => rfl) h (fun _ h => ?_)
            refine ev_s 1 (M' := ev_M (wI m 616 ((x4 - 1).toNatClampNeg) (1 - m.1 616 ((x4 - 1).toNatClampNeg))) c w) (pc' := 165) (lv' := [(0, .ref 606), (1, .int x1), (3, .int x3), (4, .int x4), (5, .int x5)]) (st' := []) (fun n => rfl) ?_
            exact ok_fX11_workOut_c165 ih h
          · refine ev_s 1 (M' := ev_M m c w) (pc' := 128) (lv' := [(4, .int (x4 + (-1))), (0, .ref 606), (1, .int x1), (3, .int x3), (5, .int x5)]) (st' := []) (fun n => rfl) ?_
            refine ev_sub (lv := [(0, .ref 606), (1, .int x1), (3, .int x3), (4, .int (x4 + (-1))), (5, .int x5)]) (mn_of rfl (by repeat (first | exact trivial | refine And.intro rfl ?_))) ?_
            exact ok_fX11_workOut_c128 ih h
    · cases h
      exact ev_r 5 (fun n => rfl)
def fX11_workOut (m : mm_MM) (x1 : Int32) (x2 : Int32) (x3 : Int32) : Option (Int32 × mm_MM) :=
  fX11_workOut_c12 fu m x1 x3 0 ((520 * x1) + x2)
set_option maxRecDepth 20000 in
theorem ok_fX11_workOut {m : mm_MM} {x1 : Int32} {x2 : Int32} {x3 : Int32} {q0 : Int32 × mm_MM} (h : fX11_workOut m x1 x2 x3 = some q0) : Ev XL xs (d + 3) 209 (ev_M m c w) 0 (lv_args 0 [.ref 606, .int x1, .int x2, .int x3]) [] (fr_i c w q0) := by
  unfold fX11_workOut at h
  refine ev_s 8 (M' := ev_M m c w) (pc' := 12) (lv' := [(5, .int ((520 * x1) + x2)), (4, .int 0), (0, .ref 606), (1, .int x1), (2, .int x2), (3, .int x3)]) (st' := []) (fun n => rfl) ?_
  refine ev_sub (lv := [(0, .ref 606), (1, .int x1), (3, .int x3), (4, .int 0), (5, .int ((520 * x1) + x2))]) (mn_of rfl (by repeat (first | exact trivial | refine And.intro rfl ?_))) ?_
  exact ok_fX11_workOut_c12 fu _ _ _ _ _ _ h
def fX11_worthOf_c57 (m : mm_MM) (x1 : Int32) (x2 : Int32) : Option (Int32 × mm_MM) :=
  (if x2 < 0 ∨ 700 ≤ x2.toNatClampNeg then none else
   (if x2 < 0 ∨ 700 ≤ x2.toNatClampNeg then none else
    (fX11_workOut m x1 (m.1 613 x2.toNatClampNeg) (m.1 614 x2.toNatClampNeg)).bind fun r1 =>
     some (r1.1, r1.2)))
theorem ok_fX11_worthOf_c57 {m : mm_MM} {x1 : Int32} {x2 : Int32} {q0 : Int32 × mm_MM} (h : fX11_worthOf_c57 m x1 x2 = some q0) : Ev XL xs (d + 4) 210 (ev_M m c w) 57 [(0, .ref 606), (1, .int x1), (2, .int x2)] [] (fr_i c w q0) := by
  unfold fX11_worthOf_c57 at h
  refine ev_g 6 (M1 := ev_M m c w) (pc1 := 65) (lv1 := [(0, .ref 606), (1, .int x1), (2, .int x2)]) (st1 := [.int (m.1 613 x2.toNatClampNeg), .int x1, .ref 606]) (fun n => rfl) h (fun _ h => ?_)
  refine ev_g 4 (M1 := ev_M m c w) (pc1 := 71) (lv1 := [(0, .ref 606), (1, .int x1), (2, .int x2)]) (st1 := [.int (m.1 614 x2.toNatClampNeg), .int (m.1 613 x2.toNatClampNeg), .int x1, .ref 606]) (fun n => rfl) h (fun _ h => ?_)
  obtain ⟨r1, hr1, h⟩ := Option.bind_eq_some_iff.mp h
  refine ev_c 1 (y' := 209) (M1 := ev_M m c w) (la := lv_args 0 [.ref 606, .int x1, .int (m.1 613 x2.toNatClampNeg), .int (m.1 614 x2.toNatClampNeg)]) (rest := []) (pc' := 74) (lv' := [(0, .ref 606), (1, .int x1), (2, .int x2)]) (fun n => rfl) (ok_fX11_workOut hr1) ?_
  show Ev XL xs _ 210 (ev_M r1.2 c w) 74 [(0, .ref 606), (1, .int x1), (2, .int x2)] [.int r1.1] _
  cases h
  exact ev_r 1 (fun n => rfl)
def fX11_worthOf_c6 : Nat → mm_MM → Int32 → Int32 → Option (Int32 × mm_MM)
  | 0 => fun _ _ _ => none
  | n + 1 => fun m x1 x2 =>
    (if x1 < 0 ∨ 5 ≤ x1.toNatClampNeg then none else
     (if x2 < ((140 * x1) + m.1 611 x1.toNatClampNeg) then
       (if x2 < 0 ∨ 700 ≤ x2.toNatClampNeg then none else
        (if x2 < 0 ∨ 700 ≤ x2.toNatClampNeg then none else
         (if m.1 612 x2.toNatClampNeg = m.1 613 x2.toNatClampNeg then
           fX11_worthOf_c57 m x1 x2
          else
           (if x2 < 0 ∨ 700 ≤ x2.toNatClampNeg then none else
            (if x2 < 0 ∨ 700 ≤ x2.toNatClampNeg then none else
             (fX11_workOut m x1 (m.1 612 x2.toNatClampNeg) (m.1 613 x2.toNatClampNeg)).bind fun r3 =>
              (if r3.1 = 0 then
                fX11_worthOf_c6 n r3.2 x1 (x2 + 1)
               else
                fX11_worthOf_c57 r3.2 x1 x2))))))
      else
       some (0, m)))
theorem ok_fX11_worthOf_c6 : ∀ (n : Nat) (m : mm_MM) (x1 : Int32) (x2 : Int32) (q0 : Int32 × mm_MM), fX11_worthOf_c6 n m x1 x2 = some q0 → Ev XL xs (d + 4) 210 (ev_M m c w) 6 [(0, .ref 606), (1, .int x1), (2, .int x2)] [] (fr_i c w q0) := by
  intro n
  induction n with
  | zero => intro m x1 x2 q0 h; exact absurd (show (none : Option (Int32 × mm_MM)) = some q0 from h) (by simp)
  | succ n ih =>
    intro m x1 x2 q0 h
    unfold fX11_worthOf_c6 at h
    refine ev_g 8 (M1 := ev_M m c w) (pc1 := 18) (lv1 := [(0, .ref 606), (1, .int x1), (2, .int x2)]) (st1 := [.int (m.1 611 x1.toNatClampNeg), .int (140 * x1), .int x2]) (fun n => rfl) h (fun _ h => ?_)
    refine ev_i 2 (M1 := ev_M m c w) (pc1 := 22) (lv1 := [(0, .ref 606), (1, .int x1), (2, .int x2)]) (st1 := []) (M2 := ev_M m c w) (pc2 := 81) (lv2 := [(0, .ref 606), (1, .int x1), (2, .int x2)]) (st2 := []) (fun n => rfl) h (fun hc1 h => ?_) (fun hc1 h => ?_)
    · refine ev_g 4 (M1 := ev_M m c w) (pc1 := 28) (lv1 := [(0, .ref 606), (1, .int x1), (2, .int x2)]) (st1 := [.int (m.1 612 x2.toNatClampNeg)]) (fun n => rfl) h (fun _ h => ?_)
      refine ev_g 4 (M1 := ev_M m c w) (pc1 := 34) (lv1 := [(0, .ref 606), (1, .int x1), (2, .int x2)]) (st1 := [.int (m.1 613 x2.toNatClampNeg), .int (m.1 612 x2.toNatClampNeg)]) (fun n => rfl) h (fun _ h => ?_)
      refine ev_i 1 (M1 := ev_M m c w) (pc1 := 57) (lv1 := [(0, .ref 606), (1, .int x1), (2, .int x2)]) (st1 := []) (M2 := ev_M m c w) (pc2 := 37) (lv2 := [(0, .ref 606), (1, .int x1), (2, .int x2)]) (st2 := []) (fun n => rfl) h (fun hc2 h => ?_) (fun hc2 h => ?_)
      · exact ok_fX11_worthOf_c57 h
      · refine ev_g 6 (M1 := ev_M m c w) (pc1 := 45) (lv1 := [(0, .ref 606), (1, .int x1), (2, .int x2)]) (st1 := [.int (m.1 612 x2.toNatClampNeg), .int x1, .ref 606]) (fun n => rfl) h (fun _ h => ?_)
        refine ev_g 4 (M1 := ev_M m c w) (pc1 := 51) (lv1 := [(0, .ref 606), (1, .int x1), (2, .int x2)]) (st1 := [.int (m.1 613 x2.toNatClampNeg), .int (m.1 612 x2.toNatClampNeg), .int x1, .ref 606]) (fun n => rfl) h (fun _ h => ?_)
        obtain ⟨r3, hr3, h⟩ := Option.bind_eq_some_iff.mp h
        refine ev_c 1 (y' := 209) (M1 := ev_M m c w) (la := lv_args 0 [.ref 606, .int x1, .int (m.1 612 x2.toNatClampNeg), .int (m.1 613 x2.toNatClampNeg)]) (rest := []) (pc' := 54) (lv' := [(0, .ref 606), (1, .int x1), (2, .int x2)]) (fun n => rfl) (ok_fX11_workOut hr3) ?_
        show Ev XL xs _ 210 (ev_M r3.2 c w) 54 [(0, .ref 606), (1, .int x1), (2, .int x2)] [.int r3.1] _
        refine ev_i 1 (M1 := ev_M r3.2 c w) (pc1 := 75) (lv1 := [(0, .ref 606), (1, .int x1), (2, .int x2)]) (st1 := []) (M2 := ev_M r3.2 c w) (pc2 := 57) (lv2 := [(0, .ref 606), (1, .int x1), (2, .int x2)]) (st2 := []) (fun n => rfl) h (fun hc4 h => ?_) (fun hc4 h => ?_)
        · refine ev_s 2 (M' := ev_M r3.2 c w) (pc' := 6) (lv' := [(2, .int (x2 + 1)), (0, .ref 606), (1, .int x1)]) (st' := []) (fun n => rfl) ?_
          refine ev_sub (lv := [(0, .ref 606), (1, .int x1), (2, .int (x2 + 1))]) (mn_of rfl (by repeat (first | exact trivial | refine And.intro rfl ?_))) ?_
          exact ih _ _ _ _ h
        · exact ok_fX11_worthOf_c57 h
    · cases h
      exact ev_r 2 (fun n => rfl)
def fX11_worthOf (m : mm_MM) (x1 : Int32) : Option (Int32 × mm_MM) :=
  fX11_worthOf_c6 fu m x1 (140 * x1)
theorem ok_fX11_worthOf {m : mm_MM} {x1 : Int32} {q0 : Int32 × mm_MM} (h : fX11_worthOf m x1 = some q0) : Ev XL xs (d + 4) 210 (ev_M m c w) 0 (lv_args 0 [.ref 606, .int x1]) [] (fr_i c w q0) := by
  unfold fX11_worthOf at h
  refine ev_s 4 (M' := ev_M m c w) (pc' := 6) (lv' := [(2, .int (140 * x1)), (0, .ref 606), (1, .int x1)]) (st' := []) (fun n => rfl) ?_
  refine ev_sub (lv := [(0, .ref 606), (1, .int x1), (2, .int (140 * x1))]) (mn_of rfl (by repeat (first | exact trivial | refine And.intro rfl ?_))) ?_
  exact ok_fX11_worthOf_c6 fu _ _ _ _ h
def fX11_number_c107 (m : mm_MM) (x3 : Int32) : Option (Int32 × mm_MM) :=
  some (x3, m)
set_option maxRecDepth 20000 in
theorem ok_fX11_number_c107 {m : mm_MM} {x3 : Int32} {q0 : Int32 × mm_MM} (h : fX11_number_c107 m x3 = some q0) : Ev XL xs (d + 2) 211 (ev_M m c w) 107 [(3, .int x3)] [] (fr_i c w q0) := by
  unfold fX11_number_c107 at h
  cases h
  exact ev_r 2 (fun n => rfl)
def fX11_number_c67 (m : mm_MM) (x1 : Int32) (x2 : Int32) (x3 : Int32) : Option (Int32 × mm_MM) :=
  (fX11_here m).bind fun r1 =>
   (fX11_isDigit r1.2 r1.1).bind fun r2 =>
    (if r2.1 = 0 then
      (fX11_in r2.2 x3 x1 x2).bind fun r4 =>
       (if r4.1 = 0 then
         (fX11_bad (wI r4.2 606 3 (r4.2.1 606 3 - 1))).bind fun r6 =>
          fX11_number_c107 r6 x3
        else
         fX11_number_c107 r4.2 x3)
     else
      (fX11_bad r2.2).bind fun r7 =>
       fX11_number_c107 r7 x3)
set_option maxRecDepth 20000 in
theorem ok_fX11_number_c67 {m : mm_MM} {x1 : Int32} {x2 : Int32} {x3 : Int32} {q0 : Int32 × mm_MM} (h : fX11_number_c67 m x1 x2 x3 = some q0) : Ev XL xs (d + 2) 211 (ev_M m c w) 67 [(0, .ref 606), (1, .int x1), (2, .int x2), (3, .int x3)] [] (fr_i c w q0) := by
  unfold fX11_number_c67 at h
  obtain ⟨r1, hr1, h⟩ := Option.bind_eq_some_iff.mp h
  refine ev_c 2 (y' := 185) (M1 := ev_M m c w) (la := lv_args 0 [.ref 606]) (rest := []) (pc' := 71) (lv' := [(0, .ref 606), (1, .int x1), (2, .int x2), (3, .int x3)]) (fun n => rfl) (ok_fX11_here hr1) ?_
  show Ev XL xs _ 211 (ev_M r1.2 c w) 71 [(0, .ref 606), (1, .int x1), (2, .int x2), (3, .int x3)] [.int r1.1] _
  obtain ⟨r2, hr2, h⟩ := Option.bind_eq_some_iff.mp h
  refine ev_c 1 (y' := 188) (M1 := ev_M r1.2 c w) (la := lv_args 0 [.int r1.1]) (rest := []) (pc' := 74) (lv' := [(0, .ref 606), (1, .int x1), (2, .int x2), (3, .int x3)]) (fun n => rfl) (ok_fX11_isDigit hr2) ?_
  show Ev XL xs _ 211 (ev_M r2.2 c w) 74 [(0, .ref 606), (1, .int x1), (2, .int x2), (3, .int x3)] [.int r2.1] _
  refine ev_i 1 (M1 := ev_M r2.2 c w) (pc1 := 84) (lv1 := [(0, .ref 606), (1, .int x1), (2, .int x2), (3, .int x3)]) (st1 := []) (M2 := ev_M r2.2 c w) (pc2 := 77) (lv2 := [(0, .ref 606), (1, .int x1), (2, .int x2), (3, .int x3)]) (st2 := []) (fun n => rfl) h (fun hc3 h => ?_) (fun hc3 h => ?_)
  · obtain ⟨r4, hr4, h⟩ := Option.bind_eq_some_iff.mp h
    refine ev_c 4 (y' := 178) (M1 := ev_M r2.2 c w) (la := lv_args 0 [.int x3, .int x1, .int x2]) (rest := []) (pc' := 90) (lv' := [(0, .ref 606), (1, .int x1), (2, .int x2), (3, .int x3)]) (fun n => rfl) (ok_fX11_in hr4) ?_
    show Ev XL xs _ 211 (ev_M r4.2 c w) 90 [(0, .ref 606), (1, .int x1), (2, .int x2), (3, .int x3)] [.int r4.1] _
    refine ev_i 1 (M1 := ev_M r4.2 c w) (pc1 := 93) (lv1 := [(0, .ref 606), (1, .int x1), (2, .int x2), (3, .int x3)]) (st1 := []) (M2 := ev_M r4.2 c w) (pc2 := 107) (lv2 := [(0, .ref 606), (1, .int x1), (2, .int x2), (3, .int x3)]) (st2 := []) (fun n => rfl) h (fun hc5 h => ?_) (fun hc5 h => ?_)
    · obtain ⟨r6, hr6, h⟩ := Option.bind_eq_some_iff.mp h
      refine ev_c 8 (y' := 187) (M1 := ev_M (wI r4.2 606 3 (r4.2.1 606 3 - 1)) c w) (la := lv_args 0 [.ref 606]) (rest := []) (pc' := 107) (lv' := [(0, .ref 606), (1, .int x1), (2, .int x2), (3, .int x3)]) (fun n => rfl) (ok_fX11_bad hr6) ?_
      show Ev XL xs _ 211 (ev_M r6 c w) 107 [(0, .ref 606), (1, .int x1), (2, .int x2), (3, .int x3)] [] _
      refine ev_sub (lv := [(3, .int x3)]) (mn_of rfl (by repeat (first | exact trivial | refine And.intro rfl ?_))) ?_
      exact ok_fX11_number_c107 h
    · refine ev_sub (lv := [(3, .int x3)]) (mn_of rfl (by repeat (first | exact trivial | refine And.intro rfl ?_))) ?_
      exact ok_fX11_number_c107 h
  · obtain ⟨r7, hr7, h⟩ := Option.bind_eq_some_iff.mp h
    refine ev_c 2 (y' := 187) (M1 := ev_M r2.2 c w) (la := lv_args 0 [.ref 606]) (rest := []) (pc' := 81) (lv' := [(0, .ref 606), (1, .int x1), (2, .int x2), (3, .int x3)]) (fun n => rfl) (ok_fX11_bad hr7) ?_
    show Ev XL xs _ 211 (ev_M r7 c w) 81 [(0, .ref 606), (1, .int x1), (2, .int x2), (3, .int x3)] [] _
    refine ev_s 1 (M' := ev_M r7 c w) (pc' := 107) (lv' := [(0, .ref 606), (1, .int x1), (2, .int x2), (3, .int x3)]) (st' := []) (fun n => rfl) ?_
    refine ev_sub (lv := [(3, .int x3)]) (mn_of rfl (by repeat (first | exact trivial | refine And.intro rfl ?_))) ?_
    exact ok_fX11_number_c107 h
def fX11_number (m : mm_MM) (x1 : Int32) (x2 : Int32) : Option (Int32 × mm_MM) :=
  (fX11_look m).bind fun r1 =>
   (fX11_isDigit r1.2 r1.1).bind fun r2 =>
    (if r2.1 = 0 then
      (fX11_bad r2.2).bind fun r4 =>
       some (x1, r4)
     else
      (fX11_here r2.2).bind fun r5 =>
       (fX11_here (wI r5.2 606 3 (r5.2.1 606 3 + 1))).bind fun r6 =>
        (fX11_isDigit r6.2 r6.1).bind fun r7 =>
         (if r7.1 = 0 then
           fX11_number_c67 r7.2 x1 x2 (r5.1 - 48)
          else
           (fX11_here r7.2).bind fun r9 =>
            fX11_number_c67 (wI r9.2 606 3 (r9.2.1 606 3 + 1)) x1 x2 (((10 * (r5.1 - 48)) + r9.1) - 48)))
set_option maxRecDepth 20000 in
theorem ok_fX11_number {m : mm_MM} {x1 : Int32} {x2 : Int32} {q0 : Int32 × mm_MM} (h : fX11_number m x1 x2 = some q0) : Ev XL xs (d + 2) 211 (ev_M m c w) 0 (lv_args 0 [.ref 606, .int x1, .int x2]) [] (fr_i c w q0) := by
  unfold fX11_number at h
  obtain ⟨r1, hr1, h⟩ := Option.bind_eq_some_iff.mp h
  refine ev_c 2 (y' := 186) (M1 := ev_M m c w) (la := lv_args 0 [.ref 606]) (rest := []) (pc' := 4) (lv' := [(0, .ref 606), (1, .int x1), (2, .int x2)]) (fun n => rfl) (ok_fX11_look hr1) ?_
  show Ev XL xs _ 211 (ev_M r1.2 c w) 4 [(0, .ref 606), (1, .int x1), (2, .int x2)] [.int r1.1] _
  obtain ⟨r2, hr2, h⟩ := Option.bind_eq_some_iff.mp h
  refine ev_c 1 (y' := 188) (M1 := ev_M r1.2 c w) (la := lv_args 0 [.int r1.1]) (rest := []) (pc' := 7) (lv' := [(0, .ref 606), (1, .int x1), (2, .int x2)]) (fun n => rfl) (ok_fX11_isDigit hr2) ?_
  show Ev XL xs _ 211 (ev_M r2.2 c w) 7 [(0, .ref 606), (1, .int x1), (2, .int x2)] [.int r2.1] _
  refine ev_i 1 (M1 := ev_M r2.2 c w) (pc1 := 10) (lv1 := [(0, .ref 606), (1, .int x1), (2, .int x2)]) (st1 := []) (M2 := ev_M r2.2 c w) (pc2 := 16) (lv2 := [(0, .ref 606), (1, .int x1), (2, .int x2)]) (st2 := []) (fun n => rfl) h (fun hc3 h => ?_) (fun hc3 h => ?_)
  · obtain ⟨r4, hr4, h⟩ := Option.bind_eq_some_iff.mp h
    refine ev_c 2 (y' := 187) (M1 := ev_M r2.2 c w) (la := lv_args 0 [.ref 606]) (rest := []) (pc' := 14) (lv' := [(0, .ref 606), (1, .int x1), (2, .int x2)]) (fun n => rfl) (ok_fX11_bad hr4) ?_
    show Ev XL xs _ 211 (ev_M r4 c w) 14 [(0, .ref 606), (1, .int x1), (2, .int x2)] [] _
    cases h
    exact ev_r 2 (fun n => rfl)
  · obtain ⟨r5, hr5, h⟩ := Option.bind_eq_some_iff.mp h
    refine ev_c 2 (y' := 185) (M1 := ev_M r2.2 c w) (la := lv_args 0 [.ref 606]) (rest := []) (pc' := 20) (lv' := [(0, .ref 606), (1, .int x1), (2, .int x2)]) (fun n => rfl) (ok_fX11_here hr5) ?_
    show Ev XL xs _ 211 (ev_M r5.2 c w) 20 [(0, .ref 606), (1, .int x1), (2, .int x2)] [.int r5.1] _
    obtain ⟨r6, hr6, h⟩ := Option.bind_eq_some_iff.mp h
    refine ev_c 11 (y' := 185) (M1 := ev_M (wI r5.2 606 3 (r5.2.1 606 3 + 1)) c w) (la := lv_args 0 [.ref 606]) (rest := []) (pc' := 38) (lv' := [(3, .int (r5.1 - 48)), (0, .ref 606), (1, .int x1), (2, .int x2)]) (fun n => rfl) (ok_fX11_here hr6) ?_
    show Ev XL xs _ 211 (ev_M r6.2 c w) 38 [(3, .int (r5.1 - 48)), (0, .ref 606), (1, .int x1), (2, .int x2)] [.int r6.1] _
    obtain ⟨r7, hr7, h⟩ := Option.bind_eq_some_iff.mp h
    refine ev_c 1 (y' := 188) (M1 := ev_M r6.2 c w) (la := lv_args 0 [.int r6.1]) (rest := []) (pc' := 41) (lv' := [(3, .int (r5.1 - 48)), (0, .ref 606), (1, .int x1), (2, .int x2)]) (fun n => rfl) (ok_fX11_isDigit hr7) ?_
    show Ev XL xs _ 211 (ev_M r7.2 c w) 41 [(3, .int (r5.1 - 48)), (0, .ref 606), (1, .int x1), (2, .int x2)] [.int r7.1] _
    refine ev_i 1 (M1 := ev_M r7.2 c w) (pc1 := 67) (lv1 := [(3, .int (r5.1 - 48)), (0, .ref 606), (1, .int x1), (2, .int x2)]) (st1 := []) (M2 := ev_M r7.2 c w) (pc2 := 44) (lv2 := [(3, .int (r5.1 - 48)), (0, .ref 606), (1, .int x1), (2, .int x2)]) (st2 := []) (fun n => rfl) h (fun hc8 h => ?_) (fun hc8 h => ?_)
    · refine ev_sub (lv := [(0, .ref 606), (1, .int x1), (2, .int x2), (3, .int (r5.1 - 48))]) (mn_of rfl (by repeat (first | exact trivial | refine And.intro rfl ?_))) ?_
      exact ok_fX11_number_c67 h
    · obtain ⟨r9, hr9, h⟩ := Option.bind_eq_some_iff.mp h
      refine ev_c 5 (y' := 185) (M1 := ev_M r7.2 c w) (la := lv_args 0 [.ref 606]) (rest := [.int (10 * (r5.1 - 48))]) (pc' := 52) (lv' := [(3, .int (r5.1 - 48)), (0, .ref 606), (1, .int x1), (2, .int x2)]) (fun n => rfl) (ok_fX11_here hr9) ?_
      show Ev XL xs _ 211 (ev_M r9.2 c w) 52 [(3, .int (r5.1 - 48)), (0, .ref 606), (1, .int x1), (2, .int x2)] [.int r9.1, .int (10 * (r5.1 - 48))] _
      refine ev_s 10 (M' := ev_M (wI r9.2 606 3 (r9.2.1 606 3 + 1)) c w) (pc' := 67) (lv' := [(3, .int (((10 * (r5.1 - 48)) + r9.1) - 48)), (0, .ref 606), (1, .int x1), (2, .int x2)]) (st' := []) (fun n => rfl) ?_
      refine ev_sub (lv := [(0, .ref 606), (1, .int x1), (2, .int x2), (3, .int (((10 * (r5.1 - 48)) + r9.1) - 48))]) (mn_of rfl (by repeat (first | exact trivial | refine And.intro rfl ?_))) ?_
      exact ok_fX11_number_c67 h
def fX11_itemOf_c79 (m : mm_MM) (s0 : Int32) : Option (Int32 × mm_MM) :=
  some (s0, m)
set_option maxRecDepth 20000 in
theorem ok_fX11_itemOf_c79 {m : mm_MM} {s0 : Int32} {q0 : Int32 × mm_MM} (h : fX11_itemOf_c79 m s0 = some q0) : Ev XL xs d 212 (ev_M m c w) 79 [] [.int s0] (fr_i c w q0) := by
  unfold fX11_itemOf_c79 at h
  cases h
  exact ev_r 1 (fun n => rfl)
def fX11_itemOf_c91 (m : mm_MM) (s0 : Int32) : Option (Int32 × mm_MM) :=
  some (s0, m)
set_option maxRecDepth 20000 in
theorem ok_fX11_itemOf_c91 {m : mm_MM} {s0 : Int32} {q0 : Int32 × mm_MM} (h : fX11_itemOf_c91 m s0 = some q0) : Ev XL xs d 212 (ev_M m c w) 91 [] [.int s0] (fr_i c w q0) := by
  unfold fX11_itemOf_c91 at h
  cases h
  exact ev_r 1 (fun n => rfl)
def fX11_itemOf_c133 (m : mm_MM) (s0 : Int32) : Option (Int32 × mm_MM) :=
  some (s0, m)
set_option maxRecDepth 20000 in
theorem ok_fX11_itemOf_c133 {m : mm_MM} {s0 : Int32} {q0 : Int32 × mm_MM} (h : fX11_itemOf_c133 m s0 = some q0) : Ev XL xs d 212 (ev_M m c w) 133 [] [.int s0] (fr_i c w q0) := by
  unfold fX11_itemOf_c133 at h
  cases h
  exact ev_r 1 (fun n => rfl)
def fX11_itemOf (m : mm_MM) (x0 : Int32) (x1 : Int32) : Option (Int32 × mm_MM) :=
  (if x0 = 114 then
    (if x1 = 100 then
      fX11_itemOf_c91 m 0
     else
      fX11_itemOf_c91 m ((-1) : Int32))
   else (if x0 = 115 then
    (if x1 = 119 then
      fX11_itemOf_c79 m 0
     else
      (if x1 = 104 then
        fX11_itemOf_c79 m 1
       else
        (if x1 = 121 then
          fX11_itemOf_c79 m 2
         else
          (if x1 = 102 then
            fX11_itemOf_c79 m 3
           else
            (if x1 = 107 then
              fX11_itemOf_c79 m 4
             else
              fX11_itemOf_c79 m ((-1) : Int32))))))
   else (if x1 = 118 then
    fX11_itemOf_c133 m 0
   else
    (if x1 = 115 then
      fX11_itemOf_c133 m 1
     else
      (if x1 = 112 then
        fX11_itemOf_c133 m 2
       else
        (if x1 = 109 then
          fX11_itemOf_c133 m 3
         else
          fX11_itemOf_c133 m ((-1) : Int32)))))))
set_option maxRecDepth 20000 in
theorem ok_fX11_itemOf {m : mm_MM} {x0 : Int32} {x1 : Int32} {q0 : Int32 × mm_MM} (h : fX11_itemOf m x0 x1 = some q0) : Ev XL xs d 212 (ev_M m c w) 0 (lv_args 0 [.int x0, .int x1]) [] (fr_i c w q0) := by
  unfold fX11_itemOf at h
  refine ev_s 1 (M' := ev_M m c w) (pc' := 1) (lv' := [(0, .int x0), (1, .int x1)]) (st' := [.int x0]) (fun n => rfl) ?_
  refine ev_e 114 h (fun hv2 h => ?_) (fun hv2 h => ?_)
  · refine ev_s 1 (M' := ev_M m c w) (pc' := 80) (lv' := [(0, .int x0), (1, .int x1)]) (st' := []) (fun n => by rw [hv2]; rfl) ?_
    refine ev_i 3 (M1 := ev_M m c w) (pc1 := 86) (lv1 := [(0, .int x0), (1, .int x1)]) (st1 := []) (M2 := ev_M m c w) (pc2 := 90) (lv2 := [(0, .int x0), (1, .int x1)]) (st2 := []) (fun n => rfl) h (fun hc1 h => ?_) (fun hc1 h => ?_)
    · refine ev_s 2 (M' := ev_M m c w) (pc' := 91) (lv' := [(0, .int x0), (1, .int x1)]) (st' := [.int 0]) (fun n => rfl) ?_
      refine ev_sub (lv := []) (mn_of rfl (by repeat (first | exact trivial | refine And.intro rfl ?_))) ?_
      exact ok_fX11_itemOf_c91 h
    · refine ev_s 1 (M' := ev_M m c w) (pc' := 91) (lv' := [(0, .int x0), (1, .int x1)]) (st' := [.int ((-1) : Int32)]) (fun n => rfl) ?_
      refine ev_sub (lv := []) (mn_of rfl (by repeat (first | exact trivial | refine And.intro rfl ?_))) ?_
      exact ok_fX11_itemOf_c91 h
  refine ev_e 115 h (fun hv8 h => ?_) (fun hv8 h => ?_)
  · refine ev_s 1 (M' := ev_M m c w) (pc' := 28) (lv' := [(0, .int x0), (1, .int x1)]) (st' := []) (fun n => by rw [hv8]; rfl) ?_
    refine ev_i 3 (M1 := ev_M m c w) (pc1 := 34) (lv1 := [(0, .int x0), (1, .int x1)]) (st1 := []) (M2 := ev_M m c w) (pc2 := 38) (lv2 := [(0, .int x0), (1, .int x1)]) (st2 := []) (fun n => rfl) h (fun hc3 h => ?_) (fun hc3 h => ?_)
    · refine ev_s 2 (M' := ev_M m c w) (pc' := 79) (lv' := [(0, .int x0), (1, .int x1)]) (st' := [.int 0]) (fun n => rfl) ?_
      refine ev_sub (lv := []) (mn_of rfl (by repeat (first | exact trivial | refine And.intro rfl ?_))) ?_
      exact ok_fX11_itemOf_c79 h
    · refine ev_i 3 (M1 := ev_M m c w) (pc1 := 44) (lv1 := [(0, .int x0), (1, .int x1)]) (st1 := []) (M2 := ev_M m c w) (pc2 := 48) (lv2 := [(0, .int x0), (1, .int x1)]) (st2 := []) (fun n => rfl) h (fun hc4 h => ?_) (fun hc4 h => ?_)
      · refine ev_s 2 (M' := ev_M m c w) (pc' := 79) (lv' := [(0, .int x0), (1, .int x1)]) (st' := [.int 1]) (fun n => rfl) ?_
        refine ev_sub (lv := []) (mn_of rfl (by repeat (first | exact trivial | refine And.intro rfl ?_))) ?_
        exact ok_fX11_itemOf_c79 h
      · refine ev_i 3 (M1 := ev_M m c w) (pc1 := 54) (lv1 := [(0, .int x0), (1, .int x1)]) (st1 := []) (M2 := ev_M m c w) (pc2 := 58) (lv2 := [(0, .int x0), (1, .int x1)]) (st2 := []) (fun n => rfl) h (fun hc5 h => ?_) (fun hc5 h => ?_)
        · refine ev_s 2 (M' := ev_M m c w) (pc' := 79) (lv' := [(0, .int x0), (1, .int x1)]) (st' := [.int 2]) (fun n => rfl) ?_
          refine ev_sub (lv := []) (mn_of rfl (by repeat (first | exact trivial | refine And.intro rfl ?_))) ?_
          exact ok_fX11_itemOf_c79 h
        · refine ev_i 3 (M1 := ev_M m c w) (pc1 := 64) (lv1 := [(0, .int x0), (1, .int x1)]) (st1 := []) (M2 := ev_M m c w) (pc2 := 68) (lv2 := [(0, .int x0), (1, .int x1)]) (st2 := []) (fun n => rfl) h (fun hc6 h => ?_) (fun hc6 h => ?_)
          · refine ev_s 2 (M' := ev_M m c w) (pc' := 79) (lv' := [(0, .int x0), (1, .int x1)]) (st' := [.int 3]) (fun n => rfl) ?_
            refine ev_sub (lv := []) (mn_of rfl (by repeat (first | exact trivial | refine And.intro rfl ?_))) ?_
            exact ok_fX11_itemOf_c79 h
          · refine ev_i 3 (M1 := ev_M m c w) (pc1 := 74) (lv1 := [(0, .int x0), (1, .int x1)]) (st1 := []) (M2 := ev_M m c w) (pc2 := 78) (lv2 := [(0, .int x0), (1, .int x1)]) (st2 := []) (fun n => rfl) h (fun hc7 h => ?_) (fun hc7 h => ?_)
            · refine ev_s 2 (M' := ev_M m c w) (pc' := 79) (lv' := [(0, .int x0), (1, .int x1)]) (st' := [.int 4]) (fun n => rfl) ?_
              refine ev_sub (lv := []) (mn_of rfl (by repeat (first | exact trivial | refine And.intro rfl ?_))) ?_
              exact ok_fX11_itemOf_c79 h
            · refine ev_s 1 (M' := ev_M m c w) (pc' := 79) (lv' := [(0, .int x0), (1, .int x1)]) (st' := [.int ((-1) : Int32)]) (fun n => rfl) ?_
              refine ev_sub (lv := []) (mn_of rfl (by repeat (first | exact trivial | refine And.intro rfl ?_))) ?_
              exact ok_fX11_itemOf_c79 h
  refine ev_ld (M' := ev_M m c w) (pc' := 92) (lv' := [(0, .int x0), (1, .int x1)]) (st' := []) rfl ((lv_osw (a := 114) hv2 rfl).trans ((lv_osw (a := 115) hv8 rfl).trans (rfl))) rfl ?_
  refine ev_i 3 (M1 := ev_M m c w) (pc1 := 98) (lv1 := [(0, .int x0), (1, .int x1)]) (st1 := []) (M2 := ev_M m c w) (pc2 := 102) (lv2 := [(0, .int x0), (1, .int x1)]) (st2 := []) (fun n => rfl) h (fun hc9 h => ?_) (fun hc9 h => ?_)
  · refine ev_s 2 (M' := ev_M m c w) (pc' := 133) (lv' := [(0, .int x0), (1, .int x1)]) (st' := [.int 0]) (fun n => rfl) ?_
    refine ev_sub (lv := []) (mn_of rfl (by repeat (first | exact trivial | refine And.intro rfl ?_))) ?_
    exact ok_fX11_itemOf_c133 h
  · refine ev_i 3 (M1 := ev_M m c w) (pc1 := 108) (lv1 := [(0, .int x0), (1, .int x1)]) (st1 := []) (M2 := ev_M m c w) (pc2 := 112) (lv2 := [(0, .int x0), (1, .int x1)]) (st2 := []) (fun n => rfl) h (fun hc10 h => ?_) (fun hc10 h => ?_)
    · refine ev_s 2 (M' := ev_M m c w) (pc' := 133) (lv' := [(0, .int x0), (1, .int x1)]) (st' := [.int 1]) (fun n => rfl) ?_
      refine ev_sub (lv := []) (mn_of rfl (by repeat (first | exact trivial | refine And.intro rfl ?_))) ?_
      exact ok_fX11_itemOf_c133 h
    · refine ev_i 3 (M1 := ev_M m c w) (pc1 := 118) (lv1 := [(0, .int x0), (1, .int x1)]) (st1 := []) (M2 := ev_M m c w) (pc2 := 122) (lv2 := [(0, .int x0), (1, .int x1)]) (st2 := []) (fun n => rfl) h (fun hc11 h => ?_) (fun hc11 h => ?_)
      · refine ev_s 2 (M' := ev_M m c w) (pc' := 133) (lv' := [(0, .int x0), (1, .int x1)]) (st' := [.int 2]) (fun n => rfl) ?_
        refine ev_sub (lv := []) (mn_of rfl (by repeat (first | exact trivial | refine And.intro rfl ?_))) ?_
        exact ok_fX11_itemOf_c133 h
      · refine ev_i 3 (M1 := ev_M m c w) (pc1 := 128) (lv1 := [(0, .int x0), (1, .int x1)]) (st1 := []) (M2 := ev_M m c w) (pc2 := 132) (lv2 := [(0, .int x0), (1, .int x1)]) (st2 := []) (fun n => rfl) h (fun hc12 h => ?_) (fun hc12 h => ?_)
        · refine ev_s 2 (M' := ev_M m c w) (pc' := 133) (lv' := [(0, .int x0), (1, .int x1)]) (st' := [.int 3]) (fun n => rfl) ?_
          refine ev_sub (lv := []) (mn_of rfl (by repeat (first | exact trivial | refine And.intro rfl ?_))) ?_
          exact ok_fX11_itemOf_c133 h
        · refine ev_s 1 (M' := ev_M m c w) (pc' := 133) (lv' := [(0, .int x0), (1, .int x1)]) (st' := [.int ((-1) : Int32)]) (fun n => rfl) ?_
          refine ev_sub (lv := []) (mn_of rfl (by repeat (first | exact trivial | refine And.intro rfl ?_))) ?_
          exact ok_fX11_itemOf_c133 h
def fX11_lowest_c26 (m : mm_MM) (s0 : Int32) : Option (Int32 × mm_MM) :=
  some (s0, m)
theorem ok_fX11_lowest_c26 {m : mm_MM} {s0 : Int32} {q0 : Int32 × mm_MM} (h : fX11_lowest_c26 m s0 = some q0) : Ev XL xs d 213 (ev_M m c w) 26 [] [.int s0] (fr_i c w q0) := by
  unfold fX11_lowest_c26 at h
  cases h
  exact ev_r 1 (fun n => rfl)
def fX11_lowest_c21 (m : mm_MM) : Option (Int32 × mm_MM) :=
  fX11_lowest_c26 m 1
theorem ok_fX11_lowest_c21 {m : mm_MM} {q0 : Int32 × mm_MM} (h : fX11_lowest_c21 m = some q0) : Ev XL xs d 213 (ev_M m c w) 21 [] [] (fr_i c w q0) := by
  unfold fX11_lowest_c21 at h
  refine ev_s 2 (M' := ev_M m c w) (pc' := 26) (lv' := []) (st' := [.int 1]) (fun n => rfl) ?_
  exact ok_fX11_lowest_c26 h
def fX11_lowest_c25 (m : mm_MM) : Option (Int32 × mm_MM) :=
  fX11_lowest_c26 m 0
theorem ok_fX11_lowest_c25 {m : mm_MM} {q0 : Int32 × mm_MM} (h : fX11_lowest_c25 m = some q0) : Ev XL xs d 213 (ev_M m c w) 25 [] [] (fr_i c w q0) := by
  unfold fX11_lowest_c25 at h
  refine ev_s 1 (M' := ev_M m c w) (pc' := 26) (lv' := []) (st' := [.int 0]) (fun n => rfl) ?_
  exact ok_fX11_lowest_c26 h
def fX11_lowest_c11 (m : mm_MM) (x0 : Int32) (x1 : Int32) : Option (Int32 × mm_MM) :=
  (if x0 = 116 then
    (if x1 = 0 then
      fX11_lowest_c21 m
     else
      fX11_lowest_c25 m)
   else
    fX11_lowest_c25 m)
theorem ok_fX11_lowest_c11 {m : mm_MM} {x0 : Int32} {x1 : Int32} {q0 : Int32 × mm_MM} (h : fX11_lowest_c11 m x0 x1 = some q0) : Ev XL xs d 213 (ev_M m c w) 11 [(0, .int x0), (1, .int x1)] [] (fr_i c w q0) := by
  unfold fX11_lowest_c11 at h
  refine ev_i 3 (M1 := ev_M m c w) (pc1 := 17) (lv1 := [(0, .int x0), (1, .int x1)]) (st1 := []) (M2 := ev_M m c w) (pc2 := 25) (lv2 := [(0, .int x0), (1, .int x1)]) (st2 := []) (fun n => rfl) h (fun hc1 h => ?_) (fun hc1 h => ?_)
  · refine ev_i 2 (M1 := ev_M m c w) (pc1 := 21) (lv1 := [(0, .int x0), (1, .int x1)]) (st1 := []) (M2 := ev_M m c w) (pc2 := 25) (lv2 := [(0, .int x0), (1, .int x1)]) (st2 := []) (fun n => rfl) h (fun hc2 h => ?_) (fun hc2 h => ?_)
    · refine ev_sub (lv := []) (mn_of rfl (by repeat (first | exact trivial | refine And.intro rfl ?_))) ?_
      exact ok_fX11_lowest_c21 h
    · refine ev_sub (lv := []) (mn_of rfl (by repeat (first | exact trivial | refine And.intro rfl ?_))) ?_
      exact ok_fX11_lowest_c25 h
  · refine ev_sub (lv := []) (mn_of rfl (by repeat (first | exact trivial | refine And.intro rfl ?_))) ?_
    exact ok_fX11_lowest_c25 h
def fX11_lowest (m : mm_MM) (x0 : Int32) (x1 : Int32) : Option (Int32 × mm_MM) :=
  (if x0 = 115 then
    (if x1 ≤ 2 then
      fX11_lowest_c21 m
     else
      fX11_lowest_c11 m x0 x1)
   else
    fX11_lowest_c11 m x0 x1)
theorem ok_fX11_lowest {m : mm_MM} {x0 : Int32} {x1 : Int32} {q0 : Int32 × mm_MM} (h : fX11_lowest m x0 x1 = some q0) : Ev XL xs d 213 (ev_M m c w) 0 (lv_args 0 [.int x0, .int x1]) [] (fr_i c w q0) := by
  unfold fX11_lowest at h
  refine ev_i 3 (M1 := ev_M m c w) (pc1 := 6) (lv1 := [(0, .int x0), (1, .int x1)]) (st1 := []) (M2 := ev_M m c w) (pc2 := 11) (lv2 := [(0, .int x0), (1, .int x1)]) (st2 := []) (fun n => rfl) h (fun hc1 h => ?_) (fun hc1 h => ?_)
  · refine ev_i 3 (M1 := ev_M m c w) (pc1 := 21) (lv1 := [(0, .int x0), (1, .int x1)]) (st1 := []) (M2 := ev_M m c w) (pc2 := 11) (lv2 := [(0, .int x0), (1, .int x1)]) (st2 := []) (fun n => rfl) h (fun hc2 h => ?_) (fun hc2 h => ?_)
    · refine ev_sub (lv := []) (mn_of rfl (by repeat (first | exact trivial | refine And.intro rfl ?_))) ?_
      exact ok_fX11_lowest_c21 h
    · exact ok_fX11_lowest_c11 h
  · exact ok_fX11_lowest_c11 h
def fX11_highest_c68 (m : mm_MM) (s0 : Int32) : Option (Int32 × mm_MM) :=
  some (s0, m)
set_option maxRecDepth 20000 in
theorem ok_fX11_highest_c68 {m : mm_MM} {s0 : Int32} {q0 : Int32 × mm_MM} (h : fX11_highest_c68 m s0 = some q0) : Ev XL xs d 214 (ev_M m c w) 68 [] [.int s0] (fr_i c w q0) := by
  unfold fX11_highest_c68 at h
  cases h
  exact ev_r 1 (fun n => rfl)
def fX11_highest_c93 (m : mm_MM) (s0 : Int32) : Option (Int32 × mm_MM) :=
  some (s0, m)
set_option maxRecDepth 20000 in
theorem ok_fX11_highest_c93 {m : mm_MM} {s0 : Int32} {q0 : Int32 × mm_MM} (h : fX11_highest_c93 m s0 = some q0) : Ev XL xs d 214 (ev_M m c w) 93 [] [.int s0] (fr_i c w q0) := by
  unfold fX11_highest_c93 at h
  cases h
  exact ev_r 1 (fun n => rfl)
def fX11_highest (m : mm_MM) (x0 : Int32) (x1 : Int32) : Option (Int32 × mm_MM) :=
  (if x0 = 114 then
    some (9, m)
   else (if x0 = 115 then
    (if x1 = 0 then
      fX11_highest_c68 m 6
     else
      (if x1 = 1 then
        fX11_highest_c68 m 4
       else
        (if x1 = 2 then
          fX11_highest_c68 m 24
         else
          (if x1 = 3 then
            fX11_highest_c68 m 9
           else
            fX11_highest_c68 m 99))))
   else (if x1 = 1 then
    fX11_highest_c93 m 5
   else
    (if x1 = 2 then
      fX11_highest_c93 m 23
     else
      fX11_highest_c93 m 99))))
set_option maxRecDepth 20000 in
theorem ok_fX11_highest {m : mm_MM} {x0 : Int32} {x1 : Int32} {q0 : Int32 × mm_MM} (h : fX11_highest m x0 x1 = some q0) : Ev XL xs d 214 (ev_M m c w) 0 (lv_args 0 [.int x0, .int x1]) [] (fr_i c w q0) := by
  unfold fX11_highest at h
  refine ev_s 1 (M' := ev_M m c w) (pc' := 1) (lv' := [(0, .int x0), (1, .int x1)]) (st' := [.int x0]) (fun n => rfl) ?_
  refine ev_e 114 h (fun hv1 h => ?_) (fun hv1 h => ?_)
  · refine ev_s 1 (M' := ev_M m c w) (pc' := 69) (lv' := [(0, .int x0), (1, .int x1)]) (st' := []) (fun n => by rw [hv1]; rfl) ?_
    cases h
    exact ev_r 2 (fun n => rfl)
  refine ev_e 115 h (fun hv6 h => ?_) (fun hv6 h => ?_)
  · refine ev_s 1 (M' := ev_M m c w) (pc' := 28) (lv' := [(0, .int x0), (1, .int x1)]) (st' := []) (fun n => by rw [hv6]; rfl) ?_
    refine ev_i 2 (M1 := ev_M m c w) (pc1 := 32) (lv1 := [(0, .int x0), (1, .int x1)]) (st1 := []) (M2 := ev_M m c w) (pc2 := 37) (lv2 := [(0, .int x0), (1, .int x1)]) (st2 := []) (fun n => rfl) h (fun hc2 h => ?_) (fun hc2 h => ?_)
    · refine ev_s 2 (M' := ev_M m c w) (pc' := 68) (lv' := [(0, .int x0), (1, .int x1)]) (st' := [.int 6]) (fun n => rfl) ?_
      refine ev_sub (lv := []) (mn_of rfl (by repeat (first | exact trivial | refine And.intro rfl ?_))) ?_
      exact ok_fX11_highest_c68 h
    · refine ev_i 3 (M1 := ev_M m c w) (pc1 := 42) (lv1 := [(0, .int x0), (1, .int x1)]) (st1 := []) (M2 := ev_M m c w) (pc2 := 46) (lv2 := [(0, .int x0), (1, .int x1)]) (st2 := []) (fun n => rfl) h (fun hc3 h => ?_) (fun hc3 h => ?_)
      · refine ev_s 2 (M' := ev_M m c w) (pc' := 68) (lv' := [(0, .int x0), (1, .int x1)]) (st' := [.int 4]) (fun n => rfl) ?_
        refine ev_sub (lv := []) (mn_of rfl (by repeat (first | exact trivial | refine And.intro rfl ?_))) ?_
        exact ok_fX11_highest_c68 h
      · refine ev_i 3 (M1 := ev_M m c w) (pc1 := 51) (lv1 := [(0, .int x0), (1, .int x1)]) (st1 := []) (M2 := ev_M m c w) (pc2 := 56) (lv2 := [(0, .int x0), (1, .int x1)]) (st2 := []) (fun n => rfl) h (fun hc4 h => ?_) (fun hc4 h => ?_)
        · refine ev_s 2 (M' := ev_M m c w) (pc' := 68) (lv' := [(0, .int x0), (1, .int x1)]) (st' := [.int 24]) (fun n => rfl) ?_
          refine ev_sub (lv := []) (mn_of rfl (by repeat (first | exact trivial | refine And.intro rfl ?_))) ?_
          exact ok_fX11_highest_c68 h
        · refine ev_i 3 (M1 := ev_M m c w) (pc1 := 61) (lv1 := [(0, .int x0), (1, .int x1)]) (st1 := []) (M2 := ev_M m c w) (pc2 := 66) (lv2 := [(0, .int x0), (1, .int x1)]) (st2 := []) (fun n => rfl) h (fun hc5 h => ?_) (fun hc5 h => ?_)
          · refine ev_s 2 (M' := ev_M m c w) (pc' := 68) (lv' := [(0, .int x0), (1, .int x1)]) (st' := [.int 9]) (fun n => rfl) ?_
            refine ev_sub (lv := []) (mn_of rfl (by repeat (first | exact trivial | refine And.intro rfl ?_))) ?_
            exact ok_fX11_highest_c68 h
          · refine ev_s 1 (M' := ev_M m c w) (pc' := 68) (lv' := [(0, .int x0), (1, .int x1)]) (st' := [.int 99]) (fun n => rfl) ?_
            refine ev_sub (lv := []) (mn_of rfl (by repeat (first | exact trivial | refine And.intro rfl ?_))) ?_
            exact ok_fX11_highest_c68 h
  refine ev_ld (M' := ev_M m c w) (pc' := 72) (lv' := [(0, .int x0), (1, .int x1)]) (st' := []) rfl ((lv_osw (a := 114) hv1 rfl).trans ((lv_osw (a := 115) hv6 rfl).trans (rfl))) rfl ?_
  refine ev_i 3 (M1 := ev_M m c w) (pc1 := 77) (lv1 := [(0, .int x0), (1, .int x1)]) (st1 := []) (M2 := ev_M m c w) (pc2 := 81) (lv2 := [(0, .int x0), (1, .int x1)]) (st2 := []) (fun n => rfl) h (fun hc7 h => ?_) (fun hc7 h => ?_)
  · refine ev_s 2 (M' := ev_M m c w) (pc' := 93) (lv' := [(0, .int x0), (1, .int x1)]) (st' := [.int 5]) (fun n => rfl) ?_
    refine ev_sub (lv := []) (mn_of rfl (by repeat (first | exact trivial | refine And.intro rfl ?_))) ?_
    exact ok_fX11_highest_c93 h
  · refine ev_i 3 (M1 := ev_M m c w) (pc1 := 86) (lv1 := [(0, .int x0), (1, .int x1)]) (st1 := []) (M2 := ev_M m c w) (pc2 := 91) (lv2 := [(0, .int x0), (1, .int x1)]) (st2 := []) (fun n => rfl) h (fun hc8 h => ?_) (fun hc8 h => ?_)
    · refine ev_s 2 (M' := ev_M m c w) (pc' := 93) (lv' := [(0, .int x0), (1, .int x1)]) (st' := [.int 23]) (fun n => rfl) ?_
      refine ev_sub (lv := []) (mn_of rfl (by repeat (first | exact trivial | refine And.intro rfl ?_))) ?_
      exact ok_fX11_highest_c93 h
    · refine ev_s 1 (M' := ev_M m c w) (pc' := 93) (lv' := [(0, .int x0), (1, .int x1)]) (st' := [.int 99]) (fun n => rfl) ?_
      refine ev_sub (lv := []) (mn_of rfl (by repeat (first | exact trivial | refine And.intro rfl ?_))) ?_
      exact ok_fX11_highest_c93 h
def fX11_usual_c66 (m : mm_MM) (s0 : Int32) : Option (Int32 × mm_MM) :=
  some (s0, m)
theorem ok_fX11_usual_c66 {m : mm_MM} {s0 : Int32} {q0 : Int32 × mm_MM} (h : fX11_usual_c66 m s0 = some q0) : Ev XL xs d 215 (ev_M m c w) 66 [] [.int s0] (fr_i c w q0) := by
  unfold fX11_usual_c66 at h
  cases h
  exact ev_r 1 (fun n => rfl)
def fX11_usual_c88 (m : mm_MM) (s0 : Int32) : Option (Int32 × mm_MM) :=
  some (s0, m)
theorem ok_fX11_usual_c88 {m : mm_MM} {s0 : Int32} {q0 : Int32 × mm_MM} (h : fX11_usual_c88 m s0 = some q0) : Ev XL xs d 215 (ev_M m c w) 88 [] [.int s0] (fr_i c w q0) := by
  unfold fX11_usual_c88 at h
  cases h
  exact ev_r 1 (fun n => rfl)
def fX11_usual (m : mm_MM) (x0 : Int32) (x1 : Int32) : Option (Int32 × mm_MM) :=
  (if x0 = 114 then
    some (3, m)
   else (if x0 = 115 then
    (if x1 = 0 then
      fX11_usual_c66 m 4
     else
      (if x1 = 1 then
        fX11_usual_c66 m 3
       else
        (if x1 = 2 then
          fX11_usual_c66 m 12
         else
          (if x1 = 3 then
            fX11_usual_c66 m 2
           else
            fX11_usual_c66 m 30))))
   else (if x1 = 0 then
    fX11_usual_c88 m 10
   else
    (if x1 = 2 then
      fX11_usual_c88 m ((-1) : Int32)
     else
      fX11_usual_c88 m 0))))
theorem ok_fX11_usual {m : mm_MM} {x0 : Int32} {x1 : Int32} {q0 : Int32 × mm_MM} (h : fX11_usual m x0 x1 = some q0) : Ev XL xs d 215 (ev_M m c w) 0 (lv_args 0 [.int x0, .int x1]) [] (fr_i c w q0) := by
  unfold fX11_usual at h
  refine ev_s 1 (M' := ev_M m c w) (pc' := 1) (lv' := [(0, .int x0), (1, .int x1)]) (st' := [.int x0]) (fun n => rfl) ?_
  refine ev_e 114 h (fun hv1 h => ?_) (fun hv1 h => ?_)
  · refine ev_s 1 (M' := ev_M m c w) (pc' := 67) (lv' := [(0, .int x0), (1, .int x1)]) (st' := []) (fun n => by rw [hv1]; rfl) ?_
    cases h
    exact ev_r 2 (fun n => rfl)
  refine ev_e 115 h (fun hv6 h => ?_) (fun hv6 h => ?_)
  · refine ev_s 1 (M' := ev_M m c w) (pc' := 28) (lv' := [(0, .int x0), (1, .int x1)]) (st' := []) (fun n => by rw [hv6]; rfl) ?_
    refine ev_i 2 (M1 := ev_M m c w) (pc1 := 32) (lv1 := [(0, .int x0), (1, .int x1)]) (st1 := []) (M2 := ev_M m c w) (pc2 := 36) (lv2 := [(0, .int x0), (1, .int x1)]) (st2 := []) (fun n => rfl) h (fun hc2 h => ?_) (fun hc2 h => ?_)
    · refine ev_s 2 (M' := ev_M m c w) (pc' := 66) (lv' := [(0, .int x0), (1, .int x1)]) (st' := [.int 4]) (fun n => rfl) ?_
      refine ev_sub (lv := []) (mn_of rfl (by repeat (first | exact trivial | refine And.intro rfl ?_))) ?_
      exact ok_fX11_usual_c66 h
    · refine ev_i 3 (M1 := ev_M m c w) (pc1 := 41) (lv1 := [(0, .int x0), (1, .int x1)]) (st1 := []) (M2 := ev_M m c w) (pc2 := 45) (lv2 := [(0, .int x0), (1, .int x1)]) (st2 := []) (fun n => rfl) h (fun hc3 h => ?_) (fun hc3 h => ?_)
      · refine ev_s 2 (M' := ev_M m c w) (pc' := 66) (lv' := [(0, .int x0), (1, .int x1)]) (st' := [.int 3]) (fun n => rfl) ?_
        refine ev_sub (lv := []) (mn_of rfl (by repeat (first | exact trivial | refine And.intro rfl ?_))) ?_
        exact ok_fX11_usual_c66 h
      · refine ev_i 3 (M1 := ev_M m c w) (pc1 := 50) (lv1 := [(0, .int x0), (1, .int x1)]) (st1 := []) (M2 := ev_M m c w) (pc2 := 55) (lv2 := [(0, .int x0), (1, .int x1)]) (st2 := []) (fun n => rfl) h (fun hc4 h => ?_) (fun hc4 h => ?_)
        · refine ev_s 2 (M' := ev_M m c w) (pc' := 66) (lv' := [(0, .int x0), (1, .int x1)]) (st' := [.int 12]) (fun n => rfl) ?_
          refine ev_sub (lv := []) (mn_of rfl (by repeat (first | exact trivial | refine And.intro rfl ?_))) ?_
          exact ok_fX11_usual_c66 h
        · refine ev_i 3 (M1 := ev_M m c w) (pc1 := 60) (lv1 := [(0, .int x0), (1, .int x1)]) (st1 := []) (M2 := ev_M m c w) (pc2 := 64) (lv2 := [(0, .int x0), (1, .int x1)]) (st2 := []) (fun n => rfl) h (fun hc5 h => ?_) (fun hc5 h => ?_)
          · refine ev_s 2 (M' := ev_M m c w) (pc' := 66) (lv' := [(0, .int x0), (1, .int x1)]) (st' := [.int 2]) (fun n => rfl) ?_
            refine ev_sub (lv := []) (mn_of rfl (by repeat (first | exact trivial | refine And.intro rfl ?_))) ?_
            exact ok_fX11_usual_c66 h
          · refine ev_s 1 (M' := ev_M m c w) (pc' := 66) (lv' := [(0, .int x0), (1, .int x1)]) (st' := [.int 30]) (fun n => rfl) ?_
            refine ev_sub (lv := []) (mn_of rfl (by repeat (first | exact trivial | refine And.intro rfl ?_))) ?_
            exact ok_fX11_usual_c66 h
  refine ev_ld (M' := ev_M m c w) (pc' := 69) (lv' := [(0, .int x0), (1, .int x1)]) (st' := []) rfl ((lv_osw (a := 114) hv1 rfl).trans ((lv_osw (a := 115) hv6 rfl).trans (rfl))) rfl ?_
  refine ev_i 2 (M1 := ev_M m c w) (pc1 := 73) (lv1 := [(0, .int x0), (1, .int x1)]) (st1 := []) (M2 := ev_M m c w) (pc2 := 78) (lv2 := [(0, .int x0), (1, .int x1)]) (st2 := []) (fun n => rfl) h (fun hc7 h => ?_) (fun hc7 h => ?_)
  · refine ev_s 2 (M' := ev_M m c w) (pc' := 88) (lv' := [(0, .int x0), (1, .int x1)]) (st' := [.int 10]) (fun n => rfl) ?_
    refine ev_sub (lv := []) (mn_of rfl (by repeat (first | exact trivial | refine And.intro rfl ?_))) ?_
    exact ok_fX11_usual_c88 h
  · refine ev_i 3 (M1 := ev_M m c w) (pc1 := 83) (lv1 := [(0, .int x0), (1, .int x1)]) (st1 := []) (M2 := ev_M m c w) (pc2 := 87) (lv2 := [(0, .int x0), (1, .int x1)]) (st2 := []) (fun n => rfl) h (fun hc8 h => ?_) (fun hc8 h => ?_)
    · refine ev_s 2 (M' := ev_M m c w) (pc' := 88) (lv' := [(0, .int x0), (1, .int x1)]) (st' := [.int ((-1) : Int32)]) (fun n => rfl) ?_
      refine ev_sub (lv := []) (mn_of rfl (by repeat (first | exact trivial | refine And.intro rfl ?_))) ?_
      exact ok_fX11_usual_c88 h
    · refine ev_s 1 (M' := ev_M m c w) (pc' := 88) (lv' := [(0, .int x0), (1, .int x1)]) (st' := [.int 0]) (fun n => rfl) ?_
      refine ev_sub (lv := []) (mn_of rfl (by repeat (first | exact trivial | refine And.intro rfl ?_))) ?_
      exact ok_fX11_usual_c88 h
def fX11_items_c126 (kr41 : mm_MM → Int32 → Nat → Int32 → Int32 → Int32 → Option (mm_MM)) (m : mm_MM) (x1 : Int32) (t2 : Nat) (x3 : Int32) (x5 : Int32) (s0 : Int32) : Option (mm_MM) :=
  kr41 m x1 t2 x3 x5 s0
set_option maxRecDepth 20000 in
theorem ok_fX11_items_c126 {kr41 : mm_MM → Int32 → Nat → Int32 → Int32 → Int32 → Option (mm_MM)} (hkr41 : ∀ (m : mm_MM) (x1 : Int32) (t2 : Nat) (x3 : Int32) (x5 : Int32) (x6 : Int32) (q0 : mm_MM) (hk_t2 : (mm_kd t2).1 = 20), kr41 m x1 t2 x3 x5 x6 = some q0 → Ev XL xs (d + 3) 216 (ev_M m c w) 41 [(0, .ref 606), (1, .int x1), (2, .ref t2), (3, .int x3), (5, .int x5), (6, .int x6)] [] (fr_v c w q0)) {m : mm_MM} {x1 : Int32} {t2 : Nat} {x3 : Int32} {x5 : Int32} {s0 : Int32} {q0 : mm_MM} (hk_t2 : (mm_kd t2).1 = 20) (h : fX11_items_c126 kr41 m x1 t2 x3 x5 s0 = some q0) : Ev XL xs (d + 3) 216 (ev_M m c w) 126 [(0, .ref 606), (1, .int x1), (2, .ref t2), (3, .int x3), (5, .int x5)] [.int s0] (fr_v c w q0) := by
  unfold fX11_items_c126 at h
  refine ev_s 2 (M' := ev_M m c w) (pc' := 41) (lv' := [(6, .int s0), (0, .ref 606), (1, .int x1), (2, .ref t2), (3, .int x3), (5, .int x5)]) (st' := []) (fun n => rfl) ?_
  refine ev_sub (lv := [(0, .ref 606), (1, .int x1), (2, .ref t2), (3, .int x3), (5, .int x5), (6, .int s0)]) (mn_of rfl (by repeat (first | exact trivial | refine And.intro rfl ?_))) ?_
  exact hkr41 _ _ _ _ _ _ _ hk_t2 h
def fX11_items_c131 (m : mm_MM) : Option (mm_MM) :=
  some m
set_option maxRecDepth 20000 in
theorem ok_fX11_items_c131 {m : mm_MM} {q0 : mm_MM} (h : fX11_items_c131 m = some q0) : Ev XL xs (d + 3) 216 (ev_M m c w) 131 [] [] (fr_v c w q0) := by
  unfold fX11_items_c131 at h
  cases h
  exact ev_r 1 (fun n => rfl)
def fX11_items_c41 : Nat → mm_MM → Int32 → Nat → Int32 → Int32 → Int32 → Option (mm_MM)
  | 0 => fun _ _ _ _ _ _ => none
  | n + 1 => fun m x1 t2 x3 x5 x6 =>
    (if m.1 606 4 = ((-1) : Int32) then
      (if x6 = ((-1) : Int32) then
        fX11_items_c131 m
       else
        (fX11_has m x5 x6).bind fun r3 =>
         (if r3.1 = 0 then
           (fX11_lowest (wI r3.2 606 3 (r3.2.1 606 3 + 1)) x1 x6).bind fun r5 =>
            (fX11_highest r5.2 x1 x6).bind fun r6 =>
             (fX11_number r6.2 r5.1 r6.1).bind fun r7 =>
              (if (x3 + x6) < 0 ∨ (mm_kd t2).2 ≤ (x3 + x6).toNatClampNeg then none else
               (if (wI r7.2 t2 ((x3 + x6).toNatClampNeg) r7.1).1 606 4 = ((-1) : Int32) then
                 (fX11_look (wI r7.2 t2 ((x3 + x6).toNatClampNeg) r7.1)).bind fun r9 =>
                  (fX11_itemOf r9.2 x1 r9.1).bind fun r10 =>
                   fX11_items_c126 (fX11_items_c41 n) r10.2 x1 t2 x3 (x5 ||| ((1 : Int32) <<< (x6 &&& 31))) r10.1
                else
                 fX11_items_c126 (fX11_items_c41 n) (wI r7.2 t2 ((x3 + x6).toNatClampNeg) r7.1) x1 t2 x3 (x5 ||| ((1 : Int32) <<< (x6 &&& 31))) ((-1) : Int32)))
          else
           fX11_items_c131 r3.2))
     else
      fX11_items_c131 m)
set_option maxRecDepth 20000 in
theorem ok_fX11_items_c41 : ∀ (n : Nat) (m : mm_MM) (x1 : Int32) (t2 : Nat) (x3 : Int32) (x5 : Int32) (x6 : Int32) (q0 : mm_MM) (hk_t2 : (mm_kd t2).1 = 20), fX11_items_c41 n m x1 t2 x3 x5 x6 = some q0 → Ev XL xs (d + 3) 216 (ev_M m c w) 41 [(0, .ref 606), (1, .int x1), (2, .ref t2), (3, .int x3), (5, .int x5), (6, .int x6)] [] (fr_v c w q0) := by
  intro n
  induction n with
  | zero => intro m x1 t2 x3 x5 x6 q0 hk_t2 h; exact absurd (show (none : Option (mm_MM)) = some q0 from h) (by simp)
  | succ n ih =>
    intro m x1 t2 x3 x5 x6 q0 hk_t2 h
    unfold fX11_items_c41 at h
    refine ev_i 4 (M1 := ev_M m c w) (pc1 := 49) (lv1 := [(0, .ref 606), (1, .int x1), (2, .ref t2), (3, .int x3), (5, .int x5), (6, .int x6)]) (st1 := []) (M2 := ev_M m c w) (pc2 := 131) (lv2 := [(0, .ref 606), (1, .int x1), (2, .ref t2), (3, .int x3), (5, .int x5), (6, .int x6)]) (st2 := []) (fun n => rfl) h (fun hc1 h => ?_) (fun hc1 h => ?_)
    · refine ev_i 3 (M1 := ev_M m c w) (pc1 := 131) (lv1 := [(0, .ref 606), (1, .int x1), (2, .ref t2), (3, .int x3), (5, .int x5), (6, .int x6)]) (st1 := []) (M2 := ev_M m c w) (pc2 := 55) (lv2 := [(0, .ref 606), (1, .int x1), (2, .ref t2), (3, .int x3), (5, .int x5), (6, .int x6)]) (st2 := []) (fun n => rfl) h (fun hc2 h => ?_) (fun hc2 h => ?_)
      · refine ev_sub (lv := []) (mn_of rfl (by repeat (first | exact trivial | refine And.intro rfl ?_))) ?_
        exact ok_fX11_items_c131 h
      · obtain ⟨r3, hr3, h⟩ := Option.bind_eq_some_iff.mp h
        refine ev_c 3 (y' := 179) (M1 := ev_M m c w) (la := lv_args 0 [.int x5, .int x6]) (rest := []) (pc' := 62) (lv' := [(0, .ref 606), (1, .int x1), (2, .ref t2), (3, .int x3), (5, .int x5), (6, .int x6)]) (fun n => rfl) (ok_fX11_has hr3) ?_
        show Ev XL xs _ 216 (ev_M r3.2 c w) 62 [(0, .ref 606), (1, .int x1), (2, .ref t2), (3, .int x3), (5, .int x5), (6, .int x6)] [.int r3.1] _
        refine ev_i 1 (M1 := ev_M r3.2 c w) (pc1 := 65) (lv1 := [(0, .ref 606), (1, .int x1), (2, .ref t2), (3, .int x3), (5, .int x5), (6, .int x6)]) (st1 := []) (M2 := ev_M r3.2 c w) (pc2 := 131) (lv2 := [(0, .ref 606), (1, .int x1), (2, .ref t2), (3, .int x3), (5, .int x5), (6, .int x6)]) (st2 := []) (fun n => rfl) h (fun hc4 h => ?_) (fun hc4 h => ?_)
        · obtain ⟨r5, hr5, h⟩ := Option.bind_eq_some_iff.mp h
          refine ev_c 20 (y' := 213) (M1 := ev_M (wI r3.2 606 3 (r3.2.1 606 3 + 1)) c w) (la := lv_args 0 [.int x1, .int x6]) (rest := [.ref 606, .int (x3 + x6), .ref t2]) (pc' := 96) (lv' := [(5, .int (x5 ||| ((1 : Int32) <<< (x6 &&& 31)))), (0, .ref 606), (1, .int x1), (2, .ref t2), (3, .int x3), (6, .int x6)]) (fun n => rfl) (ok_fX11_lowest hr5) ?_
          show Ev XL xs _ 216 (ev_M r5.2 c w) 96 [(5, .int (x5 ||| ((1 : Int32) <<< (x6 &&& 31)))), (0, .ref 606), (1, .int x1), (2, .ref t2), (3, .int x3), (6, .int x6)] [.int r5.1, .ref 606, .int (x3 + x6), .ref t2] _
          obtain ⟨r6, hr6, h⟩ := Option.bind_eq_some_iff.mp h
          refine ev_c 3 (y' := 214) (M1 := ev_M r5.2 c w) (la := lv_args 0 [.int x1, .int x6]) (rest := [.int r5.1, .ref 606, .int (x3 + x6), .ref t2]) (pc' := 102) (lv' := [(5, .int (x5 ||| ((1 : Int32) <<< (x6 &&& 31)))), (0, .ref 606), (1, .int x1), (2, .ref t2), (3, .int x3), (6, .int x6)]) (fun n => rfl) (ok_fX11_highest hr6) ?_
          show Ev XL xs _ 216 (ev_M r6.2 c w) 102 [(5, .int (x5 ||| ((1 : Int32) <<< (x6 &&& 31)))), (0, .ref 606), (1, .int x1), (2, .ref t2), (3, .int x3), (6, .int x6)] [.int r6.1, .int r5.1, .ref 606, .int (x3 + x6), .ref t2] _
          obtain ⟨r7, hr7, h⟩ := Option.bind_eq_some_iff.mp h
          refine ev_c 1 (y' := 211) (M1 := ev_M r6.2 c w) (la := lv_args 0 [.ref 606, .int r5.1, .int r6.1]) (rest := [.int (x3 + x6), .ref t2]) (pc' := 105) (lv' := [(5, .int (x5 ||| ((1 : Int32) <<< (x6 &&& 31)))), (0, .ref 606), (1, .int x1), (2, .ref t2), (3, .int x3), (6, .int x6)]) (fun n => rfl) (ok_fX11_number hr7) ?_
          show Ev XL xs _ 216 (ev_M r7.2 c w) 105 [(5, .int (x5 ||| ((1 : Int32) <<< (x6 &&& 31)))), (0, .ref 606), (1, .int x1), (2, .ref t2), (3, .int x3), (6, .int x6)] [.int r7.1, .int (x3 + x6), .ref t2] _
          refine ev_is (n := (mm_kd t2).2) rfl hk_t2 rfl h (fun _ h => ?_)
          refine ev_i 4 (M1 := ev_M (wI r7.2 t2 ((x3 + x6).toNatClampNeg) r7.1) c w) (pc1 := 114) (lv1 := [(5, .int (x5 ||| ((1 : Int32) <<< (x6 &&& 31)))), (0, .ref 606), (1, .int x1), (2, .ref t2), (3, .int x3), (6, .int x6)]) (st1 := []) (M2 := ev_M (wI r7.2 t2 ((x3 + x6).toNatClampNeg) r7.1) c w) (pc2 := 125) (lv2 := [(5, .int (x5 ||| ((1 : Int32) <<< (x6 &&& 31)))), (0, .ref 606), (1, .int x1), (2, .ref t2), (3, .int x3), (6, .int x6)]) (st2 := []) (fun n => rfl) h (fun hc8 h => ?_) (fun hc8 h => ?_)
          · obtain ⟨r9, hr9, h⟩ := Option.bind_eq_some_iff.mp h
            refine ev_c 3 (y' := 186) (M1 := ev_M (wI r7.2 t2 ((x3 + x6).toNatClampNeg) r7.1) c w) (la := lv_args 0 [.ref 606]) (rest := [.int x1]) (pc' := 119) (lv' := [(5, .int (x5 ||| ((1 : Int32) <<< (x6 &&& 31)))), (0, .ref 606), (1, .int x1), (2, .ref t2), (3, .int x3), (6, .int x6)]) (fun n => rfl) (ok_fX11_look hr9) ?_
            show Ev XL xs _ 216 (ev_M r9.2 c w) 119 [(5, .int (x5 ||| ((1 : Int32) <<< (x6 &&& 31)))), (0, .ref 606), (1, .int x1), (2, .ref t2), (3, .int x3), (6, .int x6)] [.int r9.1, .int x1] _
            obtain ⟨r10, hr10, h⟩ := Option.bind_eq_some_iff.mp h
            refine ev_c 1 (y' := 212) (M1 := ev_M r9.2 c w) (la := lv_args 0 [.int x1, .int r9.1]) (rest := []) (pc' := 122) (lv' := [(5, .int (x5 ||| ((1 : Int32) <<< (x6 &&& 31)))), (0, .ref 606), (1, .int x1), (2, .ref t2), (3, .int x3), (6, .int x6)]) (fun n => rfl) (ok_fX11_itemOf hr10) ?_
            show Ev XL xs _ 216 (ev_M r10.2 c w) 122 [(5, .int (x5 ||| ((1 : Int32) <<< (x6 &&& 31)))), (0, .ref 606), (1, .int x1), (2, .ref t2), (3, .int x3), (6, .int x6)] [.int r10.1] _
            refine ev_s 1 (M' := ev_M r10.2 c w) (pc' := 126) (lv' := [(5, .int (x5 ||| ((1 : Int32) <<< (x6 &&& 31)))), (0, .ref 606), (1, .int x1), (2, .ref t2), (3, .int x3), (6, .int x6)]) (st' := [.int r10.1]) (fun n => rfl) ?_
            refine ev_sub (lv := [(0, .ref 606), (1, .int x1), (2, .ref t2), (3, .int x3), (5, .int (x5 ||| ((1 : Int32) <<< (x6 &&& 31))))]) (mn_of rfl (by repeat (first | exact trivial | refine And.intro rfl ?_))) ?_
            exact ok_fX11_items_c126 ih hk_t2 h
          · refine ev_s 1 (M' := ev_M (wI r7.2 t2 ((x3 + x6).toNatClampNeg) r7.1) c w) (pc' := 126) (lv' := [(5, .int (x5 ||| ((1 : Int32) <<< (x6 &&& 31)))), (0, .ref 606), (1, .int x1), (2, .ref t2), (3, .int x3), (6, .int x6)]) (st' := [.int ((-1) : Int32)]) (fun n => rfl) ?_
            refine ev_sub (lv := [(0, .ref 606), (1, .int x1), (2, .ref t2), (3, .int x3), (5, .int (x5 ||| ((1 : Int32) <<< (x6 &&& 31))))]) (mn_of rfl (by repeat (first | exact trivial | refine And.intro rfl ?_))) ?_
            exact ok_fX11_items_c126 ih hk_t2 h
        · refine ev_sub (lv := []) (mn_of rfl (by repeat (first | exact trivial | refine And.intro rfl ?_))) ?_
          exact ok_fX11_items_c131 h
    · refine ev_sub (lv := []) (mn_of rfl (by repeat (first | exact trivial | refine And.intro rfl ?_))) ?_
      exact ok_fX11_items_c131 h
def fX11_items_c3 : Nat → mm_MM → Int32 → Nat → Int32 → Int32 → Int32 → Option (mm_MM)
  | 0 => fun _ _ _ _ _ _ => none
  | n + 1 => fun m x1 t2 x3 x4 x5 =>
    (if x5 < x4 then
      (fX11_usual m x1 x5).bind fun r2 =>
       (if (x3 + x5) < 0 ∨ (mm_kd t2).2 ≤ (x3 + x5).toNatClampNeg then none else
        fX11_items_c3 n (wI r2.2 t2 ((x3 + x5).toNatClampNeg) r2.1) x1 t2 x3 x4 (x5 + 1))
     else
      (fX11_look m).bind fun r3 =>
       (fX11_itemOf r3.2 x1 r3.1).bind fun r4 =>
        fX11_items_c41 fu r4.2 x1 t2 x3 0 r4.1)
set_option maxRecDepth 20000 in
theorem ok_fX11_items_c3 : ∀ (n : Nat) (m : mm_MM) (x1 : Int32) (t2 : Nat) (x3 : Int32) (x4 : Int32) (x5 : Int32) (q0 : mm_MM) (hk_t2 : (mm_kd t2).1 = 20), fX11_items_c3 n m x1 t2 x3 x4 x5 = some q0 → Ev XL xs (d + 3) 216 (ev_M m c w) 3 [(0, .ref 606), (1, .int x1), (2, .ref t2), (3, .int x3), (4, .int x4), (5, .int x5)] [] (fr_v c w q0) := by
  intro n
  induction n with
  | zero => intro m x1 t2 x3 x4 x5 q0 hk_t2 h; exact absurd (show (none : Option (mm_MM)) = some q0 from h) (by simp)
  | succ n ih =>
    intro m x1 t2 x3 x4 x5 q0 hk_t2 h
    unfold fX11_items_c3 at h
    refine ev_i 3 (M1 := ev_M m c w) (pc1 := 10) (lv1 := [(0, .ref 606), (1, .int x1), (2, .ref t2), (3, .int x3), (4, .int x4), (5, .int x5)]) (st1 := []) (M2 := ev_M m c w) (pc2 := 28) (lv2 := [(0, .ref 606), (1, .int x1), (2, .ref t2), (3, .int x3), (4, .int x4), (5, .int x5)]) (st2 := []) (fun n => rfl) h (fun hc1 h => ?_) (fun hc1 h => ?_)
    · obtain ⟨r2, hr2, h⟩ := Option.bind_eq_some_iff.mp h
      refine ev_c 7 (y' := 215) (M1 := ev_M m c w) (la := lv_args 0 [.int x1, .int x5]) (rest := [.int (x3 + x5), .ref t2]) (pc' := 21) (lv' := [(0, .ref 606), (1, .int x1), (2, .ref t2), (3, .int x3), (4, .int x4), (5, .int x5)]) (fun n => rfl) (ok_fX11_usual hr2) ?_
      show Ev XL xs _ 216 (ev_M r2.2 c w) 21 [(0, .ref 606), (1, .int x1), (2, .ref t2), (3, .int x3), (4, .int x4), (5, .int x5)] [.int r2.1, .int (x3 + x5), .ref t2] _
      refine ev_is (n := (mm_kd t2).2) rfl hk_t2 rfl h (fun _ h => ?_)
      refine ev_s 2 (M' := ev_M (wI r2.2 t2 ((x3 + x5).toNatClampNeg) r2.1) c w) (pc' := 3) (lv' := [(5, .int (x5 + 1)), (0, .ref 606), (1, .int x1), (2, .ref t2), (3, .int x3), (4, .int x4)]) (st' := []) (fun n => rfl) ?_
      refine ev_sub (lv := [(0, .ref 606), (1, .int x1), (2, .ref t2), (3, .int x3), (4, .int x4), (5, .int (x5 + 1))]) (mn_of rfl (by repeat (first | exact trivial | refine And.intro rfl ?_))) ?_
      exact ih _ _ _ _ _ _ _ hk_t2 h
    · obtain ⟨r3, hr3, h⟩ := Option.bind_eq_some_iff.mp h
      refine ev_c 5 (y' := 186) (M1 := ev_M m c w) (la := lv_args 0 [.ref 606]) (rest := [.int x1]) (pc' := 36) (lv' := [(5, .int 0), (0, .ref 606), (1, .int x1), (2, .ref t2), (3, .int x3), (4, .int x4)]) (fun n => rfl) (ok_fX11_look hr3) ?_
      show Ev XL xs _ 216 (ev_M r3.2 c w) 36 [(5, .int 0), (0, .ref 606), (1, .int x1), (2, .ref t2), (3, .int x3), (4, .int x4)] [.int r3.1, .int x1] _
      obtain ⟨r4, hr4, h⟩ := Option.bind_eq_some_iff.mp h
      refine ev_c 1 (y' := 212) (M1 := ev_M r3.2 c w) (la := lv_args 0 [.int x1, .int r3.1]) (rest := []) (pc' := 39) (lv' := [(5, .int 0), (0, .ref 606), (1, .int x1), (2, .ref t2), (3, .int x3), (4, .int x4)]) (fun n => rfl) (ok_fX11_itemOf hr4) ?_
      show Ev XL xs _ 216 (ev_M r4.2 c w) 39 [(5, .int 0), (0, .ref 606), (1, .int x1), (2, .ref t2), (3, .int x3), (4, .int x4)] [.int r4.1] _
      refine ev_s 1 (M' := ev_M r4.2 c w) (pc' := 41) (lv' := [(6, .int r4.1), (5, .int 0), (0, .ref 606), (1, .int x1), (2, .ref t2), (3, .int x3), (4, .int x4)]) (st' := []) (fun n => rfl) ?_
      refine ev_sub (lv := [(0, .ref 606), (1, .int x1), (2, .ref t2), (3, .int x3), (5, .int 0), (6, .int r4.1)]) (mn_of rfl (by repeat (first | exact trivial | refine And.intro rfl ?_))) ?_
      exact ok_fX11_items_c41 fu _ _ _ _ _ _ _ hk_t2 h
def fX11_items (m : mm_MM) (x1 : Int32) (t2 : Nat) (x3 : Int32) (x4 : Int32) : Option (mm_MM) :=
  fX11_items_c3 fu m x1 t2 x3 x4 0
set_option maxRecDepth 20000 in
theorem ok_fX11_items {m : mm_MM} {x1 : Int32} {t2 : Nat} {x3 : Int32} {x4 : Int32} {q0 : mm_MM} (hk_t2 : (mm_kd t2).1 = 20) (h : fX11_items m x1 t2 x3 x4 = some q0) : Ev XL xs (d + 3) 216 (ev_M m c w) 0 (lv_args 0 [.ref 606, .int x1, .ref t2, .int x3, .int x4]) [] (fr_v c w q0) := by
  unfold fX11_items at h
  refine ev_s 2 (M' := ev_M m c w) (pc' := 3) (lv' := [(5, .int 0), (0, .ref 606), (1, .int x1), (2, .ref t2), (3, .int x3), (4, .int x4)]) (st' := []) (fun n => rfl) ?_
  refine ev_sub (lv := [(0, .ref 606), (1, .int x1), (2, .ref t2), (3, .int x3), (4, .int x4), (5, .int 0)]) (mn_of rfl (by repeat (first | exact trivial | refine And.intro rfl ?_))) ?_
  exact ok_fX11_items_c3 fu _ _ _ _ _ _ _ hk_t2 h
def fX11_isWhole_c105 (kr21 : mm_MM → Int32 → Int32 → Option (Int32 × mm_MM)) (kr70 : mm_MM → Int32 → Int32 → Int32 → Int32 → Option (Int32 × mm_MM)) (m : mm_MM) (x2 : Int32) (x3 : Int32) (x4 : Int32) (s0 : Int32) : Option (Int32 × mm_MM) :=
  kr70 m s0 x2 x3 (x4 + 1)
set_option maxRecDepth 20000 in
theorem ok_fX11_isWhole_c105 {kr21 : mm_MM → Int32 → Int32 → Option (Int32 × mm_MM)} (hkr21 : ∀ (m : mm_MM) (x1 : Int32) (x2 : Int32) (q0 : Int32 × mm_MM), kr21 m x1 x2 = some q0 → Ev XL xs d 217 (ev_M m c w) 21 [(0, .ref 606), (1, .int x1), (2, .int x2)] [] (fr_i c w q0)) {kr70 : mm_MM → Int32 → Int32 → Int32 → Int32 → Option (Int32 × mm_MM)} (hkr70 : ∀ (m : mm_MM) (x1 : Int32) (x2 : Int32) (x3 : Int32) (x4 : Int32) (q0 : Int32 × mm_MM), kr70 m x1 x2 x3 x4 = some q0 → Ev XL xs d 217 (ev_M m c w) 70 [(0, .ref 606), (1, .int x1), (2, .int x2), (3, .int x3), (4, .int x4)] [] (fr_i c w q0)) {m : mm_MM} {x2 : Int32} {x3 : Int32} {x4 : Int32} {s0 : Int32} {q0 : Int32 × mm_MM} (h : fX11_isWhole_c105 kr21 kr70 m x2 x3 x4 s0 = some q0) : Ev XL xs d 217 (ev_M m c w) 105 [(0, .ref 606), (2, .int x2), (3, .int x3), (4, .int x4)] [.int s0] (fr_i c w q0) := by
  unfold fX11_isWhole_c105 at h
  refine ev_s 3 (M' := ev_M m c w) (pc' := 70) (lv' := [(4, .int (x4 + 1)), (1, .int s0), (0, .ref 606), (2, .int x2), (3, .int x3)]) (st' := []) (fun n => rfl) ?_
  refine ev_sub (lv := [(0, .ref 606), (1, .int s0), (2, .int x2), (3, .int x3), (4, .int (x4 + 1))]) (mn_of rfl (by repeat (first | exact trivial | refine And.intro rfl ?_))) ?_
  exact hkr70 _ _ _ _ _ _ h
def fX11_isWhole_c100 (kr21 : mm_MM → Int32 → Int32 → Option (Int32 × mm_MM)) (kr70 : mm_MM → Int32 → Int32 → Int32 → Int32 → Option (Int32 × mm_MM)) (m : mm_MM) (x2 : Int32) (x3 : Int32) (x4 : Int32) : Option (Int32 × mm_MM) :=
  fX11_isWhole_c105 kr21 kr70 m x2 x3 x4 1
set_option maxRecDepth 20000 in
theorem ok_fX11_isWhole_c100 {kr21 : mm_MM → Int32 → Int32 → Option (Int32 × mm_MM)} (hkr21 : ∀ (m : mm_MM) (x1 : Int32) (x2 : Int32) (q0 : Int32 × mm_MM), kr21 m x1 x2 = some q0 → Ev XL xs d 217 (ev_M m c w) 21 [(0, .ref 606), (1, .int x1), (2, .int x2)] [] (fr_i c w q0)) {kr70 : mm_MM → Int32 → Int32 → Int32 → Int32 → Option (Int32 × mm_MM)} (hkr70 : ∀ (m : mm_MM) (x1 : Int32) (x2 : Int32) (x3 : Int32) (x4 : Int32) (q0 : Int32 × mm_MM), kr70 m x1 x2 x3 x4 = some q0 → Ev XL xs d 217 (ev_M m c w) 70 [(0, .ref 606), (1, .int x1), (2, .int x2), (3, .int x3), (4, .int x4)] [] (fr_i c w q0)) {m : mm_MM} {x2 : Int32} {x3 : Int32} {x4 : Int32} {q0 : Int32 × mm_MM} (h : fX11_isWhole_c100 kr21 kr70 m x2 x3 x4 = some q0) : Ev XL xs d 217 (ev_M m c w) 100 [(0, .ref 606), (2, .int x2), (3, .int x3), (4, .int x4)] [] (fr_i c w q0) := by
  unfold fX11_isWhole_c100 at h
  refine ev_s 2 (M' := ev_M m c w) (pc' := 105) (lv' := [(0, .ref 606), (2, .int x2), (3, .int x3), (4, .int x4)]) (st' := [.int 1]) (fun n => rfl) ?_
  exact ok_fX11_isWhole_c105 hkr21 hkr70 h
def fX11_isWhole_c104 (kr21 : mm_MM → Int32 → Int32 → Option (Int32 × mm_MM)) (kr70 : mm_MM → Int32 → Int32 → Int32 → Int32 → Option (Int32 × mm_MM)) (m : mm_MM) (x2 : Int32) (x3 : Int32) (x4 : Int32) : Option (Int32 × mm_MM) :=
  fX11_isWhole_c105 kr21 kr70 m x2 x3 x4 0
set_option maxRecDepth 20000 in
theorem ok_fX11_isWhole_c104 {kr21 : mm_MM → Int32 → Int32 → Option (Int32 × mm_MM)} (hkr21 : ∀ (m : mm_MM) (x1 : Int32) (x2 : Int32) (q0 : Int32 × mm_MM), kr21 m x1 x2 = some q0 → Ev XL xs d 217 (ev_M m c w) 21 [(0, .ref 606), (1, .int x1), (2, .int x2)] [] (fr_i c w q0)) {kr70 : mm_MM → Int32 → Int32 → Int32 → Int32 → Option (Int32 × mm_MM)} (hkr70 : ∀ (m : mm_MM) (x1 : Int32) (x2 : Int32) (x3 : Int32) (x4 : Int32) (q0 : Int32 × mm_MM), kr70 m x1 x2 x3 x4 = some q0 → Ev XL xs d 217 (ev_M m c w) 70 [(0, .ref 606), (1, .int x1), (2, .int x2), (3, .int x3), (4, .int x4)] [] (fr_i c w q0)) {m : mm_MM} {x2 : Int32} {x3 : Int32} {x4 : Int32} {q0 : Int32 × mm_MM} (h : fX11_isWhole_c104 kr21 kr70 m x2 x3 x4 = some q0) : Ev XL xs d 217 (ev_M m c w) 104 [(0, .ref 606), (2, .int x2), (3, .int x3), (4, .int x4)] [] (fr_i c w q0) := by
  unfold fX11_isWhole_c104 at h
  refine ev_s 1 (M' := ev_M m c w) (pc' := 105) (lv' := [(0, .ref 606), (2, .int x2), (3, .int x3), (4, .int x4)]) (st' := [.int 0]) (fun n => rfl) ?_
  exact ok_fX11_isWhole_c105 hkr21 hkr70 h
def fX11_isWhole_c70 (kr21 : mm_MM → Int32 → Int32 → Option (Int32 × mm_MM)) : Nat → mm_MM → Int32 → Int32 → Int32 → Int32 → Option (Int32 × mm_MM)
  | 0 => fun _ _ _ _ _ => none
  | n + 1 => fun m x1 x2 x3 x4 =>
    (if x4 < x2 then
      (if x1 = 0 then
        fX11_isWhole_c104 kr21 (fX11_isWhole_c70 kr21 n) m x2 x3 x4
       else
        (if x3 = ((-1) : Int32) then
          fX11_isWhole_c100 kr21 (fX11_isWhole_c70 kr21 n) m x2 x3 x4
         else
          (if ((4 * x4) + 2) < 0 ∨ 32 ≤ ((4 * x4) + 2).toNatClampNeg then none else
           (if x3 = m.1 619 (((4 * x4) + 2).toNatClampNeg) then
             fX11_isWhole_c104 kr21 (fX11_isWhole_c70 kr21 n) m x2 x3 x4
            else
             fX11_isWhole_c100 kr21 (fX11_isWhole_c70 kr21 n) m x2 x3 x4))))
     else
      kr21 m x1 (x2 + 1))
set_option maxRecDepth 20000 in
theorem ok_fX11_isWhole_c70 {kr21 : mm_MM → Int32 → Int32 → Option (Int32 × mm_MM)} (hkr21 : ∀ (m : mm_MM) (x1 : Int32) (x2 : Int32) (q0 : Int32 × mm_MM), kr21 m x1 x2 = some q0 → Ev XL xs d 217 (ev_M m c w) 21 [(0, .ref 606), (1, .int x1), (2, .int x2)] [] (fr_i c w q0)) : ∀ (n : Nat) (m : mm_MM) (x1 : Int32) (x2 : Int32) (x3 : Int32) (x4 : Int32) (q0 : Int32 × mm_MM), fX11_isWhole_c70 kr21 n m x1 x2 x3 x4 = some q0 → Ev XL xs d 217 (ev_M m c w) 70 [(0, .ref 606), (1, .int x1), (2, .int x2), (3, .int x3), (4, .int x4)] [] (fr_i c w q0) := by
  intro n
  induction n with
  | zero => intro m x1 x2 x3 x4 q0 h; exact absurd (show (none : Option (Int32 × mm_MM)) = some q0 from h) (by simp)
  | succ n ih =>
    intro m x1 x2 x3 x4 q0 h
    unfold fX11_isWhole_c70 at h
    refine ev_i 3 (M1 := ev_M m c w) (pc1 := 76) (lv1 := [(0, .ref 606), (1, .int x1), (2, .int x2), (3, .int x3), (4, .int x4)]) (st1 := []) (M2 := ev_M m c w) (pc2 := 112) (lv2 := [(0, .ref 606), (1, .int x1), (2, .int x2), (3, .int x3), (4, .int x4)]) (st2 := []) (fun n => rfl) h (fun hc1 h => ?_) (fun hc1 h => ?_)
    · refine ev_i 2 (M1 := ev_M m c w) (pc1 := 104) (lv1 := [(0, .ref 606), (1, .int x1), (2, .int x2), (3, .int x3), (4, .int x4)]) (st1 := []) (M2 := ev_M m c w) (pc2 := 80) (lv2 := [(0, .ref 606), (1, .int x1), (2, .int x2), (3, .int x3), (4, .int x4)]) (st2 := []) (fun n => rfl) h (fun hc2 h => ?_) (fun hc2 h => ?_)
      · refine ev_sub (lv := [(0, .ref 606), (2, .int x2), (3, .int x3), (4, .int x4)]) (mn_of rfl (by repeat (first | exact trivial | refine And.intro rfl ?_))) ?_
        exact ok_fX11_isWhole_c104 hkr21 ih h
      · refine ev_i 3 (M1 := ev_M m c w) (pc1 := 100) (lv1 := [(0, .ref 606), (1, .int x1), (2, .int x2), (3, .int x3), (4, .int x4)]) (st1 := []) (M2 := ev_M m c w) (pc2 := 85) (lv2 := [(0, .ref 606), (1, .int x1), (2, .int x2), (3, .int x3), (4, .int x4)]) (st2 := []) (fun n => rfl) h (fun hc3 h => ?_) (fun hc3 h => ?_)
        · refine ev_sub (lv := [(0, .ref 606), (2, .int x2), (3, .int x3), (4, .int x4)]) (mn_of rfl (by repeat (first | exact trivial | refine And.intro rfl ?_))) ?_
          exact ok_fX11_isWhole_c100 hkr21 ih h
        · refine ev_s 8 (M' := ev_M m c w) (pc' := 96) (lv' := [(0, .ref 606), (1, .int x1), (2, .int x2), (3, .int x3), (4, .int x4)]) (st' := [.int ((4 * x4) + 2), .ref 619, .int x3]) (fun n => rfl) ?_
          refine ev_g 1 (M1 := ev_M m c w) (pc1 := 97) (lv1 := [(0, .ref 606), (1, .int x1), (2, .int x2), (3, .int x3), (4, .int x4)]) (st1 := [.int (m.1 619 (((4 * x4) + 2).toNatClampNeg)), .int x3]) (fun n => rfl) h (fun _ h => ?_)
          refine ev_i 1 (M1 := ev_M m c w) (pc1 := 104) (lv1 := [(0, .ref 606), (1, .int x1), (2, .int x2), (3, .int x3), (4, .int x4)]) (st1 := []) (M2 := ev_M m c w) (pc2 := 100) (lv2 := [(0, .ref 606), (1, .int x1), (2, .int x2), (3, .int x3), (4, .int x4)]) (st2 := []) (fun n => rfl) h (fun hc4 h => ?_) (fun hc4 h => ?_)
          · refine ev_sub (lv := [(0, .ref 606), (2, .int x2), (3, .int x3), (4, .int x4)]) (mn_of rfl (by repeat (first | exact trivial | refine And.intro rfl ?_))) ?_
            exact ok_fX11_isWhole_c104 hkr21 ih h
          · refine ev_sub (lv := [(0, .ref 606), (2, .int x2), (3, .int x3), (4, .int x4)]) (mn_of rfl (by repeat (first | exact trivial | refine And.intro rfl ?_))) ?_
            exact ok_fX11_isWhole_c100 hkr21 ih h
    · refine ev_s 2 (M' := ev_M m c w) (pc' := 21) (lv' := [(2, .int (x2 + 1)), (0, .ref 606), (1, .int x1), (3, .int x3), (4, .int x4)]) (st' := []) (fun n => rfl) ?_
      refine ev_sub (lv := [(0, .ref 606), (1, .int x1), (2, .int (x2 + 1))]) (mn_of rfl (by repeat (first | exact trivial | refine And.intro rfl ?_))) ?_
      exact hkr21 _ _ _ _ h
def fX11_isWhole_c66 (kr21 : mm_MM → Int32 → Int32 → Option (Int32 × mm_MM)) (m : mm_MM) (x2 : Int32) (x3 : Int32) (s0 : Int32) : Option (Int32 × mm_MM) :=
  fX11_isWhole_c70 kr21 fu m s0 x2 x3 0
set_option maxRecDepth 20000 in
theorem ok_fX11_isWhole_c66 {kr21 : mm_MM → Int32 → Int32 → Option (Int32 × mm_MM)} (hkr21 : ∀ (m : mm_MM) (x1 : Int32) (x2 : Int32) (q0 : Int32 × mm_MM), kr21 m x1 x2 = some q0 → Ev XL xs d 217 (ev_M m c w) 21 [(0, .ref 606), (1, .int x1), (2, .int x2)] [] (fr_i c w q0)) {m : mm_MM} {x2 : Int32} {x3 : Int32} {s0 : Int32} {q0 : Int32 × mm_MM} (h : fX11_isWhole_c66 kr21 m x2 x3 s0 = some q0) : Ev XL xs d 217 (ev_M m c w) 66 [(0, .ref 606), (2, .int x2), (3, .int x3)] [.int s0] (fr_i c w q0) := by
  unfold fX11_isWhole_c66 at h
  refine ev_s 3 (M' := ev_M m c w) (pc' := 70) (lv' := [(4, .int 0), (1, .int s0), (0, .ref 606), (2, .int x2), (3, .int x3)]) (st' := []) (fun n => rfl) ?_
  refine ev_sub (lv := [(0, .ref 606), (1, .int s0), (2, .int x2), (3, .int x3), (4, .int 0)]) (mn_of rfl (by repeat (first | exact trivial | refine And.intro rfl ?_))) ?_
  exact ok_fX11_isWhole_c70 hkr21 fu _ _ _ _ _ _ h
def fX11_isWhole_c65 (kr21 : mm_MM → Int32 → Int32 → Option (Int32 × mm_MM)) (m : mm_MM) (x2 : Int32) (x3 : Int32) : Option (Int32 × mm_MM) :=
  fX11_isWhole_c66 kr21 m x2 x3 0
set_option maxRecDepth 20000 in
theorem ok_fX11_isWhole_c65 {kr21 : mm_MM → Int32 → Int32 → Option (Int32 × mm_MM)} (hkr21 : ∀ (m : mm_MM) (x1 : Int32) (x2 : Int32) (q0 : Int32 × mm_MM), kr21 m x1 x2 = some q0 → Ev XL xs d 217 (ev_M m c w) 21 [(0, .ref 606), (1, .int x1), (2, .int x2)] [] (fr_i c w q0)) {m : mm_MM} {x2 : Int32} {x3 : Int32} {q0 : Int32 × mm_MM} (h : fX11_isWhole_c65 kr21 m x2 x3 = some q0) : Ev XL xs d 217 (ev_M m c w) 65 [(0, .ref 606), (2, .int x2), (3, .int x3)] [] (fr_i c w q0) := by
  unfold fX11_isWhole_c65 at h
  refine ev_s 1 (M' := ev_M m c w) (pc' := 66) (lv' := [(0, .ref 606), (2, .int x2), (3, .int x3)]) (st' := [.int 0]) (fun n => rfl) ?_
  exact ok_fX11_isWhole_c66 hkr21 h
def fX11_isWhole_c21 : Nat → mm_MM → Int32 → Int32 → Option (Int32 × mm_MM)
  | 0 => fun _ _ _ => none
  | n + 1 => fun m x1 x2 =>
    (if x2 < m.1 606 21 then
      (if ((4 * x2) + 2) < 0 ∨ 32 ≤ ((4 * x2) + 2).toNatClampNeg then none else
       (if x1 = 0 then
         fX11_isWhole_c65 (fX11_isWhole_c21 n) m x2 (m.1 619 (((4 * x2) + 2).toNatClampNeg))
        else
         (if m.1 619 (((4 * x2) + 2).toNatClampNeg) < (m.1 617 0 * m.1 617 1) then
           fX11_isWhole_c66 (fX11_isWhole_c21 n) m x2 (m.1 619 (((4 * x2) + 2).toNatClampNeg)) 1
          else
           fX11_isWhole_c65 (fX11_isWhole_c21 n) m x2 (m.1 619 (((4 * x2) + 2).toNatClampNeg)))))
     else
      (if x1 = 0 ∨ x1 = 1 then some (x1, m) else none))
set_option maxRecDepth 20000 in
theorem ok_fX11_isWhole_c21 : ∀ (n : Nat) (m : mm_MM) (x1 : Int32) (x2 : Int32) (q0 : Int32 × mm_MM), fX11_isWhole_c21 n m x1 x2 = some q0 → Ev XL xs d 217 (ev_M m c w) 21 [(0, .ref 606), (1, .int x1), (2, .int x2)] [] (fr_i c w q0) := by
  intro n
  induction n with
  | zero => intro m x1 x2 q0 h; exact absurd (show (none : Option (Int32 × mm_MM)) = some q0 from h) (by simp)
  | succ n ih =>
    intro m x1 x2 q0 h
    unfold fX11_isWhole_c21 at h
    refine ev_i 4 (M1 := ev_M m c w) (pc1 := 29) (lv1 := [(0, .ref 606), (1, .int x1), (2, .int x2)]) (st1 := []) (M2 := ev_M m c w) (pc2 := 118) (lv2 := [(0, .ref 606), (1, .int x1), (2, .int x2)]) (st2 := []) (fun n => rfl) h (fun hc1 h => ?_) (fun hc1 h => ?_)
    · refine ev_s 7 (M' := ev_M m c w) (pc' := 38) (lv' := [(0, .ref 606), (1, .int x1), (2, .int x2)]) (st' := [.int ((4 * x2) + 2), .ref 619]) (fun n => rfl) ?_
      refine ev_g 1 (M1 := ev_M m c w) (pc1 := 39) (lv1 := [(0, .ref 606), (1, .int x1), (2, .int x2)]) (st1 := [.int (m.1 619 (((4 * x2) + 2).toNatClampNeg))]) (fun n => rfl) h (fun _ h => ?_)
      refine ev_i 3 (M1 := ev_M m c w) (pc1 := 65) (lv1 := [(3, .int (m.1 619 (((4 * x2) + 2).toNatClampNeg))), (0, .ref 606), (1, .int x1), (2, .int x2)]) (st1 := []) (M2 := ev_M m c w) (pc2 := 44) (lv2 := [(3, .int (m.1 619 (((4 * x2) + 2).toNatClampNeg))), (0, .ref 606), (1, .int x1), (2, .int x2)]) (st2 := []) (fun n => rfl) h (fun hc2 h => ?_) (fun hc2 h => ?_)
      · refine ev_sub (lv := [(0, .ref 606), (2, .int x2), (3, .int (m.1 619 (((4 * x2) + 2).toNatClampNeg)))]) (mn_of rfl (by repeat (first | exact trivial | refine And.intro rfl ?_))) ?_
        exact ok_fX11_isWhole_c65 ih h
      · refine ev_i 11 (M1 := ev_M m c w) (pc1 := 61) (lv1 := [(3, .int (m.1 619 (((4 * x2) + 2).toNatClampNeg))), (0, .ref 606), (1, .int x1), (2, .int x2)]) (st1 := []) (M2 := ev_M m c w) (pc2 := 65) (lv2 := [(3, .int (m.1 619 (((4 * x2) + 2).toNatClampNeg))), (0, .ref 606), (1, .int x1), (2, .int x2)]) (st2 := []) (fun n => rfl) h (fun hc3 h => ?_) (fun hc3 h => ?_)
        · refine ev_s 2 (M' := ev_M m c w) (pc' := 66) (lv' := [(3, .int (m.1 619 (((4 * x2) + 2).toNatClampNeg))), (0, .ref 606), (1, .int x1), (2, .int x2)]) (st' := [.int 1]) (fun n => rfl) ?_
          refine ev_sub (lv := [(0, .ref 606), (2, .int x2), (3, .int (m.1 619 (((4 * x2) + 2).toNatClampNeg)))]) (mn_of rfl (by repeat (first | exact trivial | refine And.intro rfl ?_))) ?_
          exact ok_fX11_isWhole_c66 ih h
        · refine ev_sub (lv := [(0, .ref 606), (2, .int x2), (3, .int (m.1 619 (((4 * x2) + 2).toNatClampNeg)))]) (mn_of rfl (by repeat (first | exact trivial | refine And.intro rfl ?_))) ?_
          exact ok_fX11_isWhole_c65 ih h
    · exact ev_rg 2 (f := fr_i c w) (fun n => rfl) h
def fX11_isWhole_c18 (m : mm_MM) (s0 : Int32) : Option (Int32 × mm_MM) :=
  fX11_isWhole_c21 fu m s0 0
set_option maxRecDepth 20000 in
theorem ok_fX11_isWhole_c18 {m : mm_MM} {s0 : Int32} {q0 : Int32 × mm_MM} (h : fX11_isWhole_c18 m s0 = some q0) : Ev XL xs d 217 (ev_M m c w) 18 [(0, .ref 606)] [.int s0] (fr_i c w q0) := by
  unfold fX11_isWhole_c18 at h
  refine ev_s 3 (M' := ev_M m c w) (pc' := 21) (lv' := [(2, .int 0), (1, .int s0), (0, .ref 606)]) (st' := []) (fun n => rfl) ?_
  refine ev_sub (lv := [(0, .ref 606), (1, .int s0), (2, .int 0)]) (mn_of rfl (by repeat (first | exact trivial | refine And.intro rfl ?_))) ?_
  exact ok_fX11_isWhole_c21 fu _ _ _ _ h
def fX11_isWhole (m : mm_MM) : Option (Int32 × mm_MM) :=
  (if m.1 606 20 ≤ m.1 617 1 then
    fX11_isWhole_c18 m 1
   else
    fX11_isWhole_c18 m 0)
set_option maxRecDepth 20000 in
theorem ok_fX11_isWhole {m : mm_MM} {q0 : Int32 × mm_MM} (h : fX11_isWhole m = some q0) : Ev XL xs d 217 (ev_M m c w) 0 (lv_args 0 [.ref 606]) [] (fr_i c w q0) := by
  unfold fX11_isWhole at h
  refine ev_i 7 (M1 := ev_M m c w) (pc1 := 13) (lv1 := [(0, .ref 606)]) (st1 := []) (M2 := ev_M m c w) (pc2 := 17) (lv2 := [(0, .ref 606)]) (st2 := []) (fun n => rfl) h (fun hc1 h => ?_) (fun hc1 h => ?_)
  · refine ev_s 2 (M' := ev_M m c w) (pc' := 18) (lv' := [(0, .ref 606)]) (st' := [.int 1]) (fun n => rfl) ?_
    exact ok_fX11_isWhole_c18 h
  · refine ev_s 1 (M' := ev_M m c w) (pc' := 18) (lv' := [(0, .ref 606)]) (st' := [.int 0]) (fun n => rfl) ?_
    exact ok_fX11_isWhole_c18 h
def fX11_readField_c268 (kr69 : mm_MM → Int32 → Int32 → Option (Int32 × mm_MM)) (m : mm_MM) (x1 : Int32) (x2 : Int32) (s1 : Int32) (s2 : Int32) : Option (Int32 × mm_MM) :=
  kr69 (wI m 606 3 (s1 + s2)) x1 x2
set_option maxRecDepth 20000 in
theorem ok_fX11_readField_c268 {kr69 : mm_MM → Int32 → Int32 → Option (Int32 × mm_MM)} (hkr69 : ∀ (m : mm_MM) (x1 : Int32) (x2 : Int32) (q0 : Int32 × mm_MM), kr69 m x1 x2 = some q0 → Ev XL xs (d + 4) 218 (ev_M m c w) 69 [(0, .ref 606), (1, .int x1), (2, .int x2)] [] (fr_i c w q0)) {m : mm_MM} {x1 : Int32} {x2 : Int32} {s1 : Int32} {s2 : Int32} {q0 : Int32 × mm_MM} (h : fX11_readField_c268 kr69 m x1 x2 s1 s2 = some q0) : Ev XL xs (d + 4) 218 (ev_M m c w) 268 [(0, .ref 606), (1, .int x1), (2, .int x2)] [.int s2, .int s1, .ref 606] (fr_i c w q0) := by
  unfold fX11_readField_c268 at h
  refine ev_s 3 (M' := ev_M (wI m 606 3 (s1 + s2)) c w) (pc' := 69) (lv' := [(0, .ref 606), (1, .int x1), (2, .int x2)]) (st' := []) (fun n => rfl) ?_
  exact hkr69 _ _ _ _ h
def fX11_readField_c253 (kr69 : mm_MM → Int32 → Int32 → Option (Int32 × mm_MM)) (m : mm_MM) (x1 : Int32) (s0 : Int32) : Option (Int32 × mm_MM) :=
  (if s0 = 0 then
    fX11_readField_c268 kr69 m x1 s0 (m.1 606 3) 0
   else
    fX11_readField_c268 kr69 m x1 s0 (m.1 606 3) 1)
set_option maxRecDepth 20000 in
theorem ok_fX11_readField_c253 {kr69 : mm_MM → Int32 → Int32 → Option (Int32 × mm_MM)} (hkr69 : ∀ (m : mm_MM) (x1 : Int32) (x2 : Int32) (q0 : Int32 × mm_MM), kr69 m x1 x2 = some q0 → Ev XL xs (d + 4) 218 (ev_M m c w) 69 [(0, .ref 606), (1, .int x1), (2, .int x2)] [] (fr_i c w q0)) {m : mm_MM} {x1 : Int32} {s0 : Int32} {q0 : Int32 × mm_MM} (h : fX11_readField_c253 kr69 m x1 s0 = some q0) : Ev XL xs (d + 4) 218 (ev_M m c w) 253 [(0, .ref 606), (1, .int x1)] [.int s0] (fr_i c w q0) := by
  unfold fX11_readField_c253 at h
  refine ev_i 6 (M1 := ev_M m c w) (pc1 := 267) (lv1 := [(2, .int s0), (0, .ref 606), (1, .int x1)]) (st1 := [.int (m.1 606 3), .ref 606]) (M2 := ev_M m c w) (pc2 := 263) (lv2 := [(2, .int s0), (0, .ref 606), (1, .int x1)]) (st2 := [.int (m.1 606 3), .ref 606]) (fun n => rfl) h (fun hc1 h => ?_) (fun hc1 h => ?_)
  · refine ev_s 1 (M' := ev_M m c w) (pc' := 268) (lv' := [(2, .int s0), (0, .ref 606), (1, .int x1)]) (st' := [.int 0, .int (m.1 606 3), .ref 606]) (fun n => rfl) ?_
    refine ev_sub (lv := [(0, .ref 606), (1, .int x1), (2, .int s0)]) (mn_of rfl (by repeat (first | exact trivial | refine And.intro rfl ?_))) ?_
    exact ok_fX11_readField_c268 hkr69 h
  · refine ev_s 2 (M' := ev_M m c w) (pc' := 268) (lv' := [(2, .int s0), (0, .ref 606), (1, .int x1)]) (st' := [.int 1, .int (m.1 606 3), .ref 606]) (fun n => rfl) ?_
    refine ev_sub (lv := [(0, .ref 606), (1, .int x1), (2, .int s0)]) (mn_of rfl (by repeat (first | exact trivial | refine And.intro rfl ?_))) ?_
    exact ok_fX11_readField_c268 hkr69 h
def fX11_readField_c252 (kr69 : mm_MM → Int32 → Int32 → Option (Int32 × mm_MM)) (m : mm_MM) (x1 : Int32) : Option (Int32 × mm_MM) :=
  fX11_readField_c253 kr69 m x1 0
set_option maxRecDepth 20000 in
theorem ok_fX11_readField_c252 {kr69 : mm_MM → Int32 → Int32 → Option (Int32 × mm_MM)} (hkr69 : ∀ (m : mm_MM) (x1 : Int32) (x2 : Int32) (q0 : Int32 × mm_MM), kr69 m x1 x2 = some q0 → Ev XL xs (d + 4) 218 (ev_M m c w) 69 [(0, .ref 606), (1, .int x1), (2, .int x2)] [] (fr_i c w q0)) {m : mm_MM} {x1 : Int32} {q0 : Int32 × mm_MM} (h : fX11_readField_c252 kr69 m x1 = some q0) : Ev XL xs (d + 4) 218 (ev_M m c w) 252 [(0, .ref 606), (1, .int x1)] [] (fr_i c w q0) := by
  unfold fX11_readField_c252 at h
  refine ev_s 1 (M' := ev_M m c w) (pc' := 253) (lv' := [(0, .ref 606), (1, .int x1)]) (st' := [.int 0]) (fun n => rfl) ?_
  exact ok_fX11_readField_c253 hkr69 h
def fX11_readField_c231 (kr69 : mm_MM → Int32 → Int32 → Option (Int32 × mm_MM)) (m : mm_MM) (x1 : Int32) : Option (Int32 × mm_MM) :=
  (if m.1 606 4 = ((-1) : Int32) then
    (fX11_look m).bind fun r2 =>
     (if r2.1 = 59 then
       fX11_readField_c253 kr69 r2.2 x1 1
      else
       fX11_readField_c252 kr69 r2.2 x1)
   else
    fX11_readField_c252 kr69 m x1)
set_option maxRecDepth 20000 in
theorem ok_fX11_readField_c231 {kr69 : mm_MM → Int32 → Int32 → Option (Int32 × mm_MM)} (hkr69 : ∀ (m : mm_MM) (x1 : Int32) (x2 : Int32) (q0 : Int32 × mm_MM), kr69 m x1 x2 = some q0 → Ev XL xs (d + 4) 218 (ev_M m c w) 69 [(0, .ref 606), (1, .int x1), (2, .int x2)] [] (fr_i c w q0)) {m : mm_MM} {x1 : Int32} {q0 : Int32 × mm_MM} (h : fX11_readField_c231 kr69 m x1 = some q0) : Ev XL xs (d + 4) 218 (ev_M m c w) 231 [(0, .ref 606), (1, .int x1)] [] (fr_i c w q0) := by
  unfold fX11_readField_c231 at h
  refine ev_i 4 (M1 := ev_M m c w) (pc1 := 239) (lv1 := [(0, .ref 606), (1, .int x1)]) (st1 := []) (M2 := ev_M m c w) (pc2 := 252) (lv2 := [(0, .ref 606), (1, .int x1)]) (st2 := []) (fun n => rfl) h (fun hc1 h => ?_) (fun hc1 h => ?_)
  · obtain ⟨r2, hr2, h⟩ := Option.bind_eq_some_iff.mp h
    refine ev_c 2 (y' := 186) (M1 := ev_M m c w) (la := lv_args 0 [.ref 606]) (rest := []) (pc' := 243) (lv' := [(0, .ref 606), (1, .int x1)]) (fun n => rfl) (ok_fX11_look hr2) ?_
    show Ev XL xs _ 218 (ev_M r2.2 c w) 243 [(0, .ref 606), (1, .int x1)] [.int r2.1] _
    refine ev_i 2 (M1 := ev_M r2.2 c w) (pc1 := 248) (lv1 := [(0, .ref 606), (1, .int x1)]) (st1 := []) (M2 := ev_M r2.2 c w) (pc2 := 252) (lv2 := [(0, .ref 606), (1, .int x1)]) (st2 := []) (fun n => rfl) h (fun hc3 h => ?_) (fun hc3 h => ?_)
    · refine ev_s 2 (M' := ev_M r2.2 c w) (pc' := 253) (lv' := [(0, .ref 606), (1, .int x1)]) (st' := [.int 1]) (fun n => rfl) ?_
      exact ok_fX11_readField_c253 hkr69 h
    · exact ok_fX11_readField_c252 hkr69 h
  · exact ok_fX11_readField_c252 hkr69 h
def fX11_readField_c227 (kr69 : mm_MM → Int32 → Int32 → Option (Int32 × mm_MM)) (m : mm_MM) (x1 : Int32) : Option (Int32 × mm_MM) :=
  (fX11_bad m).bind fun r1 =>
   fX11_readField_c231 kr69 r1 x1
set_option maxRecDepth 20000 in
theorem ok_fX11_readField_c227 {kr69 : mm_MM → Int32 → Int32 → Option (Int32 × mm_MM)} (hkr69 : ∀ (m : mm_MM) (x1 : Int32) (x2 : Int32) (q0 : Int32 × mm_MM), kr69 m x1 x2 = some q0 → Ev XL xs (d + 4) 218 (ev_M m c w) 69 [(0, .ref 606), (1, .int x1), (2, .int x2)] [] (fr_i c w q0)) {m : mm_MM} {x1 : Int32} {q0 : Int32 × mm_MM} (h : fX11_readField_c227 kr69 m x1 = some q0) : Ev XL xs (d + 4) 218 (ev_M m c w) 227 [(0, .ref 606), (1, .int x1)] [] (fr_i c w q0) := by
  unfold fX11_readField_c227 at h
  obtain ⟨r1, hr1, h⟩ := Option.bind_eq_some_iff.mp h
  refine ev_c 2 (y' := 187) (M1 := ev_M m c w) (la := lv_args 0 [.ref 606]) (rest := []) (pc' := 231) (lv' := [(0, .ref 606), (1, .int x1)]) (fun n => rfl) (ok_fX11_bad hr1) ?_
  show Ev XL xs _ 218 (ev_M r1 c w) 231 [(0, .ref 606), (1, .int x1)] [] _
  exact ok_fX11_readField_c231 hkr69 h
def fX11_readField_c173 (kr69 : mm_MM → Int32 → Int32 → Option (Int32 × mm_MM)) (m : mm_MM) (x1 : Int32) (x3 : Int32) : Option (Int32 × mm_MM) :=
  (if x3 = 116 then
    (if m.1 606 21 < 8 then
      (fX11_items (wI m 606 3 (m.1 606 3 + 1)) x3 619 (4 * m.1 606 21) 4).bind fun r3 =>
       fX11_readField_c231 kr69 (wI r3 606 21 (r3.1 606 21 + 1)) x1
     else
      fX11_readField_c227 kr69 m x1)
   else
    fX11_readField_c227 kr69 m x1)
set_option maxRecDepth 20000 in
theorem ok_fX11_readField_c173 {kr69 : mm_MM → Int32 → Int32 → Option (Int32 × mm_MM)} (hkr69 : ∀ (m : mm_MM) (x1 : Int32) (x2 : Int32) (q0 : Int32 × mm_MM), kr69 m x1 x2 = some q0 → Ev XL xs (d + 4) 218 (ev_M m c w) 69 [(0, .ref 606), (1, .int x1), (2, .int x2)] [] (fr_i c w q0)) {m : mm_MM} {x1 : Int32} {x3 : Int32} {q0 : Int32 × mm_MM} (h : fX11_readField_c173 kr69 m x1 x3 = some q0) : Ev XL xs (d + 4) 218 (ev_M m c w) 173 [(0, .ref 606), (1, .int x1), (3, .int x3)] [] (fr_i c w q0) := by
  unfold fX11_readField_c173 at h
  refine ev_i 3 (M1 := ev_M m c w) (pc1 := 179) (lv1 := [(0, .ref 606), (1, .int x1), (3, .int x3)]) (st1 := []) (M2 := ev_M m c w) (pc2 := 227) (lv2 := [(0, .ref 606), (1, .int x1), (3, .int x3)]) (st2 := []) (fun n => rfl) h (fun hc1 h => ?_) (fun hc1 h => ?_)
  · refine ev_i 4 (M1 := ev_M m c w) (pc1 := 188) (lv1 := [(0, .ref 606), (1, .int x1), (3, .int x3)]) (st1 := []) (M2 := ev_M m c w) (pc2 := 227) (lv2 := [(0, .ref 606), (1, .int x1), (3, .int x3)]) (st2 := []) (fun n => rfl) h (fun hc2 h => ?_) (fun hc2 h => ?_)
    · obtain ⟨r3, hr3, h⟩ := Option.bind_eq_some_iff.mp h
      refine ev_c 16 (y' := 216) (M1 := ev_M (wI m 606 3 (m.1 606 3 + 1)) c w) (la := lv_args 0 [.ref 606, .int x3, .ref 619, .int (4 * m.1 606 21), .int 4]) (rest := []) (pc' := 214) (lv' := [(0, .ref 606), (1, .int x1), (3, .int x3)]) (fun n => rfl) (ok_fX11_items (congrArg Prod.fst (rfl : mm_kd 619 = (20, 32))) hr3) ?_
      show Ev XL xs _ 218 (ev_M r3 c w) 214 [(0, .ref 606), (1, .int x1), (3, .int x3)] [] _
      refine ev_s 7 (M' := ev_M (wI r3 606 21 (r3.1 606 21 + 1)) c w) (pc' := 231) (lv' := [(0, .ref 606), (1, .int x1), (3, .int x3)]) (st' := []) (fun n => rfl) ?_
      refine ev_sub (lv := [(0, .ref 606), (1, .int x1)]) (mn_of rfl (by repeat (first | exact trivial | refine And.intro rfl ?_))) ?_
      exact ok_fX11_readField_c231 hkr69 h
    · refine ev_sub (lv := [(0, .ref 606), (1, .int x1)]) (mn_of rfl (by repeat (first | exact trivial | refine And.intro rfl ?_))) ?_
      exact ok_fX11_readField_c227 hkr69 h
  · refine ev_sub (lv := [(0, .ref 606), (1, .int x1)]) (mn_of rfl (by repeat (first | exact trivial | refine And.intro rfl ?_))) ?_
    exact ok_fX11_readField_c227 hkr69 h
def fX11_readField_c122 (kr69 : mm_MM → Int32 → Int32 → Option (Int32 × mm_MM)) (m : mm_MM) (x1 : Int32) (x3 : Int32) : Option (Int32 × mm_MM) :=
  (if x3 = 114 then
    (if m.1 606 20 < 4 then
      (fX11_items (wI m 606 3 (m.1 606 3 + 1)) x3 618 (m.1 606 20) 1).bind fun r3 =>
       fX11_readField_c231 kr69 (wI r3 606 20 (r3.1 606 20 + 1)) x1
     else
      fX11_readField_c173 kr69 m x1 x3)
   else
    fX11_readField_c173 kr69 m x1 x3)
set_option maxRecDepth 20000 in
theorem ok_fX11_readField_c122 {kr69 : mm_MM → Int32 → Int32 → Option (Int32 × mm_MM)} (hkr69 : ∀ (m : mm_MM) (x1 : Int32) (x2 : Int32) (q0 : Int32 × mm_MM), kr69 m x1 x2 = some q0 → Ev XL xs (d + 4) 218 (ev_M m c w) 69 [(0, .ref 606), (1, .int x1), (2, .int x2)] [] (fr_i c w q0)) {m : mm_MM} {x1 : Int32} {x3 : Int32} {q0 : Int32 × mm_MM} (h : fX11_readField_c122 kr69 m x1 x3 = some q0) : Ev XL xs (d + 4) 218 (ev_M m c w) 122 [(0, .ref 606), (1, .int x1), (3, .int x3)] [] (fr_i c w q0) := by
  unfold fX11_readField_c122 at h
  refine ev_i 3 (M1 := ev_M m c w) (pc1 := 128) (lv1 := [(0, .ref 606), (1, .int x1), (3, .int x3)]) (st1 := []) (M2 := ev_M m c w) (pc2 := 173) (lv2 := [(0, .ref 606), (1, .int x1), (3, .int x3)]) (st2 := []) (fun n => rfl) h (fun hc1 h => ?_) (fun hc1 h => ?_)
  · refine ev_i 4 (M1 := ev_M m c w) (pc1 := 136) (lv1 := [(0, .ref 606), (1, .int x1), (3, .int x3)]) (st1 := []) (M2 := ev_M m c w) (pc2 := 173) (lv2 := [(0, .ref 606), (1, .int x1), (3, .int x3)]) (st2 := []) (fun n => rfl) h (fun hc2 h => ?_) (fun hc2 h => ?_)
    · obtain ⟨r3, hr3, h⟩ := Option.bind_eq_some_iff.mp h
      refine ev_c 14 (y' := 216) (M1 := ev_M (wI m 606 3 (m.1 606 3 + 1)) c w) (la := lv_args 0 [.ref 606, .int x3, .ref 618, .int (m.1 606 20), .int 1]) (rest := []) (pc' := 160) (lv' := [(0, .ref 606), (1, .int x1), (3, .int x3)]) (fun n => rfl) (ok_fX11_items (congrArg Prod.fst (rfl : mm_kd 618 = (20, 4))) hr3) ?_
      show Ev XL xs _ 218 (ev_M r3 c w) 160 [(0, .ref 606), (1, .int x1), (3, .int x3)] [] _
      refine ev_s 7 (M' := ev_M (wI r3 606 20 (r3.1 606 20 + 1)) c w) (pc' := 231) (lv' := [(0, .ref 606), (1, .int x1), (3, .int x3)]) (st' := []) (fun n => rfl) ?_
      refine ev_sub (lv := [(0, .ref 606), (1, .int x1)]) (mn_of rfl (by repeat (first | exact trivial | refine And.intro rfl ?_))) ?_
      exact ok_fX11_readField_c231 hkr69 h
    · exact ok_fX11_readField_c173 hkr69 h
  · exact ok_fX11_readField_c173 hkr69 h
def fX11_readField_c302 (m : mm_MM) : Option (Int32 × mm_MM) :=
  some (m.1 606 4, m)
set_option maxRecDepth 20000 in
theorem ok_fX11_readField_c302 {m : mm_MM} {q0 : Int32 × mm_MM} (h : fX11_readField_c302 m = some q0) : Ev XL xs (d + 4) 218 (ev_M m c w) 302 [(0, .ref 606)] [] (fr_i c w q0) := by
  unfold fX11_readField_c302 at h
  cases h
  exact ev_r 3 (fun n => rfl)
def fX11_readField_c298 (m : mm_MM) : Option (Int32 × mm_MM) :=
  (fX11_bad m).bind fun r1 =>
   fX11_readField_c302 r1
set_option maxRecDepth 20000 in
theorem ok_fX11_readField_c298 {m : mm_MM} {q0 : Int32 × mm_MM} (h : fX11_readField_c298 m = some q0) : Ev XL xs (d + 4) 218 (ev_M m c w) 298 [(0, .ref 606)] [] (fr_i c w q0) := by
  unfold fX11_readField_c298 at h
  obtain ⟨r1, hr1, h⟩ := Option.bind_eq_some_iff.mp h
  refine ev_c 2 (y' := 187) (M1 := ev_M m c w) (la := lv_args 0 [.ref 606]) (rest := []) (pc' := 302) (lv' := [(0, .ref 606)]) (fun n => rfl) (ok_fX11_bad hr1) ?_
  show Ev XL xs _ 218 (ev_M r1 c w) 302 [(0, .ref 606)] [] _
  exact ok_fX11_readField_c302 h
def fX11_readField_c275 (m : mm_MM) : Option (Int32 × mm_MM) :=
  (if m.1 606 4 = ((-1) : Int32) then
    (fX11_look m).bind fun r2 =>
     (if r2.1 = ((-1) : Int32) then
       (fX11_isWhole r2.2).bind fun r4 =>
        (if r4.1 = 0 then
          fX11_readField_c298 r4.2
         else
          fX11_readField_c302 r4.2)
      else
       fX11_readField_c298 r2.2)
   else
    fX11_readField_c302 m)
set_option maxRecDepth 20000 in
theorem ok_fX11_readField_c275 {m : mm_MM} {q0 : Int32 × mm_MM} (h : fX11_readField_c275 m = some q0) : Ev XL xs (d + 4) 218 (ev_M m c w) 275 [(0, .ref 606)] [] (fr_i c w q0) := by
  unfold fX11_readField_c275 at h
  refine ev_i 4 (M1 := ev_M m c w) (pc1 := 283) (lv1 := [(0, .ref 606)]) (st1 := []) (M2 := ev_M m c w) (pc2 := 302) (lv2 := [(0, .ref 606)]) (st2 := []) (fun n => rfl) h (fun hc1 h => ?_) (fun hc1 h => ?_)
  · obtain ⟨r2, hr2, h⟩ := Option.bind_eq_some_iff.mp h
    refine ev_c 2 (y' := 186) (M1 := ev_M m c w) (la := lv_args 0 [.ref 606]) (rest := []) (pc' := 287) (lv' := [(0, .ref 606)]) (fun n => rfl) (ok_fX11_look hr2) ?_
    show Ev XL xs _ 218 (ev_M r2.2 c w) 287 [(0, .ref 606)] [.int r2.1] _
    refine ev_i 2 (M1 := ev_M r2.2 c w) (pc1 := 291) (lv1 := [(0, .ref 606)]) (st1 := []) (M2 := ev_M r2.2 c w) (pc2 := 298) (lv2 := [(0, .ref 606)]) (st2 := []) (fun n => rfl) h (fun hc3 h => ?_) (fun hc3 h => ?_)
    · obtain ⟨r4, hr4, h⟩ := Option.bind_eq_some_iff.mp h
      refine ev_c 2 (y' := 217) (M1 := ev_M r2.2 c w) (la := lv_args 0 [.ref 606]) (rest := []) (pc' := 295) (lv' := [(0, .ref 606)]) (fun n => rfl) (ok_fX11_isWhole hr4) ?_
      show Ev XL xs _ 218 (ev_M r4.2 c w) 295 [(0, .ref 606)] [.int r4.1] _
      refine ev_i 1 (M1 := ev_M r4.2 c w) (pc1 := 298) (lv1 := [(0, .ref 606)]) (st1 := []) (M2 := ev_M r4.2 c w) (pc2 := 302) (lv2 := [(0, .ref 606)]) (st2 := []) (fun n => rfl) h (fun hc5 h => ?_) (fun hc5 h => ?_)
      · exact ok_fX11_readField_c298 h
      · exact ok_fX11_readField_c302 h
    · exact ok_fX11_readField_c298 h
  · exact ok_fX11_readField_c302 h
def fX11_readField_c69 : Nat → mm_MM → Int32 → Int32 → Option (Int32 × mm_MM)
  | 0 => fun _ _ _ => none
  | n + 1 => fun m x1 x2 =>
    (if x2 = 0 then
      fX11_readField_c275 m
     else
      (if m.1 606 4 = ((-1) : Int32) then
        (fX11_look m).bind fun r3 =>
         (if r3.1 = 115 then
           (if x1 = 0 then
             (fX11_items (wI r3.2 606 3 (r3.2.1 606 3 + 1)) r3.1 617 0 5).bind fun r6 =>
              fX11_readField_c231 (fX11_readField_c69 n) r6 1
            else
             fX11_readField_c122 (fX11_readField_c69 n) r3.2 x1 r3.1)
          else
           fX11_readField_c122 (fX11_readField_c69 n) r3.2 x1 r3.1)
       else
        fX11_readField_c275 m))
set_option maxRecDepth 20000 in
theorem ok_fX11_readField_c69 : ∀ (n : Nat) (m : mm_MM) (x1 : Int32) (x2 : Int32) (q0 : Int32 × mm_MM), fX11_readField_c69 n m x1 x2 = some q0 → Ev XL xs (d + 4) 218 (ev_M m c w) 69 [(0, .ref 606), (1, .int x1), (2, .int x2)] [] (fr_i c w q0) := by
  intro n
  induction n with
  | zero => intro m x1 x2 q0 h; exact absurd (show (none : Option (Int32 × mm_MM)) = some q0 from h) (by simp)
  | succ n ih =>
    intro m x1 x2 q0 h
    unfold fX11_readField_c69 at h
    refine ev_i 2 (M1 := ev_M m c w) (pc1 := 275) (lv1 := [(0, .ref 606), (1, .int x1), (2, .int x2)]) (st1 := []) (M2 := ev_M m c w) (pc2 := 73) (lv2 := [(0, .ref 606), (1, .int x1), (2, .int x2)]) (st2 := []) (fun n => rfl) h (fun hc1 h => ?_) (fun hc1 h => ?_)
    · refine ev_sub (lv := [(0, .ref 606)]) (mn_of rfl (by repeat (first | exact trivial | refine And.intro rfl ?_))) ?_
      exact ok_fX11_readField_c275 h
    · refine ev_i 4 (M1 := ev_M m c w) (pc1 := 81) (lv1 := [(0, .ref 606), (1, .int x1), (2, .int x2)]) (st1 := []) (M2 := ev_M m c w) (pc2 := 275) (lv2 := [(0, .ref 606), (1, .int x1), (2, .int x2)]) (st2 := []) (fun n => rfl) h (fun hc2 h => ?_) (fun hc2 h => ?_)
      · obtain ⟨r3, hr3, h⟩ := Option.bind_eq_some_iff.mp h
        refine ev_c 2 (y' := 186) (M1 := ev_M m c w) (la := lv_args 0 [.ref 606]) (rest := []) (pc' := 85) (lv' := [(0, .ref 606), (1, .int x1), (2, .int x2)]) (fun n => rfl) (ok_fX11_look hr3) ?_
        show Ev XL xs _ 218 (ev_M r3.2 c w) 85 [(0, .ref 606), (1, .int x1), (2, .int x2)] [.int r3.1] _
        refine ev_i 4 (M1 := ev_M r3.2 c w) (pc1 := 92) (lv1 := [(3, .int r3.1), (0, .ref 606), (1, .int x1), (2, .int x2)]) (st1 := []) (M2 := ev_M r3.2 c w) (pc2 := 122) (lv2 := [(3, .int r3.1), (0, .ref 606), (1, .int x1), (2, .int x2)]) (st2 := []) (fun n => rfl) h (fun hc4 h => ?_) (fun hc4 h => ?_)
        · refine ev_i 2 (M1 := ev_M r3.2 c w) (pc1 := 96) (lv1 := [(3, .int r3.1), (0, .ref 606), (1, .int x1), (2, .int x2)]) (st1 := []) (M2 := ev_M r3.2 c w) (pc2 := 122) (lv2 := [(3, .int r3.1), (0, .ref 606), (1, .int x1), (2, .int x2)]) (st2 := []) (fun n => rfl) h (fun hc5 h => ?_) (fun hc5 h => ?_)
          · obtain ⟨r6, hr6, h⟩ := Option.bind_eq_some_iff.mp h
            refine ev_c 15 (y' := 216) (M1 := ev_M (wI r3.2 606 3 (r3.2.1 606 3 + 1)) c w) (la := lv_args 0 [.ref 606, .int r3.1, .ref 617, .int 0, .int 5]) (rest := []) (pc' := 119) (lv' := [(1, .int 1), (3, .int r3.1), (0, .ref 606), (2, .int x2)]) (fun n => rfl) (ok_fX11_items (congrArg Prod.fst (rfl : mm_kd 617 = (20, 5))) hr6) ?_
            show Ev XL xs _ 218 (ev_M r6 c w) 119 [(1, .int 1), (3, .int r3.1), (0, .ref 606), (2, .int x2)] [] _
            refine ev_s 1 (M' := ev_M r6 c w) (pc' := 231) (lv' := [(1, .int 1), (3, .int r3.1), (0, .ref 606), (2, .int x2)]) (st' := []) (fun n => rfl) ?_
            refine ev_sub (lv := [(0, .ref 606), (1, .int 1)]) (mn_of rfl (by repeat (first | exact trivial | refine And.intro rfl ?_))) ?_
            exact ok_fX11_readField_c231 ih h
          · refine ev_sub (lv := [(0, .ref 606), (1, .int x1), (3, .int r3.1)]) (mn_of rfl (by repeat (first | exact trivial | refine And.intro rfl ?_))) ?_
            exact ok_fX11_readField_c122 ih h
        · refine ev_sub (lv := [(0, .ref 606), (1, .int x1), (3, .int r3.1)]) (mn_of rfl (by repeat (first | exact trivial | refine And.intro rfl ?_))) ?_
          exact ok_fX11_readField_c122 ih h
      · refine ev_sub (lv := [(0, .ref 606)]) (mn_of rfl (by repeat (first | exact trivial | refine And.intro rfl ?_))) ?_
        exact ok_fX11_readField_c275 h
def fX11_readField_c49 : Nat → mm_MM → Int32 → Int32 → Option (Int32 × mm_MM)
  | 0 => fun _ _ _ => none
  | n + 1 => fun m x1 x2 =>
    (if x2 < 4 then
      (if x2 < 0 ∨ 4 ≤ x2.toNatClampNeg then none else
       fX11_readField_c49 n (wI m 618 x2.toNatClampNeg 3) x1 (x2 + 1))
     else
      fX11_readField_c69 fu m x1 1)
set_option maxRecDepth 20000 in
theorem ok_fX11_readField_c49 : ∀ (n : Nat) (m : mm_MM) (x1 : Int32) (x2 : Int32) (q0 : Int32 × mm_MM), fX11_readField_c49 n m x1 x2 = some q0 → Ev XL xs (d + 4) 218 (ev_M m c w) 49 [(0, .ref 606), (1, .int x1), (2, .int x2)] [] (fr_i c w q0) := by
  intro n
  induction n with
  | zero => intro m x1 x2 q0 h; exact absurd (show (none : Option (Int32 × mm_MM)) = some q0 from h) (by simp)
  | succ n ih =>
    intro m x1 x2 q0 h
    unfold fX11_readField_c49 at h
    refine ev_i 3 (M1 := ev_M m c w) (pc1 := 54) (lv1 := [(0, .ref 606), (1, .int x1), (2, .int x2)]) (st1 := []) (M2 := ev_M m c w) (pc2 := 67) (lv2 := [(0, .ref 606), (1, .int x1), (2, .int x2)]) (st2 := []) (fun n => rfl) h (fun hc1 h => ?_) (fun hc1 h => ?_)
    · refine ev_g 5 (M1 := ev_M (wI m 618 x2.toNatClampNeg 3) c w) (pc1 := 61) (lv1 := [(0, .ref 606), (1, .int x1), (2, .int x2)]) (st1 := []) (fun n => rfl) h (fun _ h => ?_)
      refine ev_s 2 (M' := ev_M (wI m 618 x2.toNatClampNeg 3) c w) (pc' := 49) (lv' := [(2, .int (x2 + 1)), (0, .ref 606), (1, .int x1)]) (st' := []) (fun n => rfl) ?_
      refine ev_sub (lv := [(0, .ref 606), (1, .int x1), (2, .int (x2 + 1))]) (mn_of rfl (by repeat (first | exact trivial | refine And.intro rfl ?_))) ?_
      exact ih _ _ _ _ h
    · refine ev_s 2 (M' := ev_M m c w) (pc' := 69) (lv' := [(2, .int 1), (0, .ref 606), (1, .int x1)]) (st' := []) (fun n => rfl) ?_
      refine ev_sub (lv := [(0, .ref 606), (1, .int x1), (2, .int 1)]) (mn_of rfl (by repeat (first | exact trivial | refine And.intro rfl ?_))) ?_
      exact ok_fX11_readField_c69 fu _ _ _ _ h
def fX11_readField_c24 : Nat → mm_MM → Int32 → Int32 → Option (Int32 × mm_MM)
  | 0 => fun _ _ _ => none
  | n + 1 => fun m x1 x2 =>
    (if x2 < 5 then
      (fX11_usual m 115 x2).bind fun r2 =>
       (if x2 < 0 ∨ 5 ≤ x2.toNatClampNeg then none else
        fX11_readField_c24 n (wI r2.2 617 x2.toNatClampNeg r2.1) x1 (x2 + 1))
     else
      fX11_readField_c49 fu m x1 0)
set_option maxRecDepth 20000 in
theorem ok_fX11_readField_c24 : ∀ (n : Nat) (m : mm_MM) (x1 : Int32) (x2 : Int32) (q0 : Int32 × mm_MM), fX11_readField_c24 n m x1 x2 = some q0 → Ev XL xs (d + 4) 218 (ev_M m c w) 24 [(0, .ref 606), (1, .int x1), (2, .int x2)] [] (fr_i c w q0) := by
  intro n
  induction n with
  | zero => intro m x1 x2 q0 h; exact absurd (show (none : Option (Int32 × mm_MM)) = some q0 from h) (by simp)
  | succ n ih =>
    intro m x1 x2 q0 h
    unfold fX11_readField_c24 at h
    refine ev_i 3 (M1 := ev_M m c w) (pc1 := 29) (lv1 := [(0, .ref 606), (1, .int x1), (2, .int x2)]) (st1 := []) (M2 := ev_M m c w) (pc2 := 47) (lv2 := [(0, .ref 606), (1, .int x1), (2, .int x2)]) (st2 := []) (fun n => rfl) h (fun hc1 h => ?_) (fun hc1 h => ?_)
    · obtain ⟨r2, hr2, h⟩ := Option.bind_eq_some_iff.mp h
      refine ev_c 6 (y' := 215) (M1 := ev_M m c w) (la := lv_args 0 [.int 115, .int x2]) (rest := [.int x2, .ref 617]) (pc' := 40) (lv' := [(0, .ref 606), (1, .int x1), (2, .int x2)]) (fun n => rfl) (ok_fX11_usual hr2) ?_
      show Ev XL xs _ 218 (ev_M r2.2 c w) 40 [(0, .ref 606), (1, .int x1), (2, .int x2)] [.int r2.1, .int x2, .ref 617] _
      refine ev_g 1 (M1 := ev_M (wI r2.2 617 x2.toNatClampNeg r2.1) c w) (pc1 := 41) (lv1 := [(0, .ref 606), (1, .int x1), (2, .int x2)]) (st1 := []) (fun n => rfl) h (fun _ h => ?_)
      refine ev_s 2 (M' := ev_M (wI r2.2 617 x2.toNatClampNeg r2.1) c w) (pc' := 24) (lv' := [(2, .int (x2 + 1)), (0, .ref 606), (1, .int x1)]) (st' := []) (fun n => rfl) ?_
      refine ev_sub (lv := [(0, .ref 606), (1, .int x1), (2, .int (x2 + 1))]) (mn_of rfl (by repeat (first | exact trivial | refine And.intro rfl ?_))) ?_
      exact ih _ _ _ _ h
    · refine ev_s 2 (M' := ev_M m c w) (pc' := 49) (lv' := [(2, .int 0), (0, .ref 606), (1, .int x1)]) (st' := []) (fun n => rfl) ?_
      refine ev_sub (lv := [(0, .ref 606), (1, .int x1), (2, .int 0)]) (mn_of rfl (by repeat (first | exact trivial | refine And.intro rfl ?_))) ?_
      exact ok_fX11_readField_c49 fu _ _ _ _ h
def fX11_readField (m : mm_MM) : Option (Int32 × mm_MM) :=
  fX11_readField_c24 fu (wI (wI (wI (wI m 606 3 0) 606 4 ((-1) : Int32)) 606 20 0) 606 21 0) 0 0
set_option maxRecDepth 20000 in
theorem ok_fX11_readField {m : mm_MM} {q0 : Int32 × mm_MM} (h : fX11_readField m = some q0) : Ev XL xs (d + 4) 218 (ev_M m c w) 0 (lv_args 0 [.ref 606]) [] (fr_i c w q0) := by
  unfold fX11_readField at h
  refine ev_s 16 (M' := ev_M (wI (wI (wI (wI m 606 3 0) 606 4 ((-1) : Int32)) 606 20 0) 606 21 0) c w) (pc' := 24) (lv' := [(2, .int 0), (1, .int 0), (0, .ref 606)]) (st' := []) (fun n => rfl) ?_
  refine ev_sub (lv := [(0, .ref 606), (1, .int 0), (2, .int 0)]) (mn_of rfl (by repeat (first | exact trivial | refine And.intro rfl ?_))) ?_
  exact ok_fX11_readField_c24 fu _ _ _ _ h
def fX11_of (m : mm_MM) (x1 : Int32) (x2 : Int32) : Option (Int32 × mm_MM) :=
  (if ((6 * x1) + x2) < 0 ∨ 231 ≤ ((6 * x1) + x2).toNatClampNeg then none else
   some (m.1 623 (((6 * x1) + x2).toNatClampNeg), m))
theorem ok_fX11_of {m : mm_MM} {x1 : Int32} {x2 : Int32} {q0 : Int32 × mm_MM} (h : fX11_of m x1 x2 = some q0) : Ev XL xs d 220 (ev_M m c w) 0 (lv_args 0 [.ref 606, .int x1, .int x2]) [] (fr_i c w q0) := by
  unfold fX11_of at h
  refine ev_s 7 (M' := ev_M m c w) (pc' := 10) (lv' := [(0, .ref 606), (1, .int x1), (2, .int x2)]) (st' := [.int ((6 * x1) + x2), .ref 623]) (fun n => rfl) ?_
  refine ev_g 1 (M1 := ev_M m c w) (pc1 := 11) (lv1 := [(0, .ref 606), (1, .int x1), (2, .int x2)]) (st1 := [.int (m.1 623 (((6 * x1) + x2).toNatClampNeg))]) (fun n => rfl) h (fun _ h => ?_)
  cases h
  exact ev_r 1 (fun n => rfl)
def fX11_set (m : mm_MM) (x1 : Int32) (x2 : Int32) (x3 : Int32) : Option (mm_MM) :=
  (if ((6 * x1) + x2) < 0 ∨ 231 ≤ ((6 * x1) + x2).toNatClampNeg then none else
   some (wI m 623 (((6 * x1) + x2).toNatClampNeg) x3))
theorem ok_fX11_set {m : mm_MM} {x1 : Int32} {x2 : Int32} {x3 : Int32} {q0 : mm_MM} (h : fX11_set m x1 x2 x3 = some q0) : Ev XL xs d 221 (ev_M m c w) 0 (lv_args 0 [.ref 606, .int x1, .int x2, .int x3]) [] (fr_v c w q0) := by
  unfold fX11_set at h
  refine ev_g 9 (M1 := ev_M (wI m 623 (((6 * x1) + x2).toNatClampNeg) x3) c w) (pc1 := 12) (lv1 := [(0, .ref 606), (1, .int x1), (2, .int x2), (3, .int x3)]) (st1 := []) (fun n => rfl) h (fun _ h => ?_)
  cases h
  exact ev_r 1 (fun n => rfl)
def fX11_layTold_c47 (m : mm_MM) (x1 : Int32) (s1 : Int32) (s2 : Int32) (s3 : Int32) : Option (mm_MM) :=
  (fX11_set m s1 s2 s3).bind fun r1 =>
   (fX11_set r1 x1 5 1).bind fun r2 =>
    some r2
theorem ok_fX11_layTold_c47 {m : mm_MM} {x1 : Int32} {s1 : Int32} {s2 : Int32} {s3 : Int32} {q0 : mm_MM} (h : fX11_layTold_c47 m x1 s1 s2 s3 = some q0) : Ev XL xs (d + 1) 222 (ev_M m c w) 47 [(0, .ref 606), (1, .int x1)] [.int s3, .int s2, .int s1, .ref 606] (fr_v c w q0) := by
  unfold fX11_layTold_c47 at h
  obtain ⟨r1, hr1, h⟩ := Option.bind_eq_some_iff.mp h
  refine ev_c 1 (y' := 221) (M1 := ev_M m c w) (la := lv_args 0 [.ref 606, .int s1, .int s2, .int s3]) (rest := []) (pc' := 50) (lv' := [(0, .ref 606), (1, .int x1)]) (fun n => rfl) (ok_fX11_set hr1) ?_
  show Ev XL xs _ 222 (ev_M r1 c w) 50 [(0, .ref 606), (1, .int x1)] [] _
  obtain ⟨r2, hr2, h⟩ := Option.bind_eq_some_iff.mp h
  refine ev_c 5 (y' := 221) (M1 := ev_M r1 c w) (la := lv_args 0 [.ref 606, .int x1, .int 5, .int 1]) (rest := []) (pc' := 57) (lv' := [(0, .ref 606), (1, .int x1)]) (fun n => rfl) (ok_fX11_set hr2) ?_
  show Ev XL xs _ 222 (ev_M r2 c w) 57 [(0, .ref 606), (1, .int x1)] [] _
  cases h
  exact ev_r 1 (fun n => rfl)
def fX11_layTold_c2 : Nat → mm_MM → Int32 → Int32 → Option (mm_MM)
  | 0 => fun _ _ _ => none
  | n + 1 => fun m x1 x2 =>
    (if x2 < 4 then
      (if ((4 * x1) + x2) < 0 ∨ 32 ≤ ((4 * x1) + x2).toNatClampNeg then none else
       (fX11_set m x1 x2 (m.1 622 (((4 * x1) + x2).toNatClampNeg))).bind fun r2 =>
        fX11_layTold_c2 n r2 x1 (x2 + 1))
     else
      (fX11_of m x1 2).bind fun r3 =>
       (if r3.1 = ((-1) : Int32) then
         fX11_layTold_c47 r3.2 x1 x1 4 0
        else
         fX11_layTold_c47 r3.2 x1 x1 4 1))
theorem ok_fX11_layTold_c2 : ∀ (n : Nat) (m : mm_MM) (x1 : Int32) (x2 : Int32) (q0 : mm_MM), fX11_layTold_c2 n m x1 x2 = some q0 → Ev XL xs (d + 1) 222 (ev_M m c w) 2 [(0, .ref 606), (1, .int x1), (2, .int x2)] [] (fr_v c w q0) := by
  intro n
  induction n with
  | zero => intro m x1 x2 q0 h; exact absurd (show (none : Option (mm_MM)) = some q0 from h) (by simp)
  | succ n ih =>
    intro m x1 x2 q0 h
    unfold fX11_layTold_c2 at h
    refine ev_i 3 (M1 := ev_M m c w) (pc1 := 7) (lv1 := [(0, .ref 606), (1, .int x1), (2, .int x2)]) (st1 := []) (M2 := ev_M m c w) (pc2 := 29) (lv2 := [(0, .ref 606), (1, .int x1), (2, .int x2)]) (st2 := []) (fun n => rfl) h (fun hc1 h => ?_) (fun hc1 h => ?_)
    · refine ev_s 10 (M' := ev_M m c w) (pc' := 19) (lv' := [(0, .ref 606), (1, .int x1), (2, .int x2)]) (st' := [.int ((4 * x1) + x2), .ref 622, .int x2, .int x1, .ref 606]) (fun n => rfl) ?_
      refine ev_g 1 (M1 := ev_M m c w) (pc1 := 20) (lv1 := [(0, .ref 606), (1, .int x1), (2, .int x2)]) (st1 := [.int (m.1 622 (((4 * x1) + x2).toNatClampNeg)), .int x2, .int x1, .ref 606]) (fun n => rfl) h (fun _ h => ?_)
      obtain ⟨r2, hr2, h⟩ := Option.bind_eq_some_iff.mp h
      refine ev_c 1 (y' := 221) (M1 := ev_M m c w) (la := lv_args 0 [.ref 606, .int x1, .int x2, .int (m.1 622 (((4 * x1) + x2).toNatClampNeg))]) (rest := []) (pc' := 23) (lv' := [(0, .ref 606), (1, .int x1), (2, .int x2)]) (fun n => rfl) (ok_fX11_set hr2) ?_
      show Ev XL xs _ 222 (ev_M r2 c w) 23 [(0, .ref 606), (1, .int x1), (2, .int x2)] [] _
      refine ev_s 2 (M' := ev_M r2 c w) (pc' := 2) (lv' := [(2, .int (x2 + 1)), (0, .ref 606), (1, .int x1)]) (st' := []) (fun n => rfl) ?_
      refine ev_sub (lv := [(0, .ref 606), (1, .int x1), (2, .int (x2 + 1))]) (mn_of rfl (by repeat (first | exact trivial | refine And.intro rfl ?_))) ?_
      exact ih _ _ _ _ h
    · obtain ⟨r3, hr3, h⟩ := Option.bind_eq_some_iff.mp h
      refine ev_c 7 (y' := 220) (M1 := ev_M m c w) (la := lv_args 0 [.ref 606, .int x1, .int 2]) (rest := [.int 4, .int x1, .ref 606]) (pc' := 38) (lv' := [(0, .ref 606), (1, .int x1), (2, .int x2)]) (fun n => rfl) (ok_fX11_of hr3) ?_
      show Ev XL xs _ 222 (ev_M r3.2 c w) 38 [(0, .ref 606), (1, .int x1), (2, .int x2)] [.int r3.1, .int 4, .int x1, .ref 606] _
      refine ev_i 2 (M1 := ev_M r3.2 c w) (pc1 := 42) (lv1 := [(0, .ref 606), (1, .int x1), (2, .int x2)]) (st1 := [.int 4, .int x1, .ref 606]) (M2 := ev_M r3.2 c w) (pc2 := 46) (lv2 := [(0, .ref 606), (1, .int x1), (2, .int x2)]) (st2 := [.int 4, .int x1, .ref 606]) (fun n => rfl) h (fun hc4 h => ?_) (fun hc4 h => ?_)
      · refine ev_s 2 (M' := ev_M r3.2 c w) (pc' := 47) (lv' := [(0, .ref 606), (1, .int x1), (2, .int x2)]) (st' := [.int 0, .int 4, .int x1, .ref 606]) (fun n => rfl) ?_
        refine ev_sub (lv := [(0, .ref 606), (1, .int x1)]) (mn_of rfl (by repeat (first | exact trivial | refine And.intro rfl ?_))) ?_
        exact ok_fX11_layTold_c47 h
      · refine ev_s 1 (M' := ev_M r3.2 c w) (pc' := 47) (lv' := [(0, .ref 606), (1, .int x1), (2, .int x2)]) (st' := [.int 1, .int 4, .int x1, .ref 606]) (fun n => rfl) ?_
        refine ev_sub (lv := [(0, .ref 606), (1, .int x1)]) (mn_of rfl (by repeat (first | exact trivial | refine And.intro rfl ?_))) ?_
        exact ok_fX11_layTold_c47 h
def fX11_layTold (m : mm_MM) (x1 : Int32) : Option (mm_MM) :=
  fX11_layTold_c2 fu m x1 0
theorem ok_fX11_layTold {m : mm_MM} {x1 : Int32} {q0 : mm_MM} (h : fX11_layTold m x1 = some q0) : Ev XL xs (d + 1) 222 (ev_M m c w) 0 (lv_args 0 [.ref 606, .int x1]) [] (fr_v c w q0) := by
  unfold fX11_layTold at h
  refine ev_s 2 (M' := ev_M m c w) (pc' := 2) (lv' := [(2, .int 0), (0, .ref 606), (1, .int x1)]) (st' := []) (fun n => rfl) ?_
  refine ev_sub (lv := [(0, .ref 606), (1, .int x1), (2, .int 0)]) (mn_of rfl (by repeat (first | exact trivial | refine And.intro rfl ?_))) ?_
  exact ok_fX11_layTold_c2 fu _ _ _ _ h
def fX11_takeField_c113 : Nat → mm_MM → Int32 → Option (Int32 × mm_MM)
  | 0 => fun _ _ => none
  | n + 1 => fun m x1 =>
    (if x1 < m.1 606 25 then
      (fX11_layTold m x1).bind fun r2 =>
       fX11_takeField_c113 n r2 (x1 + 1)
     else
      some (m.1 606 25, (wI (wI (wI (wI m 623 48 (m.1 620 4)) 606 47 0) 606 34 0) 606 51 0)))
set_option maxRecDepth 20000 in
theorem ok_fX11_takeField_c113 : ∀ (n : Nat) (m : mm_MM) (x1 : Int32) (q0 : Int32 × mm_MM), fX11_takeField_c113 n m x1 = some q0 → Ev XL xs (d + 2) 223 (ev_M m c w) 113 [(0, .ref 606), (1, .int x1)] [] (fr_i c w q0) := by
  intro n
  induction n with
  | zero => intro m x1 q0 h; exact absurd (show (none : Option (Int32 × mm_MM)) = some q0 from h) (by simp)
  | succ n ih =>
    intro m x1 q0 h
    unfold fX11_takeField_c113 at h
    refine ev_i 4 (M1 := ev_M m c w) (pc1 := 121) (lv1 := [(0, .ref 606), (1, .int x1)]) (st1 := []) (M2 := ev_M m c w) (pc2 := 132) (lv2 := [(0, .ref 606), (1, .int x1)]) (st2 := []) (fun n => rfl) h (fun hc1 h => ?_) (fun hc1 h => ?_)
    · obtain ⟨r2, hr2, h⟩ := Option.bind_eq_some_iff.mp h
      refine ev_c 3 (y' := 222) (M1 := ev_M m c w) (la := lv_args 0 [.ref 606, .int x1]) (rest := []) (pc' := 126) (lv' := [(0, .ref 606), (1, .int x1)]) (fun n => rfl) (ok_fX11_layTold hr2) ?_
      show Ev XL xs _ 223 (ev_M r2 c w) 126 [(0, .ref 606), (1, .int x1)] [] _
      refine ev_s 2 (M' := ev_M r2 c w) (pc' := 113) (lv' := [(1, .int (x1 + 1)), (0, .ref 606)]) (st' := []) (fun n => rfl) ?_
      refine ev_sub (lv := [(0, .ref 606), (1, .int (x1 + 1))]) (mn_of rfl (by repeat (first | exact trivial | refine And.intro rfl ?_))) ?_
      exact ih _ _ _ h
    · cases h
      exact ev_r 20 (fun n => rfl)
def fX11_takeField_c91 : Nat → mm_MM → Int32 → Option (Int32 × mm_MM)
  | 0 => fun _ _ => none
  | n + 1 => fun m x1 =>
    (if x1 < 231 then
      (if x1 < 0 ∨ 231 ≤ x1.toNatClampNeg then none else
       fX11_takeField_c91 n (wI m 623 x1.toNatClampNeg 0) (x1 + 1))
     else
      fX11_takeField_c113 fu m 0)
set_option maxRecDepth 20000 in
theorem ok_fX11_takeField_c91 : ∀ (n : Nat) (m : mm_MM) (x1 : Int32) (q0 : Int32 × mm_MM), fX11_takeField_c91 n m x1 = some q0 → Ev XL xs (d + 2) 223 (ev_M m c w) 91 [(0, .ref 606), (1, .int x1)] [] (fr_i c w q0) := by
  intro n
  induction n with
  | zero => intro m x1 q0 h; exact absurd (show (none : Option (Int32 × mm_MM)) = some q0 from h) (by simp)
  | succ n ih =>
    intro m x1 q0 h
    unfold fX11_takeField_c91 at h
    refine ev_i 3 (M1 := ev_M m c w) (pc1 := 98) (lv1 := [(0, .ref 606), (1, .int x1)]) (st1 := []) (M2 := ev_M m c w) (pc2 := 111) (lv2 := [(0, .ref 606), (1, .int x1)]) (st2 := []) (fun n => rfl) h (fun hc1 h => ?_) (fun hc1 h => ?_)
    · refine ev_g 5 (M1 := ev_M (wI m 623 x1.toNatClampNeg 0) c w) (pc1 := 105) (lv1 := [(0, .ref 606), (1, .int x1)]) (st1 := []) (fun n => rfl) h (fun _ h => ?_)
      refine ev_s 2 (M' := ev_M (wI m 623 x1.toNatClampNeg 0) c w) (pc' := 91) (lv' := [(1, .int (x1 + 1)), (0, .ref 606)]) (st' := []) (fun n => rfl) ?_
      refine ev_sub (lv := [(0, .ref 606), (1, .int (x1 + 1))]) (mn_of rfl (by repeat (first | exact trivial | refine And.intro rfl ?_))) ?_
      exact ih _ _ _ h
    · refine ev_s 2 (M' := ev_M m c w) (pc' := 113) (lv' := [(1, .int 0), (0, .ref 606)]) (st' := []) (fun n => rfl) ?_
      refine ev_sub (lv := [(0, .ref 606), (1, .int 0)]) (mn_of rfl (by repeat (first | exact trivial | refine And.intro rfl ?_))) ?_
      exact ok_fX11_takeField_c113 fu _ _ _ h
def fX11_takeField_c65 : Nat → mm_MM → Int32 → Option (Int32 × mm_MM)
  | 0 => fun _ _ => none
  | n + 1 => fun m x1 =>
    (if x1 < 32 then
      (if x1 < 0 ∨ 32 ≤ x1.toNatClampNeg then none else
       (if x1 < 0 ∨ 32 ≤ x1.toNatClampNeg then none else
        fX11_takeField_c65 n (wI m 622 x1.toNatClampNeg (m.1 619 x1.toNatClampNeg)) (x1 + 1)))
     else
      fX11_takeField_c91 fu m 0)
set_option maxRecDepth 20000 in
theorem ok_fX11_takeField_c65 : ∀ (n : Nat) (m : mm_MM) (x1 : Int32) (q0 : Int32 × mm_MM), fX11_takeField_c65 n m x1 = some q0 → Ev XL xs (d + 2) 223 (ev_M m c w) 65 [(0, .ref 606), (1, .int x1)] [] (fr_i c w q0) := by
  intro n
  induction n with
  | zero => intro m x1 q0 h; exact absurd (show (none : Option (Int32 × mm_MM)) = some q0 from h) (by simp)
  | succ n ih =>
    intro m x1 q0 h
    unfold fX11_takeField_c65 at h
    refine ev_i 3 (M1 := ev_M m c w) (pc1 := 71) (lv1 := [(0, .ref 606), (1, .int x1)]) (st1 := []) (M2 := ev_M m c w) (pc2 := 89) (lv2 := [(0, .ref 606), (1, .int x1)]) (st2 := []) (fun n => rfl) h (fun hc1 h => ?_) (fun hc1 h => ?_)
    · refine ev_g 7 (M1 := ev_M m c w) (pc1 := 82) (lv1 := [(0, .ref 606), (1, .int x1)]) (st1 := [.int (m.1 619 x1.toNatClampNeg), .int x1, .ref 622]) (fun n => rfl) h (fun _ h => ?_)
      refine ev_g 1 (M1 := ev_M (wI m 622 x1.toNatClampNeg (m.1 619 x1.toNatClampNeg)) c w) (pc1 := 83) (lv1 := [(0, .ref 606), (1, .int x1)]) (st1 := []) (fun n => rfl) h (fun _ h => ?_)
      refine ev_s 2 (M' := ev_M (wI m 622 x1.toNatClampNeg (m.1 619 x1.toNatClampNeg)) c w) (pc' := 65) (lv' := [(1, .int (x1 + 1)), (0, .ref 606)]) (st' := []) (fun n => rfl) ?_
      refine ev_sub (lv := [(0, .ref 606), (1, .int (x1 + 1))]) (mn_of rfl (by repeat (first | exact trivial | refine And.intro rfl ?_))) ?_
      exact ih _ _ _ h
    · refine ev_s 2 (M' := ev_M m c w) (pc' := 91) (lv' := [(1, .int 0), (0, .ref 606)]) (st' := []) (fun n => rfl) ?_
      refine ev_sub (lv := [(0, .ref 606), (1, .int 0)]) (mn_of rfl (by repeat (first | exact trivial | refine And.intro rfl ?_))) ?_
      exact ok_fX11_takeField_c91 fu _ _ _ h
def fX11_takeField_c40 : Nat → mm_MM → Int32 → Option (Int32 × mm_MM)
  | 0 => fun _ _ => none
  | n + 1 => fun m x1 =>
    (if x1 < 4 then
      (if x1 < 0 ∨ 4 ≤ x1.toNatClampNeg then none else
       (if x1 < 0 ∨ 4 ≤ x1.toNatClampNeg then none else
        fX11_takeField_c40 n (wI m 621 x1.toNatClampNeg (m.1 618 x1.toNatClampNeg)) (x1 + 1)))
     else
      fX11_takeField_c65 fu m 0)
set_option maxRecDepth 20000 in
theorem ok_fX11_takeField_c40 : ∀ (n : Nat) (m : mm_MM) (x1 : Int32) (q0 : Int32 × mm_MM), fX11_takeField_c40 n m x1 = some q0 → Ev XL xs (d + 2) 223 (ev_M m c w) 40 [(0, .ref 606), (1, .int x1)] [] (fr_i c w q0) := by
  intro n
  induction n with
  | zero => intro m x1 q0 h; exact absurd (show (none : Option (Int32 × mm_MM)) = some q0 from h) (by simp)
  | succ n ih =>
    intro m x1 q0 h
    unfold fX11_takeField_c40 at h
    refine ev_i 3 (M1 := ev_M m c w) (pc1 := 45) (lv1 := [(0, .ref 606), (1, .int x1)]) (st1 := []) (M2 := ev_M m c w) (pc2 := 63) (lv2 := [(0, .ref 606), (1, .int x1)]) (st2 := []) (fun n => rfl) h (fun hc1 h => ?_) (fun hc1 h => ?_)
    · refine ev_g 7 (M1 := ev_M m c w) (pc1 := 56) (lv1 := [(0, .ref 606), (1, .int x1)]) (st1 := [.int (m.1 618 x1.toNatClampNeg), .int x1, .ref 621]) (fun n => rfl) h (fun _ h => ?_)
      refine ev_g 1 (M1 := ev_M (wI m 621 x1.toNatClampNeg (m.1 618 x1.toNatClampNeg)) c w) (pc1 := 57) (lv1 := [(0, .ref 606), (1, .int x1)]) (st1 := []) (fun n => rfl) h (fun _ h => ?_)
      refine ev_s 2 (M' := ev_M (wI m 621 x1.toNatClampNeg (m.1 618 x1.toNatClampNeg)) c w) (pc' := 40) (lv' := [(1, .int (x1 + 1)), (0, .ref 606)]) (st' := []) (fun n => rfl) ?_
      refine ev_sub (lv := [(0, .ref 606), (1, .int (x1 + 1))]) (mn_of rfl (by repeat (first | exact trivial | refine And.intro rfl ?_))) ?_
      exact ih _ _ _ h
    · refine ev_s 2 (M' := ev_M m c w) (pc' := 65) (lv' := [(1, .int 0), (0, .ref 606)]) (st' := []) (fun n => rfl) ?_
      refine ev_sub (lv := [(0, .ref 606), (1, .int 0)]) (mn_of rfl (by repeat (first | exact trivial | refine And.intro rfl ?_))) ?_
      exact ok_fX11_takeField_c65 fu _ _ _ h
def fX11_takeField_c15 : Nat → mm_MM → Int32 → Option (Int32 × mm_MM)
  | 0 => fun _ _ => none
  | n + 1 => fun m x1 =>
    (if x1 < 5 then
      (if x1 < 0 ∨ 5 ≤ x1.toNatClampNeg then none else
       (if x1 < 0 ∨ 5 ≤ x1.toNatClampNeg then none else
        fX11_takeField_c15 n (wI m 620 x1.toNatClampNeg (m.1 617 x1.toNatClampNeg)) (x1 + 1)))
     else
      fX11_takeField_c40 fu m 0)
set_option maxRecDepth 20000 in
theorem ok_fX11_takeField_c15 : ∀ (n : Nat) (m : mm_MM) (x1 : Int32) (q0 : Int32 × mm_MM), fX11_takeField_c15 n m x1 = some q0 → Ev XL xs (d + 2) 223 (ev_M m c w) 15 [(0, .ref 606), (1, .int x1)] [] (fr_i c w q0) := by
  intro n
  induction n with
  | zero => intro m x1 q0 h; exact absurd (show (none : Option (Int32 × mm_MM)) = some q0 from h) (by simp)
  | succ n ih =>
    intro m x1 q0 h
    unfold fX11_takeField_c15 at h
    refine ev_i 3 (M1 := ev_M m c w) (pc1 := 20) (lv1 := [(0, .ref 606), (1, .int x1)]) (st1 := []) (M2 := ev_M m c w) (pc2 := 38) (lv2 := [(0, .ref 606), (1, .int x1)]) (st2 := []) (fun n => rfl) h (fun hc1 h => ?_) (fun hc1 h => ?_)
    · refine ev_g 7 (M1 := ev_M m c w) (pc1 := 31) (lv1 := [(0, .ref 606), (1, .int x1)]) (st1 := [.int (m.1 617 x1.toNatClampNeg), .int x1, .ref 620]) (fun n => rfl) h (fun _ h => ?_)
      refine ev_g 1 (M1 := ev_M (wI m 620 x1.toNatClampNeg (m.1 617 x1.toNatClampNeg)) c w) (pc1 := 32) (lv1 := [(0, .ref 606), (1, .int x1)]) (st1 := []) (fun n => rfl) h (fun _ h => ?_)
      refine ev_s 2 (M' := ev_M (wI m 620 x1.toNatClampNeg (m.1 617 x1.toNatClampNeg)) c w) (pc' := 15) (lv' := [(1, .int (x1 + 1)), (0, .ref 606)]) (st' := []) (fun n => rfl) ?_
      refine ev_sub (lv := [(0, .ref 606), (1, .int (x1 + 1))]) (mn_of rfl (by repeat (first | exact trivial | refine And.intro rfl ?_))) ?_
      exact ih _ _ _ h
    · refine ev_s 2 (M' := ev_M m c w) (pc' := 40) (lv' := [(1, .int 0), (0, .ref 606)]) (st' := []) (fun n => rfl) ?_
      refine ev_sub (lv := [(0, .ref 606), (1, .int 0)]) (mn_of rfl (by repeat (first | exact trivial | refine And.intro rfl ?_))) ?_
      exact ok_fX11_takeField_c40 fu _ _ _ h
def fX11_takeField (m : mm_MM) : Option (Int32 × mm_MM) :=
  fX11_takeField_c15 fu (wI (wI m 606 26 1) 606 25 (m.1 606 21)) 0
set_option maxRecDepth 20000 in
theorem ok_fX11_takeField {m : mm_MM} {q0 : Int32 × mm_MM} (h : fX11_takeField m = some q0) : Ev XL xs (d + 2) 223 (ev_M m c w) 0 (lv_args 0 [.ref 606]) [] (fr_i c w q0) := by
  unfold fX11_takeField at h
  refine ev_s 9 (M' := ev_M (wI (wI m 606 26 1) 606 25 (m.1 606 21)) c w) (pc' := 15) (lv' := [(1, .int 0), (0, .ref 606)]) (st' := []) (fun n => rfl) ?_
  refine ev_sub (lv := [(0, .ref 606), (1, .int 0)]) (mn_of rfl (by repeat (first | exact trivial | refine And.intro rfl ?_))) ?_
  exact ok_fX11_takeField_c15 fu _ _ _ h
def fX11_isThere_c25 (m : mm_MM) (s0 : Int32) : Option (Int32 × mm_MM) :=
  (if s0 = 0 ∨ s0 = 1 then some (s0, m) else none)
theorem ok_fX11_isThere_c25 {m : mm_MM} {s0 : Int32} {q0 : Int32 × mm_MM} (h : fX11_isThere_c25 m s0 = some q0) : Ev XL xs (d + 1) 225 (ev_M m c w) 25 [] [.int s0] (fr_i c w q0) := by
  unfold fX11_isThere_c25 at h
  exact ev_rg 1 (f := fr_i c w) (fun n => rfl) h
def fX11_isThere_c24 (m : mm_MM) : Option (Int32 × mm_MM) :=
  fX11_isThere_c25 m 0
theorem ok_fX11_isThere_c24 {m : mm_MM} {q0 : Int32 × mm_MM} (h : fX11_isThere_c24 m = some q0) : Ev XL xs (d + 1) 225 (ev_M m c w) 24 [] [] (fr_i c w q0) := by
  unfold fX11_isThere_c24 at h
  refine ev_s 1 (M' := ev_M m c w) (pc' := 25) (lv' := []) (st' := [.int 0]) (fun n => rfl) ?_
  exact ok_fX11_isThere_c25 h
def fX11_isThere (m : mm_MM) (x1 : Int32) : Option (Int32 × mm_MM) :=
  (fX11_in m x1 0 7).bind fun r1 =>
   (if r1.1 = 0 then
     fX11_isThere_c24 r1.2
    else
     (fX11_of r1.2 x1 5).bind fun r3 =>
      (if r3.1 = 1 then
        fX11_isThere_c25 r3.2 1
       else
        fX11_isThere_c24 r3.2))
theorem ok_fX11_isThere {m : mm_MM} {x1 : Int32} {q0 : Int32 × mm_MM} (h : fX11_isThere m x1 = some q0) : Ev XL xs (d + 1) 225 (ev_M m c w) 0 (lv_args 0 [.ref 606, .int x1]) [] (fr_i c w q0) := by
  unfold fX11_isThere at h
  obtain ⟨r1, hr1, h⟩ := Option.bind_eq_some_iff.mp h
  refine ev_c 4 (y' := 178) (M1 := ev_M m c w) (la := lv_args 0 [.int x1, .int 0, .int 7]) (rest := []) (pc' := 7) (lv' := [(0, .ref 606), (1, .int x1)]) (fun n => rfl) (ok_fX11_in hr1) ?_
  show Ev XL xs _ 225 (ev_M r1.2 c w) 7 [(0, .ref 606), (1, .int x1)] [.int r1.1] _
  refine ev_i 1 (M1 := ev_M r1.2 c w) (pc1 := 24) (lv1 := [(0, .ref 606), (1, .int x1)]) (st1 := []) (M2 := ev_M r1.2 c w) (pc2 := 10) (lv2 := [(0, .ref 606), (1, .int x1)]) (st2 := []) (fun n => rfl) h (fun hc2 h => ?_) (fun hc2 h => ?_)
  · refine ev_sub (lv := []) (mn_of rfl (by repeat (first | exact trivial | refine And.intro rfl ?_))) ?_
    exact ok_fX11_isThere_c24 h
  · obtain ⟨r3, hr3, h⟩ := Option.bind_eq_some_iff.mp h
    refine ev_c 4 (y' := 220) (M1 := ev_M r1.2 c w) (la := lv_args 0 [.ref 606, .int x1, .int 5]) (rest := []) (pc' := 16) (lv' := [(0, .ref 606), (1, .int x1)]) (fun n => rfl) (ok_fX11_of hr3) ?_
    show Ev XL xs _ 225 (ev_M r3.2 c w) 16 [(0, .ref 606), (1, .int x1)] [.int r3.1] _
    refine ev_i 2 (M1 := ev_M r3.2 c w) (pc1 := 20) (lv1 := [(0, .ref 606), (1, .int x1)]) (st1 := []) (M2 := ev_M r3.2 c w) (pc2 := 24) (lv2 := [(0, .ref 606), (1, .int x1)]) (st2 := []) (fun n => rfl) h (fun hc4 h => ?_) (fun hc4 h => ?_)
    · refine ev_s 2 (M' := ev_M r3.2 c w) (pc' := 25) (lv' := [(0, .ref 606), (1, .int x1)]) (st' := [.int 1]) (fun n => rfl) ?_
      refine ev_sub (lv := []) (mn_of rfl (by repeat (first | exact trivial | refine And.intro rfl ?_))) ?_
      exact ok_fX11_isThere_c25 h
    · refine ev_sub (lv := []) (mn_of rfl (by repeat (first | exact trivial | refine And.intro rfl ?_))) ?_
      exact ok_fX11_isThere_c24 h
def fX11_doesLie_c23 (m : mm_MM) (s0 : Int32) : Option (Int32 × mm_MM) :=
  (if s0 = 0 ∨ s0 = 1 then some (s0, m) else none)
theorem ok_fX11_doesLie_c23 {m : mm_MM} {s0 : Int32} {q0 : Int32 × mm_MM} (h : fX11_doesLie_c23 m s0 = some q0) : Ev XL xs (d + 2) 226 (ev_M m c w) 23 [] [.int s0] (fr_i c w q0) := by
  unfold fX11_doesLie_c23 at h
  exact ev_rg 1 (f := fr_i c w) (fun n => rfl) h
def fX11_doesLie_c22 (m : mm_MM) : Option (Int32 × mm_MM) :=
  fX11_doesLie_c23 m 0
theorem ok_fX11_doesLie_c22 {m : mm_MM} {q0 : Int32 × mm_MM} (h : fX11_doesLie_c22 m = some q0) : Ev XL xs (d + 2) 226 (ev_M m c w) 22 [] [] (fr_i c w q0) := by
  unfold fX11_doesLie_c22 at h
  refine ev_s 1 (M' := ev_M m c w) (pc' := 23) (lv' := []) (st' := [.int 0]) (fun n => rfl) ?_
  exact ok_fX11_doesLie_c23 h
def fX11_doesLie (m : mm_MM) (x1 : Int32) : Option (Int32 × mm_MM) :=
  (fX11_isThere m x1).bind fun r1 =>
   (if r1.1 = 0 then
     fX11_doesLie_c22 r1.2
    else
     (fX11_of r1.2 x1 2).bind fun r3 =>
      (if r3.1 = ((-1) : Int32) then
        fX11_doesLie_c22 r3.2
       else
        fX11_doesLie_c23 r3.2 1))
theorem ok_fX11_doesLie {m : mm_MM} {x1 : Int32} {q0 : Int32 × mm_MM} (h : fX11_doesLie m x1 = some q0) : Ev XL xs (d + 2) 226 (ev_M m c w) 0 (lv_args 0 [.ref 606, .int x1]) [] (fr_i c w q0) := by
  unfold fX11_doesLie at h
  obtain ⟨r1, hr1, h⟩ := Option.bind_eq_some_iff.mp h
  refine ev_c 3 (y' := 225) (M1 := ev_M m c w) (la := lv_args 0 [.ref 606, .int x1]) (rest := []) (pc' := 5) (lv' := [(0, .ref 606), (1, .int x1)]) (fun n => rfl) (ok_fX11_isThere hr1) ?_
  show Ev XL xs _ 226 (ev_M r1.2 c w) 5 [(0, .ref 606), (1, .int x1)] [.int r1.1] _
  refine ev_i 1 (M1 := ev_M r1.2 c w) (pc1 := 22) (lv1 := [(0, .ref 606), (1, .int x1)]) (st1 := []) (M2 := ev_M r1.2 c w) (pc2 := 8) (lv2 := [(0, .ref 606), (1, .int x1)]) (st2 := []) (fun n => rfl) h (fun hc2 h => ?_) (fun hc2 h => ?_)
  · refine ev_sub (lv := []) (mn_of rfl (by repeat (first | exact trivial | refine And.intro rfl ?_))) ?_
    exact ok_fX11_doesLie_c22 h
  · obtain ⟨r3, hr3, h⟩ := Option.bind_eq_some_iff.mp h
    refine ev_c 4 (y' := 220) (M1 := ev_M r1.2 c w) (la := lv_args 0 [.ref 606, .int x1, .int 2]) (rest := []) (pc' := 14) (lv' := [(0, .ref 606), (1, .int x1)]) (fun n => rfl) (ok_fX11_of hr3) ?_
    show Ev XL xs _ 226 (ev_M r3.2 c w) 14 [(0, .ref 606), (1, .int x1)] [.int r3.1] _
    refine ev_i 2 (M1 := ev_M r3.2 c w) (pc1 := 22) (lv1 := [(0, .ref 606), (1, .int x1)]) (st1 := []) (M2 := ev_M r3.2 c w) (pc2 := 18) (lv2 := [(0, .ref 606), (1, .int x1)]) (st2 := []) (fun n => rfl) h (fun hc4 h => ?_) (fun hc4 h => ?_)
    · refine ev_sub (lv := []) (mn_of rfl (by repeat (first | exact trivial | refine And.intro rfl ?_))) ?_
      exact ok_fX11_doesLie_c22 h
    · refine ev_s 2 (M' := ev_M r3.2 c w) (pc' := 23) (lv' := [(0, .ref 606), (1, .int x1)]) (st' := [.int 1]) (fun n => rfl) ?_
      refine ev_sub (lv := []) (mn_of rfl (by repeat (first | exact trivial | refine And.intro rfl ?_))) ?_
      exact ok_fX11_doesLie_c23 h
def fX11_plots (m : mm_MM) : Option (Int32 × mm_MM) :=
  some ((m.1 620 0 * m.1 620 1), m)
theorem ok_fX11_plots {m : mm_MM} {q0 : Int32 × mm_MM} (h : fX11_plots m = some q0) : Ev XL xs d 227 (ev_M m c w) 0 (lv_args 0 [.ref 606]) [] (fr_i c w q0) := by
  unfold fX11_plots at h
  cases h
  exact ev_r 10 (fun n => rfl)
def fX11_isPlot_c26 (m : mm_MM) (s0 : Int32) : Option (Int32 × mm_MM) :=
  (if s0 = 0 ∨ s0 = 1 then some (s0, m) else none)
theorem ok_fX11_isPlot_c26 {m : mm_MM} {s0 : Int32} {q0 : Int32 × mm_MM} (h : fX11_isPlot_c26 m s0 = some q0) : Ev XL xs (d + 1) 228 (ev_M m c w) 26 [] [.int s0] (fr_i c w q0) := by
  unfold fX11_isPlot_c26 at h
  exact ev_rg 1 (f := fr_i c w) (fun n => rfl) h
def fX11_isPlot_c25 (m : mm_MM) : Option (Int32 × mm_MM) :=
  fX11_isPlot_c26 m 0
theorem ok_fX11_isPlot_c25 {m : mm_MM} {q0 : Int32 × mm_MM} (h : fX11_isPlot_c25 m = some q0) : Ev XL xs (d + 1) 228 (ev_M m c w) 25 [] [] (fr_i c w q0) := by
  unfold fX11_isPlot_c25 at h
  refine ev_s 1 (M' := ev_M m c w) (pc' := 26) (lv' := []) (st' := [.int 0]) (fun n => rfl) ?_
  exact ok_fX11_isPlot_c26 h
def fX11_isPlot (m : mm_MM) (x1 : Int32) : Option (Int32 × mm_MM) :=
  (if m.1 606 26 = 0 then
    fX11_isPlot_c25 m
   else
    (fX11_plots m).bind fun r2 =>
     (fX11_in r2.2 x1 0 (r2.1 - 1)).bind fun r3 =>
      (if r3.1 = 0 then
        fX11_isPlot_c25 r3.2
       else
        fX11_isPlot_c26 r3.2 1))
theorem ok_fX11_isPlot {m : mm_MM} {x1 : Int32} {q0 : Int32 × mm_MM} (h : fX11_isPlot m x1 = some q0) : Ev XL xs (d + 1) 228 (ev_M m c w) 0 (lv_args 0 [.ref 606, .int x1]) [] (fr_i c w q0) := by
  unfold fX11_isPlot at h
  refine ev_i 3 (M1 := ev_M m c w) (pc1 := 25) (lv1 := [(0, .ref 606), (1, .int x1)]) (st1 := []) (M2 := ev_M m c w) (pc2 := 7) (lv2 := [(0, .ref 606), (1, .int x1)]) (st2 := []) (fun n => rfl) h (fun hc1 h => ?_) (fun hc1 h => ?_)
  · refine ev_sub (lv := []) (mn_of rfl (by repeat (first | exact trivial | refine And.intro rfl ?_))) ?_
    exact ok_fX11_isPlot_c25 h
  · obtain ⟨r2, hr2, h⟩ := Option.bind_eq_some_iff.mp h
    refine ev_c 4 (y' := 227) (M1 := ev_M m c w) (la := lv_args 0 [.ref 606]) (rest := [.int 0, .int x1]) (pc' := 13) (lv' := [(0, .ref 606), (1, .int x1)]) (fun n => rfl) (ok_fX11_plots hr2) ?_
    show Ev XL xs _ 228 (ev_M r2.2 c w) 13 [(0, .ref 606), (1, .int x1)] [.int r2.1, .int 0, .int x1] _
    obtain ⟨r3, hr3, h⟩ := Option.bind_eq_some_iff.mp h
    refine ev_c 3 (y' := 178) (M1 := ev_M r2.2 c w) (la := lv_args 0 [.int x1, .int 0, .int (r2.1 - 1)]) (rest := []) (pc' := 18) (lv' := [(0, .ref 606), (1, .int x1)]) (fun n => rfl) (ok_fX11_in hr3) ?_
    show Ev XL xs _ 228 (ev_M r3.2 c w) 18 [(0, .ref 606), (1, .int x1)] [.int r3.1] _
    refine ev_i 1 (M1 := ev_M r3.2 c w) (pc1 := 25) (lv1 := [(0, .ref 606), (1, .int x1)]) (st1 := []) (M2 := ev_M r3.2 c w) (pc2 := 21) (lv2 := [(0, .ref 606), (1, .int x1)]) (st2 := []) (fun n => rfl) h (fun hc4 h => ?_) (fun hc4 h => ?_)
    · refine ev_sub (lv := []) (mn_of rfl (by repeat (first | exact trivial | refine And.intro rfl ?_))) ?_
      exact ok_fX11_isPlot_c25 h
    · refine ev_s 2 (M' := ev_M r3.2 c w) (pc' := 26) (lv' := [(0, .ref 606), (1, .int x1)]) (st' := [.int 1]) (fun n => rfl) ?_
      refine ev_sub (lv := []) (mn_of rfl (by repeat (first | exact trivial | refine And.intro rfl ?_))) ?_
      exact ok_fX11_isPlot_c26 h
def fX11_isRow_c28 (m : mm_MM) (s0 : Int32) : Option (Int32 × mm_MM) :=
  (if s0 = 0 ∨ s0 = 1 then some (s0, m) else none)
theorem ok_fX11_isRow_c28 {m : mm_MM} {s0 : Int32} {q0 : Int32 × mm_MM} (h : fX11_isRow_c28 m s0 = some q0) : Ev XL xs (d + 1) 229 (ev_M m c w) 28 [] [.int s0] (fr_i c w q0) := by
  unfold fX11_isRow_c28 at h
  exact ev_rg 1 (f := fr_i c w) (fun n => rfl) h
def fX11_isRow_c27 (m : mm_MM) : Option (Int32 × mm_MM) :=
  fX11_isRow_c28 m 0
theorem ok_fX11_isRow_c27 {m : mm_MM} {q0 : Int32 × mm_MM} (h : fX11_isRow_c27 m = some q0) : Ev XL xs (d + 1) 229 (ev_M m c w) 27 [] [] (fr_i c w q0) := by
  unfold fX11_isRow_c27 at h
  refine ev_s 1 (M' := ev_M m c w) (pc' := 28) (lv' := []) (st' := [.int 0]) (fun n => rfl) ?_
  exact ok_fX11_isRow_c28 h
def fX11_isRow (m : mm_MM) (x1 : Int32) : Option (Int32 × mm_MM) :=
  (if m.1 606 26 = 0 then
    fX11_isRow_c27 m
   else
    (fX11_in m x1 0 (m.1 620 1 - 1)).bind fun r2 =>
     (if r2.1 = 0 then
       fX11_isRow_c27 r2.2
      else
       fX11_isRow_c28 r2.2 1))
theorem ok_fX11_isRow {m : mm_MM} {x1 : Int32} {q0 : Int32 × mm_MM} (h : fX11_isRow m x1 = some q0) : Ev XL xs (d + 1) 229 (ev_M m c w) 0 (lv_args 0 [.ref 606, .int x1]) [] (fr_i c w q0) := by
  unfold fX11_isRow at h
  refine ev_i 3 (M1 := ev_M m c w) (pc1 := 27) (lv1 := [(0, .ref 606), (1, .int x1)]) (st1 := []) (M2 := ev_M m c w) (pc2 := 7) (lv2 := [(0, .ref 606), (1, .int x1)]) (st2 := []) (fun n => rfl) h (fun hc1 h => ?_) (fun hc1 h => ?_)
  · refine ev_sub (lv := []) (mn_of rfl (by repeat (first | exact trivial | refine And.intro rfl ?_))) ?_
    exact ok_fX11_isRow_c27 h
  · obtain ⟨r2, hr2, h⟩ := Option.bind_eq_some_iff.mp h
    refine ev_c 9 (y' := 178) (M1 := ev_M m c w) (la := lv_args 0 [.int x1, .int 0, .int (m.1 620 1 - 1)]) (rest := []) (pc' := 20) (lv' := [(0, .ref 606), (1, .int x1)]) (fun n => rfl) (ok_fX11_in hr2) ?_
    show Ev XL xs _ 229 (ev_M r2.2 c w) 20 [(0, .ref 606), (1, .int x1)] [.int r2.1] _
    refine ev_i 1 (M1 := ev_M r2.2 c w) (pc1 := 27) (lv1 := [(0, .ref 606), (1, .int x1)]) (st1 := []) (M2 := ev_M r2.2 c w) (pc2 := 23) (lv2 := [(0, .ref 606), (1, .int x1)]) (st2 := []) (fun n => rfl) h (fun hc3 h => ?_) (fun hc3 h => ?_)
    · refine ev_sub (lv := []) (mn_of rfl (by repeat (first | exact trivial | refine And.intro rfl ?_))) ?_
      exact ok_fX11_isRow_c27 h
    · refine ev_s 2 (M' := ev_M r2.2 c w) (pc' := 28) (lv' := [(0, .ref 606), (1, .int x1)]) (st' := [.int 1]) (fun n => rfl) ?_
      refine ev_sub (lv := []) (mn_of rfl (by repeat (first | exact trivial | refine And.intro rfl ?_))) ?_
      exact ok_fX11_isRow_c28 h
def fX11_rowOf (m : mm_MM) (x1 : Int32) : Option (Int32 × mm_MM) :=
  (fX11_of m x1 2).bind fun r1 =>
   (if r1.2.1 620 0 = (0 : Int32) then none else
    some (((r1.1 : Int32) / r1.2.1 620 0), r1.2))
theorem ok_fX11_rowOf {m : mm_MM} {x1 : Int32} {q0 : Int32 × mm_MM} (h : fX11_rowOf m x1 = some q0) : Ev XL xs (d + 1) 230 (ev_M m c w) 0 (lv_args 0 [.ref 606, .int x1]) [] (fr_i c w q0) := by
  unfold fX11_rowOf at h
  obtain ⟨r1, hr1, h⟩ := Option.bind_eq_some_iff.mp h
  refine ev_c 4 (y' := 220) (M1 := ev_M m c w) (la := lv_args 0 [.ref 606, .int x1, .int 2]) (rest := []) (pc' := 6) (lv' := [(0, .ref 606), (1, .int x1)]) (fun n => rfl) (ok_fX11_of hr1) ?_
  show Ev XL xs _ 230 (ev_M r1.2 c w) 6 [(0, .ref 606), (1, .int x1)] [.int r1.1] _
  refine ev_g 5 (M1 := ev_M r1.2 c w) (pc1 := 13) (lv1 := [(0, .ref 606), (1, .int x1)]) (st1 := [.int ((r1.1 : Int32) / r1.2.1 620 0)]) (fun n => rfl) h (fun _ h => ?_)
  cases h
  exact ev_r 1 (fun n => rfl)
def fX11_isRipe_c28 (m : mm_MM) (s0 : Int32) : Option (Int32 × mm_MM) :=
  (if s0 = 0 ∨ s0 = 1 then some (s0, m) else none)
theorem ok_fX11_isRipe_c28 {m : mm_MM} {s0 : Int32} {q0 : Int32 × mm_MM} (h : fX11_isRipe_c28 m s0 = some q0) : Ev XL xs (d + 2) 231 (ev_M m c w) 28 [] [.int s0] (fr_i c w q0) := by
  unfold fX11_isRipe_c28 at h
  exact ev_rg 1 (f := fr_i c w) (fun n => rfl) h
def fX11_isRipe_c27 (m : mm_MM) : Option (Int32 × mm_MM) :=
  fX11_isRipe_c28 m 0
theorem ok_fX11_isRipe_c27 {m : mm_MM} {q0 : Int32 × mm_MM} (h : fX11_isRipe_c27 m = some q0) : Ev XL xs (d + 2) 231 (ev_M m c w) 27 [] [] (fr_i c w q0) := by
  unfold fX11_isRipe_c27 at h
  refine ev_s 1 (M' := ev_M m c w) (pc' := 28) (lv' := []) (st' := [.int 0]) (fun n => rfl) ?_
  exact ok_fX11_isRipe_c28 h
def fX11_isRipe (m : mm_MM) (x1 : Int32) : Option (Int32 × mm_MM) :=
  (fX11_isThere m x1).bind fun r1 =>
   (if r1.1 = 0 then
     fX11_isRipe_c27 r1.2
    else
     (fX11_of r1.2 x1 3).bind fun r3 =>
      (if r3.1 < r3.2.1 620 2 then
        fX11_isRipe_c27 r3.2
       else
        fX11_isRipe_c28 r3.2 1))
theorem ok_fX11_isRipe {m : mm_MM} {x1 : Int32} {q0 : Int32 × mm_MM} (h : fX11_isRipe m x1 = some q0) : Ev XL xs (d + 2) 231 (ev_M m c w) 0 (lv_args 0 [.ref 606, .int x1]) [] (fr_i c w q0) := by
  unfold fX11_isRipe at h
  obtain ⟨r1, hr1, h⟩ := Option.bind_eq_some_iff.mp h
  refine ev_c 3 (y' := 225) (M1 := ev_M m c w) (la := lv_args 0 [.ref 606, .int x1]) (rest := []) (pc' := 5) (lv' := [(0, .ref 606), (1, .int x1)]) (fun n => rfl) (ok_fX11_isThere hr1) ?_
  show Ev XL xs _ 231 (ev_M r1.2 c w) 5 [(0, .ref 606), (1, .int x1)] [.int r1.1] _
  refine ev_i 1 (M1 := ev_M r1.2 c w) (pc1 := 27) (lv1 := [(0, .ref 606), (1, .int x1)]) (st1 := []) (M2 := ev_M r1.2 c w) (pc2 := 8) (lv2 := [(0, .ref 606), (1, .int x1)]) (st2 := []) (fun n => rfl) h (fun hc2 h => ?_) (fun hc2 h => ?_)
  · refine ev_sub (lv := []) (mn_of rfl (by repeat (first | exact trivial | refine And.intro rfl ?_))) ?_
    exact ok_fX11_isRipe_c27 h
  · obtain ⟨r3, hr3, h⟩ := Option.bind_eq_some_iff.mp h
    refine ev_c 4 (y' := 220) (M1 := ev_M r1.2 c w) (la := lv_args 0 [.ref 606, .int x1, .int 3]) (rest := []) (pc' := 14) (lv' := [(0, .ref 606), (1, .int x1)]) (fun n => rfl) (ok_fX11_of hr3) ?_
    show Ev XL xs _ 231 (ev_M r3.2 c w) 14 [(0, .ref 606), (1, .int x1)] [.int r3.1] _
    refine ev_i 5 (M1 := ev_M r3.2 c w) (pc1 := 27) (lv1 := [(0, .ref 606), (1, .int x1)]) (st1 := []) (M2 := ev_M r3.2 c w) (pc2 := 23) (lv2 := [(0, .ref 606), (1, .int x1)]) (st2 := []) (fun n => rfl) h (fun hc4 h => ?_) (fun hc4 h => ?_)
    · refine ev_sub (lv := []) (mn_of rfl (by repeat (first | exact trivial | refine And.intro rfl ?_))) ?_
      exact ok_fX11_isRipe_c27 h
    · refine ev_s 2 (M' := ev_M r3.2 c w) (pc' := 28) (lv' := [(0, .ref 606), (1, .int x1)]) (st' := [.int 1]) (fun n => rfl) ?_
      refine ev_sub (lv := []) (mn_of rfl (by repeat (first | exact trivial | refine And.intro rfl ?_))) ?_
      exact ok_fX11_isRipe_c28 h
def fX11_inPlot_c28 (kr2 : mm_MM → Int32 → Int32 → Option (Int32 × mm_MM)) (m : mm_MM) (x1 : Int32) (x2 : Int32) : Option (Int32 × mm_MM) :=
  kr2 m x1 (x2 + 1)
theorem ok_fX11_inPlot_c28 {kr2 : mm_MM → Int32 → Int32 → Option (Int32 × mm_MM)} (hkr2 : ∀ (m : mm_MM) (x1 : Int32) (x2 : Int32) (q0 : Int32 × mm_MM), kr2 m x1 x2 = some q0 → Ev XL xs (d + 3) 232 (ev_M m c w) 2 [(0, .ref 606), (1, .int x1), (2, .int x2)] [] (fr_i c w q0)) {m : mm_MM} {x1 : Int32} {x2 : Int32} {q0 : Int32 × mm_MM} (h : fX11_inPlot_c28 kr2 m x1 x2 = some q0) : Ev XL xs (d + 3) 232 (ev_M m c w) 28 [(0, .ref 606), (1, .int x1), (2, .int x2)] [] (fr_i c w q0) := by
  unfold fX11_inPlot_c28 at h
  refine ev_s 2 (M' := ev_M m c w) (pc' := 2) (lv' := [(2, .int (x2 + 1)), (0, .ref 606), (1, .int x1)]) (st' := []) (fun n => rfl) ?_
  refine ev_sub (lv := [(0, .ref 606), (1, .int x1), (2, .int (x2 + 1))]) (mn_of rfl (by repeat (first | exact trivial | refine And.intro rfl ?_))) ?_
  exact hkr2 _ _ _ _ h
def fX11_inPlot_c2 : Nat → mm_MM → Int32 → Int32 → Option (Int32 × mm_MM)
  | 0 => fun _ _ _ => none
  | n + 1 => fun m x1 x2 =>
    (if x2 < 8 then
      (fX11_doesLie m x2).bind fun r2 =>
       (if r2.1 = 0 then
         fX11_inPlot_c28 (fX11_inPlot_c2 n) r2.2 x1 x2
        else
         (fX11_of r2.2 x2 2).bind fun r4 =>
          (if r4.1 = x1 then
            some (x2, r4.2)
           else
            fX11_inPlot_c28 (fX11_inPlot_c2 n) r4.2 x1 x2))
     else
      some (((-1) : Int32), m))
theorem ok_fX11_inPlot_c2 : ∀ (n : Nat) (m : mm_MM) (x1 : Int32) (x2 : Int32) (q0 : Int32 × mm_MM), fX11_inPlot_c2 n m x1 x2 = some q0 → Ev XL xs (d + 3) 232 (ev_M m c w) 2 [(0, .ref 606), (1, .int x1), (2, .int x2)] [] (fr_i c w q0) := by
  intro n
  induction n with
  | zero => intro m x1 x2 q0 h; exact absurd (show (none : Option (Int32 × mm_MM)) = some q0 from h) (by simp)
  | succ n ih =>
    intro m x1 x2 q0 h
    unfold fX11_inPlot_c2 at h
    refine ev_i 3 (M1 := ev_M m c w) (pc1 := 8) (lv1 := [(0, .ref 606), (1, .int x1), (2, .int x2)]) (st1 := []) (M2 := ev_M m c w) (pc2 := 34) (lv2 := [(0, .ref 606), (1, .int x1), (2, .int x2)]) (st2 := []) (fun n => rfl) h (fun hc1 h => ?_) (fun hc1 h => ?_)
    · obtain ⟨r2, hr2, h⟩ := Option.bind_eq_some_iff.mp h
      refine ev_c 3 (y' := 226) (M1 := ev_M m c w) (la := lv_args 0 [.ref 606, .int x2]) (rest := []) (pc' := 13) (lv' := [(0, .ref 606), (1, .int x1), (2, .int x2)]) (fun n => rfl) (ok_fX11_doesLie hr2) ?_
      show Ev XL xs _ 232 (ev_M r2.2 c w) 13 [(0, .ref 606), (1, .int x1), (2, .int x2)] [.int r2.1] _
      refine ev_i 1 (M1 := ev_M r2.2 c w) (pc1 := 28) (lv1 := [(0, .ref 606), (1, .int x1), (2, .int x2)]) (st1 := []) (M2 := ev_M r2.2 c w) (pc2 := 16) (lv2 := [(0, .ref 606), (1, .int x1), (2, .int x2)]) (st2 := []) (fun n => rfl) h (fun hc3 h => ?_) (fun hc3 h => ?_)
      · exact ok_fX11_inPlot_c28 ih h
      · obtain ⟨r4, hr4, h⟩ := Option.bind_eq_some_iff.mp h
        refine ev_c 4 (y' := 220) (M1 := ev_M r2.2 c w) (la := lv_args 0 [.ref 606, .int x2, .int 2]) (rest := []) (pc' := 22) (lv' := [(0, .ref 606), (1, .int x1), (2, .int x2)]) (fun n => rfl) (ok_fX11_of hr4) ?_
        show Ev XL xs _ 232 (ev_M r4.2 c w) 22 [(0, .ref 606), (1, .int x1), (2, .int x2)] [.int r4.1] _
        refine ev_i 2 (M1 := ev_M r4.2 c w) (pc1 := 26) (lv1 := [(0, .ref 606), (1, .int x1), (2, .int x2)]) (st1 := []) (M2 := ev_M r4.2 c w) (pc2 := 28) (lv2 := [(0, .ref 606), (1, .int x1), (2, .int x2)]) (st2 := []) (fun n => rfl) h (fun hc5 h => ?_) (fun hc5 h => ?_)
        · cases h
          exact ev_r 2 (fun n => rfl)
        · exact ok_fX11_inPlot_c28 ih h
    · cases h
      exact ev_r 2 (fun n => rfl)
def fX11_inPlot (m : mm_MM) (x1 : Int32) : Option (Int32 × mm_MM) :=
  fX11_inPlot_c2 fu m x1 0
theorem ok_fX11_inPlot {m : mm_MM} {x1 : Int32} {q0 : Int32 × mm_MM} (h : fX11_inPlot m x1 = some q0) : Ev XL xs (d + 3) 232 (ev_M m c w) 0 (lv_args 0 [.ref 606, .int x1]) [] (fr_i c w q0) := by
  unfold fX11_inPlot at h
  refine ev_s 2 (M' := ev_M m c w) (pc' := 2) (lv' := [(2, .int 0), (0, .ref 606), (1, .int x1)]) (st' := []) (fun n => rfl) ?_
  refine ev_sub (lv := [(0, .ref 606), (1, .int x1), (2, .int 0)]) (mn_of rfl (by repeat (first | exact trivial | refine And.intro rfl ?_))) ?_
  exact ok_fX11_inPlot_c2 fu _ _ _ _ h
def fX11_stepsFrom (m : mm_MM) (x1 : Int32) (x2 : Int32) : Option (Int32 × mm_MM) :=
  (if m.1 620 0 = (0 : Int32) then none else
   (if m.1 620 0 = (0 : Int32) then none else
    (fJ9_abs_0f7a4 m (((x1 : Int32) - x1 / m.1 620 0 * m.1 620 0) - ((x2 : Int32) - x2 / m.1 620 0 * m.1 620 0))).bind fun r1 =>
     (if r1.2.1 620 0 = (0 : Int32) then none else
      (if r1.2.1 620 0 = (0 : Int32) then none else
       (fJ9_abs_0f7a4 r1.2 (((x1 : Int32) / r1.2.1 620 0) - ((x2 : Int32) / r1.2.1 620 0))).bind fun r2 =>
        some ((r1.1 + r2.1), r2.2)))))
theorem ok_fX11_stepsFrom {m : mm_MM} {x1 : Int32} {x2 : Int32} {q0 : Int32 × mm_MM} (h : fX11_stepsFrom m x1 x2 = some q0) : Ev XL xs (d + 1) 233 (ev_M m c w) 0 (lv_args 0 [.ref 606, .int x1, .int x2]) [] (fr_i c w q0) := by
  unfold fX11_stepsFrom at h
  refine ev_g 6 (M1 := ev_M m c w) (pc1 := 8) (lv1 := [(0, .ref 606), (1, .int x1), (2, .int x2)]) (st1 := [.int ((x1 : Int32) - x1 / m.1 620 0 * m.1 620 0)]) (fun n => rfl) h (fun _ h => ?_)
  refine ev_g 6 (M1 := ev_M m c w) (pc1 := 16) (lv1 := [(0, .ref 606), (1, .int x1), (2, .int x2)]) (st1 := [.int ((x2 : Int32) - x2 / m.1 620 0 * m.1 620 0), .int ((x1 : Int32) - x1 / m.1 620 0 * m.1 620 0)]) (fun n => rfl) h (fun _ h => ?_)
  obtain ⟨r1, hr1, h⟩ := Option.bind_eq_some_iff.mp h
  refine ev_c 2 (y' := 305) (M1 := ev_M m c w) (la := lv_args 0 [.int (((x1 : Int32) - x1 / m.1 620 0 * m.1 620 0) - ((x2 : Int32) - x2 / m.1 620 0 * m.1 620 0))]) (rest := []) (pc' := 20) (lv' := [(0, .ref 606), (1, .int x1), (2, .int x2)]) (fun n => rfl) (ok_fJ9_abs_0f7a4 hr1) ?_
  show Ev XL xs _ 233 (ev_M r1.2 c w) 20 [(0, .ref 606), (1, .int x1), (2, .int x2)] [.int r1.1] _
  refine ev_g 6 (M1 := ev_M r1.2 c w) (pc1 := 28) (lv1 := [(0, .ref 606), (1, .int x1), (2, .int x2)]) (st1 := [.int ((x1 : Int32) / r1.2.1 620 0), .int r1.1]) (fun n => rfl) h (fun _ h => ?_)
  refine ev_g 6 (M1 := ev_M r1.2 c w) (pc1 := 36) (lv1 := [(0, .ref 606), (1, .int x1), (2, .int x2)]) (st1 := [.int ((x2 : Int32) / r1.2.1 620 0), .int ((x1 : Int32) / r1.2.1 620 0), .int r1.1]) (fun n => rfl) h (fun _ h => ?_)
  obtain ⟨r2, hr2, h⟩ := Option.bind_eq_some_iff.mp h
  refine ev_c 2 (y' := 305) (M1 := ev_M r1.2 c w) (la := lv_args 0 [.int (((x1 : Int32) / r1.2.1 620 0) - ((x2 : Int32) / r1.2.1 620 0))]) (rest := [.int r1.1]) (pc' := 40) (lv' := [(0, .ref 606), (1, .int x1), (2, .int x2)]) (fun n => rfl) (ok_fJ9_abs_0f7a4 hr2) ?_
  show Ev XL xs _ 233 (ev_M r2.2 c w) 40 [(0, .ref 606), (1, .int x1), (2, .int x2)] [.int r2.1, .int r1.1] _
  cases h
  exact ev_r 2 (fun n => rfl)
def fX11_besideOf_c49 (kr4 : mm_MM → Int32 → Int32 → Int32 → Option (Int32 × mm_MM)) (m : mm_MM) (x1 : Int32) (x3 : Int32) (s0 : Int32) (s1 : Int32) : Option (Int32 × mm_MM) :=
  kr4 m x1 (s0 + s1) (x3 + 1)
theorem ok_fX11_besideOf_c49 {kr4 : mm_MM → Int32 → Int32 → Int32 → Option (Int32 × mm_MM)} (hkr4 : ∀ (m : mm_MM) (x1 : Int32) (x2 : Int32) (x3 : Int32) (q0 : Int32 × mm_MM), kr4 m x1 x2 x3 = some q0 → Ev XL xs (d + 3) 234 (ev_M m c w) 4 [(0, .ref 606), (1, .int x1), (2, .int x2), (3, .int x3)] [] (fr_i c w q0)) {m : mm_MM} {x1 : Int32} {x3 : Int32} {s0 : Int32} {s1 : Int32} {q0 : Int32 × mm_MM} (h : fX11_besideOf_c49 kr4 m x1 x3 s0 s1 = some q0) : Ev XL xs (d + 3) 234 (ev_M m c w) 49 [(0, .ref 606), (1, .int x1), (3, .int x3)] [.int s1, .int s0] (fr_i c w q0) := by
  unfold fX11_besideOf_c49 at h
  refine ev_s 4 (M' := ev_M m c w) (pc' := 4) (lv' := [(3, .int (x3 + 1)), (2, .int (s0 + s1)), (0, .ref 606), (1, .int x1)]) (st' := []) (fun n => rfl) ?_
  refine ev_sub (lv := [(0, .ref 606), (1, .int x1), (2, .int (s0 + s1)), (3, .int (x3 + 1))]) (mn_of rfl (by repeat (first | exact trivial | refine And.intro rfl ?_))) ?_
  exact hkr4 _ _ _ _ _ h
def fX11_besideOf_c48 (kr4 : mm_MM → Int32 → Int32 → Int32 → Option (Int32 × mm_MM)) (m : mm_MM) (x1 : Int32) (x3 : Int32) (s0 : Int32) : Option (Int32 × mm_MM) :=
  fX11_besideOf_c49 kr4 m x1 x3 s0 0
theorem ok_fX11_besideOf_c48 {kr4 : mm_MM → Int32 → Int32 → Int32 → Option (Int32 × mm_MM)} (hkr4 : ∀ (m : mm_MM) (x1 : Int32) (x2 : Int32) (x3 : Int32) (q0 : Int32 × mm_MM), kr4 m x1 x2 x3 = some q0 → Ev XL xs (d + 3) 234 (ev_M m c w) 4 [(0, .ref 606), (1, .int x1), (2, .int x2), (3, .int x3)] [] (fr_i c w q0)) {m : mm_MM} {x1 : Int32} {x3 : Int32} {s0 : Int32} {q0 : Int32 × mm_MM} (h : fX11_besideOf_c48 kr4 m x1 x3 s0 = some q0) : Ev XL xs (d + 3) 234 (ev_M m c w) 48 [(0, .ref 606), (1, .int x1), (3, .int x3)] [.int s0] (fr_i c w q0) := by
  unfold fX11_besideOf_c48 at h
  refine ev_s 1 (M' := ev_M m c w) (pc' := 49) (lv' := [(0, .ref 606), (1, .int x1), (3, .int x3)]) (st' := [.int 0, .int s0]) (fun n => rfl) ?_
  exact ok_fX11_besideOf_c49 hkr4 h
def fX11_besideOf_c4 : Nat → mm_MM → Int32 → Int32 → Int32 → Option (Int32 × mm_MM)
  | 0 => fun _ _ _ _ => none
  | n + 1 => fun m x1 x2 x3 =>
    (if x3 < 8 then
      (if x3 = x1 then
        fX11_besideOf_c48 (fX11_besideOf_c4 n) m x1 x3 x2
       else
        (fX11_doesLie m x3).bind fun r3 =>
         (if r3.1 = 0 then
           fX11_besideOf_c48 (fX11_besideOf_c4 n) r3.2 x1 x3 x2
          else
           (fX11_of r3.2 x1 2).bind fun r5 =>
            (fX11_of r5.2 x3 2).bind fun r6 =>
             (fX11_stepsFrom r6.2 r5.1 r6.1).bind fun r7 =>
              (if r7.1 = 1 then
                fX11_besideOf_c49 (fX11_besideOf_c4 n) r7.2 x1 x3 x2 1
               else
                fX11_besideOf_c48 (fX11_besideOf_c4 n) r7.2 x1 x3 x2)))
     else
      some (x2, m))
theorem ok_fX11_besideOf_c4 : ∀ (n : Nat) (m : mm_MM) (x1 : Int32) (x2 : Int32) (x3 : Int32) (q0 : Int32 × mm_MM), fX11_besideOf_c4 n m x1 x2 x3 = some q0 → Ev XL xs (d + 3) 234 (ev_M m c w) 4 [(0, .ref 606), (1, .int x1), (2, .int x2), (3, .int x3)] [] (fr_i c w q0) := by
  intro n
  induction n with
  | zero => intro m x1 x2 x3 q0 h; exact absurd (show (none : Option (Int32 × mm_MM)) = some q0 from h) (by simp)
  | succ n ih =>
    intro m x1 x2 x3 q0 h
    unfold fX11_besideOf_c4 at h
    refine ev_i 3 (M1 := ev_M m c w) (pc1 := 10) (lv1 := [(0, .ref 606), (1, .int x1), (2, .int x2), (3, .int x3)]) (st1 := []) (M2 := ev_M m c w) (pc2 := 57) (lv2 := [(0, .ref 606), (1, .int x1), (2, .int x2), (3, .int x3)]) (st2 := []) (fun n => rfl) h (fun hc1 h => ?_) (fun hc1 h => ?_)
    · refine ev_i 4 (M1 := ev_M m c w) (pc1 := 48) (lv1 := [(0, .ref 606), (1, .int x1), (2, .int x2), (3, .int x3)]) (st1 := [.int x2]) (M2 := ev_M m c w) (pc2 := 16) (lv2 := [(0, .ref 606), (1, .int x1), (2, .int x2), (3, .int x3)]) (st2 := [.int x2]) (fun n => rfl) h (fun hc2 h => ?_) (fun hc2 h => ?_)
      · refine ev_sub (lv := [(0, .ref 606), (1, .int x1), (3, .int x3)]) (mn_of rfl (by repeat (first | exact trivial | refine And.intro rfl ?_))) ?_
        exact ok_fX11_besideOf_c48 ih h
      · obtain ⟨r3, hr3, h⟩ := Option.bind_eq_some_iff.mp h
        refine ev_c 3 (y' := 226) (M1 := ev_M m c w) (la := lv_args 0 [.ref 606, .int x3]) (rest := [.int x2]) (pc' := 21) (lv' := [(0, .ref 606), (1, .int x1), (2, .int x2), (3, .int x3)]) (fun n => rfl) (ok_fX11_doesLie hr3) ?_
        show Ev XL xs _ 234 (ev_M r3.2 c w) 21 [(0, .ref 606), (1, .int x1), (2, .int x2), (3, .int x3)] [.int r3.1, .int x2] _
        refine ev_i 1 (M1 := ev_M r3.2 c w) (pc1 := 48) (lv1 := [(0, .ref 606), (1, .int x1), (2, .int x2), (3, .int x3)]) (st1 := [.int x2]) (M2 := ev_M r3.2 c w) (pc2 := 24) (lv2 := [(0, .ref 606), (1, .int x1), (2, .int x2), (3, .int x3)]) (st2 := [.int x2]) (fun n => rfl) h (fun hc4 h => ?_) (fun hc4 h => ?_)
        · refine ev_sub (lv := [(0, .ref 606), (1, .int x1), (3, .int x3)]) (mn_of rfl (by repeat (first | exact trivial | refine And.intro rfl ?_))) ?_
          exact ok_fX11_besideOf_c48 ih h
        · obtain ⟨r5, hr5, h⟩ := Option.bind_eq_some_iff.mp h
          refine ev_c 5 (y' := 220) (M1 := ev_M r3.2 c w) (la := lv_args 0 [.ref 606, .int x1, .int 2]) (rest := [.ref 606, .int x2]) (pc' := 31) (lv' := [(0, .ref 606), (1, .int x1), (2, .int x2), (3, .int x3)]) (fun n => rfl) (ok_fX11_of hr5) ?_
          show Ev XL xs _ 234 (ev_M r5.2 c w) 31 [(0, .ref 606), (1, .int x1), (2, .int x2), (3, .int x3)] [.int r5.1, .ref 606, .int x2] _
          obtain ⟨r6, hr6, h⟩ := Option.bind_eq_some_iff.mp h
          refine ev_c 4 (y' := 220) (M1 := ev_M r5.2 c w) (la := lv_args 0 [.ref 606, .int x3, .int 2]) (rest := [.int r5.1, .ref 606, .int x2]) (pc' := 37) (lv' := [(0, .ref 606), (1, .int x1), (2, .int x2), (3, .int x3)]) (fun n => rfl) (ok_fX11_of hr6) ?_
          show Ev XL xs _ 234 (ev_M r6.2 c w) 37 [(0, .ref 606), (1, .int x1), (2, .int x2), (3, .int x3)] [.int r6.1, .int r5.1, .ref 606, .int x2] _
          obtain ⟨r7, hr7, h⟩ := Option.bind_eq_some_iff.mp h
          refine ev_c 1 (y' := 233) (M1 := ev_M r6.2 c w) (la := lv_args 0 [.ref 606, .int r5.1, .int r6.1]) (rest := [.int x2]) (pc' := 40) (lv' := [(0, .ref 606), (1, .int x1), (2, .int x2), (3, .int x3)]) (fun n => rfl) (ok_fX11_stepsFrom hr7) ?_
          show Ev XL xs _ 234 (ev_M r7.2 c w) 40 [(0, .ref 606), (1, .int x1), (2, .int x2), (3, .int x3)] [.int r7.1, .int x2] _
          refine ev_i 2 (M1 := ev_M r7.2 c w) (pc1 := 44) (lv1 := [(0, .ref 606), (1, .int x1), (2, .int x2), (3, .int x3)]) (st1 := [.int x2]) (M2 := ev_M r7.2 c w) (pc2 := 48) (lv2 := [(0, .ref 606), (1, .int x1), (2, .int x2), (3, .int x3)]) (st2 := [.int x2]) (fun n => rfl) h (fun hc8 h => ?_) (fun hc8 h => ?_)
          · refine ev_s 2 (M' := ev_M r7.2 c w) (pc' := 49) (lv' := [(0, .ref 606), (1, .int x1), (2, .int x2), (3, .int x3)]) (st' := [.int 1, .int x2]) (fun n => rfl) ?_
            refine ev_sub (lv := [(0, .ref 606), (1, .int x1), (3, .int x3)]) (mn_of rfl (by repeat (first | exact trivial | refine And.intro rfl ?_))) ?_
            exact ok_fX11_besideOf_c49 ih h
          · refine ev_sub (lv := [(0, .ref 606), (1, .int x1), (3, .int x3)]) (mn_of rfl (by repeat (first | exact trivial | refine And.intro rfl ?_))) ?_
            exact ok_fX11_besideOf_c48 ih h
    · cases h
      exact ev_r 2 (fun n => rfl)
def fX11_besideOf (m : mm_MM) (x1 : Int32) : Option (Int32 × mm_MM) :=
  fX11_besideOf_c4 fu m x1 0 0
theorem ok_fX11_besideOf {m : mm_MM} {x1 : Int32} {q0 : Int32 × mm_MM} (h : fX11_besideOf m x1 = some q0) : Ev XL xs (d + 3) 234 (ev_M m c w) 0 (lv_args 0 [.ref 606, .int x1]) [] (fr_i c w q0) := by
  unfold fX11_besideOf at h
  refine ev_s 4 (M' := ev_M m c w) (pc' := 4) (lv' := [(3, .int 0), (2, .int 0), (0, .ref 606), (1, .int x1)]) (st' := []) (fun n => rfl) ?_
  refine ev_sub (lv := [(0, .ref 606), (1, .int x1), (2, .int 0), (3, .int 0)]) (mn_of rfl (by repeat (first | exact trivial | refine And.intro rfl ?_))) ?_
  exact ok_fX11_besideOf_c4 fu _ _ _ _ _ h
def fX11_growthBy_c127 (m : mm_MM) (x4 : Int32) : Option (Int32 × mm_MM) :=
  (fJ9_min_7cf53 m 9 x4).bind fun r1 =>
   (fJ9_max_7cf53 r1.2 ((-9) : Int32) r1.1).bind fun r2 =>
    some (r2.1, r2.2)
set_option maxRecDepth 20000 in
theorem ok_fX11_growthBy_c127 {m : mm_MM} {x4 : Int32} {q0 : Int32 × mm_MM} (h : fX11_growthBy_c127 m x4 = some q0) : Ev XL xs (d + 5) 235 (ev_M m c w) 127 [(4, .int x4)] [] (fr_i c w q0) := by
  unfold fX11_growthBy_c127 at h
  obtain ⟨r1, hr1, h⟩ := Option.bind_eq_some_iff.mp h
  refine ev_c 4 (y' := 308) (M1 := ev_M m c w) (la := lv_args 0 [.int 9, .int x4]) (rest := [.int ((-9) : Int32)]) (pc' := 136) (lv' := [(4, .int x4)]) (fun n => rfl) (ok_fJ9_min_7cf53 hr1) ?_
  show Ev XL xs _ 235 (ev_M r1.2 c w) 136 [(4, .int x4)] [.int r1.1, .int ((-9) : Int32)] _
  obtain ⟨r2, hr2, h⟩ := Option.bind_eq_some_iff.mp h
  refine ev_c 1 (y' := 306) (M1 := ev_M r1.2 c w) (la := lv_args 0 [.int ((-9) : Int32), .int r1.1]) (rest := []) (pc' := 139) (lv' := [(4, .int x4)]) (fun n => rfl) (ok_fJ9_max_7cf53 hr2) ?_
  show Ev XL xs _ 235 (ev_M r2.2 c w) 139 [(4, .int x4)] [.int r2.1] _
  cases h
  exact ev_r 1 (fun n => rfl)
def fX11_growthBy_c42 (m : mm_MM) (x1 : Int32) (x2 : Int32) (x3 : Int32) (s0 : Int32) : Option (Int32 × mm_MM) :=
  (if m.1 606 29 = ((-1) : Int32) then
    fX11_growthBy_c127 m s0
   else
    (fX11_of m x1 0).bind fun r2 =>
     (fX11_of (wI r2.2 615 0 r2.1) x1 1).bind fun r3 =>
      (fX11_besideOf (wI (wI (wI r3.2 615 1 r3.1) 615 2 x2) 615 3 x3) x1).bind fun r4 =>
       (fX11_worthOf (wI (wI r4.2 615 4 r4.1) 615 5 ((r4.2.1 623 49 : Int32) - r4.2.1 623 49 / 12 * 12)) (r4.2.1 606 29)).bind fun r5 =>
        fX11_growthBy_c127 r5.2 r5.1)
set_option maxRecDepth 20000 in
theorem ok_fX11_growthBy_c42 {m : mm_MM} {x1 : Int32} {x2 : Int32} {x3 : Int32} {s0 : Int32} {q0 : Int32 × mm_MM} (h : fX11_growthBy_c42 m x1 x2 x3 s0 = some q0) : Ev XL xs (d + 5) 235 (ev_M m c w) 42 [(0, .ref 606), (1, .int x1), (2, .int x2), (3, .int x3)] [.int s0] (fr_i c w q0) := by
  unfold fX11_growthBy_c42 at h
  refine ev_i 5 (M1 := ev_M m c w) (pc1 := 127) (lv1 := [(4, .int s0), (0, .ref 606), (1, .int x1), (2, .int x2), (3, .int x3)]) (st1 := []) (M2 := ev_M m c w) (pc2 := 52) (lv2 := [(4, .int s0), (0, .ref 606), (1, .int x1), (2, .int x2), (3, .int x3)]) (st2 := []) (fun n => rfl) h (fun hc1 h => ?_) (fun hc1 h => ?_)
  · refine ev_sub (lv := [(4, .int s0)]) (mn_of rfl (by repeat (first | exact trivial | refine And.intro rfl ?_))) ?_
    exact ok_fX11_growthBy_c127 h
  · obtain ⟨r2, hr2, h⟩ := Option.bind_eq_some_iff.mp h
    refine ev_c 7 (y' := 220) (M1 := ev_M m c w) (la := lv_args 0 [.ref 606, .int x1, .int 0]) (rest := [.int 0, .ref 615]) (pc' := 63) (lv' := [(4, .int s0), (0, .ref 606), (1, .int x1), (2, .int x2), (3, .int x3)]) (fun n => rfl) (ok_fX11_of hr2) ?_
    show Ev XL xs _ 235 (ev_M r2.2 c w) 63 [(4, .int s0), (0, .ref 606), (1, .int x1), (2, .int x2), (3, .int x3)] [.int r2.1, .int 0, .ref 615] _
    obtain ⟨r3, hr3, h⟩ := Option.bind_eq_some_iff.mp h
    refine ev_c 8 (y' := 220) (M1 := ev_M (wI r2.2 615 0 r2.1) c w) (la := lv_args 0 [.ref 606, .int x1, .int 1]) (rest := [.int 1, .ref 615]) (pc' := 75) (lv' := [(4, .int s0), (0, .ref 606), (1, .int x1), (2, .int x2), (3, .int x3)]) (fun n => rfl) (ok_fX11_of hr3) ?_
    show Ev XL xs _ 235 (ev_M r3.2 c w) 75 [(4, .int s0), (0, .ref 606), (1, .int x1), (2, .int x2), (3, .int x3)] [.int r3.1, .int 1, .ref 615] _
    obtain ⟨r4, hr4, h⟩ := Option.bind_eq_some_iff.mp h
    refine ev_c 17 (y' := 234) (M1 := ev_M (wI (wI (wI r3.2 615 1 r3.1) 615 2 x2) 615 3 x3) c w) (la := lv_args 0 [.ref 606, .int x1]) (rest := [.int 4, .ref 615]) (pc' := 100) (lv' := [(4, .int s0), (0, .ref 606), (1, .int x1), (2, .int x2), (3, .int x3)]) (fun n => rfl) (ok_fX11_besideOf hr4) ?_
    show Ev XL xs _ 235 (ev_M r4.2 c w) 100 [(4, .int s0), (0, .ref 606), (1, .int x1), (2, .int x2), (3, .int x3)] [.int r4.1, .int 4, .ref 615] _
    obtain ⟨r5, hr5, h⟩ := Option.bind_eq_some_iff.mp h
    refine ev_c 15 (y' := 210) (M1 := ev_M (wI (wI r4.2 615 4 r4.1) 615 5 ((r4.2.1 623 49 : Int32) - r4.2.1 623 49 / 12 * 12)) c w) (la := lv_args 0 [.ref 606, .int (r4.2.1 606 29)]) (rest := []) (pc' := 125) (lv' := [(4, .int s0), (0, .ref 606), (1, .int x1), (2, .int x2), (3, .int x3)]) (fun n => rfl) (ok_fX11_worthOf hr5) ?_
    show Ev XL xs _ 235 (ev_M r5.2 c w) 125 [(4, .int s0), (0, .ref 606), (1, .int x1), (2, .int x2), (3, .int x3)] [.int r5.1] _
    refine ev_s 1 (M' := ev_M r5.2 c w) (pc' := 127) (lv' := [(4, .int r5.1), (0, .ref 606), (1, .int x1), (2, .int x2), (3, .int x3)]) (st' := []) (fun n => rfl) ?_
    refine ev_sub (lv := [(4, .int r5.1)]) (mn_of rfl (by repeat (first | exact trivial | refine And.intro rfl ?_))) ?_
    exact ok_fX11_growthBy_c127 h
def fX11_growthBy (m : mm_MM) (x1 : Int32) (x2 : Int32) : Option (Int32 × mm_MM) :=
  (fX11_of m x1 3).bind fun r1 =>
   (fX11_isRipe r1.2 x1).bind fun r2 =>
    (if r2.1 = 0 then
      (fX11_of r2.2 x1 1).bind fun r4 =>
       (if x2 ≤ r4.1 then
         fX11_growthBy_c42 r4.2 x1 x2 r1.1 1
        else
         fX11_growthBy_c42 r4.2 x1 x2 r1.1 2)
     else
      (if r2.2.1 620 2 = (0 : Int32) then none else
       fX11_growthBy_c42 r2.2 x1 x2 r1.1 (-((r1.1 : Int32) / r2.2.1 620 2))))
set_option maxRecDepth 20000 in
theorem ok_fX11_growthBy {m : mm_MM} {x1 : Int32} {x2 : Int32} {q0 : Int32 × mm_MM} (h : fX11_growthBy m x1 x2 = some q0) : Ev XL xs (d + 5) 235 (ev_M m c w) 0 (lv_args 0 [.ref 606, .int x1, .int x2]) [] (fr_i c w q0) := by
  unfold fX11_growthBy at h
  obtain ⟨r1, hr1, h⟩ := Option.bind_eq_some_iff.mp h
  refine ev_c 4 (y' := 220) (M1 := ev_M m c w) (la := lv_args 0 [.ref 606, .int x1, .int 3]) (rest := []) (pc' := 6) (lv' := [(0, .ref 606), (1, .int x1), (2, .int x2)]) (fun n => rfl) (ok_fX11_of hr1) ?_
  show Ev XL xs _ 235 (ev_M r1.2 c w) 6 [(0, .ref 606), (1, .int x1), (2, .int x2)] [.int r1.1] _
  obtain ⟨r2, hr2, h⟩ := Option.bind_eq_some_iff.mp h
  refine ev_c 4 (y' := 231) (M1 := ev_M r1.2 c w) (la := lv_args 0 [.ref 606, .int x1]) (rest := []) (pc' := 12) (lv' := [(3, .int r1.1), (0, .ref 606), (1, .int x1), (2, .int x2)]) (fun n => rfl) (ok_fX11_isRipe hr2) ?_
  show Ev XL xs _ 235 (ev_M r2.2 c w) 12 [(3, .int r1.1), (0, .ref 606), (1, .int x1), (2, .int x2)] [.int r2.1] _
  refine ev_i 1 (M1 := ev_M r2.2 c w) (pc1 := 27) (lv1 := [(3, .int r1.1), (0, .ref 606), (1, .int x1), (2, .int x2)]) (st1 := []) (M2 := ev_M r2.2 c w) (pc2 := 15) (lv2 := [(3, .int r1.1), (0, .ref 606), (1, .int x1), (2, .int x2)]) (st2 := []) (fun n => rfl) h (fun hc3 h => ?_) (fun hc3 h => ?_)
  · obtain ⟨r4, hr4, h⟩ := Option.bind_eq_some_iff.mp h
    refine ev_c 5 (y' := 220) (M1 := ev_M r2.2 c w) (la := lv_args 0 [.ref 606, .int x1, .int 1]) (rest := [.int x2]) (pc' := 34) (lv' := [(3, .int r1.1), (0, .ref 606), (1, .int x1), (2, .int x2)]) (fun n => rfl) (ok_fX11_of hr4) ?_
    show Ev XL xs _ 235 (ev_M r4.2 c w) 34 [(3, .int r1.1), (0, .ref 606), (1, .int x1), (2, .int x2)] [.int r4.1, .int x2] _
    refine ev_i 1 (M1 := ev_M r4.2 c w) (pc1 := 41) (lv1 := [(3, .int r1.1), (0, .ref 606), (1, .int x1), (2, .int x2)]) (st1 := []) (M2 := ev_M r4.2 c w) (pc2 := 37) (lv2 := [(3, .int r1.1), (0, .ref 606), (1, .int x1), (2, .int x2)]) (st2 := []) (fun n => rfl) h (fun hc5 h => ?_) (fun hc5 h => ?_)
    · refine ev_s 1 (M' := ev_M r4.2 c w) (pc' := 42) (lv' := [(3, .int r1.1), (0, .ref 606), (1, .int x1), (2, .int x2)]) (st' := [.int 1]) (fun n => rfl) ?_
      refine ev_sub (lv := [(0, .ref 606), (1, .int x1), (2, .int x2), (3, .int r1.1)]) (mn_of rfl (by repeat (first | exact trivial | refine And.intro rfl ?_))) ?_
      exact ok_fX11_growthBy_c42 h
    · refine ev_s 2 (M' := ev_M r4.2 c w) (pc' := 42) (lv' := [(3, .int r1.1), (0, .ref 606), (1, .int x1), (2, .int x2)]) (st' := [.int 2]) (fun n => rfl) ?_
      refine ev_sub (lv := [(0, .ref 606), (1, .int x1), (2, .int x2), (3, .int r1.1)]) (mn_of rfl (by repeat (first | exact trivial | refine And.intro rfl ?_))) ?_
      exact ok_fX11_growthBy_c42 h
  · refine ev_g 6 (M1 := ev_M r2.2 c w) (pc1 := 23) (lv1 := [(3, .int r1.1), (0, .ref 606), (1, .int x1), (2, .int x2)]) (st1 := [.int ((r1.1 : Int32) / r2.2.1 620 2)]) (fun n => rfl) h (fun _ h => ?_)
    refine ev_s 2 (M' := ev_M r2.2 c w) (pc' := 42) (lv' := [(3, .int r1.1), (0, .ref 606), (1, .int x1), (2, .int x2)]) (st' := [.int (-((r1.1 : Int32) / r2.2.1 620 2))]) (fun n => rfl) ?_
    refine ev_sub (lv := [(0, .ref 606), (1, .int x1), (2, .int x2), (3, .int r1.1)]) (mn_of rfl (by repeat (first | exact trivial | refine And.intro rfl ?_))) ?_
    exact ok_fX11_growthBy_c42 h
def fX11_live_c40 (kr2 : mm_MM → Int32 → Option (mm_MM)) (m : mm_MM) (x1 : Int32) (s1 : Int32) (s2 : Int32) : Option (mm_MM) :=
  (if s1 < 0 ∨ 8 ≤ s1.toNatClampNeg then none else
   kr2 (wI m 625 s1.toNatClampNeg s2) (x1 + 1))
set_option maxRecDepth 20000 in
theorem ok_fX11_live_c40 {kr2 : mm_MM → Int32 → Option (mm_MM)} (hkr2 : ∀ (m : mm_MM) (x1 : Int32) (q0 : mm_MM), kr2 m x1 = some q0 → Ev XL xs (d + 6) 236 (ev_M m c w) 2 [(0, .ref 606), (1, .int x1)] [] (fr_v c w q0)) {m : mm_MM} {x1 : Int32} {s1 : Int32} {s2 : Int32} {q0 : mm_MM} (h : fX11_live_c40 kr2 m x1 s1 s2 = some q0) : Ev XL xs (d + 6) 236 (ev_M m c w) 40 [(0, .ref 606), (1, .int x1)] [.int s2, .int s1, .ref 625] (fr_v c w q0) := by
  unfold fX11_live_c40 at h
  refine ev_g 1 (M1 := ev_M (wI m 625 s1.toNatClampNeg s2) c w) (pc1 := 41) (lv1 := [(0, .ref 606), (1, .int x1)]) (st1 := []) (fun n => rfl) h (fun _ h => ?_)
  refine ev_s 2 (M' := ev_M (wI m 625 s1.toNatClampNeg s2) c w) (pc' := 2) (lv' := [(1, .int (x1 + 1)), (0, .ref 606)]) (st' := []) (fun n => rfl) ?_
  refine ev_sub (lv := [(0, .ref 606), (1, .int (x1 + 1))]) (mn_of rfl (by repeat (first | exact trivial | refine And.intro rfl ?_))) ?_
  exact hkr2 _ _ _ h
def fX11_live_c175 (kr79 : mm_MM → Int32 → Int32 → Option (mm_MM)) (m : mm_MM) (x1 : Int32) (x2 : Int32) : Option (mm_MM) :=
  kr79 m x1 (x2 + 1)
set_option maxRecDepth 20000 in
theorem ok_fX11_live_c175 {kr79 : mm_MM → Int32 → Int32 → Option (mm_MM)} (hkr79 : ∀ (m : mm_MM) (x1 : Int32) (x2 : Int32) (q0 : mm_MM), kr79 m x1 x2 = some q0 → Ev XL xs (d + 6) 236 (ev_M m c w) 79 [(0, .ref 606), (1, .int x1), (2, .int x2)] [] (fr_v c w q0)) {m : mm_MM} {x1 : Int32} {x2 : Int32} {q0 : mm_MM} (h : fX11_live_c175 kr79 m x1 x2 = some q0) : Ev XL xs (d + 6) 236 (ev_M m c w) 175 [(0, .ref 606), (1, .int x1), (2, .int x2)] [] (fr_v c w q0) := by
  unfold fX11_live_c175 at h
  refine ev_s 2 (M' := ev_M m c w) (pc' := 79) (lv' := [(2, .int (x2 + 1)), (0, .ref 606), (1, .int x1)]) (st' := []) (fun n => rfl) ?_
  refine ev_sub (lv := [(0, .ref 606), (1, .int x1), (2, .int (x2 + 1))]) (mn_of rfl (by repeat (first | exact trivial | refine And.intro rfl ?_))) ?_
  exact hkr79 _ _ _ _ h
def fX11_live_c171 (kr79 : mm_MM → Int32 → Int32 → Option (mm_MM)) (m : mm_MM) (x1 : Int32) (x2 : Int32) (s1 : Int32) (s2 : Int32) : Option (mm_MM) :=
  fX11_live_c175 kr79 (wI m 606 32 (s1 ||| s2)) x1 x2
set_option maxRecDepth 20000 in
theorem ok_fX11_live_c171 {kr79 : mm_MM → Int32 → Int32 → Option (mm_MM)} (hkr79 : ∀ (m : mm_MM) (x1 : Int32) (x2 : Int32) (q0 : mm_MM), kr79 m x1 x2 = some q0 → Ev XL xs (d + 6) 236 (ev_M m c w) 79 [(0, .ref 606), (1, .int x1), (2, .int x2)] [] (fr_v c w q0)) {m : mm_MM} {x1 : Int32} {x2 : Int32} {s1 : Int32} {s2 : Int32} {q0 : mm_MM} (h : fX11_live_c171 kr79 m x1 x2 s1 s2 = some q0) : Ev XL xs (d + 6) 236 (ev_M m c w) 171 [(0, .ref 606), (1, .int x1), (2, .int x2)] [.int s2, .int s1, .ref 606] (fr_v c w q0) := by
  unfold fX11_live_c171 at h
  refine ev_s 2 (M' := ev_M (wI m 606 32 (s1 ||| s2)) c w) (pc' := 175) (lv' := [(0, .ref 606), (1, .int x1), (2, .int x2)]) (st' := []) (fun n => rfl) ?_
  exact ok_fX11_live_c175 hkr79 h
def fX11_live_c170 (kr79 : mm_MM → Int32 → Int32 → Option (mm_MM)) (m : mm_MM) (x1 : Int32) (x2 : Int32) (s1 : Int32) : Option (mm_MM) :=
  fX11_live_c171 kr79 m x1 x2 s1 0
set_option maxRecDepth 20000 in
theorem ok_fX11_live_c170 {kr79 : mm_MM → Int32 → Int32 → Option (mm_MM)} (hkr79 : ∀ (m : mm_MM) (x1 : Int32) (x2 : Int32) (q0 : mm_MM), kr79 m x1 x2 = some q0 → Ev XL xs (d + 6) 236 (ev_M m c w) 79 [(0, .ref 606), (1, .int x1), (2, .int x2)] [] (fr_v c w q0)) {m : mm_MM} {x1 : Int32} {x2 : Int32} {s1 : Int32} {q0 : mm_MM} (h : fX11_live_c170 kr79 m x1 x2 s1 = some q0) : Ev XL xs (d + 6) 236 (ev_M m c w) 170 [(0, .ref 606), (1, .int x1), (2, .int x2)] [.int s1, .ref 606] (fr_v c w q0) := by
  unfold fX11_live_c170 at h
  refine ev_s 1 (M' := ev_M m c w) (pc' := 171) (lv' := [(0, .ref 606), (1, .int x1), (2, .int x2)]) (st' := [.int 0, .int s1, .ref 606]) (fun n => rfl) ?_
  exact ok_fX11_live_c171 hkr79 h
def fX11_live_c79 : Nat → mm_MM → Int32 → Int32 → Option (mm_MM)
  | 0 => fun _ _ _ => none
  | n + 1 => fun m x1 x2 =>
    (if x2 < 8 then
      (fX11_doesLie m x2).bind fun r2 =>
       (if r2.1 = 0 then
         fX11_live_c175 (fX11_live_c79 n) r2.2 x1 x2
        else
         (fX11_isRipe r2.2 x2).bind fun r4 =>
          (fX11_of r4.2 x2 0).bind fun r5 =>
           (if x2 < 0 ∨ 8 ≤ x2.toNatClampNeg then none else
            (fJ9_min_7cf53 r5.2 200 (r5.1 + r5.2.1 625 x2.toNatClampNeg)).bind fun r6 =>
             (fJ9_max_7cf53 r6.2 0 r6.1).bind fun r7 =>
              (fX11_set r7.2 x2 0 r7.1).bind fun r8 =>
               (fX11_of r8 x2 3).bind fun r9 =>
                (fJ9_min_7cf53 r9.2 99 (r9.1 + x1)).bind fun r10 =>
                 (fX11_set r10.2 x2 3 r10.1).bind fun r11 =>
                  (if r4.1 = 0 then
                    (fX11_isRipe r11 x2).bind fun r13 =>
                     (if r13.1 = 0 then
                       fX11_live_c170 (fX11_live_c79 n) r13.2 x1 x2 (r11.1 606 32)
                      else
                       fX11_live_c171 (fX11_live_c79 n) r13.2 x1 x2 (r11.1 606 32) ((1 : Int32) <<< (x2 &&& 31)))
                   else
                    fX11_live_c170 (fX11_live_c79 n) r11 x1 x2 (r11.1 606 32))))
     else
      some (wI m 623 49 (m.1 623 49 + 1)))
set_option maxRecDepth 20000 in
theorem ok_fX11_live_c79 : ∀ (n : Nat) (m : mm_MM) (x1 : Int32) (x2 : Int32) (q0 : mm_MM), fX11_live_c79 n m x1 x2 = some q0 → Ev XL xs (d + 6) 236 (ev_M m c w) 79 [(0, .ref 606), (1, .int x1), (2, .int x2)] [] (fr_v c w q0) := by
  intro n
  induction n with
  | zero => intro m x1 x2 q0 h; exact absurd (show (none : Option (mm_MM)) = some q0 from h) (by simp)
  | succ n ih =>
    intro m x1 x2 q0 h
    unfold fX11_live_c79 at h
    refine ev_i 3 (M1 := ev_M m c w) (pc1 := 85) (lv1 := [(0, .ref 606), (1, .int x1), (2, .int x2)]) (st1 := []) (M2 := ev_M m c w) (pc2 := 181) (lv2 := [(0, .ref 606), (1, .int x1), (2, .int x2)]) (st2 := []) (fun n => rfl) h (fun hc1 h => ?_) (fun hc1 h => ?_)
    · obtain ⟨r2, hr2, h⟩ := Option.bind_eq_some_iff.mp h
      refine ev_c 3 (y' := 226) (M1 := ev_M m c w) (la := lv_args 0 [.ref 606, .int x2]) (rest := []) (pc' := 90) (lv' := [(0, .ref 606), (1, .int x1), (2, .int x2)]) (fun n => rfl) (ok_fX11_doesLie hr2) ?_
      show Ev XL xs _ 236 (ev_M r2.2 c w) 90 [(0, .ref 606), (1, .int x1), (2, .int x2)] [.int r2.1] _
      refine ev_i 1 (M1 := ev_M r2.2 c w) (pc1 := 175) (lv1 := [(0, .ref 606), (1, .int x1), (2, .int x2)]) (st1 := []) (M2 := ev_M r2.2 c w) (pc2 := 93) (lv2 := [(0, .ref 606), (1, .int x1), (2, .int x2)]) (st2 := []) (fun n => rfl) h (fun hc3 h => ?_) (fun hc3 h => ?_)
      · exact ok_fX11_live_c175 ih h
      · obtain ⟨r4, hr4, h⟩ := Option.bind_eq_some_iff.mp h
        refine ev_c 3 (y' := 231) (M1 := ev_M r2.2 c w) (la := lv_args 0 [.ref 606, .int x2]) (rest := []) (pc' := 98) (lv' := [(0, .ref 606), (1, .int x1), (2, .int x2)]) (fun n => rfl) (ok_fX11_isRipe hr4) ?_
        show Ev XL xs _ 236 (ev_M r4.2 c w) 98 [(0, .ref 606), (1, .int x1), (2, .int x2)] [.int r4.1] _
        obtain ⟨r5, hr5, h⟩ := Option.bind_eq_some_iff.mp h
        refine ev_c 10 (y' := 220) (M1 := ev_M r4.2 c w) (la := lv_args 0 [.ref 606, .int x2, .int 0]) (rest := [.int 200, .int 0, .int 0, .int x2, .ref 606]) (pc' := 112) (lv' := [(3, .int r4.1), (0, .ref 606), (1, .int x1), (2, .int x2)]) (fun n => rfl) (ok_fX11_of hr5) ?_
        show Ev XL xs _ 236 (ev_M r5.2 c w) 112 [(3, .int r4.1), (0, .ref 606), (1, .int x1), (2, .int x2)] [.int r5.1, .int 200, .int 0, .int 0, .int x2, .ref 606] _
        refine ev_g 4 (M1 := ev_M r5.2 c w) (pc1 := 118) (lv1 := [(3, .int r4.1), (0, .ref 606), (1, .int x1), (2, .int x2)]) (st1 := [.int (r5.2.1 625 x2.toNatClampNeg), .int r5.1, .int 200, .int 0, .int 0, .int x2, .ref 606]) (fun n => rfl) h (fun _ h => ?_)
        obtain ⟨r6, hr6, h⟩ := Option.bind_eq_some_iff.mp h
        refine ev_c 2 (y' := 308) (M1 := ev_M r5.2 c w) (la := lv_args 0 [.int 200, .int (r5.1 + r5.2.1 625 x2.toNatClampNeg)]) (rest := [.int 0, .int 0, .int x2, .ref 606]) (pc' := 122) (lv' := [(3, .int r4.1), (0, .ref 606), (1, .int x1), (2, .int x2)]) (fun n => rfl) (ok_fJ9_min_7cf53 hr6) ?_
        show Ev XL xs _ 236 (ev_M r6.2 c w) 122 [(3, .int r4.1), (0, .ref 606), (1, .int x1), (2, .int x2)] [.int r6.1, .int 0, .int 0, .int x2, .ref 606] _
        obtain ⟨r7, hr7, h⟩ := Option.bind_eq_some_iff.mp h
        refine ev_c 1 (y' := 306) (M1 := ev_M r6.2 c w) (la := lv_args 0 [.int 0, .int r6.1]) (rest := [.int 0, .int x2, .ref 606]) (pc' := 125) (lv' := [(3, .int r4.1), (0, .ref 606), (1, .int x1), (2, .int x2)]) (fun n => rfl) (ok_fJ9_max_7cf53 hr7) ?_
        show Ev XL xs _ 236 (ev_M r7.2 c w) 125 [(3, .int r4.1), (0, .ref 606), (1, .int x1), (2, .int x2)] [.int r7.1, .int 0, .int x2, .ref 606] _
        obtain ⟨r8, hr8, h⟩ := Option.bind_eq_some_iff.mp h
        refine ev_c 1 (y' := 221) (M1 := ev_M r7.2 c w) (la := lv_args 0 [.ref 606, .int x2, .int 0, .int r7.1]) (rest := []) (pc' := 128) (lv' := [(3, .int r4.1), (0, .ref 606), (1, .int x1), (2, .int x2)]) (fun n => rfl) (ok_fX11_set hr8) ?_
        show Ev XL xs _ 236 (ev_M r8 c w) 128 [(3, .int r4.1), (0, .ref 606), (1, .int x1), (2, .int x2)] [] _
        obtain ⟨r9, hr9, h⟩ := Option.bind_eq_some_iff.mp h
        refine ev_c 8 (y' := 220) (M1 := ev_M r8 c w) (la := lv_args 0 [.ref 606, .int x2, .int 3]) (rest := [.int 99, .int 3, .int x2, .ref 606]) (pc' := 139) (lv' := [(3, .int r4.1), (0, .ref 606), (1, .int x1), (2, .int x2)]) (fun n => rfl) (ok_fX11_of hr9) ?_
        show Ev XL xs _ 236 (ev_M r9.2 c w) 139 [(3, .int r4.1), (0, .ref 606), (1, .int x1), (2, .int x2)] [.int r9.1, .int 99, .int 3, .int x2, .ref 606] _
        obtain ⟨r10, hr10, h⟩ := Option.bind_eq_some_iff.mp h
        refine ev_c 3 (y' := 308) (M1 := ev_M r9.2 c w) (la := lv_args 0 [.int 99, .int (r9.1 + x1)]) (rest := [.int 3, .int x2, .ref 606]) (pc' := 144) (lv' := [(3, .int r4.1), (0, .ref 606), (1, .int x1), (2, .int x2)]) (fun n => rfl) (ok_fJ9_min_7cf53 hr10) ?_
        show Ev XL xs _ 236 (ev_M r10.2 c w) 144 [(3, .int r4.1), (0, .ref 606), (1, .int x1), (2, .int x2)] [.int r10.1, .int 3, .int x2, .ref 606] _
        obtain ⟨r11, hr11, h⟩ := Option.bind_eq_some_iff.mp h
        refine ev_c 1 (y' := 221) (M1 := ev_M r10.2 c w) (la := lv_args 0 [.ref 606, .int x2, .int 3, .int r10.1]) (rest := []) (pc' := 147) (lv' := [(3, .int r4.1), (0, .ref 606), (1, .int x1), (2, .int x2)]) (fun n => rfl) (ok_fX11_set hr11) ?_
        show Ev XL xs _ 236 (ev_M r11 c w) 147 [(3, .int r4.1), (0, .ref 606), (1, .int x1), (2, .int x2)] [] _
        refine ev_i 5 (M1 := ev_M r11 c w) (pc1 := 156) (lv1 := [(3, .int r4.1), (0, .ref 606), (1, .int x1), (2, .int x2)]) (st1 := [.int (r11.1 606 32), .ref 606]) (M2 := ev_M r11 c w) (pc2 := 170) (lv2 := [(3, .int r4.1), (0, .ref 606), (1, .int x1), (2, .int x2)]) (st2 := [.int (r11.1 606 32), .ref 606]) (fun n => rfl) h (fun hc12 h => ?_) (fun hc12 h => ?_)
        · obtain ⟨r13, hr13, h⟩ := Option.bind_eq_some_iff.mp h
          refine ev_c 3 (y' := 231) (M1 := ev_M r11 c w) (la := lv_args 0 [.ref 606, .int x2]) (rest := [.int (r11.1 606 32), .ref 606]) (pc' := 161) (lv' := [(3, .int r4.1), (0, .ref 606), (1, .int x1), (2, .int x2)]) (fun n => rfl) (ok_fX11_isRipe hr13) ?_
          show Ev XL xs _ 236 (ev_M r13.2 c w) 161 [(3, .int r4.1), (0, .ref 606), (1, .int x1), (2, .int x2)] [.int r13.1, .int (r11.1 606 32), .ref 606] _
          refine ev_i 1 (M1 := ev_M r13.2 c w) (pc1 := 170) (lv1 := [(3, .int r4.1), (0, .ref 606), (1, .int x1), (2, .int x2)]) (st1 := [.int (r11.1 606 32), .ref 606]) (M2 := ev_M r13.2 c w) (pc2 := 164) (lv2 := [(3, .int r4.1), (0, .ref 606), (1, .int x1), (2, .int x2)]) (st2 := [.int (r11.1 606 32), .ref 606]) (fun n => rfl) h (fun hc14 h => ?_) (fun hc14 h => ?_)
          · refine ev_sub (lv := [(0, .ref 606), (1, .int x1), (2, .int x2)]) (mn_of rfl (by repeat (first | exact trivial | refine And.intro rfl ?_))) ?_
            exact ok_fX11_live_c170 ih h
          · refine ev_s 4 (M' := ev_M r13.2 c w) (pc' := 171) (lv' := [(3, .int r4.1), (0, .ref 606), (1, .int x1), (2, .int x2)]) (st' := [.int ((1 : Int32) <<< (x2 &&& 31)), .int (r11.1 606 32), .ref 606]) (fun n => rfl) ?_
            refine ev_sub (lv := [(0, .ref 606), (1, .int x1), (2, .int x2)]) (mn_of rfl (by repeat (first | exact trivial | refine And.intro rfl ?_))) ?_
            exact ok_fX11_live_c171 ih h
        · refine ev_sub (lv := [(0, .ref 606), (1, .int x1), (2, .int x2)]) (mn_of rfl (by repeat (first | exact trivial | refine And.intro rfl ?_))) ?_
          exact ok_fX11_live_c170 ih h
    · cases h
      exact ev_r 9 (fun n => rfl)
def fX11_live_c76 (m : mm_MM) (s0 : Int32) : Option (mm_MM) :=
  fX11_live_c79 fu m s0 0
set_option maxRecDepth 20000 in
theorem ok_fX11_live_c76 {m : mm_MM} {s0 : Int32} {q0 : mm_MM} (h : fX11_live_c76 m s0 = some q0) : Ev XL xs (d + 6) 236 (ev_M m c w) 76 [(0, .ref 606)] [.int s0] (fr_v c w q0) := by
  unfold fX11_live_c76 at h
  refine ev_s 3 (M' := ev_M m c w) (pc' := 79) (lv' := [(2, .int 0), (1, .int s0), (0, .ref 606)]) (st' := []) (fun n => rfl) ?_
  refine ev_sub (lv := [(0, .ref 606), (1, .int s0), (2, .int 0)]) (mn_of rfl (by repeat (first | exact trivial | refine And.intro rfl ?_))) ?_
  exact ok_fX11_live_c79 fu _ _ _ _ h
def fX11_live_c2 : Nat → mm_MM → Int32 → Option (mm_MM)
  | 0 => fun _ _ => none
  | n + 1 => fun m x1 =>
    (if x1 < 8 then
      (fX11_doesLie m x1).bind fun r2 =>
       (if r2.1 = 0 then
         fX11_live_c40 (fX11_live_c2 n) r2.2 x1 x1 0
        else
         (fX11_rowOf r2.2 x1).bind fun r4 =>
          (if r4.1 < 0 ∨ 4 ≤ r4.1.toNatClampNeg then none else
           (fX11_growthBy r4.2 x1 (r4.2.1 621 r4.1.toNatClampNeg)).bind fun r5 =>
            fX11_live_c40 (fX11_live_c2 n) r5.2 x1 x1 r5.1))
     else
      (if ((m.1 623 49 : Int32) - m.1 623 49 / 12 * 12) < m.1 620 3 then
        fX11_live_c76 (wI m 606 32 0) 2
       else
        fX11_live_c76 (wI m 606 32 0) 1))
set_option maxRecDepth 20000 in
theorem ok_fX11_live_c2 : ∀ (n : Nat) (m : mm_MM) (x1 : Int32) (q0 : mm_MM), fX11_live_c2 n m x1 = some q0 → Ev XL xs (d + 6) 236 (ev_M m c w) 2 [(0, .ref 606), (1, .int x1)] [] (fr_v c w q0) := by
  intro n
  induction n with
  | zero => intro m x1 q0 h; exact absurd (show (none : Option (mm_MM)) = some q0 from h) (by simp)
  | succ n ih =>
    intro m x1 q0 h
    unfold fX11_live_c2 at h
    refine ev_i 3 (M1 := ev_M m c w) (pc1 := 8) (lv1 := [(0, .ref 606), (1, .int x1)]) (st1 := []) (M2 := ev_M m c w) (pc2 := 47) (lv2 := [(0, .ref 606), (1, .int x1)]) (st2 := []) (fun n => rfl) h (fun hc1 h => ?_) (fun hc1 h => ?_)
    · obtain ⟨r2, hr2, h⟩ := Option.bind_eq_some_iff.mp h
      refine ev_c 6 (y' := 226) (M1 := ev_M m c w) (la := lv_args 0 [.ref 606, .int x1]) (rest := [.int x1, .ref 625]) (pc' := 18) (lv' := [(0, .ref 606), (1, .int x1)]) (fun n => rfl) (ok_fX11_doesLie hr2) ?_
      show Ev XL xs _ 236 (ev_M r2.2 c w) 18 [(0, .ref 606), (1, .int x1)] [.int r2.1, .int x1, .ref 625] _
      refine ev_i 1 (M1 := ev_M r2.2 c w) (pc1 := 39) (lv1 := [(0, .ref 606), (1, .int x1)]) (st1 := [.int x1, .ref 625]) (M2 := ev_M r2.2 c w) (pc2 := 21) (lv2 := [(0, .ref 606), (1, .int x1)]) (st2 := [.int x1, .ref 625]) (fun n => rfl) h (fun hc3 h => ?_) (fun hc3 h => ?_)
      · refine ev_s 1 (M' := ev_M r2.2 c w) (pc' := 40) (lv' := [(0, .ref 606), (1, .int x1)]) (st' := [.int 0, .int x1, .ref 625]) (fun n => rfl) ?_
        exact ok_fX11_live_c40 ih h
      · obtain ⟨r4, hr4, h⟩ := Option.bind_eq_some_iff.mp h
        refine ev_c 7 (y' := 230) (M1 := ev_M r2.2 c w) (la := lv_args 0 [.ref 606, .int x1]) (rest := [.ref 621, .int x1, .ref 606, .int x1, .ref 625]) (pc' := 32) (lv' := [(0, .ref 606), (1, .int x1)]) (fun n => rfl) (ok_fX11_rowOf hr4) ?_
        show Ev XL xs _ 236 (ev_M r4.2 c w) 32 [(0, .ref 606), (1, .int x1)] [.int r4.1, .ref 621, .int x1, .ref 606, .int x1, .ref 625] _
        refine ev_g 1 (M1 := ev_M r4.2 c w) (pc1 := 33) (lv1 := [(0, .ref 606), (1, .int x1)]) (st1 := [.int (r4.2.1 621 r4.1.toNatClampNeg), .int x1, .ref 606, .int x1, .ref 625]) (fun n => rfl) h (fun _ h => ?_)
        obtain ⟨r5, hr5, h⟩ := Option.bind_eq_some_iff.mp h
        refine ev_c 1 (y' := 235) (M1 := ev_M r4.2 c w) (la := lv_args 0 [.ref 606, .int x1, .int (r4.2.1 621 r4.1.toNatClampNeg)]) (rest := [.int x1, .ref 625]) (pc' := 36) (lv' := [(0, .ref 606), (1, .int x1)]) (fun n => rfl) (ok_fX11_growthBy hr5) ?_
        show Ev XL xs _ 236 (ev_M r5.2 c w) 36 [(0, .ref 606), (1, .int x1)] [.int r5.1, .int x1, .ref 625] _
        refine ev_s 1 (M' := ev_M r5.2 c w) (pc' := 40) (lv' := [(0, .ref 606), (1, .int x1)]) (st' := [.int r5.1, .int x1, .ref 625]) (fun n => rfl) ?_
        exact ok_fX11_live_c40 ih h
    · refine ev_i 14 (M1 := ev_M (wI m 606 32 0) c w) (pc1 := 71) (lv1 := [(0, .ref 606), (1, .int x1)]) (st1 := []) (M2 := ev_M (wI m 606 32 0) c w) (pc2 := 75) (lv2 := [(0, .ref 606), (1, .int x1)]) (st2 := []) (fun n => rfl) h (fun hc6 h => ?_) (fun hc6 h => ?_)
      · refine ev_s 2 (M' := ev_M (wI m 606 32 0) c w) (pc' := 76) (lv' := [(0, .ref 606), (1, .int x1)]) (st' := [.int 2]) (fun n => rfl) ?_
        refine ev_sub (lv := [(0, .ref 606)]) (mn_of rfl (by repeat (first | exact trivial | refine And.intro rfl ?_))) ?_
        exact ok_fX11_live_c76 h
      · refine ev_s 1 (M' := ev_M (wI m 606 32 0) c w) (pc' := 76) (lv' := [(0, .ref 606), (1, .int x1)]) (st' := [.int 1]) (fun n => rfl) ?_
        refine ev_sub (lv := [(0, .ref 606)]) (mn_of rfl (by repeat (first | exact trivial | refine And.intro rfl ?_))) ?_
        exact ok_fX11_live_c76 h
def fX11_live (m : mm_MM) : Option (mm_MM) :=
  fX11_live_c2 fu m 0
set_option maxRecDepth 20000 in
theorem ok_fX11_live {m : mm_MM} {q0 : mm_MM} (h : fX11_live m = some q0) : Ev XL xs (d + 6) 236 (ev_M m c w) 0 (lv_args 0 [.ref 606]) [] (fr_v c w q0) := by
  unfold fX11_live at h
  refine ev_s 2 (M' := ev_M m c w) (pc' := 2) (lv' := [(1, .int 0), (0, .ref 606)]) (st' := []) (fun n => rfl) ?_
  refine ev_sub (lv := [(0, .ref 606), (1, .int 0)]) (mn_of rfl (by repeat (first | exact trivial | refine And.intro rfl ?_))) ?_
  exact ok_fX11_live_c2 fu _ _ _ h
def fX11_valueOf_c29 (kr4 : mm_MM → Int32 → Int32 → Int32 → Option (Int32 × mm_MM)) (m : mm_MM) (x1 : Int32) (x3 : Int32) (s0 : Int32) (s1 : Int32) : Option (Int32 × mm_MM) :=
  kr4 m x1 (s0 + s1) (x3 + 1)
theorem ok_fX11_valueOf_c29 {kr4 : mm_MM → Int32 → Int32 → Int32 → Option (Int32 × mm_MM)} (hkr4 : ∀ (m : mm_MM) (x1 : Int32) (x2 : Int32) (x3 : Int32) (q0 : Int32 × mm_MM), kr4 m x1 x2 x3 = some q0 → Ev XL xs (d + 1) 237 (ev_M m c w) 4 [(0, .ref 606), (1, .int x1), (2, .int x2), (3, .int x3)] [] (fr_i c w q0)) {m : mm_MM} {x1 : Int32} {x3 : Int32} {s0 : Int32} {s1 : Int32} {q0 : Int32 × mm_MM} (h : fX11_valueOf_c29 kr4 m x1 x3 s0 s1 = some q0) : Ev XL xs (d + 1) 237 (ev_M m c w) 29 [(0, .ref 606), (1, .int x1), (3, .int x3)] [.int s1, .int s0] (fr_i c w q0) := by
  unfold fX11_valueOf_c29 at h
  refine ev_s 4 (M' := ev_M m c w) (pc' := 4) (lv' := [(3, .int (x3 + 1)), (2, .int (s0 + s1)), (0, .ref 606), (1, .int x1)]) (st' := []) (fun n => rfl) ?_
  refine ev_sub (lv := [(0, .ref 606), (1, .int x1), (2, .int (s0 + s1)), (3, .int (x3 + 1))]) (mn_of rfl (by repeat (first | exact trivial | refine And.intro rfl ?_))) ?_
  exact hkr4 _ _ _ _ _ h
def fX11_valueOf_c4 : Nat → mm_MM → Int32 → Int32 → Int32 → Option (Int32 × mm_MM)
  | 0 => fun _ _ _ _ => none
  | n + 1 => fun m x1 x2 x3 =>
    (if x3 < 8 then
      (fX11_has m x1 x3).bind fun r2 =>
       (if r2.1 = 0 then
         fX11_valueOf_c29 (fX11_valueOf_c4 n) r2.2 x1 x3 x2 0
        else
         (fX11_of r2.2 x3 0).bind fun r4 =>
          fX11_valueOf_c29 (fX11_valueOf_c4 n) r4.2 x1 x3 x2 r4.1)
     else
      some (x2, m))
theorem ok_fX11_valueOf_c4 : ∀ (n : Nat) (m : mm_MM) (x1 : Int32) (x2 : Int32) (x3 : Int32) (q0 : Int32 × mm_MM), fX11_valueOf_c4 n m x1 x2 x3 = some q0 → Ev XL xs (d + 1) 237 (ev_M m c w) 4 [(0, .ref 606), (1, .int x1), (2, .int x2), (3, .int x3)] [] (fr_i c w q0) := by
  intro n
  induction n with
  | zero => intro m x1 x2 x3 q0 h; exact absurd (show (none : Option (Int32 × mm_MM)) = some q0 from h) (by simp)
  | succ n ih =>
    intro m x1 x2 x3 q0 h
    unfold fX11_valueOf_c4 at h
    refine ev_i 3 (M1 := ev_M m c w) (pc1 := 10) (lv1 := [(0, .ref 606), (1, .int x1), (2, .int x2), (3, .int x3)]) (st1 := []) (M2 := ev_M m c w) (pc2 := 37) (lv2 := [(0, .ref 606), (1, .int x1), (2, .int x2), (3, .int x3)]) (st2 := []) (fun n => rfl) h (fun hc1 h => ?_) (fun hc1 h => ?_)
    · obtain ⟨r2, hr2, h⟩ := Option.bind_eq_some_iff.mp h
      refine ev_c 4 (y' := 179) (M1 := ev_M m c w) (la := lv_args 0 [.int x1, .int x3]) (rest := [.int x2]) (pc' := 16) (lv' := [(0, .ref 606), (1, .int x1), (2, .int x2), (3, .int x3)]) (fun n => rfl) (ok_fX11_has hr2) ?_
      show Ev XL xs _ 237 (ev_M r2.2 c w) 16 [(0, .ref 606), (1, .int x1), (2, .int x2), (3, .int x3)] [.int r2.1, .int x2] _
      refine ev_i 1 (M1 := ev_M r2.2 c w) (pc1 := 28) (lv1 := [(0, .ref 606), (1, .int x1), (2, .int x2), (3, .int x3)]) (st1 := [.int x2]) (M2 := ev_M r2.2 c w) (pc2 := 19) (lv2 := [(0, .ref 606), (1, .int x1), (2, .int x2), (3, .int x3)]) (st2 := [.int x2]) (fun n => rfl) h (fun hc3 h => ?_) (fun hc3 h => ?_)
      · refine ev_s 1 (M' := ev_M r2.2 c w) (pc' := 29) (lv' := [(0, .ref 606), (1, .int x1), (2, .int x2), (3, .int x3)]) (st' := [.int 0, .int x2]) (fun n => rfl) ?_
        refine ev_sub (lv := [(0, .ref 606), (1, .int x1), (3, .int x3)]) (mn_of rfl (by repeat (first | exact trivial | refine And.intro rfl ?_))) ?_
        exact ok_fX11_valueOf_c29 ih h
      · obtain ⟨r4, hr4, h⟩ := Option.bind_eq_some_iff.mp h
        refine ev_c 4 (y' := 220) (M1 := ev_M r2.2 c w) (la := lv_args 0 [.ref 606, .int x3, .int 0]) (rest := [.int x2]) (pc' := 25) (lv' := [(0, .ref 606), (1, .int x1), (2, .int x2), (3, .int x3)]) (fun n => rfl) (ok_fX11_of hr4) ?_
        show Ev XL xs _ 237 (ev_M r4.2 c w) 25 [(0, .ref 606), (1, .int x1), (2, .int x2), (3, .int x3)] [.int r4.1, .int x2] _
        refine ev_s 1 (M' := ev_M r4.2 c w) (pc' := 29) (lv' := [(0, .ref 606), (1, .int x1), (2, .int x2), (3, .int x3)]) (st' := [.int r4.1, .int x2]) (fun n => rfl) ?_
        refine ev_sub (lv := [(0, .ref 606), (1, .int x1), (3, .int x3)]) (mn_of rfl (by repeat (first | exact trivial | refine And.intro rfl ?_))) ?_
        exact ok_fX11_valueOf_c29 ih h
    · cases h
      exact ev_r 2 (fun n => rfl)
def fX11_valueOf (m : mm_MM) (x1 : Int32) : Option (Int32 × mm_MM) :=
  fX11_valueOf_c4 fu m x1 0 0
theorem ok_fX11_valueOf {m : mm_MM} {x1 : Int32} {q0 : Int32 × mm_MM} (h : fX11_valueOf m x1 = some q0) : Ev XL xs (d + 1) 237 (ev_M m c w) 0 (lv_args 0 [.ref 606, .int x1]) [] (fr_i c w q0) := by
  unfold fX11_valueOf at h
  refine ev_s 4 (M' := ev_M m c w) (pc' := 4) (lv' := [(3, .int 0), (2, .int 0), (0, .ref 606), (1, .int x1)]) (st' := []) (fun n => rfl) ?_
  refine ev_sub (lv := [(0, .ref 606), (1, .int x1), (2, .int 0), (3, .int 0)]) (mn_of rfl (by repeat (first | exact trivial | refine And.intro rfl ?_))) ?_
  exact ok_fX11_valueOf_c4 fu _ _ _ _ _ h
def fX11_onesWho_c85 (kr4 : mm_MM → Int32 → Int32 → Int32 → Option (Int32 × mm_MM)) (m : mm_MM) (x1 : Int32) (x3 : Int32) (s0 : Int32) (s1 : Int32) : Option (Int32 × mm_MM) :=
  kr4 m x1 (s0 ||| s1) (x3 + 1)
set_option maxRecDepth 20000 in
theorem ok_fX11_onesWho_c85 {kr4 : mm_MM → Int32 → Int32 → Int32 → Option (Int32 × mm_MM)} (hkr4 : ∀ (m : mm_MM) (x1 : Int32) (x2 : Int32) (x3 : Int32) (q0 : Int32 × mm_MM), kr4 m x1 x2 x3 = some q0 → Ev XL xs (d + 3) 238 (ev_M m c w) 4 [(0, .ref 606), (1, .int x1), (2, .int x2), (3, .int x3)] [] (fr_i c w q0)) {m : mm_MM} {x1 : Int32} {x3 : Int32} {s0 : Int32} {s1 : Int32} {q0 : Int32 × mm_MM} (h : fX11_onesWho_c85 kr4 m x1 x3 s0 s1 = some q0) : Ev XL xs (d + 3) 238 (ev_M m c w) 85 [(0, .ref 606), (1, .int x1), (3, .int x3)] [.int s1, .int s0] (fr_i c w q0) := by
  unfold fX11_onesWho_c85 at h
  refine ev_s 4 (M' := ev_M m c w) (pc' := 4) (lv' := [(3, .int (x3 + 1)), (2, .int (s0 ||| s1)), (0, .ref 606), (1, .int x1)]) (st' := []) (fun n => rfl) ?_
  refine ev_sub (lv := [(0, .ref 606), (1, .int x1), (2, .int (s0 ||| s1)), (3, .int (x3 + 1))]) (mn_of rfl (by repeat (first | exact trivial | refine And.intro rfl ?_))) ?_
  exact hkr4 _ _ _ _ _ h
def fX11_onesWho_c70 (kr4 : mm_MM → Int32 → Int32 → Int32 → Option (Int32 × mm_MM)) (m : mm_MM) (x1 : Int32) (x2 : Int32) (x3 : Int32) (s0 : Int32) : Option (Int32 × mm_MM) :=
  (if s0 = 0 then
    fX11_onesWho_c85 kr4 m x1 x3 x2 0
   else
    fX11_onesWho_c85 kr4 m x1 x3 x2 ((1 : Int32) <<< (x3 &&& 31)))
set_option maxRecDepth 20000 in
theorem ok_fX11_onesWho_c70 {kr4 : mm_MM → Int32 → Int32 → Int32 → Option (Int32 × mm_MM)} (hkr4 : ∀ (m : mm_MM) (x1 : Int32) (x2 : Int32) (x3 : Int32) (q0 : Int32 × mm_MM), kr4 m x1 x2 x3 = some q0 → Ev XL xs (d + 3) 238 (ev_M m c w) 4 [(0, .ref 606), (1, .int x1), (2, .int x2), (3, .int x3)] [] (fr_i c w q0)) {m : mm_MM} {x1 : Int32} {x2 : Int32} {x3 : Int32} {s0 : Int32} {q0 : Int32 × mm_MM} (h : fX11_onesWho_c70 kr4 m x1 x2 x3 s0 = some q0) : Ev XL xs (d + 3) 238 (ev_M m c w) 70 [(0, .ref 606), (1, .int x1), (2, .int x2), (3, .int x3)] [.int s0] (fr_i c w q0) := by
  unfold fX11_onesWho_c70 at h
  refine ev_i 4 (M1 := ev_M m c w) (pc1 := 84) (lv1 := [(4, .int s0), (0, .ref 606), (1, .int x1), (2, .int x2), (3, .int x3)]) (st1 := [.int x2]) (M2 := ev_M m c w) (pc2 := 78) (lv2 := [(4, .int s0), (0, .ref 606), (1, .int x1), (2, .int x2), (3, .int x3)]) (st2 := [.int x2]) (fun n => rfl) h (fun hc1 h => ?_) (fun hc1 h => ?_)
  · refine ev_s 1 (M' := ev_M m c w) (pc' := 85) (lv' := [(4, .int s0), (0, .ref 606), (1, .int x1), (2, .int x2), (3, .int x3)]) (st' := [.int 0, .int x2]) (fun n => rfl) ?_
    refine ev_sub (lv := [(0, .ref 606), (1, .int x1), (3, .int x3)]) (mn_of rfl (by repeat (first | exact trivial | refine And.intro rfl ?_))) ?_
    exact ok_fX11_onesWho_c85 hkr4 h
  · refine ev_s 4 (M' := ev_M m c w) (pc' := 85) (lv' := [(4, .int s0), (0, .ref 606), (1, .int x1), (2, .int x2), (3, .int x3)]) (st' := [.int ((1 : Int32) <<< (x3 &&& 31)), .int x2]) (fun n => rfl) ?_
    refine ev_sub (lv := [(0, .ref 606), (1, .int x1), (3, .int x3)]) (mn_of rfl (by repeat (first | exact trivial | refine And.intro rfl ?_))) ?_
    exact ok_fX11_onesWho_c85 hkr4 h
def fX11_onesWho_c69 (kr4 : mm_MM → Int32 → Int32 → Int32 → Option (Int32 × mm_MM)) (m : mm_MM) (x1 : Int32) (x2 : Int32) (x3 : Int32) : Option (Int32 × mm_MM) :=
  fX11_onesWho_c70 kr4 m x1 x2 x3 0
set_option maxRecDepth 20000 in
theorem ok_fX11_onesWho_c69 {kr4 : mm_MM → Int32 → Int32 → Int32 → Option (Int32 × mm_MM)} (hkr4 : ∀ (m : mm_MM) (x1 : Int32) (x2 : Int32) (x3 : Int32) (q0 : Int32 × mm_MM), kr4 m x1 x2 x3 = some q0 → Ev XL xs (d + 3) 238 (ev_M m c w) 4 [(0, .ref 606), (1, .int x1), (2, .int x2), (3, .int x3)] [] (fr_i c w q0)) {m : mm_MM} {x1 : Int32} {x2 : Int32} {x3 : Int32} {q0 : Int32 × mm_MM} (h : fX11_onesWho_c69 kr4 m x1 x2 x3 = some q0) : Ev XL xs (d + 3) 238 (ev_M m c w) 69 [(0, .ref 606), (1, .int x1), (2, .int x2), (3, .int x3)] [] (fr_i c w q0) := by
  unfold fX11_onesWho_c69 at h
  refine ev_s 1 (M' := ev_M m c w) (pc' := 70) (lv' := [(0, .ref 606), (1, .int x1), (2, .int x2), (3, .int x3)]) (st' := [.int 0]) (fun n => rfl) ?_
  exact ok_fX11_onesWho_c70 hkr4 h
def fX11_onesWho_c4 : Nat → mm_MM → Int32 → Int32 → Int32 → Option (Int32 × mm_MM)
  | 0 => fun _ _ _ _ => none
  | n + 1 => fun m x1 x2 x3 =>
    (if x3 < 8 then
      (if x1 = 0 then
        (fX11_isThere m x3).bind fun r3 =>
         fX11_onesWho_c70 (fX11_onesWho_c4 n) r3.2 x1 x2 x3 r3.1
       else
        (if x1 = 1 then
          (fX11_doesLie m x3).bind fun r5 =>
           fX11_onesWho_c70 (fX11_onesWho_c4 n) r5.2 x1 x2 x3 r5.1
         else
          (if x1 = 2 then
            (fX11_isRipe m x3).bind fun r7 =>
             fX11_onesWho_c70 (fX11_onesWho_c4 n) r7.2 x1 x2 x3 r7.1
           else
            (fX11_doesLie m x3).bind fun r8 =>
             (if r8.1 = 0 then
               fX11_onesWho_c69 (fX11_onesWho_c4 n) r8.2 x1 x2 x3
              else
               (fX11_of r8.2 x3 4).bind fun r10 =>
                (if r10.1 = 0 then
                  fX11_onesWho_c70 (fX11_onesWho_c4 n) r10.2 x1 x2 x3 1
                 else
                  fX11_onesWho_c69 (fX11_onesWho_c4 n) r10.2 x1 x2 x3)))))
     else
      some (x2, m))
set_option maxRecDepth 20000 in
theorem ok_fX11_onesWho_c4 : ∀ (n : Nat) (m : mm_MM) (x1 : Int32) (x2 : Int32) (x3 : Int32) (q0 : Int32 × mm_MM), fX11_onesWho_c4 n m x1 x2 x3 = some q0 → Ev XL xs (d + 3) 238 (ev_M m c w) 4 [(0, .ref 606), (1, .int x1), (2, .int x2), (3, .int x3)] [] (fr_i c w q0) := by
  intro n
  induction n with
  | zero => intro m x1 x2 x3 q0 h; exact absurd (show (none : Option (Int32 × mm_MM)) = some q0 from h) (by simp)
  | succ n ih =>
    intro m x1 x2 x3 q0 h
    unfold fX11_onesWho_c4 at h
    refine ev_i 3 (M1 := ev_M m c w) (pc1 := 10) (lv1 := [(0, .ref 606), (1, .int x1), (2, .int x2), (3, .int x3)]) (st1 := []) (M2 := ev_M m c w) (pc2 := 93) (lv2 := [(0, .ref 606), (1, .int x1), (2, .int x2), (3, .int x3)]) (st2 := []) (fun n => rfl) h (fun hc1 h => ?_) (fun hc1 h => ?_)
    · refine ev_i 2 (M1 := ev_M m c w) (pc1 := 14) (lv1 := [(0, .ref 606), (1, .int x1), (2, .int x2), (3, .int x3)]) (st1 := []) (M2 := ev_M m c w) (pc2 := 22) (lv2 := [(0, .ref 606), (1, .int x1), (2, .int x2), (3, .int x3)]) (st2 := []) (fun n => rfl) h (fun hc2 h => ?_) (fun hc2 h => ?_)
      · obtain ⟨r3, hr3, h⟩ := Option.bind_eq_some_iff.mp h
        refine ev_c 3 (y' := 225) (M1 := ev_M m c w) (la := lv_args 0 [.ref 606, .int x3]) (rest := []) (pc' := 19) (lv' := [(0, .ref 606), (1, .int x1), (2, .int x2), (3, .int x3)]) (fun n => rfl) (ok_fX11_isThere hr3) ?_
        show Ev XL xs _ 238 (ev_M r3.2 c w) 19 [(0, .ref 606), (1, .int x1), (2, .int x2), (3, .int x3)] [.int r3.1] _
        refine ev_s 1 (M' := ev_M r3.2 c w) (pc' := 70) (lv' := [(0, .ref 606), (1, .int x1), (2, .int x2), (3, .int x3)]) (st' := [.int r3.1]) (fun n => rfl) ?_
        exact ok_fX11_onesWho_c70 ih h
      · refine ev_i 3 (M1 := ev_M m c w) (pc1 := 27) (lv1 := [(0, .ref 606), (1, .int x1), (2, .int x2), (3, .int x3)]) (st1 := []) (M2 := ev_M m c w) (pc2 := 35) (lv2 := [(0, .ref 606), (1, .int x1), (2, .int x2), (3, .int x3)]) (st2 := []) (fun n => rfl) h (fun hc4 h => ?_) (fun hc4 h => ?_)
        · obtain ⟨r5, hr5, h⟩ := Option.bind_eq_some_iff.mp h
          refine ev_c 3 (y' := 226) (M1 := ev_M m c w) (la := lv_args 0 [.ref 606, .int x3]) (rest := []) (pc' := 32) (lv' := [(0, .ref 606), (1, .int x1), (2, .int x2), (3, .int x3)]) (fun n => rfl) (ok_fX11_doesLie hr5) ?_
          show Ev XL xs _ 238 (ev_M r5.2 c w) 32 [(0, .ref 606), (1, .int x1), (2, .int x2), (3, .int x3)] [.int r5.1] _
          refine ev_s 1 (M' := ev_M r5.2 c w) (pc' := 70) (lv' := [(0, .ref 606), (1, .int x1), (2, .int x2), (3, .int x3)]) (st' := [.int r5.1]) (fun n => rfl) ?_
          exact ok_fX11_onesWho_c70 ih h
        · refine ev_i 3 (M1 := ev_M m c w) (pc1 := 40) (lv1 := [(0, .ref 606), (1, .int x1), (2, .int x2), (3, .int x3)]) (st1 := []) (M2 := ev_M m c w) (pc2 := 48) (lv2 := [(0, .ref 606), (1, .int x1), (2, .int x2), (3, .int x3)]) (st2 := []) (fun n => rfl) h (fun hc6 h => ?_) (fun hc6 h => ?_)
          · obtain ⟨r7, hr7, h⟩ := Option.bind_eq_some_iff.mp h
            refine ev_c 3 (y' := 231) (M1 := ev_M m c w) (la := lv_args 0 [.ref 606, .int x3]) (rest := []) (pc' := 45) (lv' := [(0, .ref 606), (1, .int x1), (2, .int x2), (3, .int x3)]) (fun n => rfl) (ok_fX11_isRipe hr7) ?_
            show Ev XL xs _ 238 (ev_M r7.2 c w) 45 [(0, .ref 606), (1, .int x1), (2, .int x2), (3, .int x3)] [.int r7.1] _
            refine ev_s 1 (M' := ev_M r7.2 c w) (pc' := 70) (lv' := [(0, .ref 606), (1, .int x1), (2, .int x2), (3, .int x3)]) (st' := [.int r7.1]) (fun n => rfl) ?_
            exact ok_fX11_onesWho_c70 ih h
          · obtain ⟨r8, hr8, h⟩ := Option.bind_eq_some_iff.mp h
            refine ev_c 3 (y' := 226) (M1 := ev_M m c w) (la := lv_args 0 [.ref 606, .int x3]) (rest := []) (pc' := 53) (lv' := [(0, .ref 606), (1, .int x1), (2, .int x2), (3, .int x3)]) (fun n => rfl) (ok_fX11_doesLie hr8) ?_
            show Ev XL xs _ 238 (ev_M r8.2 c w) 53 [(0, .ref 606), (1, .int x1), (2, .int x2), (3, .int x3)] [.int r8.1] _
            refine ev_i 1 (M1 := ev_M r8.2 c w) (pc1 := 69) (lv1 := [(0, .ref 606), (1, .int x1), (2, .int x2), (3, .int x3)]) (st1 := []) (M2 := ev_M r8.2 c w) (pc2 := 56) (lv2 := [(0, .ref 606), (1, .int x1), (2, .int x2), (3, .int x3)]) (st2 := []) (fun n => rfl) h (fun hc9 h => ?_) (fun hc9 h => ?_)
            · exact ok_fX11_onesWho_c69 ih h
            · obtain ⟨r10, hr10, h⟩ := Option.bind_eq_some_iff.mp h
              refine ev_c 4 (y' := 220) (M1 := ev_M r8.2 c w) (la := lv_args 0 [.ref 606, .int x3, .int 4]) (rest := []) (pc' := 62) (lv' := [(0, .ref 606), (1, .int x1), (2, .int x2), (3, .int x3)]) (fun n => rfl) (ok_fX11_of hr10) ?_
              show Ev XL xs _ 238 (ev_M r10.2 c w) 62 [(0, .ref 606), (1, .int x1), (2, .int x2), (3, .int x3)] [.int r10.1] _
              refine ev_i 1 (M1 := ev_M r10.2 c w) (pc1 := 65) (lv1 := [(0, .ref 606), (1, .int x1), (2, .int x2), (3, .int x3)]) (st1 := []) (M2 := ev_M r10.2 c w) (pc2 := 69) (lv2 := [(0, .ref 606), (1, .int x1), (2, .int x2), (3, .int x3)]) (st2 := []) (fun n => rfl) h (fun hc11 h => ?_) (fun hc11 h => ?_)
              · refine ev_s 2 (M' := ev_M r10.2 c w) (pc' := 70) (lv' := [(0, .ref 606), (1, .int x1), (2, .int x2), (3, .int x3)]) (st' := [.int 1]) (fun n => rfl) ?_
                exact ok_fX11_onesWho_c70 ih h
              · exact ok_fX11_onesWho_c69 ih h
    · cases h
      exact ev_r 2 (fun n => rfl)
def fX11_onesWho (m : mm_MM) (x1 : Int32) : Option (Int32 × mm_MM) :=
  fX11_onesWho_c4 fu m x1 0 0
set_option maxRecDepth 20000 in
theorem ok_fX11_onesWho {m : mm_MM} {x1 : Int32} {q0 : Int32 × mm_MM} (h : fX11_onesWho m x1 = some q0) : Ev XL xs (d + 3) 238 (ev_M m c w) 0 (lv_args 0 [.ref 606, .int x1]) [] (fr_i c w q0) := by
  unfold fX11_onesWho at h
  refine ev_s 4 (M' := ev_M m c w) (pc' := 4) (lv' := [(3, .int 0), (2, .int 0), (0, .ref 606), (1, .int x1)]) (st' := []) (fun n => rfl) ?_
  refine ev_sub (lv := [(0, .ref 606), (1, .int x1), (2, .int 0), (3, .int 0)]) (mn_of rfl (by repeat (first | exact trivial | refine And.intro rfl ?_))) ?_
  exact ok_fX11_onesWho_c4 fu _ _ _ _ _ h
def fX11_passMonth_c62 (m : mm_MM) : Option (mm_MM) :=
  (fX11_onesWho m 1).bind fun r1 =>
   (fX11_valueOf r1.2 r1.1).bind fun r2 =>
    (if (51 + (3 * m.1 623 50)) < 0 ∨ 231 ≤ (51 + (3 * m.1 623 50)).toNatClampNeg then none else
     (fX11_onesWho (wI r2.2 623 ((51 + (3 * m.1 623 50)).toNatClampNeg) r2.1) 1).bind fun r3 =>
      (fJ6_bitCount_0f7a4 r3.2 r3.1).bind fun r4 =>
       (if ((51 + (3 * m.1 623 50)) + 1) < 0 ∨ 231 ≤ ((51 + (3 * m.1 623 50)) + 1).toNatClampNeg then none else
        (if ((51 + (3 * m.1 623 50)) + 2) < 0 ∨ 231 ≤ ((51 + (3 * m.1 623 50)) + 2).toNatClampNeg then none else
         some (wI (wI (wI r4.2 623 (((51 + (3 * m.1 623 50)) + 1).toNatClampNeg) r4.1) 623 (((51 + (3 * m.1 623 50)) + 2).toNatClampNeg) (r4.2.1 606 32)) 623 50 ((wI (wI r4.2 623 (((51 + (3 * m.1 623 50)) + 1).toNatClampNeg) r4.1) 623 (((51 + (3 * m.1 623 50)) + 2).toNatClampNeg) (r4.2.1 606 32)).1 623 50 + 1)))))
set_option maxRecDepth 20000 in
theorem ok_fX11_passMonth_c62 {m : mm_MM} {q0 : mm_MM} (h : fX11_passMonth_c62 m = some q0) : Ev XL xs (d + 7) 239 (ev_M m c w) 62 [(0, .ref 606)] [] (fr_v c w q0) := by
  unfold fX11_passMonth_c62 at h
  obtain ⟨r1, hr1, h⟩ := Option.bind_eq_some_iff.mp h
  refine ev_c 16 (y' := 238) (M1 := ev_M m c w) (la := lv_args 0 [.ref 606, .int 1]) (rest := [.ref 606, .int (51 + (3 * m.1 623 50)), .ref 623]) (pc' := 86) (lv' := [(1, .int (51 + (3 * m.1 623 50))), (0, .ref 606)]) (fun n => rfl) (ok_fX11_onesWho hr1) ?_
  show Ev XL xs _ 239 (ev_M r1.2 c w) 86 [(1, .int (51 + (3 * m.1 623 50))), (0, .ref 606)] [.int r1.1, .ref 606, .int (51 + (3 * m.1 623 50)), .ref 623] _
  obtain ⟨r2, hr2, h⟩ := Option.bind_eq_some_iff.mp h
  refine ev_c 1 (y' := 237) (M1 := ev_M r1.2 c w) (la := lv_args 0 [.ref 606, .int r1.1]) (rest := [.int (51 + (3 * m.1 623 50)), .ref 623]) (pc' := 89) (lv' := [(1, .int (51 + (3 * m.1 623 50))), (0, .ref 606)]) (fun n => rfl) (ok_fX11_valueOf hr2) ?_
  show Ev XL xs _ 239 (ev_M r2.2 c w) 89 [(1, .int (51 + (3 * m.1 623 50))), (0, .ref 606)] [.int r2.1, .int (51 + (3 * m.1 623 50)), .ref 623] _
  refine ev_g 1 (M1 := ev_M (wI r2.2 623 ((51 + (3 * m.1 623 50)).toNatClampNeg) r2.1) c w) (pc1 := 90) (lv1 := [(1, .int (51 + (3 * m.1 623 50))), (0, .ref 606)]) (st1 := []) (fun n => rfl) h (fun _ h => ?_)
  obtain ⟨r3, hr3, h⟩ := Option.bind_eq_some_iff.mp h
  refine ev_c 8 (y' := 238) (M1 := ev_M (wI r2.2 623 ((51 + (3 * m.1 623 50)).toNatClampNeg) r2.1) c w) (la := lv_args 0 [.ref 606, .int 1]) (rest := [.int ((51 + (3 * m.1 623 50)) + 1), .ref 623]) (pc' := 102) (lv' := [(1, .int (51 + (3 * m.1 623 50))), (0, .ref 606)]) (fun n => rfl) (ok_fX11_onesWho hr3) ?_
  show Ev XL xs _ 239 (ev_M r3.2 c w) 102 [(1, .int (51 + (3 * m.1 623 50))), (0, .ref 606)] [.int r3.1, .int ((51 + (3 * m.1 623 50)) + 1), .ref 623] _
  obtain ⟨r4, hr4, h⟩ := Option.bind_eq_some_iff.mp h
  refine ev_c 1 (y' := 302) (M1 := ev_M r3.2 c w) (la := lv_args 0 [.int r3.1]) (rest := [.int ((51 + (3 * m.1 623 50)) + 1), .ref 623]) (pc' := 105) (lv' := [(1, .int (51 + (3 * m.1 623 50))), (0, .ref 606)]) (fun n => rfl) (ok_fJ6_bitCount_0f7a4 hr4) ?_
  show Ev XL xs _ 239 (ev_M r4.2 c w) 105 [(1, .int (51 + (3 * m.1 623 50))), (0, .ref 606)] [.int r4.1, .int ((51 + (3 * m.1 623 50)) + 1), .ref 623] _
  refine ev_g 1 (M1 := ev_M (wI r4.2 623 (((51 + (3 * m.1 623 50)) + 1).toNatClampNeg) r4.1) c w) (pc1 := 106) (lv1 := [(1, .int (51 + (3 * m.1 623 50))), (0, .ref 606)]) (st1 := []) (fun n => rfl) h (fun _ h => ?_)
  refine ev_g 8 (M1 := ev_M (wI (wI r4.2 623 (((51 + (3 * m.1 623 50)) + 1).toNatClampNeg) r4.1) 623 (((51 + (3 * m.1 623 50)) + 2).toNatClampNeg) (r4.2.1 606 32)) c w) (pc1 := 118) (lv1 := [(1, .int (51 + (3 * m.1 623 50))), (0, .ref 606)]) (st1 := []) (fun n => rfl) h (fun _ h => ?_)
  cases h
  exact ev_r 9 (fun n => rfl)
def fX11_passMonth_c18 : Nat → mm_MM → Int32 → Option (mm_MM)
  | 0 => fun _ _ => none
  | n + 1 => fun m x1 =>
    (if x1 < 180 then
      (if (51 + x1) < 0 ∨ 231 ≤ (51 + x1).toNatClampNeg then none else
       (if ((51 + x1) - 3) < 0 ∨ 231 ≤ ((51 + x1) - 3).toNatClampNeg then none else
        fX11_passMonth_c18 n (wI m 623 (((51 + x1) - 3).toNatClampNeg) (m.1 623 ((51 + x1).toNatClampNeg))) (x1 + 1)))
     else
      fX11_passMonth_c62 (wI m 623 50 (m.1 623 50 - 1)))
set_option maxRecDepth 20000 in
theorem ok_fX11_passMonth_c18 : ∀ (n : Nat) (m : mm_MM) (x1 : Int32) (q0 : mm_MM), fX11_passMonth_c18 n m x1 = some q0 → Ev XL xs (d + 7) 239 (ev_M m c w) 18 [(0, .ref 606), (1, .int x1)] [] (fr_v c w q0) := by
  intro n
  induction n with
  | zero => intro m x1 q0 h; exact absurd (show (none : Option (mm_MM)) = some q0 from h) (by simp)
  | succ n ih =>
    intro m x1 q0 h
    unfold fX11_passMonth_c18 at h
    refine ev_i 3 (M1 := ev_M m c w) (pc1 := 25) (lv1 := [(0, .ref 606), (1, .int x1)]) (st1 := []) (M2 := ev_M m c w) (pc2 := 51) (lv2 := [(0, .ref 606), (1, .int x1)]) (st2 := []) (fun n => rfl) h (fun hc1 h => ?_) (fun hc1 h => ?_)
    · refine ev_g 13 (M1 := ev_M m c w) (pc1 := 44) (lv1 := [(0, .ref 606), (1, .int x1)]) (st1 := [.int (m.1 623 ((51 + x1).toNatClampNeg)), .int ((51 + x1) - 3), .ref 623]) (fun n => rfl) h (fun _ h => ?_)
      refine ev_g 1 (M1 := ev_M (wI m 623 (((51 + x1) - 3).toNatClampNeg) (m.1 623 ((51 + x1).toNatClampNeg))) c w) (pc1 := 45) (lv1 := [(0, .ref 606), (1, .int x1)]) (st1 := []) (fun n => rfl) h (fun _ h => ?_)
      refine ev_s 2 (M' := ev_M (wI m 623 (((51 + x1) - 3).toNatClampNeg) (m.1 623 ((51 + x1).toNatClampNeg))) c w) (pc' := 18) (lv' := [(1, .int (x1 + 1)), (0, .ref 606)]) (st' := []) (fun n => rfl) ?_
      refine ev_sub (lv := [(0, .ref 606), (1, .int (x1 + 1))]) (mn_of rfl (by repeat (first | exact trivial | refine And.intro rfl ?_))) ?_
      exact ih _ _ _ h
    · refine ev_s 8 (M' := ev_M (wI m 623 50 (m.1 623 50 - 1)) c w) (pc' := 62) (lv' := [(0, .ref 606), (1, .int x1)]) (st' := []) (fun n => rfl) ?_
      refine ev_sub (lv := [(0, .ref 606)]) (mn_of rfl (by repeat (first | exact trivial | refine And.intro rfl ?_))) ?_
      exact ok_fX11_passMonth_c62 h
def fX11_passMonth (m : mm_MM) : Option (mm_MM) :=
  (fX11_live m).bind fun r1 =>
   (if r1.1 623 50 = 60 then
     fX11_passMonth_c18 fu r1 3
    else
     fX11_passMonth_c62 r1)
set_option maxRecDepth 20000 in
theorem ok_fX11_passMonth {m : mm_MM} {q0 : mm_MM} (h : fX11_passMonth m = some q0) : Ev XL xs (d + 7) 239 (ev_M m c w) 0 (lv_args 0 [.ref 606]) [] (fr_v c w q0) := by
  unfold fX11_passMonth at h
  obtain ⟨r1, hr1, h⟩ := Option.bind_eq_some_iff.mp h
  refine ev_c 2 (y' := 236) (M1 := ev_M m c w) (la := lv_args 0 [.ref 606]) (rest := []) (pc' := 4) (lv' := [(0, .ref 606)]) (fun n => rfl) (ok_fX11_live hr1) ?_
  show Ev XL xs _ 239 (ev_M r1 c w) 4 [(0, .ref 606)] [] _
  refine ev_i 6 (M1 := ev_M r1 c w) (pc1 := 16) (lv1 := [(0, .ref 606)]) (st1 := []) (M2 := ev_M r1 c w) (pc2 := 62) (lv2 := [(0, .ref 606)]) (st2 := []) (fun n => rfl) h (fun hc2 h => ?_) (fun hc2 h => ?_)
  · refine ev_s 2 (M' := ev_M r1 c w) (pc' := 18) (lv' := [(1, .int 3), (0, .ref 606)]) (st' := []) (fun n => rfl) ?_
    refine ev_sub (lv := [(0, .ref 606), (1, .int 3)]) (mn_of rfl (by repeat (first | exact trivial | refine And.intro rfl ?_))) ?_
    exact ok_fX11_passMonth_c18 fu _ _ _ h
  · exact ok_fX11_passMonth_c62 h
def fX11_rule_c41 (m : mm_MM) (s0 : Int32) : Option (Int32 × mm_MM) :=
  some (s0, m)
theorem ok_fX11_rule_c41 {m : mm_MM} {s0 : Int32} {q0 : Int32 × mm_MM} (h : fX11_rule_c41 m s0 = some q0) : Ev XL xs (d + 1) 240 (ev_M m c w) 41 [] [.int s0] (fr_i c w q0) := by
  unfold fX11_rule_c41 at h
  cases h
  exact ev_r 1 (fun n => rfl)
def fX11_rule_c16 (m : mm_MM) : Option (Int32 × mm_MM) :=
  fX11_rule_c41 m ((-1) : Int32)
theorem ok_fX11_rule_c16 {m : mm_MM} {q0 : Int32 × mm_MM} (h : fX11_rule_c16 m = some q0) : Ev XL xs (d + 1) 240 (ev_M m c w) 16 [] [] (fr_i c w q0) := by
  unfold fX11_rule_c16 at h
  refine ev_s 2 (M' := ev_M m c w) (pc' := 41) (lv' := []) (st' := [.int ((-1) : Int32)]) (fun n => rfl) ?_
  exact ok_fX11_rule_c41 h
def fX11_rule (m : mm_MM) (x1 : Int32) : Option (Int32 × mm_MM) :=
  (if m.1 606 26 = 0 then
    fX11_rule_c16 m
   else
    (fX11_in m x1 0 4).bind fun r2 =>
     (if r2.1 = 0 then
       fX11_rule_c16 r2.2
      else
       (if x1 = 4 then
         fX11_rule_c41 r2.2 (r2.2.1 623 48)
        else
         (if x1 < 0 ∨ 5 ≤ x1.toNatClampNeg then none else
          fX11_rule_c41 r2.2 (r2.2.1 620 x1.toNatClampNeg)))))
theorem ok_fX11_rule {m : mm_MM} {x1 : Int32} {q0 : Int32 × mm_MM} (h : fX11_rule m x1 = some q0) : Ev XL xs (d + 1) 240 (ev_M m c w) 0 (lv_args 0 [.ref 606, .int x1]) [] (fr_i c w q0) := by
  unfold fX11_rule at h
  refine ev_i 3 (M1 := ev_M m c w) (pc1 := 16) (lv1 := [(0, .ref 606), (1, .int x1)]) (st1 := []) (M2 := ev_M m c w) (pc2 := 7) (lv2 := [(0, .ref 606), (1, .int x1)]) (st2 := []) (fun n => rfl) h (fun hc1 h => ?_) (fun hc1 h => ?_)
  · refine ev_sub (lv := []) (mn_of rfl (by repeat (first | exact trivial | refine And.intro rfl ?_))) ?_
    exact ok_fX11_rule_c16 h
  · obtain ⟨r2, hr2, h⟩ := Option.bind_eq_some_iff.mp h
    refine ev_c 4 (y' := 178) (M1 := ev_M m c w) (la := lv_args 0 [.int x1, .int 0, .int 4]) (rest := []) (pc' := 13) (lv' := [(0, .ref 606), (1, .int x1)]) (fun n => rfl) (ok_fX11_in hr2) ?_
    show Ev XL xs _ 240 (ev_M r2.2 c w) 13 [(0, .ref 606), (1, .int x1)] [.int r2.1] _
    refine ev_i 1 (M1 := ev_M r2.2 c w) (pc1 := 16) (lv1 := [(0, .ref 606), (1, .int x1)]) (st1 := []) (M2 := ev_M r2.2 c w) (pc2 := 20) (lv2 := [(0, .ref 606), (1, .int x1)]) (st2 := []) (fun n => rfl) h (fun hc3 h => ?_) (fun hc3 h => ?_)
    · refine ev_sub (lv := []) (mn_of rfl (by repeat (first | exact trivial | refine And.intro rfl ?_))) ?_
      exact ok_fX11_rule_c16 h
    · refine ev_i 3 (M1 := ev_M r2.2 c w) (pc1 := 25) (lv1 := [(0, .ref 606), (1, .int x1)]) (st1 := []) (M2 := ev_M r2.2 c w) (pc2 := 35) (lv2 := [(0, .ref 606), (1, .int x1)]) (st2 := []) (fun n => rfl) h (fun hc4 h => ?_) (fun hc4 h => ?_)
      · refine ev_s 5 (M' := ev_M r2.2 c w) (pc' := 41) (lv' := [(0, .ref 606), (1, .int x1)]) (st' := [.int (r2.2.1 623 48)]) (fun n => rfl) ?_
        refine ev_sub (lv := []) (mn_of rfl (by repeat (first | exact trivial | refine And.intro rfl ?_))) ?_
        exact ok_fX11_rule_c41 h
      · refine ev_g 4 (M1 := ev_M r2.2 c w) (pc1 := 41) (lv1 := [(0, .ref 606), (1, .int x1)]) (st1 := [.int (r2.2.1 620 x1.toNatClampNeg)]) (fun n => rfl) h (fun _ h => ?_)
        refine ev_sub (lv := []) (mn_of rfl (by repeat (first | exact trivial | refine And.intro rfl ?_))) ?_
        exact ok_fX11_rule_c41 h
def fX11_damp_c18 (m : mm_MM) (s0 : Int32) : Option (Int32 × mm_MM) :=
  some (s0, m)
theorem ok_fX11_damp_c18 {m : mm_MM} {s0 : Int32} {q0 : Int32 × mm_MM} (h : fX11_damp_c18 m s0 = some q0) : Ev XL xs (d + 2) 241 (ev_M m c w) 18 [] [.int s0] (fr_i c w q0) := by
  unfold fX11_damp_c18 at h
  cases h
  exact ev_r 1 (fun n => rfl)
def fX11_damp (m : mm_MM) (x1 : Int32) : Option (Int32 × mm_MM) :=
  (fX11_isRow m x1).bind fun r1 =>
   (if r1.1 = 0 then
     fX11_damp_c18 r1.2 ((-1) : Int32)
    else
     (if x1 < 0 ∨ 4 ≤ x1.toNatClampNeg then none else
      fX11_damp_c18 r1.2 (r1.2.1 621 x1.toNatClampNeg)))
theorem ok_fX11_damp {m : mm_MM} {x1 : Int32} {q0 : Int32 × mm_MM} (h : fX11_damp m x1 = some q0) : Ev XL xs (d + 2) 241 (ev_M m c w) 0 (lv_args 0 [.ref 606, .int x1]) [] (fr_i c w q0) := by
  unfold fX11_damp at h
  obtain ⟨r1, hr1, h⟩ := Option.bind_eq_some_iff.mp h
  refine ev_c 3 (y' := 229) (M1 := ev_M m c w) (la := lv_args 0 [.ref 606, .int x1]) (rest := []) (pc' := 5) (lv' := [(0, .ref 606), (1, .int x1)]) (fun n => rfl) (ok_fX11_isRow hr1) ?_
  show Ev XL xs _ 241 (ev_M r1.2 c w) 5 [(0, .ref 606), (1, .int x1)] [.int r1.1] _
  refine ev_i 1 (M1 := ev_M r1.2 c w) (pc1 := 17) (lv1 := [(0, .ref 606), (1, .int x1)]) (st1 := []) (M2 := ev_M r1.2 c w) (pc2 := 8) (lv2 := [(0, .ref 606), (1, .int x1)]) (st2 := []) (fun n => rfl) h (fun hc2 h => ?_) (fun hc2 h => ?_)
  · refine ev_s 1 (M' := ev_M r1.2 c w) (pc' := 18) (lv' := [(0, .ref 606), (1, .int x1)]) (st' := [.int ((-1) : Int32)]) (fun n => rfl) ?_
    refine ev_sub (lv := []) (mn_of rfl (by repeat (first | exact trivial | refine And.intro rfl ?_))) ?_
    exact ok_fX11_damp_c18 h
  · refine ev_g 4 (M1 := ev_M r1.2 c w) (pc1 := 14) (lv1 := [(0, .ref 606), (1, .int x1)]) (st1 := [.int (r1.2.1 621 x1.toNatClampNeg)]) (fun n => rfl) h (fun _ h => ?_)
    refine ev_s 1 (M' := ev_M r1.2 c w) (pc' := 18) (lv' := [(0, .ref 606), (1, .int x1)]) (st' := [.int (r1.2.1 621 x1.toNatClampNeg)]) (fun n => rfl) ?_
    refine ev_sub (lv := []) (mn_of rfl (by repeat (first | exact trivial | refine And.intro rfl ?_))) ?_
    exact ok_fX11_damp_c18 h
def fX11_thing_c44 (m : mm_MM) (s0 : Int32) : Option (Int32 × mm_MM) :=
  some (s0, m)
theorem ok_fX11_thing_c44 {m : mm_MM} {s0 : Int32} {q0 : Int32 × mm_MM} (h : fX11_thing_c44 m s0 = some q0) : Ev XL xs (d + 2) 242 (ev_M m c w) 44 [] [.int s0] (fr_i c w q0) := by
  unfold fX11_thing_c44 at h
  cases h
  exact ev_r 1 (fun n => rfl)
def fX11_thing_c23 (m : mm_MM) (x1 : Int32) (x2 : Int32) (s1 : Int32) : Option (Int32 × mm_MM) :=
  (if s1 = 1 then
    fX11_thing_c44 (wI m 606 0 s1) 0
   else
    (fX11_of (wI m 606 0 s1) x1 x2).bind fun r2 =>
     fX11_thing_c44 r2.2 r2.1)
theorem ok_fX11_thing_c23 {m : mm_MM} {x1 : Int32} {x2 : Int32} {s1 : Int32} {q0 : Int32 × mm_MM} (h : fX11_thing_c23 m x1 x2 s1 = some q0) : Ev XL xs (d + 2) 242 (ev_M m c w) 23 [(0, .ref 606), (1, .int x1), (2, .int x2)] [.int s1, .ref 606] (fr_i c w q0) := by
  unfold fX11_thing_c23 at h
  refine ev_i 5 (M1 := ev_M (wI m 606 0 s1) c w) (pc1 := 34) (lv1 := [(0, .ref 606), (1, .int x1), (2, .int x2)]) (st1 := []) (M2 := ev_M (wI m 606 0 s1) c w) (pc2 := 38) (lv2 := [(0, .ref 606), (1, .int x1), (2, .int x2)]) (st2 := []) (fun n => rfl) h (fun hc1 h => ?_) (fun hc1 h => ?_)
  · refine ev_s 2 (M' := ev_M (wI m 606 0 s1) c w) (pc' := 44) (lv' := [(0, .ref 606), (1, .int x1), (2, .int x2)]) (st' := [.int 0]) (fun n => rfl) ?_
    refine ev_sub (lv := []) (mn_of rfl (by repeat (first | exact trivial | refine And.intro rfl ?_))) ?_
    exact ok_fX11_thing_c44 h
  · obtain ⟨r2, hr2, h⟩ := Option.bind_eq_some_iff.mp h
    refine ev_c 4 (y' := 220) (M1 := ev_M (wI m 606 0 s1) c w) (la := lv_args 0 [.ref 606, .int x1, .int x2]) (rest := []) (pc' := 44) (lv' := [(0, .ref 606), (1, .int x1), (2, .int x2)]) (fun n => rfl) (ok_fX11_of hr2) ?_
    show Ev XL xs _ 242 (ev_M r2.2 c w) 44 [(0, .ref 606), (1, .int x1), (2, .int x2)] [.int r2.1] _
    refine ev_sub (lv := []) (mn_of rfl (by repeat (first | exact trivial | refine And.intro rfl ?_))) ?_
    exact ok_fX11_thing_c44 h
def fX11_thing_c22 (m : mm_MM) (x1 : Int32) (x2 : Int32) : Option (Int32 × mm_MM) :=
  fX11_thing_c23 m x1 x2 1
theorem ok_fX11_thing_c22 {m : mm_MM} {x1 : Int32} {x2 : Int32} {q0 : Int32 × mm_MM} (h : fX11_thing_c22 m x1 x2 = some q0) : Ev XL xs (d + 2) 242 (ev_M m c w) 22 [(0, .ref 606), (1, .int x1), (2, .int x2)] [.ref 606] (fr_i c w q0) := by
  unfold fX11_thing_c22 at h
  refine ev_s 1 (M' := ev_M m c w) (pc' := 23) (lv' := [(0, .ref 606), (1, .int x1), (2, .int x2)]) (st' := [.int 1, .ref 606]) (fun n => rfl) ?_
  exact ok_fX11_thing_c23 h
def fX11_thing (m : mm_MM) (x1 : Int32) (x2 : Int32) : Option (Int32 × mm_MM) :=
  (fX11_isThere m x1).bind fun r1 =>
   (if r1.1 = 0 then
     fX11_thing_c22 r1.2 x1 x2
    else
     (fX11_in r1.2 x2 0 4).bind fun r3 =>
      (if r3.1 = 0 then
        fX11_thing_c22 r3.2 x1 x2
       else
        fX11_thing_c23 r3.2 x1 x2 0))
theorem ok_fX11_thing {m : mm_MM} {x1 : Int32} {x2 : Int32} {q0 : Int32 × mm_MM} (h : fX11_thing m x1 x2 = some q0) : Ev XL xs (d + 2) 242 (ev_M m c w) 0 (lv_args 0 [.ref 606, .int x1, .int x2]) [] (fr_i c w q0) := by
  unfold fX11_thing at h
  obtain ⟨r1, hr1, h⟩ := Option.bind_eq_some_iff.mp h
  refine ev_c 4 (y' := 225) (M1 := ev_M m c w) (la := lv_args 0 [.ref 606, .int x1]) (rest := [.ref 606]) (pc' := 6) (lv' := [(0, .ref 606), (1, .int x1), (2, .int x2)]) (fun n => rfl) (ok_fX11_isThere hr1) ?_
  show Ev XL xs _ 242 (ev_M r1.2 c w) 6 [(0, .ref 606), (1, .int x1), (2, .int x2)] [.int r1.1, .ref 606] _
  refine ev_i 1 (M1 := ev_M r1.2 c w) (pc1 := 22) (lv1 := [(0, .ref 606), (1, .int x1), (2, .int x2)]) (st1 := [.ref 606]) (M2 := ev_M r1.2 c w) (pc2 := 9) (lv2 := [(0, .ref 606), (1, .int x1), (2, .int x2)]) (st2 := [.ref 606]) (fun n => rfl) h (fun hc2 h => ?_) (fun hc2 h => ?_)
  · exact ok_fX11_thing_c22 h
  · obtain ⟨r3, hr3, h⟩ := Option.bind_eq_some_iff.mp h
    refine ev_c 4 (y' := 178) (M1 := ev_M r1.2 c w) (la := lv_args 0 [.int x2, .int 0, .int 4]) (rest := [.ref 606]) (pc' := 15) (lv' := [(0, .ref 606), (1, .int x1), (2, .int x2)]) (fun n => rfl) (ok_fX11_in hr3) ?_
    show Ev XL xs _ 242 (ev_M r3.2 c w) 15 [(0, .ref 606), (1, .int x1), (2, .int x2)] [.int r3.1, .ref 606] _
    refine ev_i 1 (M1 := ev_M r3.2 c w) (pc1 := 22) (lv1 := [(0, .ref 606), (1, .int x1), (2, .int x2)]) (st1 := [.ref 606]) (M2 := ev_M r3.2 c w) (pc2 := 18) (lv2 := [(0, .ref 606), (1, .int x1), (2, .int x2)]) (st2 := [.ref 606]) (fun n => rfl) h (fun hc4 h => ?_) (fun hc4 h => ?_)
    · exact ok_fX11_thing_c22 h
    · refine ev_s 2 (M' := ev_M r3.2 c w) (pc' := 23) (lv' := [(0, .ref 606), (1, .int x1), (2, .int x2)]) (st' := [.int 0, .ref 606]) (fun n => rfl) ?_
      exact ok_fX11_thing_c23 h
def fX11_lies_c17 (m : mm_MM) (s0 : Int32) : Option (Int32 × mm_MM) :=
  some (s0, m)
theorem ok_fX11_lies_c17 {m : mm_MM} {s0 : Int32} {q0 : Int32 × mm_MM} (h : fX11_lies_c17 m s0 = some q0) : Ev XL xs (d + 4) 243 (ev_M m c w) 17 [] [.int s0] (fr_i c w q0) := by
  unfold fX11_lies_c17 at h
  cases h
  exact ev_r 1 (fun n => rfl)
def fX11_lies (m : mm_MM) (x1 : Int32) : Option (Int32 × mm_MM) :=
  (fX11_isPlot m x1).bind fun r1 =>
   (if r1.1 = 0 then
     fX11_lies_c17 r1.2 ((-1) : Int32)
    else
     (fX11_inPlot r1.2 x1).bind fun r3 =>
      fX11_lies_c17 r3.2 r3.1)
theorem ok_fX11_lies {m : mm_MM} {x1 : Int32} {q0 : Int32 × mm_MM} (h : fX11_lies m x1 = some q0) : Ev XL xs (d + 4) 243 (ev_M m c w) 0 (lv_args 0 [.ref 606, .int x1]) [] (fr_i c w q0) := by
  unfold fX11_lies at h
  obtain ⟨r1, hr1, h⟩ := Option.bind_eq_some_iff.mp h
  refine ev_c 3 (y' := 228) (M1 := ev_M m c w) (la := lv_args 0 [.ref 606, .int x1]) (rest := []) (pc' := 5) (lv' := [(0, .ref 606), (1, .int x1)]) (fun n => rfl) (ok_fX11_isPlot hr1) ?_
  show Ev XL xs _ 243 (ev_M r1.2 c w) 5 [(0, .ref 606), (1, .int x1)] [.int r1.1] _
  refine ev_i 1 (M1 := ev_M r1.2 c w) (pc1 := 16) (lv1 := [(0, .ref 606), (1, .int x1)]) (st1 := []) (M2 := ev_M r1.2 c w) (pc2 := 8) (lv2 := [(0, .ref 606), (1, .int x1)]) (st2 := []) (fun n => rfl) h (fun hc2 h => ?_) (fun hc2 h => ?_)
  · refine ev_s 1 (M' := ev_M r1.2 c w) (pc' := 17) (lv' := [(0, .ref 606), (1, .int x1)]) (st' := [.int ((-1) : Int32)]) (fun n => rfl) ?_
    refine ev_sub (lv := []) (mn_of rfl (by repeat (first | exact trivial | refine And.intro rfl ?_))) ?_
    exact ok_fX11_lies_c17 h
  · obtain ⟨r3, hr3, h⟩ := Option.bind_eq_some_iff.mp h
    refine ev_c 3 (y' := 232) (M1 := ev_M r1.2 c w) (la := lv_args 0 [.ref 606, .int x1]) (rest := []) (pc' := 13) (lv' := [(0, .ref 606), (1, .int x1)]) (fun n => rfl) (ok_fX11_inPlot hr3) ?_
    show Ev XL xs _ 243 (ev_M r3.2 c w) 13 [(0, .ref 606), (1, .int x1)] [.int r3.1] _
    refine ev_s 1 (M' := ev_M r3.2 c w) (pc' := 17) (lv' := [(0, .ref 606), (1, .int x1)]) (st' := [.int r3.1]) (fun n => rfl) ?_
    refine ev_sub (lv := []) (mn_of rfl (by repeat (first | exact trivial | refine And.intro rfl ?_))) ?_
    exact ok_fX11_lies_c17 h
def fX11_law (m : mm_MM) (x1 : Int32) : Option (Int32 × mm_MM) :=
  (fX11_in m x1 ((-1) : Int32) (m.1 606 13 - 1)).bind fun r1 =>
   (if r1.1 = 0 then
     some (0, r1.2)
    else
     some (1, (wI r1.2 606 29 x1)))
theorem ok_fX11_law {m : mm_MM} {x1 : Int32} {q0 : Int32 × mm_MM} (h : fX11_law m x1 = some q0) : Ev XL xs (d + 1) 244 (ev_M m c w) 0 (lv_args 0 [.ref 606, .int x1]) [] (fr_i c w q0) := by
  unfold fX11_law at h
  obtain ⟨r1, hr1, h⟩ := Option.bind_eq_some_iff.mp h
  refine ev_c 7 (y' := 178) (M1 := ev_M m c w) (la := lv_args 0 [.int x1, .int ((-1) : Int32), .int (m.1 606 13 - 1)]) (rest := []) (pc' := 11) (lv' := [(0, .ref 606), (1, .int x1)]) (fun n => rfl) (ok_fX11_in hr1) ?_
  show Ev XL xs _ 244 (ev_M r1.2 c w) 11 [(0, .ref 606), (1, .int x1)] [.int r1.1] _
  refine ev_i 1 (M1 := ev_M r1.2 c w) (pc1 := 14) (lv1 := [(0, .ref 606), (1, .int x1)]) (st1 := []) (M2 := ev_M r1.2 c w) (pc2 := 16) (lv2 := [(0, .ref 606), (1, .int x1)]) (st2 := []) (fun n => rfl) h (fun hc2 h => ?_) (fun hc2 h => ?_)
  · cases h
    exact ev_r 2 (fun n => rfl)
  · cases h
    exact ev_r 5 (fun n => rfl)
def fX11_moles_c18 (m : mm_MM) : Option (Int32 × mm_MM) :=
  some (0, m)
theorem ok_fX11_moles_c18 {m : mm_MM} {q0 : Int32 × mm_MM} (h : fX11_moles_c18 m = some q0) : Ev XL xs (d + 1) 245 (ev_M m c w) 18 [] [] (fr_i c w q0) := by
  unfold fX11_moles_c18 at h
  cases h
  exact ev_r 2 (fun n => rfl)
def fX11_moles (m : mm_MM) (x1 : Int32) : Option (Int32 × mm_MM) :=
  (fX11_in m x1 0 9).bind fun r1 =>
   (if r1.1 = 0 then
     fX11_moles_c18 r1.2
    else
     (if x1 = r1.2.1 606 30 then
       fX11_moles_c18 r1.2
      else
       some (1, (wI r1.2 606 30 x1))))
theorem ok_fX11_moles {m : mm_MM} {x1 : Int32} {q0 : Int32 × mm_MM} (h : fX11_moles m x1 = some q0) : Ev XL xs (d + 1) 245 (ev_M m c w) 0 (lv_args 0 [.ref 606, .int x1]) [] (fr_i c w q0) := by
  unfold fX11_moles at h
  obtain ⟨r1, hr1, h⟩ := Option.bind_eq_some_iff.mp h
  refine ev_c 4 (y' := 178) (M1 := ev_M m c w) (la := lv_args 0 [.int x1, .int 0, .int 9]) (rest := []) (pc' := 7) (lv' := [(0, .ref 606), (1, .int x1)]) (fun n => rfl) (ok_fX11_in hr1) ?_
  show Ev XL xs _ 245 (ev_M r1.2 c w) 7 [(0, .ref 606), (1, .int x1)] [.int r1.1] _
  refine ev_i 1 (M1 := ev_M r1.2 c w) (pc1 := 18) (lv1 := [(0, .ref 606), (1, .int x1)]) (st1 := []) (M2 := ev_M r1.2 c w) (pc2 := 10) (lv2 := [(0, .ref 606), (1, .int x1)]) (st2 := []) (fun n => rfl) h (fun hc2 h => ?_) (fun hc2 h => ?_)
  · refine ev_sub (lv := []) (mn_of rfl (by repeat (first | exact trivial | refine And.intro rfl ?_))) ?_
    exact ok_fX11_moles_c18 h
  · refine ev_i 4 (M1 := ev_M r1.2 c w) (pc1 := 18) (lv1 := [(0, .ref 606), (1, .int x1)]) (st1 := []) (M2 := ev_M r1.2 c w) (pc2 := 20) (lv2 := [(0, .ref 606), (1, .int x1)]) (st2 := []) (fun n => rfl) h (fun hc3 h => ?_) (fun hc3 h => ?_)
    · refine ev_sub (lv := []) (mn_of rfl (by repeat (first | exact trivial | refine And.intro rfl ?_))) ?_
      exact ok_fX11_moles_c18 h
    · cases h
      exact ev_r 5 (fun n => rfl)
def fX11_keep_c54 : Nat → mm_MM → Int32 → Option (mm_MM)
  | 0 => fun _ _ => none
  | n + 1 => fun m x1 =>
    (if x1 < 231 then
      (if x1 < 0 ∨ 231 ≤ x1.toNatClampNeg then none else
       (if ((231 * m.1 606 34) + x1) < 0 ∨ 9240 ≤ ((231 * m.1 606 34) + x1).toNatClampNeg then none else
        fX11_keep_c54 n (wI m 626 (((231 * m.1 606 34) + x1).toNatClampNeg) (m.1 623 x1.toNatClampNeg)) (x1 + 1)))
     else
      some (wI m 606 34 (m.1 606 34 + 1)))
set_option maxRecDepth 20000 in
theorem ok_fX11_keep_c54 : ∀ (n : Nat) (m : mm_MM) (x1 : Int32) (q0 : mm_MM), fX11_keep_c54 n m x1 = some q0 → Ev XL xs d 246 (ev_M m c w) 54 [(0, .ref 606), (1, .int x1)] [] (fr_v c w q0) := by
  intro n
  induction n with
  | zero => intro m x1 q0 h; exact absurd (show (none : Option (mm_MM)) = some q0 from h) (by simp)
  | succ n ih =>
    intro m x1 q0 h
    unfold fX11_keep_c54 at h
    refine ev_i 3 (M1 := ev_M m c w) (pc1 := 61) (lv1 := [(0, .ref 606), (1, .int x1)]) (st1 := []) (M2 := ev_M m c w) (pc2 := 88) (lv2 := [(0, .ref 606), (1, .int x1)]) (st2 := []) (fun n => rfl) h (fun hc1 h => ?_) (fun hc1 h => ?_)
    · refine ev_g 12 (M1 := ev_M m c w) (pc1 := 81) (lv1 := [(0, .ref 606), (1, .int x1)]) (st1 := [.int (m.1 623 x1.toNatClampNeg), .int ((231 * m.1 606 34) + x1), .ref 626]) (fun n => rfl) h (fun _ h => ?_)
      refine ev_g 1 (M1 := ev_M (wI m 626 (((231 * m.1 606 34) + x1).toNatClampNeg) (m.1 623 x1.toNatClampNeg)) c w) (pc1 := 82) (lv1 := [(0, .ref 606), (1, .int x1)]) (st1 := []) (fun n => rfl) h (fun _ h => ?_)
      refine ev_s 2 (M' := ev_M (wI m 626 (((231 * m.1 606 34) + x1).toNatClampNeg) (m.1 623 x1.toNatClampNeg)) c w) (pc' := 54) (lv' := [(1, .int (x1 + 1)), (0, .ref 606)]) (st' := []) (fun n => rfl) ?_
      refine ev_sub (lv := [(0, .ref 606), (1, .int (x1 + 1))]) (mn_of rfl (by repeat (first | exact trivial | refine And.intro rfl ?_))) ?_
      exact ih _ _ _ h
    · cases h
      exact ev_r 7 (fun n => rfl)
def fX11_keep_c52 (m : mm_MM) : Option (mm_MM) :=
  fX11_keep_c54 fu m 0
set_option maxRecDepth 20000 in
theorem ok_fX11_keep_c52 {m : mm_MM} {q0 : mm_MM} (h : fX11_keep_c52 m = some q0) : Ev XL xs d 246 (ev_M m c w) 52 [(0, .ref 606)] [] (fr_v c w q0) := by
  unfold fX11_keep_c52 at h
  refine ev_s 2 (M' := ev_M m c w) (pc' := 54) (lv' := [(1, .int 0), (0, .ref 606)]) (st' := []) (fun n => rfl) ?_
  refine ev_sub (lv := [(0, .ref 606), (1, .int 0)]) (mn_of rfl (by repeat (first | exact trivial | refine And.intro rfl ?_))) ?_
  exact ok_fX11_keep_c54 fu _ _ _ h
def fX11_keep_c13 : Nat → mm_MM → Int32 → Option (mm_MM)
  | 0 => fun _ _ => none
  | n + 1 => fun m x1 =>
    (if x1 < 9240 then
      (if x1 < 0 ∨ 9240 ≤ x1.toNatClampNeg then none else
       (if (x1 - 231) < 0 ∨ 9240 ≤ (x1 - 231).toNatClampNeg then none else
        fX11_keep_c13 n (wI m 626 ((x1 - 231).toNatClampNeg) (m.1 626 x1.toNatClampNeg)) (x1 + 1)))
     else
      fX11_keep_c52 (wI m 606 34 (m.1 606 34 - 1)))
set_option maxRecDepth 20000 in
theorem ok_fX11_keep_c13 : ∀ (n : Nat) (m : mm_MM) (x1 : Int32) (q0 : mm_MM), fX11_keep_c13 n m x1 = some q0 → Ev XL xs d 246 (ev_M m c w) 13 [(0, .ref 606), (1, .int x1)] [] (fr_v c w q0) := by
  intro n
  induction n with
  | zero => intro m x1 q0 h; exact absurd (show (none : Option (mm_MM)) = some q0 from h) (by simp)
  | succ n ih =>
    intro m x1 q0 h
    unfold fX11_keep_c13 at h
    refine ev_i 3 (M1 := ev_M m c w) (pc1 := 20) (lv1 := [(0, .ref 606), (1, .int x1)]) (st1 := []) (M2 := ev_M m c w) (pc2 := 42) (lv2 := [(0, .ref 606), (1, .int x1)]) (st2 := []) (fun n => rfl) h (fun hc1 h => ?_) (fun hc1 h => ?_)
    · refine ev_g 9 (M1 := ev_M m c w) (pc1 := 35) (lv1 := [(0, .ref 606), (1, .int x1)]) (st1 := [.int (m.1 626 x1.toNatClampNeg), .int (x1 - 231), .ref 626]) (fun n => rfl) h (fun _ h => ?_)
      refine ev_g 1 (M1 := ev_M (wI m 626 ((x1 - 231).toNatClampNeg) (m.1 626 x1.toNatClampNeg)) c w) (pc1 := 36) (lv1 := [(0, .ref 606), (1, .int x1)]) (st1 := []) (fun n => rfl) h (fun _ h => ?_)
      refine ev_s 2 (M' := ev_M (wI m 626 ((x1 - 231).toNatClampNeg) (m.1 626 x1.toNatClampNeg)) c w) (pc' := 13) (lv' := [(1, .int (x1 + 1)), (0, .ref 606)]) (st' := []) (fun n => rfl) ?_
      refine ev_sub (lv := [(0, .ref 606), (1, .int (x1 + 1))]) (mn_of rfl (by repeat (first | exact trivial | refine And.intro rfl ?_))) ?_
      exact ih _ _ _ h
    · refine ev_s 6 (M' := ev_M (wI m 606 34 (m.1 606 34 - 1)) c w) (pc' := 52) (lv' := [(0, .ref 606), (1, .int x1)]) (st' := []) (fun n => rfl) ?_
      refine ev_sub (lv := [(0, .ref 606)]) (mn_of rfl (by repeat (first | exact trivial | refine And.intro rfl ?_))) ?_
      exact ok_fX11_keep_c52 h
def fX11_keep (m : mm_MM) : Option (mm_MM) :=
  (if m.1 606 34 = 40 then
    fX11_keep_c13 fu m 231
   else
    fX11_keep_c52 m)
set_option maxRecDepth 20000 in
theorem ok_fX11_keep {m : mm_MM} {q0 : mm_MM} (h : fX11_keep m = some q0) : Ev XL xs d 246 (ev_M m c w) 0 (lv_args 0 [.ref 606]) [] (fr_v c w q0) := by
  unfold fX11_keep at h
  refine ev_i 4 (M1 := ev_M m c w) (pc1 := 9) (lv1 := [(0, .ref 606)]) (st1 := []) (M2 := ev_M m c w) (pc2 := 52) (lv2 := [(0, .ref 606)]) (st2 := []) (fun n => rfl) h (fun hc1 h => ?_) (fun hc1 h => ?_)
  · refine ev_s 2 (M' := ev_M m c w) (pc' := 13) (lv' := [(1, .int 231), (0, .ref 606)]) (st' := []) (fun n => rfl) ?_
    refine ev_sub (lv := [(0, .ref 606), (1, .int 231)]) (mn_of rfl (by repeat (first | exact trivial | refine And.intro rfl ?_))) ?_
    exact ok_fX11_keep_c13 fu _ _ _ h
  · exact ok_fX11_keep_c52 h
def fX11_isRefused_c25 (m : mm_MM) (s0 : Int32) : Option (Int32 × mm_MM) :=
  (if s0 = 0 ∨ s0 = 1 then some (s0, m) else none)
theorem ok_fX11_isRefused_c25 {m : mm_MM} {s0 : Int32} {q0 : Int32 × mm_MM} (h : fX11_isRefused_c25 m s0 = some q0) : Ev XL xs d 247 (ev_M m c w) 25 [] [.int s0] (fr_i c w q0) := by
  unfold fX11_isRefused_c25 at h
  exact ev_rg 1 (f := fr_i c w) (fun n => rfl) h
def fX11_isRefused_c15 (m : mm_MM) (x1 : Int32) : Option (Int32 × mm_MM) :=
  (if x1 = ((-1) : Int32) then
    fX11_isRefused_c25 m 0
   else
    fX11_isRefused_c25 m 1)
theorem ok_fX11_isRefused_c15 {m : mm_MM} {x1 : Int32} {q0 : Int32 × mm_MM} (h : fX11_isRefused_c15 m x1 = some q0) : Ev XL xs d 247 (ev_M m c w) 15 [(1, .int x1)] [] (fr_i c w q0) := by
  unfold fX11_isRefused_c15 at h
  refine ev_i 3 (M1 := ev_M m c w) (pc1 := 24) (lv1 := [(1, .int x1)]) (st1 := []) (M2 := ev_M m c w) (pc2 := 20) (lv2 := [(1, .int x1)]) (st2 := []) (fun n => rfl) h (fun hc1 h => ?_) (fun hc1 h => ?_)
  · refine ev_s 1 (M' := ev_M m c w) (pc' := 25) (lv' := [(1, .int x1)]) (st' := [.int 0]) (fun n => rfl) ?_
    refine ev_sub (lv := []) (mn_of rfl (by repeat (first | exact trivial | refine And.intro rfl ?_))) ?_
    exact ok_fX11_isRefused_c25 h
  · refine ev_s 2 (M' := ev_M m c w) (pc' := 25) (lv' := [(1, .int x1)]) (st' := [.int 1]) (fun n => rfl) ?_
    refine ev_sub (lv := []) (mn_of rfl (by repeat (first | exact trivial | refine And.intro rfl ?_))) ?_
    exact ok_fX11_isRefused_c25 h
def fX11_isRefused (m : mm_MM) (x1 : Int32) : Option (Int32 × mm_MM) :=
  (if x1 = ((-1) : Int32) then
    fX11_isRefused_c15 m x1
   else
    (if x1 < 0 ∨ 5 ≤ x1.toNatClampNeg then none else
     (if x1 < 0 ∨ 5 ≤ x1.toNatClampNeg then none else
      fX11_isRefused_c15 (wI m 624 x1.toNatClampNeg (m.1 624 x1.toNatClampNeg + 1)) x1)))
theorem ok_fX11_isRefused {m : mm_MM} {x1 : Int32} {q0 : Int32 × mm_MM} (h : fX11_isRefused m x1 = some q0) : Ev XL xs d 247 (ev_M m c w) 0 (lv_args 0 [.ref 606, .int x1]) [] (fr_i c w q0) := by
  unfold fX11_isRefused at h
  refine ev_i 3 (M1 := ev_M m c w) (pc1 := 15) (lv1 := [(0, .ref 606), (1, .int x1)]) (st1 := []) (M2 := ev_M m c w) (pc2 := 5) (lv2 := [(0, .ref 606), (1, .int x1)]) (st2 := []) (fun n => rfl) h (fun hc1 h => ?_) (fun hc1 h => ?_)
  · refine ev_sub (lv := [(1, .int x1)]) (mn_of rfl (by repeat (first | exact trivial | refine And.intro rfl ?_))) ?_
    exact ok_fX11_isRefused_c15 h
  · refine ev_g 5 (M1 := ev_M m c w) (pc1 := 12) (lv1 := [(0, .ref 606), (1, .int x1)]) (st1 := [.int (m.1 624 x1.toNatClampNeg), .int x1, .ref 624]) (fun n => rfl) h (fun _ h => ?_)
    refine ev_g 3 (M1 := ev_M (wI m 624 x1.toNatClampNeg (m.1 624 x1.toNatClampNeg + 1)) c w) (pc1 := 15) (lv1 := [(0, .ref 606), (1, .int x1)]) (st1 := []) (fun n => rfl) h (fun _ h => ?_)
    refine ev_sub (lv := [(1, .int x1)]) (mn_of rfl (by repeat (first | exact trivial | refine And.intro rfl ?_))) ?_
    exact ok_fX11_isRefused_c15 h
def fX11_areMonths_c30 (m : mm_MM) (s0 : Int32) : Option (Int32 × mm_MM) :=
  (if s0 = 0 ∨ s0 = 1 then some (s0, m) else none)
theorem ok_fX11_areMonths_c30 {m : mm_MM} {s0 : Int32} {q0 : Int32 × mm_MM} (h : fX11_areMonths_c30 m s0 = some q0) : Ev XL xs (d + 1) 248 (ev_M m c w) 30 [] [.int s0] (fr_i c w q0) := by
  unfold fX11_areMonths_c30 at h
  exact ev_rg 1 (f := fr_i c w) (fun n => rfl) h
def fX11_areMonths_c29 (m : mm_MM) : Option (Int32 × mm_MM) :=
  fX11_areMonths_c30 m 0
theorem ok_fX11_areMonths_c29 {m : mm_MM} {q0 : Int32 × mm_MM} (h : fX11_areMonths_c29 m = some q0) : Ev XL xs (d + 1) 248 (ev_M m c w) 29 [] [] (fr_i c w q0) := by
  unfold fX11_areMonths_c29 at h
  refine ev_s 1 (M' := ev_M m c w) (pc' := 30) (lv' := []) (st' := [.int 0]) (fun n => rfl) ?_
  exact ok_fX11_areMonths_c30 h
def fX11_areMonths (m : mm_MM) (x1 : Int32) : Option (Int32 × mm_MM) :=
  (fX11_in m x1 1 60).bind fun r1 =>
   (if r1.1 = 0 then
     fX11_areMonths_c29 r1.2
    else
     (if (r1.2.1 623 49 + x1) ≤ 999 then
       fX11_areMonths_c30 r1.2 1
      else
       fX11_areMonths_c29 r1.2))
theorem ok_fX11_areMonths {m : mm_MM} {x1 : Int32} {q0 : Int32 × mm_MM} (h : fX11_areMonths m x1 = some q0) : Ev XL xs (d + 1) 248 (ev_M m c w) 0 (lv_args 0 [.ref 606, .int x1]) [] (fr_i c w q0) := by
  unfold fX11_areMonths at h
  obtain ⟨r1, hr1, h⟩ := Option.bind_eq_some_iff.mp h
  refine ev_c 4 (y' := 178) (M1 := ev_M m c w) (la := lv_args 0 [.int x1, .int 1, .int 60]) (rest := []) (pc' := 7) (lv' := [(0, .ref 606), (1, .int x1)]) (fun n => rfl) (ok_fX11_in hr1) ?_
  show Ev XL xs _ 248 (ev_M r1.2 c w) 7 [(0, .ref 606), (1, .int x1)] [.int r1.1] _
  refine ev_i 1 (M1 := ev_M r1.2 c w) (pc1 := 29) (lv1 := [(0, .ref 606), (1, .int x1)]) (st1 := []) (M2 := ev_M r1.2 c w) (pc2 := 10) (lv2 := [(0, .ref 606), (1, .int x1)]) (st2 := []) (fun n => rfl) h (fun hc2 h => ?_) (fun hc2 h => ?_)
  · refine ev_sub (lv := []) (mn_of rfl (by repeat (first | exact trivial | refine And.intro rfl ?_))) ?_
    exact ok_fX11_areMonths_c29 h
  · refine ev_i 8 (M1 := ev_M r1.2 c w) (pc1 := 25) (lv1 := [(0, .ref 606), (1, .int x1)]) (st1 := []) (M2 := ev_M r1.2 c w) (pc2 := 29) (lv2 := [(0, .ref 606), (1, .int x1)]) (st2 := []) (fun n => rfl) h (fun hc3 h => ?_) (fun hc3 h => ?_)
    · refine ev_s 2 (M' := ev_M r1.2 c w) (pc' := 30) (lv' := [(0, .ref 606), (1, .int x1)]) (st' := [.int 1]) (fun n => rfl) ?_
      refine ev_sub (lv := []) (mn_of rfl (by repeat (first | exact trivial | refine And.intro rfl ?_))) ?_
      exact ok_fX11_areMonths_c30 h
    · refine ev_sub (lv := []) (mn_of rfl (by repeat (first | exact trivial | refine And.intro rfl ?_))) ?_
      exact ok_fX11_areMonths_c29 h
def fX11_months_c49 : Nat → mm_MM → Int32 → Int32 → Option (Int32 × mm_MM)
  | 0 => fun _ _ _ => none
  | n + 1 => fun m x1 x2 =>
    (if x2 < x1 then
      (fX11_keep m).bind fun r2 =>
       (fX11_passMonth r2).bind fun r3 =>
        fX11_months_c49 n r3 x1 (x2 + 1)
     else
      some (m.1 623 49, m))
theorem ok_fX11_months_c49 : ∀ (n : Nat) (m : mm_MM) (x1 : Int32) (x2 : Int32) (q0 : Int32 × mm_MM), fX11_months_c49 n m x1 x2 = some q0 → Ev XL xs (d + 8) 249 (ev_M m c w) 49 [(0, .ref 606), (1, .int x1), (2, .int x2)] [] (fr_i c w q0) := by
  intro n
  induction n with
  | zero => intro m x1 x2 q0 h; exact absurd (show (none : Option (Int32 × mm_MM)) = some q0 from h) (by simp)
  | succ n ih =>
    intro m x1 x2 q0 h
    unfold fX11_months_c49 at h
    refine ev_i 3 (M1 := ev_M m c w) (pc1 := 54) (lv1 := [(0, .ref 606), (1, .int x1), (2, .int x2)]) (st1 := []) (M2 := ev_M m c w) (pc2 := 68) (lv2 := [(0, .ref 606), (1, .int x1), (2, .int x2)]) (st2 := []) (fun n => rfl) h (fun hc1 h => ?_) (fun hc1 h => ?_)
    · obtain ⟨r2, hr2, h⟩ := Option.bind_eq_some_iff.mp h
      refine ev_c 2 (y' := 246) (M1 := ev_M m c w) (la := lv_args 0 [.ref 606]) (rest := []) (pc' := 58) (lv' := [(0, .ref 606), (1, .int x1), (2, .int x2)]) (fun n => rfl) (ok_fX11_keep hr2) ?_
      show Ev XL xs _ 249 (ev_M r2 c w) 58 [(0, .ref 606), (1, .int x1), (2, .int x2)] [] _
      obtain ⟨r3, hr3, h⟩ := Option.bind_eq_some_iff.mp h
      refine ev_c 2 (y' := 239) (M1 := ev_M r2 c w) (la := lv_args 0 [.ref 606]) (rest := []) (pc' := 62) (lv' := [(0, .ref 606), (1, .int x1), (2, .int x2)]) (fun n => rfl) (ok_fX11_passMonth hr3) ?_
      show Ev XL xs _ 249 (ev_M r3 c w) 62 [(0, .ref 606), (1, .int x1), (2, .int x2)] [] _
      refine ev_s 2 (M' := ev_M r3 c w) (pc' := 49) (lv' := [(2, .int (x2 + 1)), (0, .ref 606), (1, .int x1)]) (st' := []) (fun n => rfl) ?_
      refine ev_sub (lv := [(0, .ref 606), (1, .int x1), (2, .int (x2 + 1))]) (mn_of rfl (by repeat (first | exact trivial | refine And.intro rfl ?_))) ?_
      exact ih _ _ _ _ h
    · cases h
      exact ev_r 5 (fun n => rfl)
def fX11_months_c39 (m : mm_MM) (x1 : Int32) (s1 : Int32) : Option (Int32 × mm_MM) :=
  (fX11_isRefused m s1).bind fun r1 =>
   (if r1.1 = 0 then
     fX11_months_c49 fu r1.2 x1 0
    else
     some (((-1) : Int32), r1.2))
theorem ok_fX11_months_c39 {m : mm_MM} {x1 : Int32} {s1 : Int32} {q0 : Int32 × mm_MM} (h : fX11_months_c39 m x1 s1 = some q0) : Ev XL xs (d + 8) 249 (ev_M m c w) 39 [(0, .ref 606), (1, .int x1)] [.int s1, .ref 606] (fr_i c w q0) := by
  unfold fX11_months_c39 at h
  obtain ⟨r1, hr1, h⟩ := Option.bind_eq_some_iff.mp h
  refine ev_c 1 (y' := 247) (M1 := ev_M m c w) (la := lv_args 0 [.ref 606, .int s1]) (rest := []) (pc' := 42) (lv' := [(0, .ref 606), (1, .int x1)]) (fun n => rfl) (ok_fX11_isRefused hr1) ?_
  show Ev XL xs _ 249 (ev_M r1.2 c w) 42 [(0, .ref 606), (1, .int x1)] [.int r1.1] _
  refine ev_i 1 (M1 := ev_M r1.2 c w) (pc1 := 47) (lv1 := [(0, .ref 606), (1, .int x1)]) (st1 := []) (M2 := ev_M r1.2 c w) (pc2 := 45) (lv2 := [(0, .ref 606), (1, .int x1)]) (st2 := []) (fun n => rfl) h (fun hc2 h => ?_) (fun hc2 h => ?_)
  · refine ev_s 2 (M' := ev_M r1.2 c w) (pc' := 49) (lv' := [(2, .int 0), (0, .ref 606), (1, .int x1)]) (st' := []) (fun n => rfl) ?_
    refine ev_sub (lv := [(0, .ref 606), (1, .int x1), (2, .int 0)]) (mn_of rfl (by repeat (first | exact trivial | refine And.intro rfl ?_))) ?_
    exact ok_fX11_months_c49 fu _ _ _ _ h
  · cases h
    exact ev_r 2 (fun n => rfl)
def fX11_months (m : mm_MM) (x1 : Int32) : Option (Int32 × mm_MM) :=
  (if m.1 606 26 = 0 then
    fX11_months_c39 m x1 0
   else
    (fX11_in m x1 1 60).bind fun r2 =>
     (if r2.1 = 0 then
       fX11_months_c39 r2.2 x1 1
      else
       (fX11_areMonths r2.2 x1).bind fun r4 =>
        (if r4.1 = 0 then
          fX11_months_c39 r4.2 x1 4
         else
          fX11_months_c39 r4.2 x1 ((-1) : Int32))))
theorem ok_fX11_months {m : mm_MM} {x1 : Int32} {q0 : Int32 × mm_MM} (h : fX11_months m x1 = some q0) : Ev XL xs (d + 8) 249 (ev_M m c w) 0 (lv_args 0 [.ref 606, .int x1]) [] (fr_i c w q0) := by
  unfold fX11_months at h
  refine ev_i 4 (M1 := ev_M m c w) (pc1 := 8) (lv1 := [(0, .ref 606), (1, .int x1)]) (st1 := [.ref 606]) (M2 := ev_M m c w) (pc2 := 12) (lv2 := [(0, .ref 606), (1, .int x1)]) (st2 := [.ref 606]) (fun n => rfl) h (fun hc1 h => ?_) (fun hc1 h => ?_)
  · refine ev_s 2 (M' := ev_M m c w) (pc' := 39) (lv' := [(0, .ref 606), (1, .int x1)]) (st' := [.int 0, .ref 606]) (fun n => rfl) ?_
    exact ok_fX11_months_c39 h
  · obtain ⟨r2, hr2, h⟩ := Option.bind_eq_some_iff.mp h
    refine ev_c 4 (y' := 178) (M1 := ev_M m c w) (la := lv_args 0 [.int x1, .int 1, .int 60]) (rest := [.ref 606]) (pc' := 19) (lv' := [(0, .ref 606), (1, .int x1)]) (fun n => rfl) (ok_fX11_in hr2) ?_
    show Ev XL xs _ 249 (ev_M r2.2 c w) 19 [(0, .ref 606), (1, .int x1)] [.int r2.1, .ref 606] _
    refine ev_i 1 (M1 := ev_M r2.2 c w) (pc1 := 22) (lv1 := [(0, .ref 606), (1, .int x1)]) (st1 := [.ref 606]) (M2 := ev_M r2.2 c w) (pc2 := 26) (lv2 := [(0, .ref 606), (1, .int x1)]) (st2 := [.ref 606]) (fun n => rfl) h (fun hc3 h => ?_) (fun hc3 h => ?_)
    · refine ev_s 2 (M' := ev_M r2.2 c w) (pc' := 39) (lv' := [(0, .ref 606), (1, .int x1)]) (st' := [.int 1, .ref 606]) (fun n => rfl) ?_
      exact ok_fX11_months_c39 h
    · obtain ⟨r4, hr4, h⟩ := Option.bind_eq_some_iff.mp h
      refine ev_c 3 (y' := 248) (M1 := ev_M r2.2 c w) (la := lv_args 0 [.ref 606, .int x1]) (rest := [.ref 606]) (pc' := 31) (lv' := [(0, .ref 606), (1, .int x1)]) (fun n => rfl) (ok_fX11_areMonths hr4) ?_
      show Ev XL xs _ 249 (ev_M r4.2 c w) 31 [(0, .ref 606), (1, .int x1)] [.int r4.1, .ref 606] _
      refine ev_i 1 (M1 := ev_M r4.2 c w) (pc1 := 34) (lv1 := [(0, .ref 606), (1, .int x1)]) (st1 := [.ref 606]) (M2 := ev_M r4.2 c w) (pc2 := 38) (lv2 := [(0, .ref 606), (1, .int x1)]) (st2 := [.ref 606]) (fun n => rfl) h (fun hc5 h => ?_) (fun hc5 h => ?_)
      · refine ev_s 2 (M' := ev_M r4.2 c w) (pc' := 39) (lv' := [(0, .ref 606), (1, .int x1)]) (st' := [.int 4, .ref 606]) (fun n => rfl) ?_
        exact ok_fX11_months_c39 h
      · refine ev_s 1 (M' := ev_M r4.2 c w) (pc' := 39) (lv' := [(0, .ref 606), (1, .int x1)]) (st' := [.int ((-1) : Int32), .ref 606]) (fun n => rfl) ?_
        exact ok_fX11_months_c39 h
def fX11_lay_c62 (m : mm_MM) (x1 : Int32) (x2 : Int32) (s1 : Int32) : Option (Int32 × mm_MM) :=
  (fX11_isRefused m s1).bind fun r1 =>
   (if r1.1 = 0 then
     (fX11_keep r1.2).bind fun r3 =>
      (fX11_set (wI r3 623 48 (r3.1 623 48 - 1)) x1 2 x2).bind fun r4 =>
       (fX11_set r4 x1 4 1).bind fun r5 =>
        some (r5.1 623 48, r5)
    else
     some (((-1) : Int32), r1.2))
set_option maxRecDepth 20000 in
theorem ok_fX11_lay_c62 {m : mm_MM} {x1 : Int32} {x2 : Int32} {s1 : Int32} {q0 : Int32 × mm_MM} (h : fX11_lay_c62 m x1 x2 s1 = some q0) : Ev XL xs (d + 4) 250 (ev_M m c w) 62 [(0, .ref 606), (1, .int x1), (2, .int x2)] [.int s1, .ref 606] (fr_i c w q0) := by
  unfold fX11_lay_c62 at h
  obtain ⟨r1, hr1, h⟩ := Option.bind_eq_some_iff.mp h
  refine ev_c 1 (y' := 247) (M1 := ev_M m c w) (la := lv_args 0 [.ref 606, .int s1]) (rest := []) (pc' := 65) (lv' := [(0, .ref 606), (1, .int x1), (2, .int x2)]) (fun n => rfl) (ok_fX11_isRefused hr1) ?_
  show Ev XL xs _ 250 (ev_M r1.2 c w) 65 [(0, .ref 606), (1, .int x1), (2, .int x2)] [.int r1.1] _
  refine ev_i 1 (M1 := ev_M r1.2 c w) (pc1 := 70) (lv1 := [(0, .ref 606), (1, .int x1), (2, .int x2)]) (st1 := []) (M2 := ev_M r1.2 c w) (pc2 := 68) (lv2 := [(0, .ref 606), (1, .int x1), (2, .int x2)]) (st2 := []) (fun n => rfl) h (fun hc2 h => ?_) (fun hc2 h => ?_)
  · obtain ⟨r3, hr3, h⟩ := Option.bind_eq_some_iff.mp h
    refine ev_c 2 (y' := 246) (M1 := ev_M r1.2 c w) (la := lv_args 0 [.ref 606]) (rest := []) (pc' := 74) (lv' := [(0, .ref 606), (1, .int x1), (2, .int x2)]) (fun n => rfl) (ok_fX11_keep hr3) ?_
    show Ev XL xs _ 250 (ev_M r3 c w) 74 [(0, .ref 606), (1, .int x1), (2, .int x2)] [] _
    obtain ⟨r4, hr4, h⟩ := Option.bind_eq_some_iff.mp h
    refine ev_c 13 (y' := 221) (M1 := ev_M (wI r3 623 48 (r3.1 623 48 - 1)) c w) (la := lv_args 0 [.ref 606, .int x1, .int 2, .int x2]) (rest := []) (pc' := 92) (lv' := [(0, .ref 606), (1, .int x1), (2, .int x2)]) (fun n => rfl) (ok_fX11_set hr4) ?_
    show Ev XL xs _ 250 (ev_M r4 c w) 92 [(0, .ref 606), (1, .int x1), (2, .int x2)] [] _
    obtain ⟨r5, hr5, h⟩ := Option.bind_eq_some_iff.mp h
    refine ev_c 5 (y' := 221) (M1 := ev_M r4 c w) (la := lv_args 0 [.ref 606, .int x1, .int 4, .int 1]) (rest := []) (pc' := 99) (lv' := [(0, .ref 606), (1, .int x1), (2, .int x2)]) (fun n => rfl) (ok_fX11_set hr5) ?_
    show Ev XL xs _ 250 (ev_M r5 c w) 99 [(0, .ref 606), (1, .int x1), (2, .int x2)] [] _
    cases h
    exact ev_r 5 (fun n => rfl)
  · cases h
    exact ev_r 2 (fun n => rfl)
def fX11_lay_c42 (m : mm_MM) (x1 : Int32) (x2 : Int32) : Option (Int32 × mm_MM) :=
  fX11_lay_c62 m x1 x2 2
set_option maxRecDepth 20000 in
theorem ok_fX11_lay_c42 {m : mm_MM} {x1 : Int32} {x2 : Int32} {q0 : Int32 × mm_MM} (h : fX11_lay_c42 m x1 x2 = some q0) : Ev XL xs (d + 4) 250 (ev_M m c w) 42 [(0, .ref 606), (1, .int x1), (2, .int x2)] [.ref 606] (fr_i c w q0) := by
  unfold fX11_lay_c42 at h
  refine ev_s 2 (M' := ev_M m c w) (pc' := 62) (lv' := [(0, .ref 606), (1, .int x1), (2, .int x2)]) (st' := [.int 2, .ref 606]) (fun n => rfl) ?_
  exact ok_fX11_lay_c62 h
def fX11_lay (m : mm_MM) (x1 : Int32) (x2 : Int32) : Option (Int32 × mm_MM) :=
  (fX11_isThere m x1).bind fun r1 =>
   (if r1.1 = 0 then
     fX11_lay_c62 r1.2 x1 x2 0
    else
     (fX11_isPlot r1.2 x2).bind fun r3 =>
      (if r3.1 = 0 then
        fX11_lay_c62 r3.2 x1 x2 1
       else
        (fX11_doesLie r3.2 x1).bind fun r5 =>
         (if r5.1 = 0 then
           (fX11_inPlot r5.2 x2).bind fun r7 =>
            (if r7.1 = ((-1) : Int32) then
              (if r7.2.1 623 48 < 1 then
                fX11_lay_c62 r7.2 x1 x2 3
               else
                fX11_lay_c62 r7.2 x1 x2 ((-1) : Int32))
             else
              fX11_lay_c42 r7.2 x1 x2)
          else
           fX11_lay_c42 r5.2 x1 x2)))
set_option maxRecDepth 20000 in
theorem ok_fX11_lay {m : mm_MM} {x1 : Int32} {x2 : Int32} {q0 : Int32 × mm_MM} (h : fX11_lay m x1 x2 = some q0) : Ev XL xs (d + 4) 250 (ev_M m c w) 0 (lv_args 0 [.ref 606, .int x1, .int x2]) [] (fr_i c w q0) := by
  unfold fX11_lay at h
  obtain ⟨r1, hr1, h⟩ := Option.bind_eq_some_iff.mp h
  refine ev_c 4 (y' := 225) (M1 := ev_M m c w) (la := lv_args 0 [.ref 606, .int x1]) (rest := [.ref 606]) (pc' := 6) (lv' := [(0, .ref 606), (1, .int x1), (2, .int x2)]) (fun n => rfl) (ok_fX11_isThere hr1) ?_
  show Ev XL xs _ 250 (ev_M r1.2 c w) 6 [(0, .ref 606), (1, .int x1), (2, .int x2)] [.int r1.1, .ref 606] _
  refine ev_i 1 (M1 := ev_M r1.2 c w) (pc1 := 9) (lv1 := [(0, .ref 606), (1, .int x1), (2, .int x2)]) (st1 := [.ref 606]) (M2 := ev_M r1.2 c w) (pc2 := 13) (lv2 := [(0, .ref 606), (1, .int x1), (2, .int x2)]) (st2 := [.ref 606]) (fun n => rfl) h (fun hc2 h => ?_) (fun hc2 h => ?_)
  · refine ev_s 2 (M' := ev_M r1.2 c w) (pc' := 62) (lv' := [(0, .ref 606), (1, .int x1), (2, .int x2)]) (st' := [.int 0, .ref 606]) (fun n => rfl) ?_
    exact ok_fX11_lay_c62 h
  · obtain ⟨r3, hr3, h⟩ := Option.bind_eq_some_iff.mp h
    refine ev_c 3 (y' := 228) (M1 := ev_M r1.2 c w) (la := lv_args 0 [.ref 606, .int x2]) (rest := [.ref 606]) (pc' := 18) (lv' := [(0, .ref 606), (1, .int x1), (2, .int x2)]) (fun n => rfl) (ok_fX11_isPlot hr3) ?_
    show Ev XL xs _ 250 (ev_M r3.2 c w) 18 [(0, .ref 606), (1, .int x1), (2, .int x2)] [.int r3.1, .ref 606] _
    refine ev_i 1 (M1 := ev_M r3.2 c w) (pc1 := 21) (lv1 := [(0, .ref 606), (1, .int x1), (2, .int x2)]) (st1 := [.ref 606]) (M2 := ev_M r3.2 c w) (pc2 := 25) (lv2 := [(0, .ref 606), (1, .int x1), (2, .int x2)]) (st2 := [.ref 606]) (fun n => rfl) h (fun hc4 h => ?_) (fun hc4 h => ?_)
    · refine ev_s 2 (M' := ev_M r3.2 c w) (pc' := 62) (lv' := [(0, .ref 606), (1, .int x1), (2, .int x2)]) (st' := [.int 1, .ref 606]) (fun n => rfl) ?_
      exact ok_fX11_lay_c62 h
    · obtain ⟨r5, hr5, h⟩ := Option.bind_eq_some_iff.mp h
      refine ev_c 3 (y' := 226) (M1 := ev_M r3.2 c w) (la := lv_args 0 [.ref 606, .int x1]) (rest := [.ref 606]) (pc' := 30) (lv' := [(0, .ref 606), (1, .int x1), (2, .int x2)]) (fun n => rfl) (ok_fX11_doesLie hr5) ?_
      show Ev XL xs _ 250 (ev_M r5.2 c w) 30 [(0, .ref 606), (1, .int x1), (2, .int x2)] [.int r5.1, .ref 606] _
      refine ev_i 1 (M1 := ev_M r5.2 c w) (pc1 := 33) (lv1 := [(0, .ref 606), (1, .int x1), (2, .int x2)]) (st1 := [.ref 606]) (M2 := ev_M r5.2 c w) (pc2 := 42) (lv2 := [(0, .ref 606), (1, .int x1), (2, .int x2)]) (st2 := [.ref 606]) (fun n => rfl) h (fun hc6 h => ?_) (fun hc6 h => ?_)
      · obtain ⟨r7, hr7, h⟩ := Option.bind_eq_some_iff.mp h
        refine ev_c 3 (y' := 232) (M1 := ev_M r5.2 c w) (la := lv_args 0 [.ref 606, .int x2]) (rest := [.ref 606]) (pc' := 38) (lv' := [(0, .ref 606), (1, .int x1), (2, .int x2)]) (fun n => rfl) (ok_fX11_inPlot hr7) ?_
        show Ev XL xs _ 250 (ev_M r7.2 c w) 38 [(0, .ref 606), (1, .int x1), (2, .int x2)] [.int r7.1, .ref 606] _
        refine ev_i 2 (M1 := ev_M r7.2 c w) (pc1 := 46) (lv1 := [(0, .ref 606), (1, .int x1), (2, .int x2)]) (st1 := [.ref 606]) (M2 := ev_M r7.2 c w) (pc2 := 42) (lv2 := [(0, .ref 606), (1, .int x1), (2, .int x2)]) (st2 := [.ref 606]) (fun n => rfl) h (fun hc8 h => ?_) (fun hc8 h => ?_)
        · refine ev_i 6 (M1 := ev_M r7.2 c w) (pc1 := 57) (lv1 := [(0, .ref 606), (1, .int x1), (2, .int x2)]) (st1 := [.ref 606]) (M2 := ev_M r7.2 c w) (pc2 := 61) (lv2 := [(0, .ref 606), (1, .int x1), (2, .int x2)]) (st2 := [.ref 606]) (fun n => rfl) h (fun hc9 h => ?_) (fun hc9 h => ?_)
          · refine ev_s 2 (M' := ev_M r7.2 c w) (pc' := 62) (lv' := [(0, .ref 606), (1, .int x1), (2, .int x2)]) (st' := [.int 3, .ref 606]) (fun n => rfl) ?_
            exact ok_fX11_lay_c62 h
          · refine ev_s 1 (M' := ev_M r7.2 c w) (pc' := 62) (lv' := [(0, .ref 606), (1, .int x1), (2, .int x2)]) (st' := [.int ((-1) : Int32), .ref 606]) (fun n => rfl) ?_
            exact ok_fX11_lay_c62 h
        · exact ok_fX11_lay_c42 h
      · exact ok_fX11_lay_c42 h
def fX11_takes_c39 (m : mm_MM) (x1 : Int32) (s1 : Int32) : Option (Int32 × mm_MM) :=
  (fX11_isRefused m s1).bind fun r1 =>
   (if r1.1 = 0 then
     (fX11_keep r1.2).bind fun r3 =>
      (fX11_of r3 x1 2).bind fun r4 =>
       (fX11_set r4.2 x1 2 ((-1) : Int32)).bind fun r5 =>
        (fX11_set r5 x1 4 0).bind fun r6 =>
         some (r4.1, r6)
    else
     some (((-1) : Int32), r1.2))
theorem ok_fX11_takes_c39 {m : mm_MM} {x1 : Int32} {s1 : Int32} {q0 : Int32 × mm_MM} (h : fX11_takes_c39 m x1 s1 = some q0) : Ev XL xs (d + 3) 251 (ev_M m c w) 39 [(0, .ref 606), (1, .int x1)] [.int s1, .ref 606] (fr_i c w q0) := by
  unfold fX11_takes_c39 at h
  obtain ⟨r1, hr1, h⟩ := Option.bind_eq_some_iff.mp h
  refine ev_c 1 (y' := 247) (M1 := ev_M m c w) (la := lv_args 0 [.ref 606, .int s1]) (rest := []) (pc' := 42) (lv' := [(0, .ref 606), (1, .int x1)]) (fun n => rfl) (ok_fX11_isRefused hr1) ?_
  show Ev XL xs _ 251 (ev_M r1.2 c w) 42 [(0, .ref 606), (1, .int x1)] [.int r1.1] _
  refine ev_i 1 (M1 := ev_M r1.2 c w) (pc1 := 47) (lv1 := [(0, .ref 606), (1, .int x1)]) (st1 := []) (M2 := ev_M r1.2 c w) (pc2 := 45) (lv2 := [(0, .ref 606), (1, .int x1)]) (st2 := []) (fun n => rfl) h (fun hc2 h => ?_) (fun hc2 h => ?_)
  · obtain ⟨r3, hr3, h⟩ := Option.bind_eq_some_iff.mp h
    refine ev_c 2 (y' := 246) (M1 := ev_M r1.2 c w) (la := lv_args 0 [.ref 606]) (rest := []) (pc' := 51) (lv' := [(0, .ref 606), (1, .int x1)]) (fun n => rfl) (ok_fX11_keep hr3) ?_
    show Ev XL xs _ 251 (ev_M r3 c w) 51 [(0, .ref 606), (1, .int x1)] [] _
    obtain ⟨r4, hr4, h⟩ := Option.bind_eq_some_iff.mp h
    refine ev_c 4 (y' := 220) (M1 := ev_M r3 c w) (la := lv_args 0 [.ref 606, .int x1, .int 2]) (rest := []) (pc' := 57) (lv' := [(0, .ref 606), (1, .int x1)]) (fun n => rfl) (ok_fX11_of hr4) ?_
    show Ev XL xs _ 251 (ev_M r4.2 c w) 57 [(0, .ref 606), (1, .int x1)] [.int r4.1] _
    obtain ⟨r5, hr5, h⟩ := Option.bind_eq_some_iff.mp h
    refine ev_c 6 (y' := 221) (M1 := ev_M r4.2 c w) (la := lv_args 0 [.ref 606, .int x1, .int 2, .int ((-1) : Int32)]) (rest := []) (pc' := 65) (lv' := [(2, .int r4.1), (0, .ref 606), (1, .int x1)]) (fun n => rfl) (ok_fX11_set hr5) ?_
    show Ev XL xs _ 251 (ev_M r5 c w) 65 [(2, .int r4.1), (0, .ref 606), (1, .int x1)] [] _
    obtain ⟨r6, hr6, h⟩ := Option.bind_eq_some_iff.mp h
    refine ev_c 5 (y' := 221) (M1 := ev_M r5 c w) (la := lv_args 0 [.ref 606, .int x1, .int 4, .int 0]) (rest := []) (pc' := 72) (lv' := [(2, .int r4.1), (0, .ref 606), (1, .int x1)]) (fun n => rfl) (ok_fX11_set hr6) ?_
    show Ev XL xs _ 251 (ev_M r6 c w) 72 [(2, .int r4.1), (0, .ref 606), (1, .int x1)] [] _
    cases h
    exact ev_r 2 (fun n => rfl)
  · cases h
    exact ev_r 2 (fun n => rfl)
def fX11_takes (m : mm_MM) (x1 : Int32) : Option (Int32 × mm_MM) :=
  (fX11_isThere m x1).bind fun r1 =>
   (if r1.1 = 0 then
     fX11_takes_c39 r1.2 x1 0
    else
     (fX11_doesLie r1.2 x1).bind fun r3 =>
      (if r3.1 = 0 then
        fX11_takes_c39 r3.2 x1 2
       else
        (fX11_of r3.2 x1 4).bind fun r5 =>
         (if r5.1 = 0 then
           fX11_takes_c39 r5.2 x1 3
          else
           fX11_takes_c39 r5.2 x1 ((-1) : Int32))))
theorem ok_fX11_takes {m : mm_MM} {x1 : Int32} {q0 : Int32 × mm_MM} (h : fX11_takes m x1 = some q0) : Ev XL xs (d + 3) 251 (ev_M m c w) 0 (lv_args 0 [.ref 606, .int x1]) [] (fr_i c w q0) := by
  unfold fX11_takes at h
  obtain ⟨r1, hr1, h⟩ := Option.bind_eq_some_iff.mp h
  refine ev_c 4 (y' := 225) (M1 := ev_M m c w) (la := lv_args 0 [.ref 606, .int x1]) (rest := [.ref 606]) (pc' := 6) (lv' := [(0, .ref 606), (1, .int x1)]) (fun n => rfl) (ok_fX11_isThere hr1) ?_
  show Ev XL xs _ 251 (ev_M r1.2 c w) 6 [(0, .ref 606), (1, .int x1)] [.int r1.1, .ref 606] _
  refine ev_i 1 (M1 := ev_M r1.2 c w) (pc1 := 9) (lv1 := [(0, .ref 606), (1, .int x1)]) (st1 := [.ref 606]) (M2 := ev_M r1.2 c w) (pc2 := 13) (lv2 := [(0, .ref 606), (1, .int x1)]) (st2 := [.ref 606]) (fun n => rfl) h (fun hc2 h => ?_) (fun hc2 h => ?_)
  · refine ev_s 2 (M' := ev_M r1.2 c w) (pc' := 39) (lv' := [(0, .ref 606), (1, .int x1)]) (st' := [.int 0, .ref 606]) (fun n => rfl) ?_
    exact ok_fX11_takes_c39 h
  · obtain ⟨r3, hr3, h⟩ := Option.bind_eq_some_iff.mp h
    refine ev_c 3 (y' := 226) (M1 := ev_M r1.2 c w) (la := lv_args 0 [.ref 606, .int x1]) (rest := [.ref 606]) (pc' := 18) (lv' := [(0, .ref 606), (1, .int x1)]) (fun n => rfl) (ok_fX11_doesLie hr3) ?_
    show Ev XL xs _ 251 (ev_M r3.2 c w) 18 [(0, .ref 606), (1, .int x1)] [.int r3.1, .ref 606] _
    refine ev_i 1 (M1 := ev_M r3.2 c w) (pc1 := 21) (lv1 := [(0, .ref 606), (1, .int x1)]) (st1 := [.ref 606]) (M2 := ev_M r3.2 c w) (pc2 := 25) (lv2 := [(0, .ref 606), (1, .int x1)]) (st2 := [.ref 606]) (fun n => rfl) h (fun hc4 h => ?_) (fun hc4 h => ?_)
    · refine ev_s 2 (M' := ev_M r3.2 c w) (pc' := 39) (lv' := [(0, .ref 606), (1, .int x1)]) (st' := [.int 2, .ref 606]) (fun n => rfl) ?_
      exact ok_fX11_takes_c39 h
    · obtain ⟨r5, hr5, h⟩ := Option.bind_eq_some_iff.mp h
      refine ev_c 4 (y' := 220) (M1 := ev_M r3.2 c w) (la := lv_args 0 [.ref 606, .int x1, .int 4]) (rest := [.ref 606]) (pc' := 31) (lv' := [(0, .ref 606), (1, .int x1)]) (fun n => rfl) (ok_fX11_of hr5) ?_
      show Ev XL xs _ 251 (ev_M r5.2 c w) 31 [(0, .ref 606), (1, .int x1)] [.int r5.1, .ref 606] _
      refine ev_i 1 (M1 := ev_M r5.2 c w) (pc1 := 34) (lv1 := [(0, .ref 606), (1, .int x1)]) (st1 := [.ref 606]) (M2 := ev_M r5.2 c w) (pc2 := 38) (lv2 := [(0, .ref 606), (1, .int x1)]) (st2 := [.ref 606]) (fun n => rfl) h (fun hc6 h => ?_) (fun hc6 h => ?_)
      · refine ev_s 2 (M' := ev_M r5.2 c w) (pc' := 39) (lv' := [(0, .ref 606), (1, .int x1)]) (st' := [.int 3, .ref 606]) (fun n => rfl) ?_
        exact ok_fX11_takes_c39 h
      · refine ev_s 1 (M' := ev_M r5.2 c w) (pc' := 39) (lv' := [(0, .ref 606), (1, .int x1)]) (st' := [.int ((-1) : Int32), .ref 606]) (fun n => rfl) ?_
        exact ok_fX11_takes_c39 h
def fX11_sell_c38 (m : mm_MM) (x1 : Int32) (s1 : Int32) : Option (Int32 × mm_MM) :=
  (fX11_isRefused m s1).bind fun r1 =>
   (if r1.1 = 0 then
     (fX11_keep r1.2).bind fun r3 =>
      (fX11_of r3 x1 0).bind fun r4 =>
       (fJ9_min_7cf53 r4.2 999 (r3.1 623 48 + r4.1)).bind fun r5 =>
        (fX11_set (wI r5.2 623 48 r5.1) x1 5 0).bind fun r6 =>
         (fX11_of r6 x1 0).bind fun r7 =>
          some (r7.1, r7.2)
    else
     some (((-1) : Int32), r1.2))
theorem ok_fX11_sell_c38 {m : mm_MM} {x1 : Int32} {s1 : Int32} {q0 : Int32 × mm_MM} (h : fX11_sell_c38 m x1 s1 = some q0) : Ev XL xs (d + 3) 252 (ev_M m c w) 38 [(0, .ref 606), (1, .int x1)] [.int s1, .ref 606] (fr_i c w q0) := by
  unfold fX11_sell_c38 at h
  obtain ⟨r1, hr1, h⟩ := Option.bind_eq_some_iff.mp h
  refine ev_c 1 (y' := 247) (M1 := ev_M m c w) (la := lv_args 0 [.ref 606, .int s1]) (rest := []) (pc' := 41) (lv' := [(0, .ref 606), (1, .int x1)]) (fun n => rfl) (ok_fX11_isRefused hr1) ?_
  show Ev XL xs _ 252 (ev_M r1.2 c w) 41 [(0, .ref 606), (1, .int x1)] [.int r1.1] _
  refine ev_i 1 (M1 := ev_M r1.2 c w) (pc1 := 46) (lv1 := [(0, .ref 606), (1, .int x1)]) (st1 := []) (M2 := ev_M r1.2 c w) (pc2 := 44) (lv2 := [(0, .ref 606), (1, .int x1)]) (st2 := []) (fun n => rfl) h (fun hc2 h => ?_) (fun hc2 h => ?_)
  · obtain ⟨r3, hr3, h⟩ := Option.bind_eq_some_iff.mp h
    refine ev_c 2 (y' := 246) (M1 := ev_M r1.2 c w) (la := lv_args 0 [.ref 606]) (rest := []) (pc' := 50) (lv' := [(0, .ref 606), (1, .int x1)]) (fun n => rfl) (ok_fX11_keep hr3) ?_
    show Ev XL xs _ 252 (ev_M r3 c w) 50 [(0, .ref 606), (1, .int x1)] [] _
    obtain ⟨r4, hr4, h⟩ := Option.bind_eq_some_iff.mp h
    refine ev_c 12 (y' := 220) (M1 := ev_M r3 c w) (la := lv_args 0 [.ref 606, .int x1, .int 0]) (rest := [.int (r3.1 623 48), .int 999, .int 48, .ref 623]) (pc' := 72) (lv' := [(0, .ref 606), (1, .int x1)]) (fun n => rfl) (ok_fX11_of hr4) ?_
    show Ev XL xs _ 252 (ev_M r4.2 c w) 72 [(0, .ref 606), (1, .int x1)] [.int r4.1, .int (r3.1 623 48), .int 999, .int 48, .ref 623] _
    obtain ⟨r5, hr5, h⟩ := Option.bind_eq_some_iff.mp h
    refine ev_c 2 (y' := 308) (M1 := ev_M r4.2 c w) (la := lv_args 0 [.int 999, .int (r3.1 623 48 + r4.1)]) (rest := [.int 48, .ref 623]) (pc' := 76) (lv' := [(0, .ref 606), (1, .int x1)]) (fun n => rfl) (ok_fJ9_min_7cf53 hr5) ?_
    show Ev XL xs _ 252 (ev_M r5.2 c w) 76 [(0, .ref 606), (1, .int x1)] [.int r5.1, .int 48, .ref 623] _
    obtain ⟨r6, hr6, h⟩ := Option.bind_eq_some_iff.mp h
    refine ev_c 6 (y' := 221) (M1 := ev_M (wI r5.2 623 48 r5.1) c w) (la := lv_args 0 [.ref 606, .int x1, .int 5, .int 0]) (rest := []) (pc' := 84) (lv' := [(0, .ref 606), (1, .int x1)]) (fun n => rfl) (ok_fX11_set hr6) ?_
    show Ev XL xs _ 252 (ev_M r6 c w) 84 [(0, .ref 606), (1, .int x1)] [] _
    obtain ⟨r7, hr7, h⟩ := Option.bind_eq_some_iff.mp h
    refine ev_c 4 (y' := 220) (M1 := ev_M r6 c w) (la := lv_args 0 [.ref 606, .int x1, .int 0]) (rest := []) (pc' := 90) (lv' := [(0, .ref 606), (1, .int x1)]) (fun n => rfl) (ok_fX11_of hr7) ?_
    show Ev XL xs _ 252 (ev_M r7.2 c w) 90 [(0, .ref 606), (1, .int x1)] [.int r7.1] _
    cases h
    exact ev_r 1 (fun n => rfl)
  · cases h
    exact ev_r 2 (fun n => rfl)
def fX11_sell (m : mm_MM) (x1 : Int32) : Option (Int32 × mm_MM) :=
  (fX11_isThere m x1).bind fun r1 =>
   (if r1.1 = 0 then
     fX11_sell_c38 r1.2 x1 0
    else
     (fX11_doesLie r1.2 x1).bind fun r3 =>
      (if r3.1 = 0 then
        (fX11_isRipe r3.2 x1).bind fun r5 =>
         (if r5.1 = 0 then
           fX11_sell_c38 r5.2 x1 3
          else
           fX11_sell_c38 r5.2 x1 ((-1) : Int32))
       else
        fX11_sell_c38 r3.2 x1 2))
theorem ok_fX11_sell {m : mm_MM} {x1 : Int32} {q0 : Int32 × mm_MM} (h : fX11_sell m x1 = some q0) : Ev XL xs (d + 3) 252 (ev_M m c w) 0 (lv_args 0 [.ref 606, .int x1]) [] (fr_i c w q0) := by
  unfold fX11_sell at h
  obtain ⟨r1, hr1, h⟩ := Option.bind_eq_some_iff.mp h
  refine ev_c 4 (y' := 225) (M1 := ev_M m c w) (la := lv_args 0 [.ref 606, .int x1]) (rest := [.ref 606]) (pc' := 6) (lv' := [(0, .ref 606), (1, .int x1)]) (fun n => rfl) (ok_fX11_isThere hr1) ?_
  show Ev XL xs _ 252 (ev_M r1.2 c w) 6 [(0, .ref 606), (1, .int x1)] [.int r1.1, .ref 606] _
  refine ev_i 1 (M1 := ev_M r1.2 c w) (pc1 := 9) (lv1 := [(0, .ref 606), (1, .int x1)]) (st1 := [.ref 606]) (M2 := ev_M r1.2 c w) (pc2 := 13) (lv2 := [(0, .ref 606), (1, .int x1)]) (st2 := [.ref 606]) (fun n => rfl) h (fun hc2 h => ?_) (fun hc2 h => ?_)
  · refine ev_s 2 (M' := ev_M r1.2 c w) (pc' := 38) (lv' := [(0, .ref 606), (1, .int x1)]) (st' := [.int 0, .ref 606]) (fun n => rfl) ?_
    exact ok_fX11_sell_c38 h
  · obtain ⟨r3, hr3, h⟩ := Option.bind_eq_some_iff.mp h
    refine ev_c 3 (y' := 226) (M1 := ev_M r1.2 c w) (la := lv_args 0 [.ref 606, .int x1]) (rest := [.ref 606]) (pc' := 18) (lv' := [(0, .ref 606), (1, .int x1)]) (fun n => rfl) (ok_fX11_doesLie hr3) ?_
    show Ev XL xs _ 252 (ev_M r3.2 c w) 18 [(0, .ref 606), (1, .int x1)] [.int r3.1, .ref 606] _
    refine ev_i 1 (M1 := ev_M r3.2 c w) (pc1 := 25) (lv1 := [(0, .ref 606), (1, .int x1)]) (st1 := [.ref 606]) (M2 := ev_M r3.2 c w) (pc2 := 21) (lv2 := [(0, .ref 606), (1, .int x1)]) (st2 := [.ref 606]) (fun n => rfl) h (fun hc4 h => ?_) (fun hc4 h => ?_)
    · obtain ⟨r5, hr5, h⟩ := Option.bind_eq_some_iff.mp h
      refine ev_c 3 (y' := 231) (M1 := ev_M r3.2 c w) (la := lv_args 0 [.ref 606, .int x1]) (rest := [.ref 606]) (pc' := 30) (lv' := [(0, .ref 606), (1, .int x1)]) (fun n => rfl) (ok_fX11_isRipe hr5) ?_
      show Ev XL xs _ 252 (ev_M r5.2 c w) 30 [(0, .ref 606), (1, .int x1)] [.int r5.1, .ref 606] _
      refine ev_i 1 (M1 := ev_M r5.2 c w) (pc1 := 33) (lv1 := [(0, .ref 606), (1, .int x1)]) (st1 := [.ref 606]) (M2 := ev_M r5.2 c w) (pc2 := 37) (lv2 := [(0, .ref 606), (1, .int x1)]) (st2 := [.ref 606]) (fun n => rfl) h (fun hc6 h => ?_) (fun hc6 h => ?_)
      · refine ev_s 2 (M' := ev_M r5.2 c w) (pc' := 38) (lv' := [(0, .ref 606), (1, .int x1)]) (st' := [.int 3, .ref 606]) (fun n => rfl) ?_
        exact ok_fX11_sell_c38 h
      · refine ev_s 1 (M' := ev_M r5.2 c w) (pc' := 38) (lv' := [(0, .ref 606), (1, .int x1)]) (st' := [.int ((-1) : Int32), .ref 606]) (fun n => rfl) ?_
        exact ok_fX11_sell_c38 h
    · refine ev_s 2 (M' := ev_M r3.2 c w) (pc' := 38) (lv' := [(0, .ref 606), (1, .int x1)]) (st' := [.int 2, .ref 606]) (fun n => rfl) ?_
      exact ok_fX11_sell_c38 h
def fX11_freePlace_c2 : Nat → mm_MM → Int32 → Option (Int32 × mm_MM)
  | 0 => fun _ _ => none
  | n + 1 => fun m x1 =>
    (if x1 < 8 then
      (fX11_isThere m x1).bind fun r2 =>
       (if r2.1 = 0 then
         some (x1, r2.2)
        else
         fX11_freePlace_c2 n r2.2 (x1 + 1))
     else
      some (((-1) : Int32), m))
theorem ok_fX11_freePlace_c2 : ∀ (n : Nat) (m : mm_MM) (x1 : Int32) (q0 : Int32 × mm_MM), fX11_freePlace_c2 n m x1 = some q0 → Ev XL xs (d + 2) 253 (ev_M m c w) 2 [(0, .ref 606), (1, .int x1)] [] (fr_i c w q0) := by
  intro n
  induction n with
  | zero => intro m x1 q0 h; exact absurd (show (none : Option (Int32 × mm_MM)) = some q0 from h) (by simp)
  | succ n ih =>
    intro m x1 q0 h
    unfold fX11_freePlace_c2 at h
    refine ev_i 3 (M1 := ev_M m c w) (pc1 := 8) (lv1 := [(0, .ref 606), (1, .int x1)]) (st1 := []) (M2 := ev_M m c w) (pc2 := 24) (lv2 := [(0, .ref 606), (1, .int x1)]) (st2 := []) (fun n => rfl) h (fun hc1 h => ?_) (fun hc1 h => ?_)
    · obtain ⟨r2, hr2, h⟩ := Option.bind_eq_some_iff.mp h
      refine ev_c 3 (y' := 225) (M1 := ev_M m c w) (la := lv_args 0 [.ref 606, .int x1]) (rest := []) (pc' := 13) (lv' := [(0, .ref 606), (1, .int x1)]) (fun n => rfl) (ok_fX11_isThere hr2) ?_
      show Ev XL xs _ 253 (ev_M r2.2 c w) 13 [(0, .ref 606), (1, .int x1)] [.int r2.1] _
      refine ev_i 1 (M1 := ev_M r2.2 c w) (pc1 := 16) (lv1 := [(0, .ref 606), (1, .int x1)]) (st1 := []) (M2 := ev_M r2.2 c w) (pc2 := 18) (lv2 := [(0, .ref 606), (1, .int x1)]) (st2 := []) (fun n => rfl) h (fun hc3 h => ?_) (fun hc3 h => ?_)
      · cases h
        exact ev_r 2 (fun n => rfl)
      · refine ev_s 2 (M' := ev_M r2.2 c w) (pc' := 2) (lv' := [(1, .int (x1 + 1)), (0, .ref 606)]) (st' := []) (fun n => rfl) ?_
        refine ev_sub (lv := [(0, .ref 606), (1, .int (x1 + 1))]) (mn_of rfl (by repeat (first | exact trivial | refine And.intro rfl ?_))) ?_
        exact ih _ _ _ h
    · cases h
      exact ev_r 2 (fun n => rfl)
def fX11_freePlace (m : mm_MM) : Option (Int32 × mm_MM) :=
  fX11_freePlace_c2 fu m 0
theorem ok_fX11_freePlace {m : mm_MM} {q0 : Int32 × mm_MM} (h : fX11_freePlace m = some q0) : Ev XL xs (d + 2) 253 (ev_M m c w) 0 (lv_args 0 [.ref 606]) [] (fr_i c w q0) := by
  unfold fX11_freePlace at h
  refine ev_s 2 (M' := ev_M m c w) (pc' := 2) (lv' := [(1, .int 0), (0, .ref 606)]) (st' := []) (fun n => rfl) ?_
  refine ev_sub (lv := [(0, .ref 606), (1, .int 0)]) (mn_of rfl (by repeat (first | exact trivial | refine And.intro rfl ?_))) ?_
  exact ok_fX11_freePlace_c2 fu _ _ _ h
def fX11_buy_c63 (m : mm_MM) (x1 : Int32) (x2 : Int32) (s1 : Int32) : Option (Int32 × mm_MM) :=
  (fX11_isRefused m s1).bind fun r1 =>
   (if r1.1 = 0 then
     (fX11_keep r1.2).bind fun r3 =>
      (fX11_freePlace r3).bind fun r4 =>
       (fX11_set (wI r4.2 623 48 (r4.2.1 623 48 - (((x1 + 1) : Int32) / 2))) r4.1 0 x1).bind fun r5 =>
        (fX11_set r5 r4.1 1 x2).bind fun r6 =>
         (fX11_set r6 r4.1 2 ((-1) : Int32)).bind fun r7 =>
          (fX11_set r7 r4.1 3 0).bind fun r8 =>
           (fX11_set r8 r4.1 4 0).bind fun r9 =>
            (fX11_set r9 r4.1 5 1).bind fun r10 =>
             some (r4.1, r10)
    else
     some (((-1) : Int32), r1.2))
set_option maxRecDepth 20000 in
theorem ok_fX11_buy_c63 {m : mm_MM} {x1 : Int32} {x2 : Int32} {s1 : Int32} {q0 : Int32 × mm_MM} (h : fX11_buy_c63 m x1 x2 s1 = some q0) : Ev XL xs (d + 3) 254 (ev_M m c w) 63 [(0, .ref 606), (1, .int x1), (2, .int x2)] [.int s1, .ref 606] (fr_i c w q0) := by
  unfold fX11_buy_c63 at h
  obtain ⟨r1, hr1, h⟩ := Option.bind_eq_some_iff.mp h
  refine ev_c 1 (y' := 247) (M1 := ev_M m c w) (la := lv_args 0 [.ref 606, .int s1]) (rest := []) (pc' := 66) (lv' := [(0, .ref 606), (1, .int x1), (2, .int x2)]) (fun n => rfl) (ok_fX11_isRefused hr1) ?_
  show Ev XL xs _ 254 (ev_M r1.2 c w) 66 [(0, .ref 606), (1, .int x1), (2, .int x2)] [.int r1.1] _
  refine ev_i 1 (M1 := ev_M r1.2 c w) (pc1 := 71) (lv1 := [(0, .ref 606), (1, .int x1), (2, .int x2)]) (st1 := []) (M2 := ev_M r1.2 c w) (pc2 := 69) (lv2 := [(0, .ref 606), (1, .int x1), (2, .int x2)]) (st2 := []) (fun n => rfl) h (fun hc2 h => ?_) (fun hc2 h => ?_)
  · obtain ⟨r3, hr3, h⟩ := Option.bind_eq_some_iff.mp h
    refine ev_c 2 (y' := 246) (M1 := ev_M r1.2 c w) (la := lv_args 0 [.ref 606]) (rest := []) (pc' := 75) (lv' := [(0, .ref 606), (1, .int x1), (2, .int x2)]) (fun n => rfl) (ok_fX11_keep hr3) ?_
    show Ev XL xs _ 254 (ev_M r3 c w) 75 [(0, .ref 606), (1, .int x1), (2, .int x2)] [] _
    obtain ⟨r4, hr4, h⟩ := Option.bind_eq_some_iff.mp h
    refine ev_c 2 (y' := 253) (M1 := ev_M r3 c w) (la := lv_args 0 [.ref 606]) (rest := []) (pc' := 79) (lv' := [(0, .ref 606), (1, .int x1), (2, .int x2)]) (fun n => rfl) (ok_fX11_freePlace hr4) ?_
    show Ev XL xs _ 254 (ev_M r4.2 c w) 79 [(0, .ref 606), (1, .int x1), (2, .int x2)] [.int r4.1] _
    obtain ⟨r5, hr5, h⟩ := Option.bind_eq_some_iff.mp h
    refine ev_c 18 (y' := 221) (M1 := ev_M (wI r4.2 623 48 (r4.2.1 623 48 - (((x1 + 1) : Int32) / 2))) c w) (la := lv_args 0 [.ref 606, .int r4.1, .int 0, .int x1]) (rest := []) (pc' := 102) (lv' := [(3, .int r4.1), (0, .ref 606), (1, .int x1), (2, .int x2)]) (fun n => rfl) (ok_fX11_set hr5) ?_
    show Ev XL xs _ 254 (ev_M r5 c w) 102 [(3, .int r4.1), (0, .ref 606), (1, .int x1), (2, .int x2)] [] _
    obtain ⟨r6, hr6, h⟩ := Option.bind_eq_some_iff.mp h
    refine ev_c 5 (y' := 221) (M1 := ev_M r5 c w) (la := lv_args 0 [.ref 606, .int r4.1, .int 1, .int x2]) (rest := []) (pc' := 109) (lv' := [(3, .int r4.1), (0, .ref 606), (1, .int x1), (2, .int x2)]) (fun n => rfl) (ok_fX11_set hr6) ?_
    show Ev XL xs _ 254 (ev_M r6 c w) 109 [(3, .int r4.1), (0, .ref 606), (1, .int x1), (2, .int x2)] [] _
    obtain ⟨r7, hr7, h⟩ := Option.bind_eq_some_iff.mp h
    refine ev_c 5 (y' := 221) (M1 := ev_M r6 c w) (la := lv_args 0 [.ref 606, .int r4.1, .int 2, .int ((-1) : Int32)]) (rest := []) (pc' := 116) (lv' := [(3, .int r4.1), (0, .ref 606), (1, .int x1), (2, .int x2)]) (fun n => rfl) (ok_fX11_set hr7) ?_
    show Ev XL xs _ 254 (ev_M r7 c w) 116 [(3, .int r4.1), (0, .ref 606), (1, .int x1), (2, .int x2)] [] _
    obtain ⟨r8, hr8, h⟩ := Option.bind_eq_some_iff.mp h
    refine ev_c 5 (y' := 221) (M1 := ev_M r7 c w) (la := lv_args 0 [.ref 606, .int r4.1, .int 3, .int 0]) (rest := []) (pc' := 123) (lv' := [(3, .int r4.1), (0, .ref 606), (1, .int x1), (2, .int x2)]) (fun n => rfl) (ok_fX11_set hr8) ?_
    show Ev XL xs _ 254 (ev_M r8 c w) 123 [(3, .int r4.1), (0, .ref 606), (1, .int x1), (2, .int x2)] [] _
    obtain ⟨r9, hr9, h⟩ := Option.bind_eq_some_iff.mp h
    refine ev_c 5 (y' := 221) (M1 := ev_M r8 c w) (la := lv_args 0 [.ref 606, .int r4.1, .int 4, .int 0]) (rest := []) (pc' := 130) (lv' := [(3, .int r4.1), (0, .ref 606), (1, .int x1), (2, .int x2)]) (fun n => rfl) (ok_fX11_set hr9) ?_
    show Ev XL xs _ 254 (ev_M r9 c w) 130 [(3, .int r4.1), (0, .ref 606), (1, .int x1), (2, .int x2)] [] _
    obtain ⟨r10, hr10, h⟩ := Option.bind_eq_some_iff.mp h
    refine ev_c 5 (y' := 221) (M1 := ev_M r9 c w) (la := lv_args 0 [.ref 606, .int r4.1, .int 5, .int 1]) (rest := []) (pc' := 137) (lv' := [(3, .int r4.1), (0, .ref 606), (1, .int x1), (2, .int x2)]) (fun n => rfl) (ok_fX11_set hr10) ?_
    show Ev XL xs _ 254 (ev_M r10 c w) 137 [(3, .int r4.1), (0, .ref 606), (1, .int x1), (2, .int x2)] [] _
    cases h
    exact ev_r 2 (fun n => rfl)
  · cases h
    exact ev_r 2 (fun n => rfl)
def fX11_buy_c31 (m : mm_MM) (x1 : Int32) (x2 : Int32) : Option (Int32 × mm_MM) :=
  fX11_buy_c63 m x1 x2 1
set_option maxRecDepth 20000 in
theorem ok_fX11_buy_c31 {m : mm_MM} {x1 : Int32} {x2 : Int32} {q0 : Int32 × mm_MM} (h : fX11_buy_c31 m x1 x2 = some q0) : Ev XL xs (d + 3) 254 (ev_M m c w) 31 [(0, .ref 606), (1, .int x1), (2, .int x2)] [.ref 606] (fr_i c w q0) := by
  unfold fX11_buy_c31 at h
  refine ev_s 2 (M' := ev_M m c w) (pc' := 63) (lv' := [(0, .ref 606), (1, .int x1), (2, .int x2)]) (st' := [.int 1, .ref 606]) (fun n => rfl) ?_
  exact ok_fX11_buy_c63 h
def fX11_buy_c58 (m : mm_MM) (x1 : Int32) (x2 : Int32) : Option (Int32 × mm_MM) :=
  fX11_buy_c63 m x1 x2 3
set_option maxRecDepth 20000 in
theorem ok_fX11_buy_c58 {m : mm_MM} {x1 : Int32} {x2 : Int32} {q0 : Int32 × mm_MM} (h : fX11_buy_c58 m x1 x2 = some q0) : Ev XL xs (d + 3) 254 (ev_M m c w) 58 [(0, .ref 606), (1, .int x1), (2, .int x2)] [.ref 606] (fr_i c w q0) := by
  unfold fX11_buy_c58 at h
  refine ev_s 2 (M' := ev_M m c w) (pc' := 63) (lv' := [(0, .ref 606), (1, .int x1), (2, .int x2)]) (st' := [.int 3, .ref 606]) (fun n => rfl) ?_
  exact ok_fX11_buy_c63 h
def fX11_buy (m : mm_MM) (x1 : Int32) (x2 : Int32) : Option (Int32 × mm_MM) :=
  (if m.1 606 26 = 0 then
    fX11_buy_c63 m x1 x2 0
   else
    (fX11_in m x1 1 30).bind fun r2 =>
     (if r2.1 = 0 then
       fX11_buy_c31 r2.2 x1 x2
      else
       (fX11_in r2.2 x2 0 5).bind fun r4 =>
        (if r4.1 = 0 then
          fX11_buy_c31 r4.2 x1 x2
         else
          (if r4.2.1 623 48 < (((x1 + 1) : Int32) / 2) then
            fX11_buy_c58 r4.2 x1 x2
           else
            (fX11_freePlace r4.2).bind fun r7 =>
             (if r7.1 = ((-1) : Int32) then
               fX11_buy_c58 r7.2 x1 x2
              else
               fX11_buy_c63 r7.2 x1 x2 ((-1) : Int32))))))
set_option maxRecDepth 20000 in
theorem ok_fX11_buy {m : mm_MM} {x1 : Int32} {x2 : Int32} {q0 : Int32 × mm_MM} (h : fX11_buy m x1 x2 = some q0) : Ev XL xs (d + 3) 254 (ev_M m c w) 0 (lv_args 0 [.ref 606, .int x1, .int x2]) [] (fr_i c w q0) := by
  unfold fX11_buy at h
  refine ev_i 4 (M1 := ev_M m c w) (pc1 := 8) (lv1 := [(0, .ref 606), (1, .int x1), (2, .int x2)]) (st1 := [.ref 606]) (M2 := ev_M m c w) (pc2 := 12) (lv2 := [(0, .ref 606), (1, .int x1), (2, .int x2)]) (st2 := [.ref 606]) (fun n => rfl) h (fun hc1 h => ?_) (fun hc1 h => ?_)
  · refine ev_s 2 (M' := ev_M m c w) (pc' := 63) (lv' := [(0, .ref 606), (1, .int x1), (2, .int x2)]) (st' := [.int 0, .ref 606]) (fun n => rfl) ?_
    exact ok_fX11_buy_c63 h
  · obtain ⟨r2, hr2, h⟩ := Option.bind_eq_some_iff.mp h
    refine ev_c 4 (y' := 178) (M1 := ev_M m c w) (la := lv_args 0 [.int x1, .int 1, .int 30]) (rest := [.ref 606]) (pc' := 19) (lv' := [(0, .ref 606), (1, .int x1), (2, .int x2)]) (fun n => rfl) (ok_fX11_in hr2) ?_
    show Ev XL xs _ 254 (ev_M r2.2 c w) 19 [(0, .ref 606), (1, .int x1), (2, .int x2)] [.int r2.1, .ref 606] _
    refine ev_i 1 (M1 := ev_M r2.2 c w) (pc1 := 31) (lv1 := [(0, .ref 606), (1, .int x1), (2, .int x2)]) (st1 := [.ref 606]) (M2 := ev_M r2.2 c w) (pc2 := 22) (lv2 := [(0, .ref 606), (1, .int x1), (2, .int x2)]) (st2 := [.ref 606]) (fun n => rfl) h (fun hc3 h => ?_) (fun hc3 h => ?_)
    · exact ok_fX11_buy_c31 h
    · obtain ⟨r4, hr4, h⟩ := Option.bind_eq_some_iff.mp h
      refine ev_c 4 (y' := 178) (M1 := ev_M r2.2 c w) (la := lv_args 0 [.int x2, .int 0, .int 5]) (rest := [.ref 606]) (pc' := 28) (lv' := [(0, .ref 606), (1, .int x1), (2, .int x2)]) (fun n => rfl) (ok_fX11_in hr4) ?_
      show Ev XL xs _ 254 (ev_M r4.2 c w) 28 [(0, .ref 606), (1, .int x1), (2, .int x2)] [.int r4.1, .ref 606] _
      refine ev_i 1 (M1 := ev_M r4.2 c w) (pc1 := 31) (lv1 := [(0, .ref 606), (1, .int x1), (2, .int x2)]) (st1 := [.ref 606]) (M2 := ev_M r4.2 c w) (pc2 := 35) (lv2 := [(0, .ref 606), (1, .int x1), (2, .int x2)]) (st2 := [.ref 606]) (fun n => rfl) h (fun hc5 h => ?_) (fun hc5 h => ?_)
      · exact ok_fX11_buy_c31 h
      · refine ev_i 10 (M1 := ev_M r4.2 c w) (pc1 := 58) (lv1 := [(0, .ref 606), (1, .int x1), (2, .int x2)]) (st1 := [.ref 606]) (M2 := ev_M r4.2 c w) (pc2 := 50) (lv2 := [(0, .ref 606), (1, .int x1), (2, .int x2)]) (st2 := [.ref 606]) (fun n => rfl) h (fun hc6 h => ?_) (fun hc6 h => ?_)
        · exact ok_fX11_buy_c58 h
        · obtain ⟨r7, hr7, h⟩ := Option.bind_eq_some_iff.mp h
          refine ev_c 2 (y' := 253) (M1 := ev_M r4.2 c w) (la := lv_args 0 [.ref 606]) (rest := [.ref 606]) (pc' := 54) (lv' := [(0, .ref 606), (1, .int x1), (2, .int x2)]) (fun n => rfl) (ok_fX11_freePlace hr7) ?_
          show Ev XL xs _ 254 (ev_M r7.2 c w) 54 [(0, .ref 606), (1, .int x1), (2, .int x2)] [.int r7.1, .ref 606] _
          refine ev_i 2 (M1 := ev_M r7.2 c w) (pc1 := 58) (lv1 := [(0, .ref 606), (1, .int x1), (2, .int x2)]) (st1 := [.ref 606]) (M2 := ev_M r7.2 c w) (pc2 := 62) (lv2 := [(0, .ref 606), (1, .int x1), (2, .int x2)]) (st2 := [.ref 606]) (fun n => rfl) h (fun hc8 h => ?_) (fun hc8 h => ?_)
          · exact ok_fX11_buy_c58 h
          · refine ev_s 1 (M' := ev_M r7.2 c w) (pc' := 63) (lv' := [(0, .ref 606), (1, .int x1), (2, .int x2)]) (st' := [.int ((-1) : Int32), .ref 606]) (fun n => rfl) ?_
            exact ok_fX11_buy_c63 h
def fX11_lose_c39 (m : mm_MM) (x1 : Int32) (s1 : Int32) : Option (Int32 × mm_MM) :=
  (fX11_isRefused m s1).bind fun r1 =>
   (if r1.1 = 0 then
     (fX11_keep r1.2).bind fun r3 =>
      (fX11_set r3 x1 4 0).bind fun r4 =>
       (fX11_of r4 x1 2).bind fun r5 =>
        some (r5.1, r5.2)
    else
     some (((-1) : Int32), r1.2))
theorem ok_fX11_lose_c39 {m : mm_MM} {x1 : Int32} {s1 : Int32} {q0 : Int32 × mm_MM} (h : fX11_lose_c39 m x1 s1 = some q0) : Ev XL xs (d + 3) 255 (ev_M m c w) 39 [(0, .ref 606), (1, .int x1)] [.int s1, .ref 606] (fr_i c w q0) := by
  unfold fX11_lose_c39 at h
  obtain ⟨r1, hr1, h⟩ := Option.bind_eq_some_iff.mp h
  refine ev_c 1 (y' := 247) (M1 := ev_M m c w) (la := lv_args 0 [.ref 606, .int s1]) (rest := []) (pc' := 42) (lv' := [(0, .ref 606), (1, .int x1)]) (fun n => rfl) (ok_fX11_isRefused hr1) ?_
  show Ev XL xs _ 255 (ev_M r1.2 c w) 42 [(0, .ref 606), (1, .int x1)] [.int r1.1] _
  refine ev_i 1 (M1 := ev_M r1.2 c w) (pc1 := 47) (lv1 := [(0, .ref 606), (1, .int x1)]) (st1 := []) (M2 := ev_M r1.2 c w) (pc2 := 45) (lv2 := [(0, .ref 606), (1, .int x1)]) (st2 := []) (fun n => rfl) h (fun hc2 h => ?_) (fun hc2 h => ?_)
  · obtain ⟨r3, hr3, h⟩ := Option.bind_eq_some_iff.mp h
    refine ev_c 2 (y' := 246) (M1 := ev_M r1.2 c w) (la := lv_args 0 [.ref 606]) (rest := []) (pc' := 51) (lv' := [(0, .ref 606), (1, .int x1)]) (fun n => rfl) (ok_fX11_keep hr3) ?_
    show Ev XL xs _ 255 (ev_M r3 c w) 51 [(0, .ref 606), (1, .int x1)] [] _
    obtain ⟨r4, hr4, h⟩ := Option.bind_eq_some_iff.mp h
    refine ev_c 5 (y' := 221) (M1 := ev_M r3 c w) (la := lv_args 0 [.ref 606, .int x1, .int 4, .int 0]) (rest := []) (pc' := 58) (lv' := [(0, .ref 606), (1, .int x1)]) (fun n => rfl) (ok_fX11_set hr4) ?_
    show Ev XL xs _ 255 (ev_M r4 c w) 58 [(0, .ref 606), (1, .int x1)] [] _
    obtain ⟨r5, hr5, h⟩ := Option.bind_eq_some_iff.mp h
    refine ev_c 4 (y' := 220) (M1 := ev_M r4 c w) (la := lv_args 0 [.ref 606, .int x1, .int 2]) (rest := []) (pc' := 64) (lv' := [(0, .ref 606), (1, .int x1)]) (fun n => rfl) (ok_fX11_of hr5) ?_
    show Ev XL xs _ 255 (ev_M r5.2 c w) 64 [(0, .ref 606), (1, .int x1)] [.int r5.1] _
    cases h
    exact ev_r 1 (fun n => rfl)
  · cases h
    exact ev_r 2 (fun n => rfl)
def fX11_lose (m : mm_MM) (x1 : Int32) : Option (Int32 × mm_MM) :=
  (fX11_isThere m x1).bind fun r1 =>
   (if r1.1 = 0 then
     fX11_lose_c39 r1.2 x1 0
    else
     (fX11_doesLie r1.2 x1).bind fun r3 =>
      (if r3.1 = 0 then
        fX11_lose_c39 r3.2 x1 2
       else
        (fX11_of r3.2 x1 4).bind fun r5 =>
         (if r5.1 = 0 then
           fX11_lose_c39 r5.2 x1 3
          else
           fX11_lose_c39 r5.2 x1 ((-1) : Int32))))
theorem ok_fX11_lose {m : mm_MM} {x1 : Int32} {q0 : Int32 × mm_MM} (h : fX11_lose m x1 = some q0) : Ev XL xs (d + 3) 255 (ev_M m c w) 0 (lv_args 0 [.ref 606, .int x1]) [] (fr_i c w q0) := by
  unfold fX11_lose at h
  obtain ⟨r1, hr1, h⟩ := Option.bind_eq_some_iff.mp h
  refine ev_c 4 (y' := 225) (M1 := ev_M m c w) (la := lv_args 0 [.ref 606, .int x1]) (rest := [.ref 606]) (pc' := 6) (lv' := [(0, .ref 606), (1, .int x1)]) (fun n => rfl) (ok_fX11_isThere hr1) ?_
  show Ev XL xs _ 255 (ev_M r1.2 c w) 6 [(0, .ref 606), (1, .int x1)] [.int r1.1, .ref 606] _
  refine ev_i 1 (M1 := ev_M r1.2 c w) (pc1 := 9) (lv1 := [(0, .ref 606), (1, .int x1)]) (st1 := [.ref 606]) (M2 := ev_M r1.2 c w) (pc2 := 13) (lv2 := [(0, .ref 606), (1, .int x1)]) (st2 := [.ref 606]) (fun n => rfl) h (fun hc2 h => ?_) (fun hc2 h => ?_)
  · refine ev_s 2 (M' := ev_M r1.2 c w) (pc' := 39) (lv' := [(0, .ref 606), (1, .int x1)]) (st' := [.int 0, .ref 606]) (fun n => rfl) ?_
    exact ok_fX11_lose_c39 h
  · obtain ⟨r3, hr3, h⟩ := Option.bind_eq_some_iff.mp h
    refine ev_c 3 (y' := 226) (M1 := ev_M r1.2 c w) (la := lv_args 0 [.ref 606, .int x1]) (rest := [.ref 606]) (pc' := 18) (lv' := [(0, .ref 606), (1, .int x1)]) (fun n => rfl) (ok_fX11_doesLie hr3) ?_
    show Ev XL xs _ 255 (ev_M r3.2 c w) 18 [(0, .ref 606), (1, .int x1)] [.int r3.1, .ref 606] _
    refine ev_i 1 (M1 := ev_M r3.2 c w) (pc1 := 21) (lv1 := [(0, .ref 606), (1, .int x1)]) (st1 := [.ref 606]) (M2 := ev_M r3.2 c w) (pc2 := 25) (lv2 := [(0, .ref 606), (1, .int x1)]) (st2 := [.ref 606]) (fun n => rfl) h (fun hc4 h => ?_) (fun hc4 h => ?_)
    · refine ev_s 2 (M' := ev_M r3.2 c w) (pc' := 39) (lv' := [(0, .ref 606), (1, .int x1)]) (st' := [.int 2, .ref 606]) (fun n => rfl) ?_
      exact ok_fX11_lose_c39 h
    · obtain ⟨r5, hr5, h⟩ := Option.bind_eq_some_iff.mp h
      refine ev_c 4 (y' := 220) (M1 := ev_M r3.2 c w) (la := lv_args 0 [.ref 606, .int x1, .int 4]) (rest := [.ref 606]) (pc' := 31) (lv' := [(0, .ref 606), (1, .int x1)]) (fun n => rfl) (ok_fX11_of hr5) ?_
      show Ev XL xs _ 255 (ev_M r5.2 c w) 31 [(0, .ref 606), (1, .int x1)] [.int r5.1, .ref 606] _
      refine ev_i 1 (M1 := ev_M r5.2 c w) (pc1 := 34) (lv1 := [(0, .ref 606), (1, .int x1)]) (st1 := [.ref 606]) (M2 := ev_M r5.2 c w) (pc2 := 38) (lv2 := [(0, .ref 606), (1, .int x1)]) (st2 := [.ref 606]) (fun n => rfl) h (fun hc6 h => ?_) (fun hc6 h => ?_)
      · refine ev_s 2 (M' := ev_M r5.2 c w) (pc' := 39) (lv' := [(0, .ref 606), (1, .int x1)]) (st' := [.int 3, .ref 606]) (fun n => rfl) ?_
        exact ok_fX11_lose_c39 h
      · refine ev_s 1 (M' := ev_M r5.2 c w) (pc' := 39) (lv' := [(0, .ref 606), (1, .int x1)]) (st' := [.int ((-1) : Int32), .ref 606]) (fun n => rfl) ?_
        exact ok_fX11_lose_c39 h
def fX11_search_c86 (m : mm_MM) : Option (Int32 × mm_MM) :=
  some (((-1) : Int32), m)
set_option maxRecDepth 20000 in
theorem ok_fX11_search_c86 {m : mm_MM} {q0 : Int32 × mm_MM} (h : fX11_search_c86 m = some q0) : Ev XL xs (d + 4) 256 (ev_M m c w) 86 [] [] (fr_i c w q0) := by
  unfold fX11_search_c86 at h
  cases h
  exact ev_r 2 (fun n => rfl)
def fX11_search_c40 (m : mm_MM) (x1 : Int32) (s1 : Int32) : Option (Int32 × mm_MM) :=
  (fX11_isRefused m s1).bind fun r1 =>
   (if r1.1 = 0 then
     (fX11_keep r1.2).bind fun r3 =>
      (fX11_inPlot (wI r3 623 48 (r3.1 623 48 - 1)) x1).bind fun r4 =>
       (if r4.1 = ((-1) : Int32) then
         fX11_search_c86 r4.2
        else
         (fX11_of r4.2 r4.1 4).bind fun r6 =>
          (if r6.1 = 1 then
            fX11_search_c86 r6.2
           else
            (fX11_set r6.2 r4.1 4 1).bind fun r8 =>
             some (r4.1, r8)))
    else
     some (((-1000000) : Int32), r1.2))
set_option maxRecDepth 20000 in
theorem ok_fX11_search_c40 {m : mm_MM} {x1 : Int32} {s1 : Int32} {q0 : Int32 × mm_MM} (h : fX11_search_c40 m x1 s1 = some q0) : Ev XL xs (d + 4) 256 (ev_M m c w) 40 [(0, .ref 606), (1, .int x1)] [.int s1, .ref 606] (fr_i c w q0) := by
  unfold fX11_search_c40 at h
  obtain ⟨r1, hr1, h⟩ := Option.bind_eq_some_iff.mp h
  refine ev_c 1 (y' := 247) (M1 := ev_M m c w) (la := lv_args 0 [.ref 606, .int s1]) (rest := []) (pc' := 43) (lv' := [(0, .ref 606), (1, .int x1)]) (fun n => rfl) (ok_fX11_isRefused hr1) ?_
  show Ev XL xs _ 256 (ev_M r1.2 c w) 43 [(0, .ref 606), (1, .int x1)] [.int r1.1] _
  refine ev_i 1 (M1 := ev_M r1.2 c w) (pc1 := 50) (lv1 := [(0, .ref 606), (1, .int x1)]) (st1 := []) (M2 := ev_M r1.2 c w) (pc2 := 46) (lv2 := [(0, .ref 606), (1, .int x1)]) (st2 := []) (fun n => rfl) h (fun hc2 h => ?_) (fun hc2 h => ?_)
  · obtain ⟨r3, hr3, h⟩ := Option.bind_eq_some_iff.mp h
    refine ev_c 2 (y' := 246) (M1 := ev_M r1.2 c w) (la := lv_args 0 [.ref 606]) (rest := []) (pc' := 54) (lv' := [(0, .ref 606), (1, .int x1)]) (fun n => rfl) (ok_fX11_keep hr3) ?_
    show Ev XL xs _ 256 (ev_M r3 c w) 54 [(0, .ref 606), (1, .int x1)] [] _
    obtain ⟨r4, hr4, h⟩ := Option.bind_eq_some_iff.mp h
    refine ev_c 11 (y' := 232) (M1 := ev_M (wI r3 623 48 (r3.1 623 48 - 1)) c w) (la := lv_args 0 [.ref 606, .int x1]) (rest := []) (pc' := 70) (lv' := [(0, .ref 606), (1, .int x1)]) (fun n => rfl) (ok_fX11_inPlot hr4) ?_
    show Ev XL xs _ 256 (ev_M r4.2 c w) 70 [(0, .ref 606), (1, .int x1)] [.int r4.1] _
    refine ev_i 4 (M1 := ev_M r4.2 c w) (pc1 := 86) (lv1 := [(2, .int r4.1), (0, .ref 606), (1, .int x1)]) (st1 := []) (M2 := ev_M r4.2 c w) (pc2 := 76) (lv2 := [(2, .int r4.1), (0, .ref 606), (1, .int x1)]) (st2 := []) (fun n => rfl) h (fun hc5 h => ?_) (fun hc5 h => ?_)
    · refine ev_sub (lv := []) (mn_of rfl (by repeat (first | exact trivial | refine And.intro rfl ?_))) ?_
      exact ok_fX11_search_c86 h
    · obtain ⟨r6, hr6, h⟩ := Option.bind_eq_some_iff.mp h
      refine ev_c 4 (y' := 220) (M1 := ev_M r4.2 c w) (la := lv_args 0 [.ref 606, .int r4.1, .int 4]) (rest := []) (pc' := 82) (lv' := [(2, .int r4.1), (0, .ref 606), (1, .int x1)]) (fun n => rfl) (ok_fX11_of hr6) ?_
      show Ev XL xs _ 256 (ev_M r6.2 c w) 82 [(2, .int r4.1), (0, .ref 606), (1, .int x1)] [.int r6.1] _
      refine ev_i 2 (M1 := ev_M r6.2 c w) (pc1 := 86) (lv1 := [(2, .int r4.1), (0, .ref 606), (1, .int x1)]) (st1 := []) (M2 := ev_M r6.2 c w) (pc2 := 88) (lv2 := [(2, .int r4.1), (0, .ref 606), (1, .int x1)]) (st2 := []) (fun n => rfl) h (fun hc7 h => ?_) (fun hc7 h => ?_)
      · refine ev_sub (lv := []) (mn_of rfl (by repeat (first | exact trivial | refine And.intro rfl ?_))) ?_
        exact ok_fX11_search_c86 h
      · obtain ⟨r8, hr8, h⟩ := Option.bind_eq_some_iff.mp h
        refine ev_c 5 (y' := 221) (M1 := ev_M r6.2 c w) (la := lv_args 0 [.ref 606, .int r4.1, .int 4, .int 1]) (rest := []) (pc' := 95) (lv' := [(2, .int r4.1), (0, .ref 606), (1, .int x1)]) (fun n => rfl) (ok_fX11_set hr8) ?_
        show Ev XL xs _ 256 (ev_M r8 c w) 95 [(2, .int r4.1), (0, .ref 606), (1, .int x1)] [] _
        cases h
        exact ev_r 2 (fun n => rfl)
  · cases h
    exact ev_r 2 (fun n => rfl)
def fX11_search (m : mm_MM) (x1 : Int32) : Option (Int32 × mm_MM) :=
  (if m.1 606 26 = 0 then
    fX11_search_c40 m x1 0
   else
    (fX11_isPlot m x1).bind fun r2 =>
     (if r2.1 = 0 then
       fX11_search_c40 r2.2 x1 1
      else
       (if r2.2.1 623 48 < 1 then
         fX11_search_c40 r2.2 x1 3
        else
         fX11_search_c40 r2.2 x1 ((-1) : Int32))))
set_option maxRecDepth 20000 in
theorem ok_fX11_search {m : mm_MM} {x1 : Int32} {q0 : Int32 × mm_MM} (h : fX11_search m x1 = some q0) : Ev XL xs (d + 4) 256 (ev_M m c w) 0 (lv_args 0 [.ref 606, .int x1]) [] (fr_i c w q0) := by
  unfold fX11_search at h
  refine ev_i 4 (M1 := ev_M m c w) (pc1 := 8) (lv1 := [(0, .ref 606), (1, .int x1)]) (st1 := [.ref 606]) (M2 := ev_M m c w) (pc2 := 12) (lv2 := [(0, .ref 606), (1, .int x1)]) (st2 := [.ref 606]) (fun n => rfl) h (fun hc1 h => ?_) (fun hc1 h => ?_)
  · refine ev_s 2 (M' := ev_M m c w) (pc' := 40) (lv' := [(0, .ref 606), (1, .int x1)]) (st' := [.int 0, .ref 606]) (fun n => rfl) ?_
    exact ok_fX11_search_c40 h
  · obtain ⟨r2, hr2, h⟩ := Option.bind_eq_some_iff.mp h
    refine ev_c 3 (y' := 228) (M1 := ev_M m c w) (la := lv_args 0 [.ref 606, .int x1]) (rest := [.ref 606]) (pc' := 17) (lv' := [(0, .ref 606), (1, .int x1)]) (fun n => rfl) (ok_fX11_isPlot hr2) ?_
    show Ev XL xs _ 256 (ev_M r2.2 c w) 17 [(0, .ref 606), (1, .int x1)] [.int r2.1, .ref 606] _
    refine ev_i 1 (M1 := ev_M r2.2 c w) (pc1 := 20) (lv1 := [(0, .ref 606), (1, .int x1)]) (st1 := [.ref 606]) (M2 := ev_M r2.2 c w) (pc2 := 24) (lv2 := [(0, .ref 606), (1, .int x1)]) (st2 := [.ref 606]) (fun n => rfl) h (fun hc3 h => ?_) (fun hc3 h => ?_)
    · refine ev_s 2 (M' := ev_M r2.2 c w) (pc' := 40) (lv' := [(0, .ref 606), (1, .int x1)]) (st' := [.int 1, .ref 606]) (fun n => rfl) ?_
      exact ok_fX11_search_c40 h
    · refine ev_i 6 (M1 := ev_M r2.2 c w) (pc1 := 35) (lv1 := [(0, .ref 606), (1, .int x1)]) (st1 := [.ref 606]) (M2 := ev_M r2.2 c w) (pc2 := 39) (lv2 := [(0, .ref 606), (1, .int x1)]) (st2 := [.ref 606]) (fun n => rfl) h (fun hc4 h => ?_) (fun hc4 h => ?_)
      · refine ev_s 2 (M' := ev_M r2.2 c w) (pc' := 40) (lv' := [(0, .ref 606), (1, .int x1)]) (st' := [.int 3, .ref 606]) (fun n => rfl) ?_
        exact ok_fX11_search_c40 h
      · refine ev_s 1 (M' := ev_M r2.2 c w) (pc' := 40) (lv' := [(0, .ref 606), (1, .int x1)]) (st' := [.int ((-1) : Int32), .ref 606]) (fun n => rfl) ?_
        exact ok_fX11_search_c40 h
def fX11_give_c46 (m : mm_MM) (x1 : Int32) (s1 : Int32) : Option (Int32 × mm_MM) :=
  (fX11_isRefused m s1).bind fun r1 =>
   (if r1.1 = 0 then
     (fX11_keep r1.2).bind fun r3 =>
      some ((r3.1 623 48 + x1), (wI r3 623 48 (r3.1 623 48 + x1)))
    else
     some (((-1) : Int32), r1.2))
theorem ok_fX11_give_c46 {m : mm_MM} {x1 : Int32} {s1 : Int32} {q0 : Int32 × mm_MM} (h : fX11_give_c46 m x1 s1 = some q0) : Ev XL xs (d + 1) 257 (ev_M m c w) 46 [(0, .ref 606), (1, .int x1)] [.int s1, .ref 606] (fr_i c w q0) := by
  unfold fX11_give_c46 at h
  obtain ⟨r1, hr1, h⟩ := Option.bind_eq_some_iff.mp h
  refine ev_c 1 (y' := 247) (M1 := ev_M m c w) (la := lv_args 0 [.ref 606, .int s1]) (rest := []) (pc' := 49) (lv' := [(0, .ref 606), (1, .int x1)]) (fun n => rfl) (ok_fX11_isRefused hr1) ?_
  show Ev XL xs _ 257 (ev_M r1.2 c w) 49 [(0, .ref 606), (1, .int x1)] [.int r1.1] _
  refine ev_i 1 (M1 := ev_M r1.2 c w) (pc1 := 54) (lv1 := [(0, .ref 606), (1, .int x1)]) (st1 := []) (M2 := ev_M r1.2 c w) (pc2 := 52) (lv2 := [(0, .ref 606), (1, .int x1)]) (st2 := []) (fun n => rfl) h (fun hc2 h => ?_) (fun hc2 h => ?_)
  · obtain ⟨r3, hr3, h⟩ := Option.bind_eq_some_iff.mp h
    refine ev_c 2 (y' := 246) (M1 := ev_M r1.2 c w) (la := lv_args 0 [.ref 606]) (rest := []) (pc' := 58) (lv' := [(0, .ref 606), (1, .int x1)]) (fun n => rfl) (ok_fX11_keep hr3) ?_
    show Ev XL xs _ 257 (ev_M r3 c w) 58 [(0, .ref 606), (1, .int x1)] [] _
    cases h
    exact ev_r 13 (fun n => rfl)
  · cases h
    exact ev_r 2 (fun n => rfl)
def fX11_give (m : mm_MM) (x1 : Int32) : Option (Int32 × mm_MM) :=
  (if m.1 606 26 = 0 then
    fX11_give_c46 m x1 0
   else
    (fX11_in m x1 1 50).bind fun r2 =>
     (if r2.1 = 0 then
       fX11_give_c46 r2.2 x1 1
      else
       (if (r2.2.1 623 48 + x1) ≤ 999 then
         fX11_give_c46 r2.2 x1 ((-1) : Int32)
        else
         fX11_give_c46 r2.2 x1 3)))
theorem ok_fX11_give {m : mm_MM} {x1 : Int32} {q0 : Int32 × mm_MM} (h : fX11_give m x1 = some q0) : Ev XL xs (d + 1) 257 (ev_M m c w) 0 (lv_args 0 [.ref 606, .int x1]) [] (fr_i c w q0) := by
  unfold fX11_give at h
  refine ev_i 4 (M1 := ev_M m c w) (pc1 := 8) (lv1 := [(0, .ref 606), (1, .int x1)]) (st1 := [.ref 606]) (M2 := ev_M m c w) (pc2 := 12) (lv2 := [(0, .ref 606), (1, .int x1)]) (st2 := [.ref 606]) (fun n => rfl) h (fun hc1 h => ?_) (fun hc1 h => ?_)
  · refine ev_s 2 (M' := ev_M m c w) (pc' := 46) (lv' := [(0, .ref 606), (1, .int x1)]) (st' := [.int 0, .ref 606]) (fun n => rfl) ?_
    exact ok_fX11_give_c46 h
  · obtain ⟨r2, hr2, h⟩ := Option.bind_eq_some_iff.mp h
    refine ev_c 4 (y' := 178) (M1 := ev_M m c w) (la := lv_args 0 [.int x1, .int 1, .int 50]) (rest := [.ref 606]) (pc' := 19) (lv' := [(0, .ref 606), (1, .int x1)]) (fun n => rfl) (ok_fX11_in hr2) ?_
    show Ev XL xs _ 257 (ev_M r2.2 c w) 19 [(0, .ref 606), (1, .int x1)] [.int r2.1, .ref 606] _
    refine ev_i 1 (M1 := ev_M r2.2 c w) (pc1 := 22) (lv1 := [(0, .ref 606), (1, .int x1)]) (st1 := [.ref 606]) (M2 := ev_M r2.2 c w) (pc2 := 26) (lv2 := [(0, .ref 606), (1, .int x1)]) (st2 := [.ref 606]) (fun n => rfl) h (fun hc3 h => ?_) (fun hc3 h => ?_)
    · refine ev_s 2 (M' := ev_M r2.2 c w) (pc' := 46) (lv' := [(0, .ref 606), (1, .int x1)]) (st' := [.int 1, .ref 606]) (fun n => rfl) ?_
      exact ok_fX11_give_c46 h
    · refine ev_i 8 (M1 := ev_M r2.2 c w) (pc1 := 45) (lv1 := [(0, .ref 606), (1, .int x1)]) (st1 := [.ref 606]) (M2 := ev_M r2.2 c w) (pc2 := 41) (lv2 := [(0, .ref 606), (1, .int x1)]) (st2 := [.ref 606]) (fun n => rfl) h (fun hc4 h => ?_) (fun hc4 h => ?_)
      · refine ev_s 1 (M' := ev_M r2.2 c w) (pc' := 46) (lv' := [(0, .ref 606), (1, .int x1)]) (st' := [.int ((-1) : Int32), .ref 606]) (fun n => rfl) ?_
        exact ok_fX11_give_c46 h
      · refine ev_s 2 (M' := ev_M r2.2 c w) (pc' := 46) (lv' := [(0, .ref 606), (1, .int x1)]) (st' := [.int 3, .ref 606]) (fun n => rfl) ?_
        exact ok_fX11_give_c46 h
def fX11_draw (m : mm_MM) (x1 : Int32) : Option (Int32 × mm_MM) :=
  (if (Int32.toInt64 x1) = (0 : Int64) then none else
   some ((Int64.toInt32 (((Int64.toUInt64 ((m.2 606 35 * 6364136223846793005) + 1442695040888963407) >>> ((Int32.toInt64 33).toUInt64 &&& Int64.toUInt64 63)).toInt64 : Int64) - (Int64.toUInt64 ((m.2 606 35 * 6364136223846793005) + 1442695040888963407) >>> ((Int32.toInt64 33).toUInt64 &&& Int64.toUInt64 63)).toInt64 / (Int32.toInt64 x1) * (Int32.toInt64 x1))), (wL m 606 35 ((m.2 606 35 * 6364136223846793005) + 1442695040888963407))))
theorem ok_fX11_draw {m : mm_MM} {x1 : Int32} {q0 : Int32 × mm_MM} (h : fX11_draw m x1 = some q0) : Ev XL xs d 258 (ev_M m c w) 0 (lv_args 0 [.ref 606, .int x1]) [] (fr_i c w q0) := by
  unfold fX11_draw at h
  refine ev_g 15 (M1 := ev_M (wL m 606 35 ((m.2 606 35 * 6364136223846793005) + 1442695040888963407)) c w) (pc1 := 26) (lv1 := [(0, .ref 606), (1, .int x1)]) (st1 := [.long (((Int64.toUInt64 ((m.2 606 35 * 6364136223846793005) + 1442695040888963407) >>> ((Int32.toInt64 33).toUInt64 &&& Int64.toUInt64 63)).toInt64 : Int64) - (Int64.toUInt64 ((m.2 606 35 * 6364136223846793005) + 1442695040888963407) >>> ((Int32.toInt64 33).toUInt64 &&& Int64.toUInt64 63)).toInt64 / (Int32.toInt64 x1) * (Int32.toInt64 x1))]) (fun n => rfl) h (fun _ h => ?_)
  cases h
  exact ev_r 2 (fun n => rfl)
def fX11_drawMonth_c77 (m : mm_MM) : Option (mm_MM) :=
  some m
theorem ok_fX11_drawMonth_c77 {m : mm_MM} {q0 : mm_MM} (h : fX11_drawMonth_c77 m = some q0) : Ev XL xs (d + 4) 259 (ev_M m c w) 77 [] [] (fr_v c w q0) := by
  unfold fX11_drawMonth_c77 at h
  cases h
  exact ev_r 1 (fun n => rfl)
def fX11_drawMonth_c45 (m : mm_MM) : Option (mm_MM) :=
  (fX11_draw m 10).bind fun r1 =>
   (if r1.1 < 2 then
     (fX11_draw r1.2 8).bind fun r3 =>
      (fX11_doesLie r3.2 r3.1).bind fun r4 =>
       (if r4.1 = 0 then
         fX11_drawMonth_c77 r4.2
        else
         (fX11_set r4.2 r3.1 4 0).bind fun r6 =>
          fX11_drawMonth_c77 r6)
    else
     fX11_drawMonth_c77 r1.2)
theorem ok_fX11_drawMonth_c45 {m : mm_MM} {q0 : mm_MM} (h : fX11_drawMonth_c45 m = some q0) : Ev XL xs (d + 4) 259 (ev_M m c w) 45 [(0, .ref 606)] [] (fr_v c w q0) := by
  unfold fX11_drawMonth_c45 at h
  obtain ⟨r1, hr1, h⟩ := Option.bind_eq_some_iff.mp h
  refine ev_c 3 (y' := 258) (M1 := ev_M m c w) (la := lv_args 0 [.ref 606, .int 10]) (rest := []) (pc' := 51) (lv' := [(0, .ref 606)]) (fun n => rfl) (ok_fX11_draw hr1) ?_
  show Ev XL xs _ 259 (ev_M r1.2 c w) 51 [(0, .ref 606)] [.int r1.1] _
  refine ev_i 2 (M1 := ev_M r1.2 c w) (pc1 := 55) (lv1 := [(0, .ref 606)]) (st1 := []) (M2 := ev_M r1.2 c w) (pc2 := 77) (lv2 := [(0, .ref 606)]) (st2 := []) (fun n => rfl) h (fun hc2 h => ?_) (fun hc2 h => ?_)
  · obtain ⟨r3, hr3, h⟩ := Option.bind_eq_some_iff.mp h
    refine ev_c 3 (y' := 258) (M1 := ev_M r1.2 c w) (la := lv_args 0 [.ref 606, .int 8]) (rest := []) (pc' := 61) (lv' := [(0, .ref 606)]) (fun n => rfl) (ok_fX11_draw hr3) ?_
    show Ev XL xs _ 259 (ev_M r3.2 c w) 61 [(0, .ref 606)] [.int r3.1] _
    obtain ⟨r4, hr4, h⟩ := Option.bind_eq_some_iff.mp h
    refine ev_c 4 (y' := 226) (M1 := ev_M r3.2 c w) (la := lv_args 0 [.ref 606, .int r3.1]) (rest := []) (pc' := 67) (lv' := [(1, .int r3.1), (0, .ref 606)]) (fun n => rfl) (ok_fX11_doesLie hr4) ?_
    show Ev XL xs _ 259 (ev_M r4.2 c w) 67 [(1, .int r3.1), (0, .ref 606)] [.int r4.1] _
    refine ev_i 1 (M1 := ev_M r4.2 c w) (pc1 := 77) (lv1 := [(1, .int r3.1), (0, .ref 606)]) (st1 := []) (M2 := ev_M r4.2 c w) (pc2 := 70) (lv2 := [(1, .int r3.1), (0, .ref 606)]) (st2 := []) (fun n => rfl) h (fun hc5 h => ?_) (fun hc5 h => ?_)
    · refine ev_sub (lv := []) (mn_of rfl (by repeat (first | exact trivial | refine And.intro rfl ?_))) ?_
      exact ok_fX11_drawMonth_c77 h
    · obtain ⟨r6, hr6, h⟩ := Option.bind_eq_some_iff.mp h
      refine ev_c 5 (y' := 221) (M1 := ev_M r4.2 c w) (la := lv_args 0 [.ref 606, .int r3.1, .int 4, .int 0]) (rest := []) (pc' := 77) (lv' := [(1, .int r3.1), (0, .ref 606)]) (fun n => rfl) (ok_fX11_set hr6) ?_
      show Ev XL xs _ 259 (ev_M r6 c w) 77 [(1, .int r3.1), (0, .ref 606)] [] _
      refine ev_sub (lv := []) (mn_of rfl (by repeat (first | exact trivial | refine And.intro rfl ?_))) ?_
      exact ok_fX11_drawMonth_c77 h
  · refine ev_sub (lv := []) (mn_of rfl (by repeat (first | exact trivial | refine And.intro rfl ?_))) ?_
    exact ok_fX11_drawMonth_c77 h
def fX11_drawMonth (m : mm_MM) : Option (mm_MM) :=
  (fX11_draw m 10).bind fun r1 =>
   (if r1.1 < r1.2.1 606 30 then
     (fX11_plots r1.2).bind fun r3 =>
      (fX11_draw r3.2 r3.1).bind fun r4 =>
       (fX11_inPlot r4.2 r4.1).bind fun r5 =>
        (if r5.1 = ((-1) : Int32) then
          fX11_drawMonth_c45 r5.2
         else
          (fX11_of r5.2 r5.1 0).bind fun r7 =>
           (fX11_set r7.2 r5.1 0 ((r7.1 : Int32) / 2)).bind fun r8 =>
            fX11_drawMonth_c45 r8)
    else
     fX11_drawMonth_c45 r1.2)
theorem ok_fX11_drawMonth {m : mm_MM} {q0 : mm_MM} (h : fX11_drawMonth m = some q0) : Ev XL xs (d + 4) 259 (ev_M m c w) 0 (lv_args 0 [.ref 606]) [] (fr_v c w q0) := by
  unfold fX11_drawMonth at h
  obtain ⟨r1, hr1, h⟩ := Option.bind_eq_some_iff.mp h
  refine ev_c 3 (y' := 258) (M1 := ev_M m c w) (la := lv_args 0 [.ref 606, .int 10]) (rest := []) (pc' := 6) (lv' := [(0, .ref 606)]) (fun n => rfl) (ok_fX11_draw hr1) ?_
  show Ev XL xs _ 259 (ev_M r1.2 c w) 6 [(0, .ref 606)] [.int r1.1] _
  refine ev_i 3 (M1 := ev_M r1.2 c w) (pc1 := 13) (lv1 := [(0, .ref 606)]) (st1 := []) (M2 := ev_M r1.2 c w) (pc2 := 45) (lv2 := [(0, .ref 606)]) (st2 := []) (fun n => rfl) h (fun hc2 h => ?_) (fun hc2 h => ?_)
  · obtain ⟨r3, hr3, h⟩ := Option.bind_eq_some_iff.mp h
    refine ev_c 4 (y' := 227) (M1 := ev_M r1.2 c w) (la := lv_args 0 [.ref 606]) (rest := [.ref 606, .ref 606]) (pc' := 19) (lv' := [(0, .ref 606)]) (fun n => rfl) (ok_fX11_plots hr3) ?_
    show Ev XL xs _ 259 (ev_M r3.2 c w) 19 [(0, .ref 606)] [.int r3.1, .ref 606, .ref 606] _
    obtain ⟨r4, hr4, h⟩ := Option.bind_eq_some_iff.mp h
    refine ev_c 1 (y' := 258) (M1 := ev_M r3.2 c w) (la := lv_args 0 [.ref 606, .int r3.1]) (rest := [.ref 606]) (pc' := 22) (lv' := [(0, .ref 606)]) (fun n => rfl) (ok_fX11_draw hr4) ?_
    show Ev XL xs _ 259 (ev_M r4.2 c w) 22 [(0, .ref 606)] [.int r4.1, .ref 606] _
    obtain ⟨r5, hr5, h⟩ := Option.bind_eq_some_iff.mp h
    refine ev_c 1 (y' := 232) (M1 := ev_M r4.2 c w) (la := lv_args 0 [.ref 606, .int r4.1]) (rest := []) (pc' := 25) (lv' := [(0, .ref 606)]) (fun n => rfl) (ok_fX11_inPlot hr5) ?_
    show Ev XL xs _ 259 (ev_M r5.2 c w) 25 [(0, .ref 606)] [.int r5.1] _
    refine ev_i 4 (M1 := ev_M r5.2 c w) (pc1 := 45) (lv1 := [(1, .int r5.1), (0, .ref 606)]) (st1 := []) (M2 := ev_M r5.2 c w) (pc2 := 31) (lv2 := [(1, .int r5.1), (0, .ref 606)]) (st2 := []) (fun n => rfl) h (fun hc6 h => ?_) (fun hc6 h => ?_)
    · refine ev_sub (lv := [(0, .ref 606)]) (mn_of rfl (by repeat (first | exact trivial | refine And.intro rfl ?_))) ?_
      exact ok_fX11_drawMonth_c45 h
    · obtain ⟨r7, hr7, h⟩ := Option.bind_eq_some_iff.mp h
      refine ev_c 7 (y' := 220) (M1 := ev_M r5.2 c w) (la := lv_args 0 [.ref 606, .int r5.1, .int 0]) (rest := [.int 0, .int r5.1, .ref 606]) (pc' := 40) (lv' := [(1, .int r5.1), (0, .ref 606)]) (fun n => rfl) (ok_fX11_of hr7) ?_
      show Ev XL xs _ 259 (ev_M r7.2 c w) 40 [(1, .int r5.1), (0, .ref 606)] [.int r7.1, .int 0, .int r5.1, .ref 606] _
      obtain ⟨r8, hr8, h⟩ := Option.bind_eq_some_iff.mp h
      refine ev_c 3 (y' := 221) (M1 := ev_M r7.2 c w) (la := lv_args 0 [.ref 606, .int r5.1, .int 0, .int ((r7.1 : Int32) / 2)]) (rest := []) (pc' := 45) (lv' := [(1, .int r5.1), (0, .ref 606)]) (fun n => rfl) (ok_fX11_set hr8) ?_
      show Ev XL xs _ 259 (ev_M r8 c w) 45 [(1, .int r5.1), (0, .ref 606)] [] _
      refine ev_sub (lv := [(0, .ref 606)]) (mn_of rfl (by repeat (first | exact trivial | refine And.intro rfl ?_))) ?_
      exact ok_fX11_drawMonth_c45 h
  · exact ok_fX11_drawMonth_c45 h
def fX11_years_c15 (m : mm_MM) : Option (Int32 × mm_MM) :=
  some (((-1) : Int32), m)
theorem ok_fX11_years_c15 {m : mm_MM} {q0 : Int32 × mm_MM} (h : fX11_years_c15 m = some q0) : Ev XL xs (d + 8) 260 (ev_M m c w) 15 [] [] (fr_i c w q0) := by
  unfold fX11_years_c15 at h
  cases h
  exact ev_r 2 (fun n => rfl)
def fX11_years_c25 : Nat → mm_MM → Int32 → Int32 → Option (Int32 × mm_MM)
  | 0 => fun _ _ _ => none
  | n + 1 => fun m x1 x4 =>
    (if x4 < x1 then
      (fX11_keep m).bind fun r2 =>
       (fX11_drawMonth r2).bind fun r3 =>
        (fX11_passMonth r3).bind fun r4 =>
         fX11_years_c25 n r4 x1 (x4 + 1)
     else
      some (m.1 623 49, m))
theorem ok_fX11_years_c25 : ∀ (n : Nat) (m : mm_MM) (x1 : Int32) (x4 : Int32) (q0 : Int32 × mm_MM), fX11_years_c25 n m x1 x4 = some q0 → Ev XL xs (d + 8) 260 (ev_M m c w) 25 [(0, .ref 606), (1, .int x1), (4, .int x4)] [] (fr_i c w q0) := by
  intro n
  induction n with
  | zero => intro m x1 x4 q0 h; exact absurd (show (none : Option (Int32 × mm_MM)) = some q0 from h) (by simp)
  | succ n ih =>
    intro m x1 x4 q0 h
    unfold fX11_years_c25 at h
    refine ev_i 3 (M1 := ev_M m c w) (pc1 := 31) (lv1 := [(0, .ref 606), (1, .int x1), (4, .int x4)]) (st1 := []) (M2 := ev_M m c w) (pc2 := 49) (lv2 := [(0, .ref 606), (1, .int x1), (4, .int x4)]) (st2 := []) (fun n => rfl) h (fun hc1 h => ?_) (fun hc1 h => ?_)
    · obtain ⟨r2, hr2, h⟩ := Option.bind_eq_some_iff.mp h
      refine ev_c 2 (y' := 246) (M1 := ev_M m c w) (la := lv_args 0 [.ref 606]) (rest := []) (pc' := 35) (lv' := [(0, .ref 606), (1, .int x1), (4, .int x4)]) (fun n => rfl) (ok_fX11_keep hr2) ?_
      show Ev XL xs _ 260 (ev_M r2 c w) 35 [(0, .ref 606), (1, .int x1), (4, .int x4)] [] _
      obtain ⟨r3, hr3, h⟩ := Option.bind_eq_some_iff.mp h
      refine ev_c 2 (y' := 259) (M1 := ev_M r2 c w) (la := lv_args 0 [.ref 606]) (rest := []) (pc' := 39) (lv' := [(0, .ref 606), (1, .int x1), (4, .int x4)]) (fun n => rfl) (ok_fX11_drawMonth hr3) ?_
      show Ev XL xs _ 260 (ev_M r3 c w) 39 [(0, .ref 606), (1, .int x1), (4, .int x4)] [] _
      obtain ⟨r4, hr4, h⟩ := Option.bind_eq_some_iff.mp h
      refine ev_c 2 (y' := 239) (M1 := ev_M r3 c w) (la := lv_args 0 [.ref 606]) (rest := []) (pc' := 43) (lv' := [(0, .ref 606), (1, .int x1), (4, .int x4)]) (fun n => rfl) (ok_fX11_passMonth hr4) ?_
      show Ev XL xs _ 260 (ev_M r4 c w) 43 [(0, .ref 606), (1, .int x1), (4, .int x4)] [] _
      refine ev_s 2 (M' := ev_M r4 c w) (pc' := 25) (lv' := [(4, .int (x4 + 1)), (0, .ref 606), (1, .int x1)]) (st' := []) (fun n => rfl) ?_
      refine ev_sub (lv := [(0, .ref 606), (1, .int x1), (4, .int (x4 + 1))]) (mn_of rfl (by repeat (first | exact trivial | refine And.intro rfl ?_))) ?_
      exact ih _ _ _ _ h
    · cases h
      exact ev_r 5 (fun n => rfl)
def fX11_years (m : mm_MM) (x1 : Int32) (x2 : Int64) : Option (Int32 × mm_MM) :=
  (if m.1 606 26 = 0 then
    fX11_years_c15 m
   else
    (fX11_areMonths m x1).bind fun r2 =>
     (if r2.1 = 0 then
       fX11_years_c15 r2.2
      else
       fX11_years_c25 fu (wL r2.2 606 35 x2) x1 0))
theorem ok_fX11_years {m : mm_MM} {x1 : Int32} {x2 : Int64} {q0 : Int32 × mm_MM} (h : fX11_years m x1 x2 = some q0) : Ev XL xs (d + 8) 260 (ev_M m c w) 0 (lv_args 0 [.ref 606, .int x1, .long x2]) [] (fr_i c w q0) := by
  unfold fX11_years at h
  refine ev_i 3 (M1 := ev_M m c w) (pc1 := 15) (lv1 := [(0, .ref 606), (1, .int x1), (2, .long x2)]) (st1 := []) (M2 := ev_M m c w) (pc2 := 7) (lv2 := [(0, .ref 606), (1, .int x1), (2, .long x2)]) (st2 := []) (fun n => rfl) h (fun hc1 h => ?_) (fun hc1 h => ?_)
  · refine ev_sub (lv := []) (mn_of rfl (by repeat (first | exact trivial | refine And.intro rfl ?_))) ?_
    exact ok_fX11_years_c15 h
  · obtain ⟨r2, hr2, h⟩ := Option.bind_eq_some_iff.mp h
    refine ev_c 3 (y' := 248) (M1 := ev_M m c w) (la := lv_args 0 [.ref 606, .int x1]) (rest := []) (pc' := 12) (lv' := [(0, .ref 606), (1, .int x1), (2, .long x2)]) (fun n => rfl) (ok_fX11_areMonths hr2) ?_
    show Ev XL xs _ 260 (ev_M r2.2 c w) 12 [(0, .ref 606), (1, .int x1), (2, .long x2)] [.int r2.1] _
    refine ev_i 1 (M1 := ev_M r2.2 c w) (pc1 := 15) (lv1 := [(0, .ref 606), (1, .int x1), (2, .long x2)]) (st1 := []) (M2 := ev_M r2.2 c w) (pc2 := 17) (lv2 := [(0, .ref 606), (1, .int x1), (2, .long x2)]) (st2 := []) (fun n => rfl) h (fun hc3 h => ?_) (fun hc3 h => ?_)
    · refine ev_sub (lv := []) (mn_of rfl (by repeat (first | exact trivial | refine And.intro rfl ?_))) ?_
      exact ok_fX11_years_c15 h
    · refine ev_s 5 (M' := ev_M (wL r2.2 606 35 x2) c w) (pc' := 25) (lv' := [(4, .int 0), (0, .ref 606), (1, .int x1), (2, .long x2)]) (st' := []) (fun n => rfl) ?_
      refine ev_sub (lv := [(0, .ref 606), (1, .int x1), (4, .int 0)]) (mn_of rfl (by repeat (first | exact trivial | refine And.intro rfl ?_))) ?_
      exact ok_fX11_years_c25 fu _ _ _ _ h
def fX11_status_c19 (m : mm_MM) (s0 : Int32) : Option (Int32 × mm_MM) :=
  some (s0, m)
theorem ok_fX11_status_c19 {m : mm_MM} {s0 : Int32} {q0 : Int32 × mm_MM} (h : fX11_status_c19 m s0 = some q0) : Ev XL xs (d + 1) 261 (ev_M m c w) 19 [] [.int s0] (fr_i c w q0) := by
  unfold fX11_status_c19 at h
  cases h
  exact ev_r 1 (fun n => rfl)
def fX11_status (m : mm_MM) (x1 : Int32) : Option (Int32 × mm_MM) :=
  (fX11_in m x1 0 4).bind fun r1 =>
   (if r1.1 = 0 then
     fX11_status_c19 r1.2 ((-1) : Int32)
    else
     (if x1 < 0 ∨ 5 ≤ x1.toNatClampNeg then none else
      fX11_status_c19 r1.2 (r1.2.1 624 x1.toNatClampNeg)))
theorem ok_fX11_status {m : mm_MM} {x1 : Int32} {q0 : Int32 × mm_MM} (h : fX11_status m x1 = some q0) : Ev XL xs (d + 1) 261 (ev_M m c w) 0 (lv_args 0 [.ref 606, .int x1]) [] (fr_i c w q0) := by
  unfold fX11_status at h
  obtain ⟨r1, hr1, h⟩ := Option.bind_eq_some_iff.mp h
  refine ev_c 4 (y' := 178) (M1 := ev_M m c w) (la := lv_args 0 [.int x1, .int 0, .int 4]) (rest := []) (pc' := 6) (lv' := [(0, .ref 606), (1, .int x1)]) (fun n => rfl) (ok_fX11_in hr1) ?_
  show Ev XL xs _ 261 (ev_M r1.2 c w) 6 [(0, .ref 606), (1, .int x1)] [.int r1.1] _
  refine ev_i 1 (M1 := ev_M r1.2 c w) (pc1 := 18) (lv1 := [(0, .ref 606), (1, .int x1)]) (st1 := []) (M2 := ev_M r1.2 c w) (pc2 := 9) (lv2 := [(0, .ref 606), (1, .int x1)]) (st2 := []) (fun n => rfl) h (fun hc2 h => ?_) (fun hc2 h => ?_)
  · refine ev_s 1 (M' := ev_M r1.2 c w) (pc' := 19) (lv' := [(0, .ref 606), (1, .int x1)]) (st' := [.int ((-1) : Int32)]) (fun n => rfl) ?_
    refine ev_sub (lv := []) (mn_of rfl (by repeat (first | exact trivial | refine And.intro rfl ?_))) ?_
    exact ok_fX11_status_c19 h
  · refine ev_g 4 (M1 := ev_M r1.2 c w) (pc1 := 15) (lv1 := [(0, .ref 606), (1, .int x1)]) (st1 := [.int (r1.2.1 624 x1.toNatClampNeg)]) (fun n => rfl) h (fun _ h => ?_)
    refine ev_s 1 (M' := ev_M r1.2 c w) (pc' := 19) (lv' := [(0, .ref 606), (1, .int x1)]) (st' := [.int (r1.2.1 624 x1.toNatClampNeg)]) (fun n => rfl) ?_
    refine ev_sub (lv := []) (mn_of rfl (by repeat (first | exact trivial | refine And.intro rfl ?_))) ?_
    exact ok_fX11_status_c19 h
def fX11_undo_c21 : Nat → mm_MM → Int32 → Option (Int32 × mm_MM)
  | 0 => fun _ _ => none
  | n + 1 => fun m x1 =>
    (if x1 < 231 then
      (if ((231 * m.1 606 34) + x1) < 0 ∨ 9240 ≤ ((231 * m.1 606 34) + x1).toNatClampNeg then none else
       (if x1 < 0 ∨ 231 ≤ x1.toNatClampNeg then none else
        fX11_undo_c21 n (wI m 623 x1.toNatClampNeg (m.1 626 (((231 * m.1 606 34) + x1).toNatClampNeg))) (x1 + 1)))
     else
      some (m.1 606 34, m))
theorem ok_fX11_undo_c21 : ∀ (n : Nat) (m : mm_MM) (x1 : Int32) (q0 : Int32 × mm_MM), fX11_undo_c21 n m x1 = some q0 → Ev XL xs d 262 (ev_M m c w) 21 [(0, .ref 606), (1, .int x1)] [] (fr_i c w q0) := by
  intro n
  induction n with
  | zero => intro m x1 q0 h; exact absurd (show (none : Option (Int32 × mm_MM)) = some q0 from h) (by simp)
  | succ n ih =>
    intro m x1 q0 h
    unfold fX11_undo_c21 at h
    refine ev_i 3 (M1 := ev_M m c w) (pc1 := 28) (lv1 := [(0, .ref 606), (1, .int x1)]) (st1 := []) (M2 := ev_M m c w) (pc2 := 55) (lv2 := [(0, .ref 606), (1, .int x1)]) (st2 := []) (fun n => rfl) h (fun hc1 h => ?_) (fun hc1 h => ?_)
    · refine ev_s 11 (M' := ev_M m c w) (pc' := 47) (lv' := [(0, .ref 606), (1, .int x1)]) (st' := [.int ((231 * m.1 606 34) + x1), .ref 626, .int x1, .ref 623]) (fun n => rfl) ?_
      refine ev_g 1 (M1 := ev_M m c w) (pc1 := 48) (lv1 := [(0, .ref 606), (1, .int x1)]) (st1 := [.int (m.1 626 (((231 * m.1 606 34) + x1).toNatClampNeg)), .int x1, .ref 623]) (fun n => rfl) h (fun _ h => ?_)
      refine ev_g 1 (M1 := ev_M (wI m 623 x1.toNatClampNeg (m.1 626 (((231 * m.1 606 34) + x1).toNatClampNeg))) c w) (pc1 := 49) (lv1 := [(0, .ref 606), (1, .int x1)]) (st1 := []) (fun n => rfl) h (fun _ h => ?_)
      refine ev_s 2 (M' := ev_M (wI m 623 x1.toNatClampNeg (m.1 626 (((231 * m.1 606 34) + x1).toNatClampNeg))) c w) (pc' := 21) (lv' := [(1, .int (x1 + 1)), (0, .ref 606)]) (st' := []) (fun n => rfl) ?_
      refine ev_sub (lv := [(0, .ref 606), (1, .int (x1 + 1))]) (mn_of rfl (by repeat (first | exact trivial | refine And.intro rfl ?_))) ?_
      exact ih _ _ _ h
    · cases h
      exact ev_r 3 (fun n => rfl)
def fX11_undo (m : mm_MM) : Option (Int32 × mm_MM) :=
  (if m.1 606 34 = 0 then
    some (((-1) : Int32), m)
   else
    fX11_undo_c21 fu (wI m 606 34 (m.1 606 34 - 1)) 0)
theorem ok_fX11_undo {m : mm_MM} {q0 : Int32 × mm_MM} (h : fX11_undo m = some q0) : Ev XL xs d 262 (ev_M m c w) 0 (lv_args 0 [.ref 606]) [] (fr_i c w q0) := by
  unfold fX11_undo at h
  refine ev_i 3 (M1 := ev_M m c w) (pc1 := 7) (lv1 := [(0, .ref 606)]) (st1 := []) (M2 := ev_M m c w) (pc2 := 9) (lv2 := [(0, .ref 606)]) (st2 := []) (fun n => rfl) h (fun hc1 h => ?_) (fun hc1 h => ?_)
  · cases h
    exact ev_r 2 (fun n => rfl)
  · refine ev_s 8 (M' := ev_M (wI m 606 34 (m.1 606 34 - 1)) c w) (pc' := 21) (lv' := [(1, .int 0), (0, .ref 606)]) (st' := []) (fun n => rfl) ?_
    refine ev_sub (lv := [(0, .ref 606), (1, .int 0)]) (mn_of rfl (by repeat (first | exact trivial | refine And.intro rfl ?_))) ?_
    exact ok_fX11_undo_c21 fu _ _ _ h
def fX11_log_c53 (m : mm_MM) (s0 : Int32) : Option (Int32 × mm_MM) :=
  some (s0, m)
theorem ok_fX11_log_c53 {m : mm_MM} {s0 : Int32} {q0 : Int32 × mm_MM} (h : fX11_log_c53 m s0 = some q0) : Ev XL xs (d + 1) 263 (ev_M m c w) 53 [] [.int s0] (fr_i c w q0) := by
  unfold fX11_log_c53 at h
  cases h
  exact ev_r 1 (fun n => rfl)
def fX11_log_c52 (m : mm_MM) : Option (Int32 × mm_MM) :=
  fX11_log_c53 m ((-1) : Int32)
theorem ok_fX11_log_c52 {m : mm_MM} {q0 : Int32 × mm_MM} (h : fX11_log_c52 m = some q0) : Ev XL xs (d + 1) 263 (ev_M m c w) 52 [] [] (fr_i c w q0) := by
  unfold fX11_log_c52 at h
  refine ev_s 1 (M' := ev_M m c w) (pc' := 53) (lv' := []) (st' := [.int ((-1) : Int32)]) (fun n => rfl) ?_
  exact ok_fX11_log_c53 h
def fX11_log (m : mm_MM) (x1 : Int32) (x2 : Int32) : Option (Int32 × mm_MM) :=
  (fX11_in m x1 0 (m.1 623 50 - 1)).bind fun r1 =>
   (if r1.1 = 0 then
     fX11_log_c52 r1.2
    else
     (fX11_in r1.2 x2 0 2).bind fun r3 =>
      (if r3.1 = 0 then
        fX11_log_c52 r3.2
       else
        (if ((51 + (3 * ((r3.2.1 623 50 - 1) - x1))) + x2) < 0 ∨ 231 ≤ ((51 + (3 * ((r3.2.1 623 50 - 1) - x1))) + x2).toNatClampNeg then none else
         fX11_log_c53 r3.2 (r3.2.1 623 (((51 + (3 * ((r3.2.1 623 50 - 1) - x1))) + x2).toNatClampNeg)))))
theorem ok_fX11_log {m : mm_MM} {x1 : Int32} {x2 : Int32} {q0 : Int32 × mm_MM} (h : fX11_log m x1 x2 = some q0) : Ev XL xs (d + 1) 263 (ev_M m c w) 0 (lv_args 0 [.ref 606, .int x1, .int x2]) [] (fr_i c w q0) := by
  unfold fX11_log at h
  obtain ⟨r1, hr1, h⟩ := Option.bind_eq_some_iff.mp h
  refine ev_c 9 (y' := 178) (M1 := ev_M m c w) (la := lv_args 0 [.int x1, .int 0, .int (m.1 623 50 - 1)]) (rest := []) (pc' := 14) (lv' := [(0, .ref 606), (1, .int x1), (2, .int x2)]) (fun n => rfl) (ok_fX11_in hr1) ?_
  show Ev XL xs _ 263 (ev_M r1.2 c w) 14 [(0, .ref 606), (1, .int x1), (2, .int x2)] [.int r1.1] _
  refine ev_i 1 (M1 := ev_M r1.2 c w) (pc1 := 52) (lv1 := [(0, .ref 606), (1, .int x1), (2, .int x2)]) (st1 := []) (M2 := ev_M r1.2 c w) (pc2 := 17) (lv2 := [(0, .ref 606), (1, .int x1), (2, .int x2)]) (st2 := []) (fun n => rfl) h (fun hc2 h => ?_) (fun hc2 h => ?_)
  · refine ev_sub (lv := []) (mn_of rfl (by repeat (first | exact trivial | refine And.intro rfl ?_))) ?_
    exact ok_fX11_log_c52 h
  · obtain ⟨r3, hr3, h⟩ := Option.bind_eq_some_iff.mp h
    refine ev_c 4 (y' := 178) (M1 := ev_M r1.2 c w) (la := lv_args 0 [.int x2, .int 0, .int 2]) (rest := []) (pc' := 23) (lv' := [(0, .ref 606), (1, .int x1), (2, .int x2)]) (fun n => rfl) (ok_fX11_in hr3) ?_
    show Ev XL xs _ 263 (ev_M r3.2 c w) 23 [(0, .ref 606), (1, .int x1), (2, .int x2)] [.int r3.1] _
    refine ev_i 1 (M1 := ev_M r3.2 c w) (pc1 := 52) (lv1 := [(0, .ref 606), (1, .int x1), (2, .int x2)]) (st1 := []) (M2 := ev_M r3.2 c w) (pc2 := 26) (lv2 := [(0, .ref 606), (1, .int x1), (2, .int x2)]) (st2 := []) (fun n => rfl) h (fun hc4 h => ?_) (fun hc4 h => ?_)
    · refine ev_sub (lv := []) (mn_of rfl (by repeat (first | exact trivial | refine And.intro rfl ?_))) ?_
      exact ok_fX11_log_c52 h
    · refine ev_s 16 (M' := ev_M r3.2 c w) (pc' := 48) (lv' := [(0, .ref 606), (1, .int x1), (2, .int x2)]) (st' := [.int ((51 + (3 * ((r3.2.1 623 50 - 1) - x1))) + x2), .ref 623]) (fun n => rfl) ?_
      refine ev_g 1 (M1 := ev_M r3.2 c w) (pc1 := 49) (lv1 := [(0, .ref 606), (1, .int x1), (2, .int x2)]) (st1 := [.int (r3.2.1 623 (((51 + (3 * ((r3.2.1 623 50 - 1) - x1))) + x2).toNatClampNeg))]) (fun n => rfl) h (fun _ h => ?_)
      refine ev_s 1 (M' := ev_M r3.2 c w) (pc' := 53) (lv' := [(0, .ref 606), (1, .int x1), (2, .int x2)]) (st' := [.int (r3.2.1 623 (((51 + (3 * ((r3.2.1 623 50 - 1) - x1))) + x2).toNatClampNeg))]) (fun n => rfl) ?_
      refine ev_sub (lv := []) (mn_of rfl (by repeat (first | exact trivial | refine And.intro rfl ?_))) ?_
      exact ok_fX11_log_c53 h
def fX11_putAside_c2 : Nat → mm_MM → Int32 → Int32 → Option (mm_MM)
  | 0 => fun _ _ _ => none
  | n + 1 => fun m x1 x2 =>
    (if x2 < 50 then
      (if x2 < 0 ∨ 231 ≤ x2.toNatClampNeg then none else
       (if ((50 * x1) + x2) < 0 ∨ 400 ≤ ((50 * x1) + x2).toNatClampNeg then none else
        fX11_putAside_c2 n (wI m 627 (((50 * x1) + x2).toNatClampNeg) (m.1 623 x2.toNatClampNeg)) x1 (x2 + 1)))
     else
      some m)
theorem ok_fX11_putAside_c2 : ∀ (n : Nat) (m : mm_MM) (x1 : Int32) (x2 : Int32) (q0 : mm_MM), fX11_putAside_c2 n m x1 x2 = some q0 → Ev XL xs d 264 (ev_M m c w) 2 [(0, .ref 606), (1, .int x1), (2, .int x2)] [] (fr_v c w q0) := by
  intro n
  induction n with
  | zero => intro m x1 x2 q0 h; exact absurd (show (none : Option (mm_MM)) = some q0 from h) (by simp)
  | succ n ih =>
    intro m x1 x2 q0 h
    unfold fX11_putAside_c2 at h
    refine ev_i 3 (M1 := ev_M m c w) (pc1 := 8) (lv1 := [(0, .ref 606), (1, .int x1), (2, .int x2)]) (st1 := []) (M2 := ev_M m c w) (pc2 := 31) (lv2 := [(0, .ref 606), (1, .int x1), (2, .int x2)]) (st2 := []) (fun n => rfl) h (fun hc1 h => ?_) (fun hc1 h => ?_)
    · refine ev_g 11 (M1 := ev_M m c w) (pc1 := 24) (lv1 := [(0, .ref 606), (1, .int x1), (2, .int x2)]) (st1 := [.int (m.1 623 x2.toNatClampNeg), .int ((50 * x1) + x2), .ref 627]) (fun n => rfl) h (fun _ h => ?_)
      refine ev_g 1 (M1 := ev_M (wI m 627 (((50 * x1) + x2).toNatClampNeg) (m.1 623 x2.toNatClampNeg)) c w) (pc1 := 25) (lv1 := [(0, .ref 606), (1, .int x1), (2, .int x2)]) (st1 := []) (fun n => rfl) h (fun _ h => ?_)
      refine ev_s 2 (M' := ev_M (wI m 627 (((50 * x1) + x2).toNatClampNeg) (m.1 623 x2.toNatClampNeg)) c w) (pc' := 2) (lv' := [(2, .int (x2 + 1)), (0, .ref 606), (1, .int x1)]) (st' := []) (fun n => rfl) ?_
      refine ev_sub (lv := [(0, .ref 606), (1, .int x1), (2, .int (x2 + 1))]) (mn_of rfl (by repeat (first | exact trivial | refine And.intro rfl ?_))) ?_
      exact ih _ _ _ _ h
    · cases h
      exact ev_r 1 (fun n => rfl)
def fX11_putAside (m : mm_MM) (x1 : Int32) : Option (mm_MM) :=
  fX11_putAside_c2 fu m x1 0
theorem ok_fX11_putAside {m : mm_MM} {x1 : Int32} {q0 : mm_MM} (h : fX11_putAside m x1 = some q0) : Ev XL xs d 264 (ev_M m c w) 0 (lv_args 0 [.ref 606, .int x1]) [] (fr_v c w q0) := by
  unfold fX11_putAside at h
  refine ev_s 2 (M' := ev_M m c w) (pc' := 2) (lv' := [(2, .int 0), (0, .ref 606), (1, .int x1)]) (st' := []) (fun n => rfl) ?_
  refine ev_sub (lv := [(0, .ref 606), (1, .int x1), (2, .int 0)]) (mn_of rfl (by repeat (first | exact trivial | refine And.intro rfl ?_))) ?_
  exact ok_fX11_putAside_c2 fu _ _ _ _ h
def fX11_takeBack_c2 : Nat → mm_MM → Int32 → Int32 → Option (mm_MM)
  | 0 => fun _ _ _ => none
  | n + 1 => fun m x1 x2 =>
    (if x2 < 50 then
      (if ((50 * x1) + x2) < 0 ∨ 400 ≤ ((50 * x1) + x2).toNatClampNeg then none else
       (if x2 < 0 ∨ 231 ≤ x2.toNatClampNeg then none else
        fX11_takeBack_c2 n (wI m 623 x2.toNatClampNeg (m.1 627 (((50 * x1) + x2).toNatClampNeg))) x1 (x2 + 1)))
     else
      some m)
theorem ok_fX11_takeBack_c2 : ∀ (n : Nat) (m : mm_MM) (x1 : Int32) (x2 : Int32) (q0 : mm_MM), fX11_takeBack_c2 n m x1 x2 = some q0 → Ev XL xs d 265 (ev_M m c w) 2 [(0, .ref 606), (1, .int x1), (2, .int x2)] [] (fr_v c w q0) := by
  intro n
  induction n with
  | zero => intro m x1 x2 q0 h; exact absurd (show (none : Option (mm_MM)) = some q0 from h) (by simp)
  | succ n ih =>
    intro m x1 x2 q0 h
    unfold fX11_takeBack_c2 at h
    refine ev_i 3 (M1 := ev_M m c w) (pc1 := 8) (lv1 := [(0, .ref 606), (1, .int x1), (2, .int x2)]) (st1 := []) (M2 := ev_M m c w) (pc2 := 31) (lv2 := [(0, .ref 606), (1, .int x1), (2, .int x2)]) (st2 := []) (fun n => rfl) h (fun hc1 h => ?_) (fun hc1 h => ?_)
    · refine ev_s 10 (M' := ev_M m c w) (pc' := 23) (lv' := [(0, .ref 606), (1, .int x1), (2, .int x2)]) (st' := [.int ((50 * x1) + x2), .ref 627, .int x2, .ref 623]) (fun n => rfl) ?_
      refine ev_g 1 (M1 := ev_M m c w) (pc1 := 24) (lv1 := [(0, .ref 606), (1, .int x1), (2, .int x2)]) (st1 := [.int (m.1 627 (((50 * x1) + x2).toNatClampNeg)), .int x2, .ref 623]) (fun n => rfl) h (fun _ h => ?_)
      refine ev_g 1 (M1 := ev_M (wI m 623 x2.toNatClampNeg (m.1 627 (((50 * x1) + x2).toNatClampNeg))) c w) (pc1 := 25) (lv1 := [(0, .ref 606), (1, .int x1), (2, .int x2)]) (st1 := []) (fun n => rfl) h (fun _ h => ?_)
      refine ev_s 2 (M' := ev_M (wI m 623 x2.toNatClampNeg (m.1 627 (((50 * x1) + x2).toNatClampNeg))) c w) (pc' := 2) (lv' := [(2, .int (x2 + 1)), (0, .ref 606), (1, .int x1)]) (st' := []) (fun n => rfl) ?_
      refine ev_sub (lv := [(0, .ref 606), (1, .int x1), (2, .int (x2 + 1))]) (mn_of rfl (by repeat (first | exact trivial | refine And.intro rfl ?_))) ?_
      exact ih _ _ _ _ h
    · cases h
      exact ev_r 1 (fun n => rfl)
def fX11_takeBack (m : mm_MM) (x1 : Int32) : Option (mm_MM) :=
  fX11_takeBack_c2 fu m x1 0
theorem ok_fX11_takeBack {m : mm_MM} {x1 : Int32} {q0 : mm_MM} (h : fX11_takeBack m x1 = some q0) : Ev XL xs d 265 (ev_M m c w) 0 (lv_args 0 [.ref 606, .int x1]) [] (fr_v c w q0) := by
  unfold fX11_takeBack at h
  refine ev_s 2 (M' := ev_M m c w) (pc' := 2) (lv' := [(2, .int 0), (0, .ref 606), (1, .int x1)]) (st' := []) (fun n => rfl) ?_
  refine ev_sub (lv := [(0, .ref 606), (1, .int x1), (2, .int 0)]) (mn_of rfl (by repeat (first | exact trivial | refine And.intro rfl ?_))) ?_
  exact ok_fX11_takeBack_c2 fu _ _ _ _ h
def fX11_grown_c18 (m : mm_MM) : Option (Int32 × mm_MM) :=
  some (((-1) : Int32), m)
theorem ok_fX11_grown_c18 {m : mm_MM} {q0 : Int32 × mm_MM} (h : fX11_grown_c18 m = some q0) : Ev XL xs (d + 7) 266 (ev_M m c w) 18 [] [] (fr_i c w q0) := by
  unfold fX11_grown_c18 at h
  cases h
  exact ev_r 2 (fun n => rfl)
def fX11_grown_c27 : Nat → mm_MM → Int32 → Int32 → Int32 → Option (Int32 × mm_MM)
  | 0 => fun _ _ _ _ => none
  | n + 1 => fun m x1 x2 x3 =>
    (if x3 < x2 then
      (fX11_live m).bind fun r2 =>
       fX11_grown_c27 n r2 x1 x2 (x3 + 1)
     else
      (fX11_of m x1 0).bind fun r3 =>
       (fX11_takeBack r3.2 0).bind fun r4 =>
        some (r3.1, r4))
theorem ok_fX11_grown_c27 : ∀ (n : Nat) (m : mm_MM) (x1 : Int32) (x2 : Int32) (x3 : Int32) (q0 : Int32 × mm_MM), fX11_grown_c27 n m x1 x2 x3 = some q0 → Ev XL xs (d + 7) 266 (ev_M m c w) 27 [(0, .ref 606), (1, .int x1), (2, .int x2), (3, .int x3)] [] (fr_i c w q0) := by
  intro n
  induction n with
  | zero => intro m x1 x2 x3 q0 h; exact absurd (show (none : Option (Int32 × mm_MM)) = some q0 from h) (by simp)
  | succ n ih =>
    intro m x1 x2 x3 q0 h
    unfold fX11_grown_c27 at h
    refine ev_i 3 (M1 := ev_M m c w) (pc1 := 32) (lv1 := [(0, .ref 606), (1, .int x1), (2, .int x2), (3, .int x3)]) (st1 := []) (M2 := ev_M m c w) (pc2 := 42) (lv2 := [(0, .ref 606), (1, .int x1), (2, .int x2), (3, .int x3)]) (st2 := []) (fun n => rfl) h (fun hc1 h => ?_) (fun hc1 h => ?_)
    · obtain ⟨r2, hr2, h⟩ := Option.bind_eq_some_iff.mp h
      refine ev_c 2 (y' := 236) (M1 := ev_M m c w) (la := lv_args 0 [.ref 606]) (rest := []) (pc' := 36) (lv' := [(0, .ref 606), (1, .int x1), (2, .int x2), (3, .int x3)]) (fun n => rfl) (ok_fX11_live hr2) ?_
      show Ev XL xs _ 266 (ev_M r2 c w) 36 [(0, .ref 606), (1, .int x1), (2, .int x2), (3, .int x3)] [] _
      refine ev_s 2 (M' := ev_M r2 c w) (pc' := 27) (lv' := [(3, .int (x3 + 1)), (0, .ref 606), (1, .int x1), (2, .int x2)]) (st' := []) (fun n => rfl) ?_
      refine ev_sub (lv := [(0, .ref 606), (1, .int x1), (2, .int x2), (3, .int (x3 + 1))]) (mn_of rfl (by repeat (first | exact trivial | refine And.intro rfl ?_))) ?_
      exact ih _ _ _ _ _ h
    · obtain ⟨r3, hr3, h⟩ := Option.bind_eq_some_iff.mp h
      refine ev_c 4 (y' := 220) (M1 := ev_M m c w) (la := lv_args 0 [.ref 606, .int x1, .int 0]) (rest := []) (pc' := 48) (lv' := [(0, .ref 606), (1, .int x1), (2, .int x2), (3, .int x3)]) (fun n => rfl) (ok_fX11_of hr3) ?_
      show Ev XL xs _ 266 (ev_M r3.2 c w) 48 [(0, .ref 606), (1, .int x1), (2, .int x2), (3, .int x3)] [.int r3.1] _
      obtain ⟨r4, hr4, h⟩ := Option.bind_eq_some_iff.mp h
      refine ev_c 4 (y' := 265) (M1 := ev_M r3.2 c w) (la := lv_args 0 [.ref 606, .int 0]) (rest := []) (pc' := 54) (lv' := [(3, .int r3.1), (0, .ref 606), (1, .int x1), (2, .int x2)]) (fun n => rfl) (ok_fX11_takeBack hr4) ?_
      show Ev XL xs _ 266 (ev_M r4 c w) 54 [(3, .int r3.1), (0, .ref 606), (1, .int x1), (2, .int x2)] [] _
      cases h
      exact ev_r 2 (fun n => rfl)
def fX11_grown (m : mm_MM) (x1 : Int32) (x2 : Int32) : Option (Int32 × mm_MM) :=
  (fX11_isThere m x1).bind fun r1 =>
   (if r1.1 = 0 then
     fX11_grown_c18 r1.2
    else
     (fX11_in r1.2 x2 0 99).bind fun r3 =>
      (if r3.1 = 0 then
        fX11_grown_c18 r3.2
       else
        (fX11_putAside r3.2 0).bind fun r5 =>
         fX11_grown_c27 fu r5 x1 x2 0))
theorem ok_fX11_grown {m : mm_MM} {x1 : Int32} {x2 : Int32} {q0 : Int32 × mm_MM} (h : fX11_grown m x1 x2 = some q0) : Ev XL xs (d + 7) 266 (ev_M m c w) 0 (lv_args 0 [.ref 606, .int x1, .int x2]) [] (fr_i c w q0) := by
  unfold fX11_grown at h
  obtain ⟨r1, hr1, h⟩ := Option.bind_eq_some_iff.mp h
  refine ev_c 3 (y' := 225) (M1 := ev_M m c w) (la := lv_args 0 [.ref 606, .int x1]) (rest := []) (pc' := 5) (lv' := [(0, .ref 606), (1, .int x1), (2, .int x2)]) (fun n => rfl) (ok_fX11_isThere hr1) ?_
  show Ev XL xs _ 266 (ev_M r1.2 c w) 5 [(0, .ref 606), (1, .int x1), (2, .int x2)] [.int r1.1] _
  refine ev_i 1 (M1 := ev_M r1.2 c w) (pc1 := 18) (lv1 := [(0, .ref 606), (1, .int x1), (2, .int x2)]) (st1 := []) (M2 := ev_M r1.2 c w) (pc2 := 8) (lv2 := [(0, .ref 606), (1, .int x1), (2, .int x2)]) (st2 := []) (fun n => rfl) h (fun hc2 h => ?_) (fun hc2 h => ?_)
  · refine ev_sub (lv := []) (mn_of rfl (by repeat (first | exact trivial | refine And.intro rfl ?_))) ?_
    exact ok_fX11_grown_c18 h
  · obtain ⟨r3, hr3, h⟩ := Option.bind_eq_some_iff.mp h
    refine ev_c 4 (y' := 178) (M1 := ev_M r1.2 c w) (la := lv_args 0 [.int x2, .int 0, .int 99]) (rest := []) (pc' := 15) (lv' := [(0, .ref 606), (1, .int x1), (2, .int x2)]) (fun n => rfl) (ok_fX11_in hr3) ?_
    show Ev XL xs _ 266 (ev_M r3.2 c w) 15 [(0, .ref 606), (1, .int x1), (2, .int x2)] [.int r3.1] _
    refine ev_i 1 (M1 := ev_M r3.2 c w) (pc1 := 18) (lv1 := [(0, .ref 606), (1, .int x1), (2, .int x2)]) (st1 := []) (M2 := ev_M r3.2 c w) (pc2 := 20) (lv2 := [(0, .ref 606), (1, .int x1), (2, .int x2)]) (st2 := []) (fun n => rfl) h (fun hc4 h => ?_) (fun hc4 h => ?_)
    · refine ev_sub (lv := []) (mn_of rfl (by repeat (first | exact trivial | refine And.intro rfl ?_))) ?_
      exact ok_fX11_grown_c18 h
    · obtain ⟨r5, hr5, h⟩ := Option.bind_eq_some_iff.mp h
      refine ev_c 3 (y' := 264) (M1 := ev_M r3.2 c w) (la := lv_args 0 [.ref 606, .int 0]) (rest := []) (pc' := 25) (lv' := [(0, .ref 606), (1, .int x1), (2, .int x2)]) (fun n => rfl) (ok_fX11_putAside hr5) ?_
      show Ev XL xs _ 266 (ev_M r5 c w) 25 [(0, .ref 606), (1, .int x1), (2, .int x2)] [] _
      refine ev_s 2 (M' := ev_M r5 c w) (pc' := 27) (lv' := [(3, .int 0), (0, .ref 606), (1, .int x1), (2, .int x2)]) (st' := []) (fun n => rfl) ?_
      refine ev_sub (lv := [(0, .ref 606), (1, .int x1), (2, .int x2), (3, .int 0)]) (mn_of rfl (by repeat (first | exact trivial | refine And.intro rfl ?_))) ?_
      exact ok_fX11_grown_c27 fu _ _ _ _ _ h
def fX11_ripeWithin_c67 (m : mm_MM) (s0 : Int32) : Option (Int32 × mm_MM) :=
  some (s0, m)
theorem ok_fX11_ripeWithin_c67 {m : mm_MM} {s0 : Int32} {q0 : Int32 × mm_MM} (h : fX11_ripeWithin_c67 m s0 = some q0) : Ev XL xs (d + 7) 267 (ev_M m c w) 67 [] [.int s0] (fr_i c w q0) := by
  unfold fX11_ripeWithin_c67 at h
  cases h
  exact ev_r 1 (fun n => rfl)
def fX11_ripeWithin_c52 (m : mm_MM) (x2 : Int32) (s0 : Int32) : Option (Int32 × mm_MM) :=
  (fX11_takeBack m 0).bind fun r1 =>
   (if s0 = 0 then
     fX11_ripeWithin_c67 r1 ((-1) : Int32)
    else
     fX11_ripeWithin_c67 r1 x2)
theorem ok_fX11_ripeWithin_c52 {m : mm_MM} {x2 : Int32} {s0 : Int32} {q0 : Int32 × mm_MM} (h : fX11_ripeWithin_c52 m x2 s0 = some q0) : Ev XL xs (d + 7) 267 (ev_M m c w) 52 [(0, .ref 606), (2, .int x2)] [.int s0] (fr_i c w q0) := by
  unfold fX11_ripeWithin_c52 at h
  obtain ⟨r1, hr1, h⟩ := Option.bind_eq_some_iff.mp h
  refine ev_c 4 (y' := 265) (M1 := ev_M m c w) (la := lv_args 0 [.ref 606, .int 0]) (rest := []) (pc' := 58) (lv' := [(3, .int s0), (0, .ref 606), (2, .int x2)]) (fun n => rfl) (ok_fX11_takeBack hr1) ?_
  show Ev XL xs _ 267 (ev_M r1 c w) 58 [(3, .int s0), (0, .ref 606), (2, .int x2)] [] _
  refine ev_i 2 (M1 := ev_M r1 c w) (pc1 := 66) (lv1 := [(3, .int s0), (0, .ref 606), (2, .int x2)]) (st1 := []) (M2 := ev_M r1 c w) (pc2 := 62) (lv2 := [(3, .int s0), (0, .ref 606), (2, .int x2)]) (st2 := []) (fun n => rfl) h (fun hc2 h => ?_) (fun hc2 h => ?_)
  · refine ev_s 1 (M' := ev_M r1 c w) (pc' := 67) (lv' := [(3, .int s0), (0, .ref 606), (2, .int x2)]) (st' := [.int ((-1) : Int32)]) (fun n => rfl) ?_
    refine ev_sub (lv := []) (mn_of rfl (by repeat (first | exact trivial | refine And.intro rfl ?_))) ?_
    exact ok_fX11_ripeWithin_c67 h
  · refine ev_s 2 (M' := ev_M r1 c w) (pc' := 67) (lv' := [(3, .int s0), (0, .ref 606), (2, .int x2)]) (st' := [.int x2]) (fun n => rfl) ?_
    refine ev_sub (lv := []) (mn_of rfl (by repeat (first | exact trivial | refine And.intro rfl ?_))) ?_
    exact ok_fX11_ripeWithin_c67 h
def fX11_ripeWithin_c35 (m : mm_MM) (x1 : Int32) (x2 : Int32) : Option (Int32 × mm_MM) :=
  (fX11_onesWho m 2).bind fun r1 =>
   (if (x1 &&& (r1.1 ^^^ ((-1) : Int32))) = 0 then
     fX11_ripeWithin_c52 r1.2 x2 1
    else
     fX11_ripeWithin_c52 r1.2 x2 0)
theorem ok_fX11_ripeWithin_c35 {m : mm_MM} {x1 : Int32} {x2 : Int32} {q0 : Int32 × mm_MM} (h : fX11_ripeWithin_c35 m x1 x2 = some q0) : Ev XL xs (d + 7) 267 (ev_M m c w) 35 [(0, .ref 606), (1, .int x1), (2, .int x2)] [] (fr_i c w q0) := by
  unfold fX11_ripeWithin_c35 at h
  obtain ⟨r1, hr1, h⟩ := Option.bind_eq_some_iff.mp h
  refine ev_c 4 (y' := 238) (M1 := ev_M m c w) (la := lv_args 0 [.ref 606, .int 2]) (rest := [.int x1]) (pc' := 41) (lv' := [(0, .ref 606), (1, .int x1), (2, .int x2)]) (fun n => rfl) (ok_fX11_onesWho hr1) ?_
  show Ev XL xs _ 267 (ev_M r1.2 c w) 41 [(0, .ref 606), (1, .int x1), (2, .int x2)] [.int r1.1, .int x1] _
  refine ev_i 4 (M1 := ev_M r1.2 c w) (pc1 := 47) (lv1 := [(0, .ref 606), (1, .int x1), (2, .int x2)]) (st1 := []) (M2 := ev_M r1.2 c w) (pc2 := 51) (lv2 := [(0, .ref 606), (1, .int x1), (2, .int x2)]) (st2 := []) (fun n => rfl) h (fun hc2 h => ?_) (fun hc2 h => ?_)
  · refine ev_s 2 (M' := ev_M r1.2 c w) (pc' := 52) (lv' := [(0, .ref 606), (1, .int x1), (2, .int x2)]) (st' := [.int 1]) (fun n => rfl) ?_
    refine ev_sub (lv := [(0, .ref 606), (2, .int x2)]) (mn_of rfl (by repeat (first | exact trivial | refine And.intro rfl ?_))) ?_
    exact ok_fX11_ripeWithin_c52 h
  · refine ev_s 1 (M' := ev_M r1.2 c w) (pc' := 52) (lv' := [(0, .ref 606), (1, .int x1), (2, .int x2)]) (st' := [.int 0]) (fun n => rfl) ?_
    refine ev_sub (lv := [(0, .ref 606), (2, .int x2)]) (mn_of rfl (by repeat (first | exact trivial | refine And.intro rfl ?_))) ?_
    exact ok_fX11_ripeWithin_c52 h
def fX11_ripeWithin_c7 : Nat → mm_MM → Int32 → Int32 → Option (Int32 × mm_MM)
  | 0 => fun _ _ _ => none
  | n + 1 => fun m x1 x2 =>
    (if x2 < 99 then
      (fX11_onesWho m 2).bind fun r2 =>
       (if (x1 &&& (r2.1 ^^^ ((-1) : Int32))) = 0 then
         fX11_ripeWithin_c35 r2.2 x1 x2
        else
         (fX11_live r2.2).bind fun r4 =>
          fX11_ripeWithin_c7 n r4 x1 (x2 + 1))
     else
      fX11_ripeWithin_c35 m x1 x2)
theorem ok_fX11_ripeWithin_c7 : ∀ (n : Nat) (m : mm_MM) (x1 : Int32) (x2 : Int32) (q0 : Int32 × mm_MM), fX11_ripeWithin_c7 n m x1 x2 = some q0 → Ev XL xs (d + 7) 267 (ev_M m c w) 7 [(0, .ref 606), (1, .int x1), (2, .int x2)] [] (fr_i c w q0) := by
  intro n
  induction n with
  | zero => intro m x1 x2 q0 h; exact absurd (show (none : Option (Int32 × mm_MM)) = some q0 from h) (by simp)
  | succ n ih =>
    intro m x1 x2 q0 h
    unfold fX11_ripeWithin_c7 at h
    refine ev_i 3 (M1 := ev_M m c w) (pc1 := 13) (lv1 := [(0, .ref 606), (1, .int x1), (2, .int x2)]) (st1 := []) (M2 := ev_M m c w) (pc2 := 35) (lv2 := [(0, .ref 606), (1, .int x1), (2, .int x2)]) (st2 := []) (fun n => rfl) h (fun hc1 h => ?_) (fun hc1 h => ?_)
    · obtain ⟨r2, hr2, h⟩ := Option.bind_eq_some_iff.mp h
      refine ev_c 4 (y' := 238) (M1 := ev_M m c w) (la := lv_args 0 [.ref 606, .int 2]) (rest := [.int x1]) (pc' := 19) (lv' := [(0, .ref 606), (1, .int x1), (2, .int x2)]) (fun n => rfl) (ok_fX11_onesWho hr2) ?_
      show Ev XL xs _ 267 (ev_M r2.2 c w) 19 [(0, .ref 606), (1, .int x1), (2, .int x2)] [.int r2.1, .int x1] _
      refine ev_i 4 (M1 := ev_M r2.2 c w) (pc1 := 35) (lv1 := [(0, .ref 606), (1, .int x1), (2, .int x2)]) (st1 := []) (M2 := ev_M r2.2 c w) (pc2 := 25) (lv2 := [(0, .ref 606), (1, .int x1), (2, .int x2)]) (st2 := []) (fun n => rfl) h (fun hc3 h => ?_) (fun hc3 h => ?_)
      · exact ok_fX11_ripeWithin_c35 h
      · obtain ⟨r4, hr4, h⟩ := Option.bind_eq_some_iff.mp h
        refine ev_c 2 (y' := 236) (M1 := ev_M r2.2 c w) (la := lv_args 0 [.ref 606]) (rest := []) (pc' := 29) (lv' := [(0, .ref 606), (1, .int x1), (2, .int x2)]) (fun n => rfl) (ok_fX11_live hr4) ?_
        show Ev XL xs _ 267 (ev_M r4 c w) 29 [(0, .ref 606), (1, .int x1), (2, .int x2)] [] _
        refine ev_s 2 (M' := ev_M r4 c w) (pc' := 7) (lv' := [(2, .int (x2 + 1)), (0, .ref 606), (1, .int x1)]) (st' := []) (fun n => rfl) ?_
        refine ev_sub (lv := [(0, .ref 606), (1, .int x1), (2, .int (x2 + 1))]) (mn_of rfl (by repeat (first | exact trivial | refine And.intro rfl ?_))) ?_
        exact ih _ _ _ _ h
    · exact ok_fX11_ripeWithin_c35 h
def fX11_ripeWithin (m : mm_MM) (x1 : Int32) : Option (Int32 × mm_MM) :=
  (fX11_putAside m 0).bind fun r1 =>
   fX11_ripeWithin_c7 fu r1 x1 0
theorem ok_fX11_ripeWithin {m : mm_MM} {x1 : Int32} {q0 : Int32 × mm_MM} (h : fX11_ripeWithin m x1 = some q0) : Ev XL xs (d + 7) 267 (ev_M m c w) 0 (lv_args 0 [.ref 606, .int x1]) [] (fr_i c w q0) := by
  unfold fX11_ripeWithin at h
  obtain ⟨r1, hr1, h⟩ := Option.bind_eq_some_iff.mp h
  refine ev_c 3 (y' := 264) (M1 := ev_M m c w) (la := lv_args 0 [.ref 606, .int 0]) (rest := []) (pc' := 5) (lv' := [(0, .ref 606), (1, .int x1)]) (fun n => rfl) (ok_fX11_putAside hr1) ?_
  show Ev XL xs _ 267 (ev_M r1 c w) 5 [(0, .ref 606), (1, .int x1)] [] _
  refine ev_s 2 (M' := ev_M r1 c w) (pc' := 7) (lv' := [(2, .int 0), (0, .ref 606), (1, .int x1)]) (st' := []) (fun n => rfl) ?_
  refine ev_sub (lv := [(0, .ref 606), (1, .int x1), (2, .int 0)]) (mn_of rfl (by repeat (first | exact trivial | refine And.intro rfl ?_))) ?_
  exact ok_fX11_ripeWithin_c7 fu _ _ _ _ h
def fX11_ripeIn_c19 (m : mm_MM) (s0 : Int32) : Option (Int32 × mm_MM) :=
  some (s0, m)
theorem ok_fX11_ripeIn_c19 {m : mm_MM} {s0 : Int32} {q0 : Int32 × mm_MM} (h : fX11_ripeIn_c19 m s0 = some q0) : Ev XL xs (d + 8) 268 (ev_M m c w) 19 [] [.int s0] (fr_i c w q0) := by
  unfold fX11_ripeIn_c19 at h
  cases h
  exact ev_r 1 (fun n => rfl)
def fX11_ripeIn (m : mm_MM) (x1 : Int32) : Option (Int32 × mm_MM) :=
  (fX11_doesLie m x1).bind fun r1 =>
   (if r1.1 = 0 then
     fX11_ripeIn_c19 r1.2 ((-1) : Int32)
    else
     (fX11_ripeWithin r1.2 ((1 : Int32) <<< (x1 &&& 31))).bind fun r3 =>
      fX11_ripeIn_c19 r3.2 r3.1)
theorem ok_fX11_ripeIn {m : mm_MM} {x1 : Int32} {q0 : Int32 × mm_MM} (h : fX11_ripeIn m x1 = some q0) : Ev XL xs (d + 8) 268 (ev_M m c w) 0 (lv_args 0 [.ref 606, .int x1]) [] (fr_i c w q0) := by
  unfold fX11_ripeIn at h
  obtain ⟨r1, hr1, h⟩ := Option.bind_eq_some_iff.mp h
  refine ev_c 3 (y' := 226) (M1 := ev_M m c w) (la := lv_args 0 [.ref 606, .int x1]) (rest := []) (pc' := 5) (lv' := [(0, .ref 606), (1, .int x1)]) (fun n => rfl) (ok_fX11_doesLie hr1) ?_
  show Ev XL xs _ 268 (ev_M r1.2 c w) 5 [(0, .ref 606), (1, .int x1)] [.int r1.1] _
  refine ev_i 1 (M1 := ev_M r1.2 c w) (pc1 := 18) (lv1 := [(0, .ref 606), (1, .int x1)]) (st1 := []) (M2 := ev_M r1.2 c w) (pc2 := 8) (lv2 := [(0, .ref 606), (1, .int x1)]) (st2 := []) (fun n => rfl) h (fun hc2 h => ?_) (fun hc2 h => ?_)
  · refine ev_s 1 (M' := ev_M r1.2 c w) (pc' := 19) (lv' := [(0, .ref 606), (1, .int x1)]) (st' := [.int ((-1) : Int32)]) (fun n => rfl) ?_
    refine ev_sub (lv := []) (mn_of rfl (by repeat (first | exact trivial | refine And.intro rfl ?_))) ?_
    exact ok_fX11_ripeIn_c19 h
  · obtain ⟨r3, hr3, h⟩ := Option.bind_eq_some_iff.mp h
    refine ev_c 5 (y' := 267) (M1 := ev_M r1.2 c w) (la := lv_args 0 [.ref 606, .int ((1 : Int32) <<< (x1 &&& 31))]) (rest := []) (pc' := 15) (lv' := [(0, .ref 606), (1, .int x1)]) (fun n => rfl) (ok_fX11_ripeWithin hr3) ?_
    show Ev XL xs _ 268 (ev_M r3.2 c w) 15 [(0, .ref 606), (1, .int x1)] [.int r3.1] _
    refine ev_s 1 (M' := ev_M r3.2 c w) (pc' := 19) (lv' := [(0, .ref 606), (1, .int x1)]) (st' := [.int r3.1]) (fun n => rfl) ?_
    refine ev_sub (lv := []) (mn_of rfl (by repeat (first | exact trivial | refine And.intro rfl ?_))) ?_
    exact ok_fX11_ripeIn_c19 h
def fX11_full_c28 (m : mm_MM) (s0 : Int32) : Option (Int32 × mm_MM) :=
  some (s0, m)
theorem ok_fX11_full_c28 {m : mm_MM} {s0 : Int32} {q0 : Int32 × mm_MM} (h : fX11_full_c28 m s0 = some q0) : Ev XL xs (d + 8) 269 (ev_M m c w) 28 [] [.int s0] (fr_i c w q0) := by
  unfold fX11_full_c28 at h
  cases h
  exact ev_r 1 (fun n => rfl)
def fX11_full_c27 (m : mm_MM) : Option (Int32 × mm_MM) :=
  fX11_full_c28 m ((-1) : Int32)
theorem ok_fX11_full_c27 {m : mm_MM} {q0 : Int32 × mm_MM} (h : fX11_full_c27 m = some q0) : Ev XL xs (d + 8) 269 (ev_M m c w) 27 [] [] (fr_i c w q0) := by
  unfold fX11_full_c27 at h
  refine ev_s 1 (M' := ev_M m c w) (pc' := 28) (lv' := []) (st' := [.int ((-1) : Int32)]) (fun n => rfl) ?_
  exact ok_fX11_full_c28 h
def fX11_full (m : mm_MM) : Option (Int32 × mm_MM) :=
  (if m.1 606 26 = 0 then
    fX11_full_c27 m
   else
    (fX11_onesWho m 1).bind fun r2 =>
     (if r2.1 = 0 then
       fX11_full_c27 r2.2
      else
       (fX11_onesWho r2.2 1).bind fun r4 =>
        (fX11_ripeWithin r4.2 r4.1).bind fun r5 =>
         fX11_full_c28 r5.2 r5.1))
theorem ok_fX11_full {m : mm_MM} {q0 : Int32 × mm_MM} (h : fX11_full m = some q0) : Ev XL xs (d + 8) 269 (ev_M m c w) 0 (lv_args 0 [.ref 606]) [] (fr_i c w q0) := by
  unfold fX11_full at h
  refine ev_i 3 (M1 := ev_M m c w) (pc1 := 27) (lv1 := [(0, .ref 606)]) (st1 := []) (M2 := ev_M m c w) (pc2 := 7) (lv2 := [(0, .ref 606)]) (st2 := []) (fun n => rfl) h (fun hc1 h => ?_) (fun hc1 h => ?_)
  · refine ev_sub (lv := []) (mn_of rfl (by repeat (first | exact trivial | refine And.intro rfl ?_))) ?_
    exact ok_fX11_full_c27 h
  · obtain ⟨r2, hr2, h⟩ := Option.bind_eq_some_iff.mp h
    refine ev_c 3 (y' := 238) (M1 := ev_M m c w) (la := lv_args 0 [.ref 606, .int 1]) (rest := []) (pc' := 12) (lv' := [(0, .ref 606)]) (fun n => rfl) (ok_fX11_onesWho hr2) ?_
    show Ev XL xs _ 269 (ev_M r2.2 c w) 12 [(0, .ref 606)] [.int r2.1] _
    refine ev_i 1 (M1 := ev_M r2.2 c w) (pc1 := 27) (lv1 := [(0, .ref 606)]) (st1 := []) (M2 := ev_M r2.2 c w) (pc2 := 15) (lv2 := [(0, .ref 606)]) (st2 := []) (fun n => rfl) h (fun hc3 h => ?_) (fun hc3 h => ?_)
    · refine ev_sub (lv := []) (mn_of rfl (by repeat (first | exact trivial | refine And.intro rfl ?_))) ?_
      exact ok_fX11_full_c27 h
    · obtain ⟨r4, hr4, h⟩ := Option.bind_eq_some_iff.mp h
      refine ev_c 4 (y' := 238) (M1 := ev_M r2.2 c w) (la := lv_args 0 [.ref 606, .int 1]) (rest := [.ref 606]) (pc' := 21) (lv' := [(0, .ref 606)]) (fun n => rfl) (ok_fX11_onesWho hr4) ?_
      show Ev XL xs _ 269 (ev_M r4.2 c w) 21 [(0, .ref 606)] [.int r4.1, .ref 606] _
      obtain ⟨r5, hr5, h⟩ := Option.bind_eq_some_iff.mp h
      refine ev_c 1 (y' := 267) (M1 := ev_M r4.2 c w) (la := lv_args 0 [.ref 606, .int r4.1]) (rest := []) (pc' := 24) (lv' := [(0, .ref 606)]) (fun n => rfl) (ok_fX11_ripeWithin hr5) ?_
      show Ev XL xs _ 269 (ev_M r5.2 c w) 24 [(0, .ref 606)] [.int r5.1] _
      refine ev_s 1 (M' := ev_M r5.2 c w) (pc' := 28) (lv' := [(0, .ref 606)]) (st' := [.int r5.1]) (fun n => rfl) ?_
      refine ev_sub (lv := []) (mn_of rfl (by repeat (first | exact trivial | refine And.intro rfl ?_))) ?_
      exact ok_fX11_full_c28 h
def fX11_best_c17 (m : mm_MM) : Option (Int32 × mm_MM) :=
  some (((-1) : Int32), m)
set_option maxRecDepth 20000 in
theorem ok_fX11_best_c17 {m : mm_MM} {q0 : Int32 × mm_MM} (h : fX11_best_c17 m = some q0) : Ev XL xs (d + 7) 270 (ev_M m c w) 17 [] [] (fr_i c w q0) := by
  unfold fX11_best_c17 at h
  cases h
  exact ev_r 2 (fun n => rfl)
def fX11_best_c69 (kr32 : mm_MM → Int32 → Int32 → Int32 → Int32 → Int32 → Option (Int32 × mm_MM)) (m : mm_MM) (x1 : Int32) (x2 : Int32) (x3 : Int32) (x4 : Int32) (x5 : Int32) : Option (Int32 × mm_MM) :=
  (fX11_live m).bind fun r1 =>
   kr32 r1 x1 x2 x3 x4 (x5 + 1)
set_option maxRecDepth 20000 in
theorem ok_fX11_best_c69 {kr32 : mm_MM → Int32 → Int32 → Int32 → Int32 → Int32 → Option (Int32 × mm_MM)} (hkr32 : ∀ (m : mm_MM) (x1 : Int32) (x2 : Int32) (x3 : Int32) (x4 : Int32) (x5 : Int32) (q0 : Int32 × mm_MM), kr32 m x1 x2 x3 x4 x5 = some q0 → Ev XL xs (d + 7) 270 (ev_M m c w) 32 [(0, .ref 606), (1, .int x1), (2, .int x2), (3, .int x3), (4, .int x4), (5, .int x5)] [] (fr_i c w q0)) {m : mm_MM} {x1 : Int32} {x2 : Int32} {x3 : Int32} {x4 : Int32} {x5 : Int32} {q0 : Int32 × mm_MM} (h : fX11_best_c69 kr32 m x1 x2 x3 x4 x5 = some q0) : Ev XL xs (d + 7) 270 (ev_M m c w) 69 [(0, .ref 606), (1, .int x1), (2, .int x2), (3, .int x3), (4, .int x4), (5, .int x5)] [] (fr_i c w q0) := by
  unfold fX11_best_c69 at h
  obtain ⟨r1, hr1, h⟩ := Option.bind_eq_some_iff.mp h
  refine ev_c 2 (y' := 236) (M1 := ev_M m c w) (la := lv_args 0 [.ref 606]) (rest := []) (pc' := 73) (lv' := [(0, .ref 606), (1, .int x1), (2, .int x2), (3, .int x3), (4, .int x4), (5, .int x5)]) (fun n => rfl) (ok_fX11_live hr1) ?_
  show Ev XL xs _ 270 (ev_M r1 c w) 73 [(0, .ref 606), (1, .int x1), (2, .int x2), (3, .int x3), (4, .int x4), (5, .int x5)] [] _
  refine ev_s 2 (M' := ev_M r1 c w) (pc' := 32) (lv' := [(5, .int (x5 + 1)), (0, .ref 606), (1, .int x1), (2, .int x2), (3, .int x3), (4, .int x4)]) (st' := []) (fun n => rfl) ?_
  refine ev_sub (lv := [(0, .ref 606), (1, .int x1), (2, .int x2), (3, .int x3), (4, .int x4), (5, .int (x5 + 1))]) (mn_of rfl (by repeat (first | exact trivial | refine And.intro rfl ?_))) ?_
  exact hkr32 _ _ _ _ _ _ _ h
def fX11_best_c94 (m : mm_MM) (s0 : Int32) : Option (Int32 × mm_MM) :=
  some (s0, m)
set_option maxRecDepth 20000 in
theorem ok_fX11_best_c94 {m : mm_MM} {s0 : Int32} {q0 : Int32 × mm_MM} (h : fX11_best_c94 m s0 = some q0) : Ev XL xs (d + 7) 270 (ev_M m c w) 94 [] [.int s0] (fr_i c w q0) := by
  unfold fX11_best_c94 at h
  cases h
  exact ev_r 1 (fun n => rfl)
def fX11_best_c32 : Nat → mm_MM → Int32 → Int32 → Int32 → Int32 → Int32 → Option (Int32 × mm_MM)
  | 0 => fun _ _ _ _ _ _ => none
  | n + 1 => fun m x1 x2 x3 x4 x5 =>
    (if x5 ≤ 60 then
      (fX11_isRipe m x1).bind fun r2 =>
       (if r2.1 = 0 then
         fX11_best_c69 (fX11_best_c32 n) r2.2 x1 x2 x3 x4 x5
        else
         (fX11_of r2.2 x1 0).bind fun r4 =>
          (if r4.1 ≤ x4 then
            fX11_best_c69 (fX11_best_c32 n) r4.2 x1 x2 x3 x4 x5
           else
            (fX11_of r4.2 x1 0).bind fun r6 =>
             fX11_best_c69 (fX11_best_c32 n) r6.2 x1 x2 x5 r6.1 x5))
     else
      (fX11_takeBack m 0).bind fun r7 =>
       (if x2 = 0 then
         fX11_best_c94 r7 x3
        else
         fX11_best_c94 r7 x4))
set_option maxRecDepth 20000 in
theorem ok_fX11_best_c32 : ∀ (n : Nat) (m : mm_MM) (x1 : Int32) (x2 : Int32) (x3 : Int32) (x4 : Int32) (x5 : Int32) (q0 : Int32 × mm_MM), fX11_best_c32 n m x1 x2 x3 x4 x5 = some q0 → Ev XL xs (d + 7) 270 (ev_M m c w) 32 [(0, .ref 606), (1, .int x1), (2, .int x2), (3, .int x3), (4, .int x4), (5, .int x5)] [] (fr_i c w q0) := by
  intro n
  induction n with
  | zero => intro m x1 x2 x3 x4 x5 q0 h; exact absurd (show (none : Option (Int32 × mm_MM)) = some q0 from h) (by simp)
  | succ n ih =>
    intro m x1 x2 x3 x4 x5 q0 h
    unfold fX11_best_c32 at h
    refine ev_i 3 (M1 := ev_M m c w) (pc1 := 39) (lv1 := [(0, .ref 606), (1, .int x1), (2, .int x2), (3, .int x3), (4, .int x4), (5, .int x5)]) (st1 := []) (M2 := ev_M m c w) (pc2 := 79) (lv2 := [(0, .ref 606), (1, .int x1), (2, .int x2), (3, .int x3), (4, .int x4), (5, .int x5)]) (st2 := []) (fun n => rfl) h (fun hc1 h => ?_) (fun hc1 h => ?_)
    · obtain ⟨r2, hr2, h⟩ := Option.bind_eq_some_iff.mp h
      refine ev_c 3 (y' := 231) (M1 := ev_M m c w) (la := lv_args 0 [.ref 606, .int x1]) (rest := []) (pc' := 44) (lv' := [(0, .ref 606), (1, .int x1), (2, .int x2), (3, .int x3), (4, .int x4), (5, .int x5)]) (fun n => rfl) (ok_fX11_isRipe hr2) ?_
      show Ev XL xs _ 270 (ev_M r2.2 c w) 44 [(0, .ref 606), (1, .int x1), (2, .int x2), (3, .int x3), (4, .int x4), (5, .int x5)] [.int r2.1] _
      refine ev_i 1 (M1 := ev_M r2.2 c w) (pc1 := 69) (lv1 := [(0, .ref 606), (1, .int x1), (2, .int x2), (3, .int x3), (4, .int x4), (5, .int x5)]) (st1 := []) (M2 := ev_M r2.2 c w) (pc2 := 47) (lv2 := [(0, .ref 606), (1, .int x1), (2, .int x2), (3, .int x3), (4, .int x4), (5, .int x5)]) (st2 := []) (fun n => rfl) h (fun hc3 h => ?_) (fun hc3 h => ?_)
      · exact ok_fX11_best_c69 ih h
      · obtain ⟨r4, hr4, h⟩ := Option.bind_eq_some_iff.mp h
        refine ev_c 4 (y' := 220) (M1 := ev_M r2.2 c w) (la := lv_args 0 [.ref 606, .int x1, .int 0]) (rest := []) (pc' := 53) (lv' := [(0, .ref 606), (1, .int x1), (2, .int x2), (3, .int x3), (4, .int x4), (5, .int x5)]) (fun n => rfl) (ok_fX11_of hr4) ?_
        show Ev XL xs _ 270 (ev_M r4.2 c w) 53 [(0, .ref 606), (1, .int x1), (2, .int x2), (3, .int x3), (4, .int x4), (5, .int x5)] [.int r4.1] _
        refine ev_i 2 (M1 := ev_M r4.2 c w) (pc1 := 69) (lv1 := [(0, .ref 606), (1, .int x1), (2, .int x2), (3, .int x3), (4, .int x4), (5, .int x5)]) (st1 := []) (M2 := ev_M r4.2 c w) (pc2 := 58) (lv2 := [(0, .ref 606), (1, .int x1), (2, .int x2), (3, .int x3), (4, .int x4), (5, .int x5)]) (st2 := []) (fun n => rfl) h (fun hc5 h => ?_) (fun hc5 h => ?_)
        · exact ok_fX11_best_c69 ih h
        · obtain ⟨r6, hr6, h⟩ := Option.bind_eq_some_iff.mp h
          refine ev_c 6 (y' := 220) (M1 := ev_M r4.2 c w) (la := lv_args 0 [.ref 606, .int x1, .int 0]) (rest := []) (pc' := 67) (lv' := [(3, .int x5), (0, .ref 606), (1, .int x1), (2, .int x2), (4, .int x4), (5, .int x5)]) (fun n => rfl) (ok_fX11_of hr6) ?_
          show Ev XL xs _ 270 (ev_M r6.2 c w) 67 [(3, .int x5), (0, .ref 606), (1, .int x1), (2, .int x2), (4, .int x4), (5, .int x5)] [.int r6.1] _
          refine ev_s 1 (M' := ev_M r6.2 c w) (pc' := 69) (lv' := [(4, .int r6.1), (3, .int x5), (0, .ref 606), (1, .int x1), (2, .int x2), (5, .int x5)]) (st' := []) (fun n => rfl) ?_
          refine ev_sub (lv := [(0, .ref 606), (1, .int x1), (2, .int x2), (3, .int x5), (4, .int r6.1), (5, .int x5)]) (mn_of rfl (by repeat (first | exact trivial | refine And.intro rfl ?_))) ?_
          exact ok_fX11_best_c69 ih h
    · obtain ⟨r7, hr7, h⟩ := Option.bind_eq_some_iff.mp h
      refine ev_c 3 (y' := 265) (M1 := ev_M m c w) (la := lv_args 0 [.ref 606, .int 0]) (rest := []) (pc' := 84) (lv' := [(0, .ref 606), (1, .int x1), (2, .int x2), (3, .int x3), (4, .int x4), (5, .int x5)]) (fun n => rfl) (ok_fX11_takeBack hr7) ?_
      show Ev XL xs _ 270 (ev_M r7 c w) 84 [(0, .ref 606), (1, .int x1), (2, .int x2), (3, .int x3), (4, .int x4), (5, .int x5)] [] _
      refine ev_i 2 (M1 := ev_M r7 c w) (pc1 := 88) (lv1 := [(0, .ref 606), (1, .int x1), (2, .int x2), (3, .int x3), (4, .int x4), (5, .int x5)]) (st1 := []) (M2 := ev_M r7 c w) (pc2 := 92) (lv2 := [(0, .ref 606), (1, .int x1), (2, .int x2), (3, .int x3), (4, .int x4), (5, .int x5)]) (st2 := []) (fun n => rfl) h (fun hc8 h => ?_) (fun hc8 h => ?_)
      · refine ev_s 2 (M' := ev_M r7 c w) (pc' := 94) (lv' := [(0, .ref 606), (1, .int x1), (2, .int x2), (3, .int x3), (4, .int x4), (5, .int x5)]) (st' := [.int x3]) (fun n => rfl) ?_
        refine ev_sub (lv := []) (mn_of rfl (by repeat (first | exact trivial | refine And.intro rfl ?_))) ?_
        exact ok_fX11_best_c94 h
      · refine ev_s 1 (M' := ev_M r7 c w) (pc' := 94) (lv' := [(0, .ref 606), (1, .int x1), (2, .int x2), (3, .int x3), (4, .int x4), (5, .int x5)]) (st' := [.int x4]) (fun n => rfl) ?_
        refine ev_sub (lv := []) (mn_of rfl (by repeat (first | exact trivial | refine And.intro rfl ?_))) ?_
        exact ok_fX11_best_c94 h
def fX11_best (m : mm_MM) (x1 : Int32) (x2 : Int32) : Option (Int32 × mm_MM) :=
  (fX11_doesLie m x1).bind fun r1 =>
   (if r1.1 = 0 then
     fX11_best_c17 r1.2
    else
     (fX11_in r1.2 x2 0 1).bind fun r3 =>
      (if r3.1 = 0 then
        fX11_best_c17 r3.2
       else
        (fX11_putAside r3.2 0).bind fun r5 =>
         fX11_best_c32 fu r5 x1 x2 ((-1) : Int32) ((-1) : Int32) 0))
set_option maxRecDepth 20000 in
theorem ok_fX11_best {m : mm_MM} {x1 : Int32} {x2 : Int32} {q0 : Int32 × mm_MM} (h : fX11_best m x1 x2 = some q0) : Ev XL xs (d + 7) 270 (ev_M m c w) 0 (lv_args 0 [.ref 606, .int x1, .int x2]) [] (fr_i c w q0) := by
  unfold fX11_best at h
  obtain ⟨r1, hr1, h⟩ := Option.bind_eq_some_iff.mp h
  refine ev_c 3 (y' := 226) (M1 := ev_M m c w) (la := lv_args 0 [.ref 606, .int x1]) (rest := []) (pc' := 5) (lv' := [(0, .ref 606), (1, .int x1), (2, .int x2)]) (fun n => rfl) (ok_fX11_doesLie hr1) ?_
  show Ev XL xs _ 270 (ev_M r1.2 c w) 5 [(0, .ref 606), (1, .int x1), (2, .int x2)] [.int r1.1] _
  refine ev_i 1 (M1 := ev_M r1.2 c w) (pc1 := 17) (lv1 := [(0, .ref 606), (1, .int x1), (2, .int x2)]) (st1 := []) (M2 := ev_M r1.2 c w) (pc2 := 8) (lv2 := [(0, .ref 606), (1, .int x1), (2, .int x2)]) (st2 := []) (fun n => rfl) h (fun hc2 h => ?_) (fun hc2 h => ?_)
  · refine ev_sub (lv := []) (mn_of rfl (by repeat (first | exact trivial | refine And.intro rfl ?_))) ?_
    exact ok_fX11_best_c17 h
  · obtain ⟨r3, hr3, h⟩ := Option.bind_eq_some_iff.mp h
    refine ev_c 4 (y' := 178) (M1 := ev_M r1.2 c w) (la := lv_args 0 [.int x2, .int 0, .int 1]) (rest := []) (pc' := 14) (lv' := [(0, .ref 606), (1, .int x1), (2, .int x2)]) (fun n => rfl) (ok_fX11_in hr3) ?_
    show Ev XL xs _ 270 (ev_M r3.2 c w) 14 [(0, .ref 606), (1, .int x1), (2, .int x2)] [.int r3.1] _
    refine ev_i 1 (M1 := ev_M r3.2 c w) (pc1 := 17) (lv1 := [(0, .ref 606), (1, .int x1), (2, .int x2)]) (st1 := []) (M2 := ev_M r3.2 c w) (pc2 := 19) (lv2 := [(0, .ref 606), (1, .int x1), (2, .int x2)]) (st2 := []) (fun n => rfl) h (fun hc4 h => ?_) (fun hc4 h => ?_)
    · refine ev_sub (lv := []) (mn_of rfl (by repeat (first | exact trivial | refine And.intro rfl ?_))) ?_
      exact ok_fX11_best_c17 h
    · obtain ⟨r5, hr5, h⟩ := Option.bind_eq_some_iff.mp h
      refine ev_c 3 (y' := 264) (M1 := ev_M r3.2 c w) (la := lv_args 0 [.ref 606, .int 0]) (rest := []) (pc' := 24) (lv' := [(0, .ref 606), (1, .int x1), (2, .int x2)]) (fun n => rfl) (ok_fX11_putAside hr5) ?_
      show Ev XL xs _ 270 (ev_M r5 c w) 24 [(0, .ref 606), (1, .int x1), (2, .int x2)] [] _
      refine ev_s 6 (M' := ev_M r5 c w) (pc' := 32) (lv' := [(5, .int 0), (4, .int ((-1) : Int32)), (3, .int ((-1) : Int32)), (0, .ref 606), (1, .int x1), (2, .int x2)]) (st' := []) (fun n => rfl) ?_
      refine ev_sub (lv := [(0, .ref 606), (1, .int x1), (2, .int x2), (3, .int ((-1) : Int32)), (4, .int ((-1) : Int32)), (5, .int 0)]) (mn_of rfl (by repeat (first | exact trivial | refine And.intro rfl ?_))) ?_
      exact ok_fX11_best_c32 fu _ _ _ _ _ _ _ h
def fX11_leaveAlone_c21 (kr2 : mm_MM → Int32 → Int32 → Option (mm_MM)) (m : mm_MM) (x1 : Int32) (x2 : Int32) (s1 : Int32) (s2 : Int32) (s3 : Int32) : Option (mm_MM) :=
  (fX11_set m s1 s2 s3).bind fun r1 =>
   kr2 r1 x1 (x2 + 1)
theorem ok_fX11_leaveAlone_c21 {kr2 : mm_MM → Int32 → Int32 → Option (mm_MM)} (hkr2 : ∀ (m : mm_MM) (x1 : Int32) (x2 : Int32) (q0 : mm_MM), kr2 m x1 x2 = some q0 → Ev XL xs (d + 1) 271 (ev_M m c w) 2 [(0, .ref 606), (1, .int x1), (2, .int x2)] [] (fr_v c w q0)) {m : mm_MM} {x1 : Int32} {x2 : Int32} {s1 : Int32} {s2 : Int32} {s3 : Int32} {q0 : mm_MM} (h : fX11_leaveAlone_c21 kr2 m x1 x2 s1 s2 s3 = some q0) : Ev XL xs (d + 1) 271 (ev_M m c w) 21 [(0, .ref 606), (1, .int x1), (2, .int x2)] [.int s3, .int s2, .int s1, .ref 606] (fr_v c w q0) := by
  unfold fX11_leaveAlone_c21 at h
  obtain ⟨r1, hr1, h⟩ := Option.bind_eq_some_iff.mp h
  refine ev_c 1 (y' := 221) (M1 := ev_M m c w) (la := lv_args 0 [.ref 606, .int s1, .int s2, .int s3]) (rest := []) (pc' := 24) (lv' := [(0, .ref 606), (1, .int x1), (2, .int x2)]) (fun n => rfl) (ok_fX11_set hr1) ?_
  show Ev XL xs _ 271 (ev_M r1 c w) 24 [(0, .ref 606), (1, .int x1), (2, .int x2)] [] _
  refine ev_s 2 (M' := ev_M r1 c w) (pc' := 2) (lv' := [(2, .int (x2 + 1)), (0, .ref 606), (1, .int x1)]) (st' := []) (fun n => rfl) ?_
  refine ev_sub (lv := [(0, .ref 606), (1, .int x1), (2, .int (x2 + 1))]) (mn_of rfl (by repeat (first | exact trivial | refine And.intro rfl ?_))) ?_
  exact hkr2 _ _ _ _ h
def fX11_leaveAlone_c2 : Nat → mm_MM → Int32 → Int32 → Option (mm_MM)
  | 0 => fun _ _ _ => none
  | n + 1 => fun m x1 x2 =>
    (if x2 < 8 then
      (if x2 = x1 then
        fX11_leaveAlone_c21 (fX11_leaveAlone_c2 n) m x1 x2 x2 5 1
       else
        fX11_leaveAlone_c21 (fX11_leaveAlone_c2 n) m x1 x2 x2 5 0)
     else
      some m)
theorem ok_fX11_leaveAlone_c2 : ∀ (n : Nat) (m : mm_MM) (x1 : Int32) (x2 : Int32) (q0 : mm_MM), fX11_leaveAlone_c2 n m x1 x2 = some q0 → Ev XL xs (d + 1) 271 (ev_M m c w) 2 [(0, .ref 606), (1, .int x1), (2, .int x2)] [] (fr_v c w q0) := by
  intro n
  induction n with
  | zero => intro m x1 x2 q0 h; exact absurd (show (none : Option (mm_MM)) = some q0 from h) (by simp)
  | succ n ih =>
    intro m x1 x2 q0 h
    unfold fX11_leaveAlone_c2 at h
    refine ev_i 3 (M1 := ev_M m c w) (pc1 := 8) (lv1 := [(0, .ref 606), (1, .int x1), (2, .int x2)]) (st1 := []) (M2 := ev_M m c w) (pc2 := 30) (lv2 := [(0, .ref 606), (1, .int x1), (2, .int x2)]) (st2 := []) (fun n => rfl) h (fun hc1 h => ?_) (fun hc1 h => ?_)
    · refine ev_i 6 (M1 := ev_M m c w) (pc1 := 16) (lv1 := [(0, .ref 606), (1, .int x1), (2, .int x2)]) (st1 := [.int 5, .int x2, .ref 606]) (M2 := ev_M m c w) (pc2 := 20) (lv2 := [(0, .ref 606), (1, .int x1), (2, .int x2)]) (st2 := [.int 5, .int x2, .ref 606]) (fun n => rfl) h (fun hc2 h => ?_) (fun hc2 h => ?_)
      · refine ev_s 2 (M' := ev_M m c w) (pc' := 21) (lv' := [(0, .ref 606), (1, .int x1), (2, .int x2)]) (st' := [.int 1, .int 5, .int x2, .ref 606]) (fun n => rfl) ?_
        exact ok_fX11_leaveAlone_c21 ih h
      · refine ev_s 1 (M' := ev_M m c w) (pc' := 21) (lv' := [(0, .ref 606), (1, .int x1), (2, .int x2)]) (st' := [.int 0, .int 5, .int x2, .ref 606]) (fun n => rfl) ?_
        exact ok_fX11_leaveAlone_c21 ih h
    · cases h
      exact ev_r 1 (fun n => rfl)
def fX11_leaveAlone (m : mm_MM) (x1 : Int32) : Option (mm_MM) :=
  fX11_leaveAlone_c2 fu m x1 0
theorem ok_fX11_leaveAlone {m : mm_MM} {x1 : Int32} {q0 : mm_MM} (h : fX11_leaveAlone m x1 = some q0) : Ev XL xs (d + 1) 271 (ev_M m c w) 0 (lv_args 0 [.ref 606, .int x1]) [] (fr_v c w q0) := by
  unfold fX11_leaveAlone at h
  refine ev_s 2 (M' := ev_M m c w) (pc' := 2) (lv' := [(2, .int 0), (0, .ref 606), (1, .int x1)]) (st' := []) (fun n => rfl) ?_
  refine ev_sub (lv := [(0, .ref 606), (1, .int x1), (2, .int 0)]) (mn_of rfl (by repeat (first | exact trivial | refine And.intro rfl ?_))) ?_
  exact ok_fX11_leaveAlone_c2 fu _ _ _ _ h
def fX11_layLaid_c55 (kr2 : mm_MM → Int32 → Int32 → Option (mm_MM)) (kr10 : mm_MM → Int32 → Int32 → Int32 → Option (mm_MM)) : Nat → mm_MM → Int32 → Int32 → Int32 → Int32 → Option (mm_MM)
  | 0 => fun _ _ _ _ _ => none
  | n + 1 => fun m x1 x2 x3 x4 =>
    (if x4 < x1 then
      (fX11_live m).bind fun r2 =>
       fX11_layLaid_c55 kr2 kr10 n r2 x1 x2 x3 (x4 + 1)
     else
      (fX11_of m x2 0).bind fun r3 =>
       (if ((5 * x2) + x3) < 0 ∨ 40 ≤ ((5 * x2) + x3).toNatClampNeg then none else
        (fX11_takeBack (wI r3.2 628 (((5 * x2) + x3).toNatClampNeg) r3.1) 0).bind fun r4 =>
         kr10 r4 x1 x2 (x3 + 1)))
set_option maxRecDepth 20000 in
theorem ok_fX11_layLaid_c55 {kr2 : mm_MM → Int32 → Int32 → Option (mm_MM)} (hkr2 : ∀ (m : mm_MM) (x1 : Int32) (x2 : Int32) (q0 : mm_MM), kr2 m x1 x2 = some q0 → Ev XL xs (d + 7) 272 (ev_M m c w) 2 [(0, .ref 606), (1, .int x1), (2, .int x2)] [] (fr_v c w q0)) {kr10 : mm_MM → Int32 → Int32 → Int32 → Option (mm_MM)} (hkr10 : ∀ (m : mm_MM) (x1 : Int32) (x2 : Int32) (x3 : Int32) (q0 : mm_MM), kr10 m x1 x2 x3 = some q0 → Ev XL xs (d + 7) 272 (ev_M m c w) 10 [(0, .ref 606), (1, .int x1), (2, .int x2), (3, .int x3)] [] (fr_v c w q0)) : ∀ (n : Nat) (m : mm_MM) (x1 : Int32) (x2 : Int32) (x3 : Int32) (x4 : Int32) (q0 : mm_MM), fX11_layLaid_c55 kr2 kr10 n m x1 x2 x3 x4 = some q0 → Ev XL xs (d + 7) 272 (ev_M m c w) 55 [(0, .ref 606), (1, .int x1), (2, .int x2), (3, .int x3), (4, .int x4)] [] (fr_v c w q0) := by
  intro n
  induction n with
  | zero => intro m x1 x2 x3 x4 q0 h; exact absurd (show (none : Option (mm_MM)) = some q0 from h) (by simp)
  | succ n ih =>
    intro m x1 x2 x3 x4 q0 h
    unfold fX11_layLaid_c55 at h
    refine ev_i 3 (M1 := ev_M m c w) (pc1 := 61) (lv1 := [(0, .ref 606), (1, .int x1), (2, .int x2), (3, .int x3), (4, .int x4)]) (st1 := []) (M2 := ev_M m c w) (pc2 := 71) (lv2 := [(0, .ref 606), (1, .int x1), (2, .int x2), (3, .int x3), (4, .int x4)]) (st2 := []) (fun n => rfl) h (fun hc1 h => ?_) (fun hc1 h => ?_)
    · obtain ⟨r2, hr2, h⟩ := Option.bind_eq_some_iff.mp h
      refine ev_c 2 (y' := 236) (M1 := ev_M m c w) (la := lv_args 0 [.ref 606]) (rest := []) (pc' := 65) (lv' := [(0, .ref 606), (1, .int x1), (2, .int x2), (3, .int x3), (4, .int x4)]) (fun n => rfl) (ok_fX11_live hr2) ?_
      show Ev XL xs _ 272 (ev_M r2 c w) 65 [(0, .ref 606), (1, .int x1), (2, .int x2), (3, .int x3), (4, .int x4)] [] _
      refine ev_s 2 (M' := ev_M r2 c w) (pc' := 55) (lv' := [(4, .int (x4 + 1)), (0, .ref 606), (1, .int x1), (2, .int x2), (3, .int x3)]) (st' := []) (fun n => rfl) ?_
      refine ev_sub (lv := [(0, .ref 606), (1, .int x1), (2, .int x2), (3, .int x3), (4, .int (x4 + 1))]) (mn_of rfl (by repeat (first | exact trivial | refine And.intro rfl ?_))) ?_
      exact ih _ _ _ _ _ _ h
    · obtain ⟨r3, hr3, h⟩ := Option.bind_eq_some_iff.mp h
      refine ev_c 11 (y' := 220) (M1 := ev_M m c w) (la := lv_args 0 [.ref 606, .int x2, .int 0]) (rest := [.int ((5 * x2) + x3), .ref 628]) (pc' := 86) (lv' := [(0, .ref 606), (1, .int x1), (2, .int x2), (3, .int x3), (4, .int x4)]) (fun n => rfl) (ok_fX11_of hr3) ?_
      show Ev XL xs _ 272 (ev_M r3.2 c w) 86 [(0, .ref 606), (1, .int x1), (2, .int x2), (3, .int x3), (4, .int x4)] [.int r3.1, .int ((5 * x2) + x3), .ref 628] _
      refine ev_g 1 (M1 := ev_M (wI r3.2 628 (((5 * x2) + x3).toNatClampNeg) r3.1) c w) (pc1 := 87) (lv1 := [(0, .ref 606), (1, .int x1), (2, .int x2), (3, .int x3), (4, .int x4)]) (st1 := []) (fun n => rfl) h (fun _ h => ?_)
      obtain ⟨r4, hr4, h⟩ := Option.bind_eq_some_iff.mp h
      refine ev_c 3 (y' := 265) (M1 := ev_M (wI r3.2 628 (((5 * x2) + x3).toNatClampNeg) r3.1) c w) (la := lv_args 0 [.ref 606, .int 0]) (rest := []) (pc' := 92) (lv' := [(0, .ref 606), (1, .int x1), (2, .int x2), (3, .int x3), (4, .int x4)]) (fun n => rfl) (ok_fX11_takeBack hr4) ?_
      show Ev XL xs _ 272 (ev_M r4 c w) 92 [(0, .ref 606), (1, .int x1), (2, .int x2), (3, .int x3), (4, .int x4)] [] _
      refine ev_s 2 (M' := ev_M r4 c w) (pc' := 10) (lv' := [(3, .int (x3 + 1)), (0, .ref 606), (1, .int x1), (2, .int x2), (4, .int x4)]) (st' := []) (fun n => rfl) ?_
      refine ev_sub (lv := [(0, .ref 606), (1, .int x1), (2, .int x2), (3, .int (x3 + 1))]) (mn_of rfl (by repeat (first | exact trivial | refine And.intro rfl ?_))) ?_
      exact hkr10 _ _ _ _ _ h
def fX11_layLaid_c98 (kr2 : mm_MM → Int32 → Int32 → Option (mm_MM)) (m : mm_MM) (x1 : Int32) (x2 : Int32) : Option (mm_MM) :=
  (fX11_of m x2 0).bind fun r1 =>
   (if ((5 * x2) + 4) < 0 ∨ 40 ≤ ((5 * x2) + 4).toNatClampNeg then none else
    kr2 (wI r1.2 628 (((5 * x2) + 4).toNatClampNeg) r1.1) x1 (x2 + 1))
set_option maxRecDepth 20000 in
theorem ok_fX11_layLaid_c98 {kr2 : mm_MM → Int32 → Int32 → Option (mm_MM)} (hkr2 : ∀ (m : mm_MM) (x1 : Int32) (x2 : Int32) (q0 : mm_MM), kr2 m x1 x2 = some q0 → Ev XL xs (d + 7) 272 (ev_M m c w) 2 [(0, .ref 606), (1, .int x1), (2, .int x2)] [] (fr_v c w q0)) {m : mm_MM} {x1 : Int32} {x2 : Int32} {q0 : mm_MM} (h : fX11_layLaid_c98 kr2 m x1 x2 = some q0) : Ev XL xs (d + 7) 272 (ev_M m c w) 98 [(0, .ref 606), (1, .int x1), (2, .int x2)] [] (fr_v c w q0) := by
  unfold fX11_layLaid_c98 at h
  obtain ⟨r1, hr1, h⟩ := Option.bind_eq_some_iff.mp h
  refine ev_c 11 (y' := 220) (M1 := ev_M m c w) (la := lv_args 0 [.ref 606, .int x2, .int 0]) (rest := [.int ((5 * x2) + 4), .ref 628]) (pc' := 113) (lv' := [(0, .ref 606), (1, .int x1), (2, .int x2)]) (fun n => rfl) (ok_fX11_of hr1) ?_
  show Ev XL xs _ 272 (ev_M r1.2 c w) 113 [(0, .ref 606), (1, .int x1), (2, .int x2)] [.int r1.1, .int ((5 * x2) + 4), .ref 628] _
  refine ev_g 1 (M1 := ev_M (wI r1.2 628 (((5 * x2) + 4).toNatClampNeg) r1.1) c w) (pc1 := 114) (lv1 := [(0, .ref 606), (1, .int x1), (2, .int x2)]) (st1 := []) (fun n => rfl) h (fun _ h => ?_)
  refine ev_s 2 (M' := ev_M (wI r1.2 628 (((5 * x2) + 4).toNatClampNeg) r1.1) c w) (pc' := 2) (lv' := [(2, .int (x2 + 1)), (0, .ref 606), (1, .int x1)]) (st' := []) (fun n => rfl) ?_
  refine ev_sub (lv := [(0, .ref 606), (1, .int x1), (2, .int (x2 + 1))]) (mn_of rfl (by repeat (first | exact trivial | refine And.intro rfl ?_))) ?_
  exact hkr2 _ _ _ _ h
def fX11_layLaid_c10 (kr2 : mm_MM → Int32 → Int32 → Option (mm_MM)) : Nat → mm_MM → Int32 → Int32 → Int32 → Option (mm_MM)
  | 0 => fun _ _ _ _ => none
  | n + 1 => fun m x1 x2 x3 =>
    (if x3 < m.1 620 1 then
      (fX11_isThere m x2).bind fun r2 =>
       (if r2.1 = 0 then
         fX11_layLaid_c98 kr2 r2.2 x1 x2
        else
         (fX11_putAside r2.2 0).bind fun r4 =>
          (fX11_leaveAlone r4 x2).bind fun r5 =>
           (fX11_set r5 x2 2 (r5.1 620 0 * x3)).bind fun r6 =>
            fX11_layLaid_c55 kr2 (fX11_layLaid_c10 kr2 n) fu r6 x1 x2 x3 0)
     else
      fX11_layLaid_c98 kr2 m x1 x2)
set_option maxRecDepth 20000 in
theorem ok_fX11_layLaid_c10 {kr2 : mm_MM → Int32 → Int32 → Option (mm_MM)} (hkr2 : ∀ (m : mm_MM) (x1 : Int32) (x2 : Int32) (q0 : mm_MM), kr2 m x1 x2 = some q0 → Ev XL xs (d + 7) 272 (ev_M m c w) 2 [(0, .ref 606), (1, .int x1), (2, .int x2)] [] (fr_v c w q0)) : ∀ (n : Nat) (m : mm_MM) (x1 : Int32) (x2 : Int32) (x3 : Int32) (q0 : mm_MM), fX11_layLaid_c10 kr2 n m x1 x2 x3 = some q0 → Ev XL xs (d + 7) 272 (ev_M m c w) 10 [(0, .ref 606), (1, .int x1), (2, .int x2), (3, .int x3)] [] (fr_v c w q0) := by
  intro n
  induction n with
  | zero => intro m x1 x2 x3 q0 h; exact absurd (show (none : Option (mm_MM)) = some q0 from h) (by simp)
  | succ n ih =>
    intro m x1 x2 x3 q0 h
    unfold fX11_layLaid_c10 at h
    refine ev_i 6 (M1 := ev_M m c w) (pc1 := 20) (lv1 := [(0, .ref 606), (1, .int x1), (2, .int x2), (3, .int x3)]) (st1 := []) (M2 := ev_M m c w) (pc2 := 98) (lv2 := [(0, .ref 606), (1, .int x1), (2, .int x2), (3, .int x3)]) (st2 := []) (fun n => rfl) h (fun hc1 h => ?_) (fun hc1 h => ?_)
    · obtain ⟨r2, hr2, h⟩ := Option.bind_eq_some_iff.mp h
      refine ev_c 3 (y' := 225) (M1 := ev_M m c w) (la := lv_args 0 [.ref 606, .int x2]) (rest := []) (pc' := 25) (lv' := [(0, .ref 606), (1, .int x1), (2, .int x2), (3, .int x3)]) (fun n => rfl) (ok_fX11_isThere hr2) ?_
      show Ev XL xs _ 272 (ev_M r2.2 c w) 25 [(0, .ref 606), (1, .int x1), (2, .int x2), (3, .int x3)] [.int r2.1] _
      refine ev_i 1 (M1 := ev_M r2.2 c w) (pc1 := 98) (lv1 := [(0, .ref 606), (1, .int x1), (2, .int x2), (3, .int x3)]) (st1 := []) (M2 := ev_M r2.2 c w) (pc2 := 28) (lv2 := [(0, .ref 606), (1, .int x1), (2, .int x2), (3, .int x3)]) (st2 := []) (fun n => rfl) h (fun hc3 h => ?_) (fun hc3 h => ?_)
      · refine ev_sub (lv := [(0, .ref 606), (1, .int x1), (2, .int x2)]) (mn_of rfl (by repeat (first | exact trivial | refine And.intro rfl ?_))) ?_
        exact ok_fX11_layLaid_c98 hkr2 h
      · obtain ⟨r4, hr4, h⟩ := Option.bind_eq_some_iff.mp h
        refine ev_c 3 (y' := 264) (M1 := ev_M r2.2 c w) (la := lv_args 0 [.ref 606, .int 0]) (rest := []) (pc' := 33) (lv' := [(0, .ref 606), (1, .int x1), (2, .int x2), (3, .int x3)]) (fun n => rfl) (ok_fX11_putAside hr4) ?_
        show Ev XL xs _ 272 (ev_M r4 c w) 33 [(0, .ref 606), (1, .int x1), (2, .int x2), (3, .int x3)] [] _
        obtain ⟨r5, hr5, h⟩ := Option.bind_eq_some_iff.mp h
        refine ev_c 3 (y' := 271) (M1 := ev_M r4 c w) (la := lv_args 0 [.ref 606, .int x2]) (rest := []) (pc' := 38) (lv' := [(0, .ref 606), (1, .int x1), (2, .int x2), (3, .int x3)]) (fun n => rfl) (ok_fX11_leaveAlone hr5) ?_
        show Ev XL xs _ 272 (ev_M r5 c w) 38 [(0, .ref 606), (1, .int x1), (2, .int x2), (3, .int x3)] [] _
        obtain ⟨r6, hr6, h⟩ := Option.bind_eq_some_iff.mp h
        refine ev_c 10 (y' := 221) (M1 := ev_M r5 c w) (la := lv_args 0 [.ref 606, .int x2, .int 2, .int (r5.1 620 0 * x3)]) (rest := []) (pc' := 52) (lv' := [(0, .ref 606), (1, .int x1), (2, .int x2), (3, .int x3)]) (fun n => rfl) (ok_fX11_set hr6) ?_
        show Ev XL xs _ 272 (ev_M r6 c w) 52 [(0, .ref 606), (1, .int x1), (2, .int x2), (3, .int x3)] [] _
        refine ev_s 2 (M' := ev_M r6 c w) (pc' := 55) (lv' := [(4, .int 0), (0, .ref 606), (1, .int x1), (2, .int x2), (3, .int x3)]) (st' := []) (fun n => rfl) ?_
        refine ev_sub (lv := [(0, .ref 606), (1, .int x1), (2, .int x2), (3, .int x3), (4, .int 0)]) (mn_of rfl (by repeat (first | exact trivial | refine And.intro rfl ?_))) ?_
        exact ok_fX11_layLaid_c55 hkr2 ih fu _ _ _ _ _ _ h
    · refine ev_sub (lv := [(0, .ref 606), (1, .int x1), (2, .int x2)]) (mn_of rfl (by repeat (first | exact trivial | refine And.intro rfl ?_))) ?_
      exact ok_fX11_layLaid_c98 hkr2 h
def fX11_layLaid_c180 (kr152 : mm_MM → Int32 → Option (mm_MM)) (m : mm_MM) (x2 : Int32) : Option (mm_MM) :=
  kr152 m (x2 + 1)
set_option maxRecDepth 20000 in
theorem ok_fX11_layLaid_c180 {kr152 : mm_MM → Int32 → Option (mm_MM)} (hkr152 : ∀ (m : mm_MM) (x2 : Int32) (q0 : mm_MM), kr152 m x2 = some q0 → Ev XL xs (d + 7) 272 (ev_M m c w) 152 [(0, .ref 606), (2, .int x2)] [] (fr_v c w q0)) {m : mm_MM} {x2 : Int32} {q0 : mm_MM} (h : fX11_layLaid_c180 kr152 m x2 = some q0) : Ev XL xs (d + 7) 272 (ev_M m c w) 180 [(0, .ref 606), (2, .int x2)] [] (fr_v c w q0) := by
  unfold fX11_layLaid_c180 at h
  refine ev_s 2 (M' := ev_M m c w) (pc' := 152) (lv' := [(2, .int (x2 + 1)), (0, .ref 606)]) (st' := []) (fun n => rfl) ?_
  refine ev_sub (lv := [(0, .ref 606), (2, .int (x2 + 1))]) (mn_of rfl (by repeat (first | exact trivial | refine And.intro rfl ?_))) ?_
  exact hkr152 _ _ _ h
def fX11_layLaid_c152 : Nat → mm_MM → Int32 → Option (mm_MM)
  | 0 => fun _ _ => none
  | n + 1 => fun m x2 =>
    (if x2 < 8 then
      (fX11_doesLie m x2).bind fun r2 =>
       (if r2.1 = 0 then
         fX11_layLaid_c180 (fX11_layLaid_c152 n) r2.2 x2
        else
         (fX11_rowOf r2.2 x2).bind fun r4 =>
          (if r4.1 < 0 ∨ 4 ≤ r4.1.toNatClampNeg then none else
           (if r4.1 < 0 ∨ 4 ≤ r4.1.toNatClampNeg then none else
            fX11_layLaid_c180 (fX11_layLaid_c152 n) (wI r4.2 629 r4.1.toNatClampNeg (r4.2.1 629 r4.1.toNatClampNeg - 1)) x2)))
     else
      some m)
set_option maxRecDepth 20000 in
theorem ok_fX11_layLaid_c152 : ∀ (n : Nat) (m : mm_MM) (x2 : Int32) (q0 : mm_MM), fX11_layLaid_c152 n m x2 = some q0 → Ev XL xs (d + 7) 272 (ev_M m c w) 152 [(0, .ref 606), (2, .int x2)] [] (fr_v c w q0) := by
  intro n
  induction n with
  | zero => intro m x2 q0 h; exact absurd (show (none : Option (mm_MM)) = some q0 from h) (by simp)
  | succ n ih =>
    intro m x2 q0 h
    unfold fX11_layLaid_c152 at h
    refine ev_i 3 (M1 := ev_M m c w) (pc1 := 158) (lv1 := [(0, .ref 606), (2, .int x2)]) (st1 := []) (M2 := ev_M m c w) (pc2 := 186) (lv2 := [(0, .ref 606), (2, .int x2)]) (st2 := []) (fun n => rfl) h (fun hc1 h => ?_) (fun hc1 h => ?_)
    · obtain ⟨r2, hr2, h⟩ := Option.bind_eq_some_iff.mp h
      refine ev_c 3 (y' := 226) (M1 := ev_M m c w) (la := lv_args 0 [.ref 606, .int x2]) (rest := []) (pc' := 163) (lv' := [(0, .ref 606), (2, .int x2)]) (fun n => rfl) (ok_fX11_doesLie hr2) ?_
      show Ev XL xs _ 272 (ev_M r2.2 c w) 163 [(0, .ref 606), (2, .int x2)] [.int r2.1] _
      refine ev_i 1 (M1 := ev_M r2.2 c w) (pc1 := 180) (lv1 := [(0, .ref 606), (2, .int x2)]) (st1 := []) (M2 := ev_M r2.2 c w) (pc2 := 166) (lv2 := [(0, .ref 606), (2, .int x2)]) (st2 := []) (fun n => rfl) h (fun hc3 h => ?_) (fun hc3 h => ?_)
      · exact ok_fX11_layLaid_c180 ih h
      · obtain ⟨r4, hr4, h⟩ := Option.bind_eq_some_iff.mp h
        refine ev_c 5 (y' := 230) (M1 := ev_M r2.2 c w) (la := lv_args 0 [.ref 606, .int x2]) (rest := [.ref 629]) (pc' := 175) (lv' := [(0, .ref 606), (2, .int x2)]) (fun n => rfl) (ok_fX11_rowOf hr4) ?_
        show Ev XL xs _ 272 (ev_M r4.2 c w) 175 [(0, .ref 606), (2, .int x2)] [.int r4.1, .ref 629] _
        refine ev_g 2 (M1 := ev_M r4.2 c w) (pc1 := 177) (lv1 := [(0, .ref 606), (2, .int x2)]) (st1 := [.int (r4.2.1 629 r4.1.toNatClampNeg), .int r4.1, .ref 629]) (fun n => rfl) h (fun _ h => ?_)
        refine ev_g 3 (M1 := ev_M (wI r4.2 629 r4.1.toNatClampNeg (r4.2.1 629 r4.1.toNatClampNeg - 1)) c w) (pc1 := 180) (lv1 := [(0, .ref 606), (2, .int x2)]) (st1 := []) (fun n => rfl) h (fun _ h => ?_)
        exact ok_fX11_layLaid_c180 ih h
    · cases h
      exact ev_r 1 (fun n => rfl)
def fX11_layLaid_c122 : Nat → mm_MM → Int32 → Option (mm_MM)
  | 0 => fun _ _ => none
  | n + 1 => fun m x2 =>
    (if x2 < m.1 620 1 then
      (if x2 < 0 ∨ 4 ≤ x2.toNatClampNeg then none else
       fX11_layLaid_c122 n (wI m 629 x2.toNatClampNeg (m.1 620 0)) (x2 + 1))
     else
      fX11_layLaid_c152 fu m 0)
set_option maxRecDepth 20000 in
theorem ok_fX11_layLaid_c122 : ∀ (n : Nat) (m : mm_MM) (x2 : Int32) (q0 : mm_MM), fX11_layLaid_c122 n m x2 = some q0 → Ev XL xs (d + 7) 272 (ev_M m c w) 122 [(0, .ref 606), (2, .int x2)] [] (fr_v c w q0) := by
  intro n
  induction n with
  | zero => intro m x2 q0 h; exact absurd (show (none : Option (mm_MM)) = some q0 from h) (by simp)
  | succ n ih =>
    intro m x2 q0 h
    unfold fX11_layLaid_c122 at h
    refine ev_i 6 (M1 := ev_M m c w) (pc1 := 132) (lv1 := [(0, .ref 606), (2, .int x2)]) (st1 := []) (M2 := ev_M m c w) (pc2 := 150) (lv2 := [(0, .ref 606), (2, .int x2)]) (st2 := []) (fun n => rfl) h (fun hc1 h => ?_) (fun hc1 h => ?_)
    · refine ev_g 8 (M1 := ev_M (wI m 629 x2.toNatClampNeg (m.1 620 0)) c w) (pc1 := 144) (lv1 := [(0, .ref 606), (2, .int x2)]) (st1 := []) (fun n => rfl) h (fun _ h => ?_)
      refine ev_s 2 (M' := ev_M (wI m 629 x2.toNatClampNeg (m.1 620 0)) c w) (pc' := 122) (lv' := [(2, .int (x2 + 1)), (0, .ref 606)]) (st' := []) (fun n => rfl) ?_
      refine ev_sub (lv := [(0, .ref 606), (2, .int (x2 + 1))]) (mn_of rfl (by repeat (first | exact trivial | refine And.intro rfl ?_))) ?_
      exact ih _ _ _ h
    · refine ev_s 2 (M' := ev_M m c w) (pc' := 152) (lv' := [(2, .int 0), (0, .ref 606)]) (st' := []) (fun n => rfl) ?_
      refine ev_sub (lv := [(0, .ref 606), (2, .int 0)]) (mn_of rfl (by repeat (first | exact trivial | refine And.intro rfl ?_))) ?_
      exact ok_fX11_layLaid_c152 fu _ _ _ h
def fX11_layLaid_c2 : Nat → mm_MM → Int32 → Int32 → Option (mm_MM)
  | 0 => fun _ _ _ => none
  | n + 1 => fun m x1 x2 =>
    (if x2 < 8 then
      fX11_layLaid_c10 (fX11_layLaid_c2 n) fu m x1 x2 0
     else
      fX11_layLaid_c122 fu m 0)
set_option maxRecDepth 20000 in
theorem ok_fX11_layLaid_c2 : ∀ (n : Nat) (m : mm_MM) (x1 : Int32) (x2 : Int32) (q0 : mm_MM), fX11_layLaid_c2 n m x1 x2 = some q0 → Ev XL xs (d + 7) 272 (ev_M m c w) 2 [(0, .ref 606), (1, .int x1), (2, .int x2)] [] (fr_v c w q0) := by
  intro n
  induction n with
  | zero => intro m x1 x2 q0 h; exact absurd (show (none : Option (mm_MM)) = some q0 from h) (by simp)
  | succ n ih =>
    intro m x1 x2 q0 h
    unfold fX11_layLaid_c2 at h
    refine ev_i 3 (M1 := ev_M m c w) (pc1 := 8) (lv1 := [(0, .ref 606), (1, .int x1), (2, .int x2)]) (st1 := []) (M2 := ev_M m c w) (pc2 := 120) (lv2 := [(0, .ref 606), (1, .int x1), (2, .int x2)]) (st2 := []) (fun n => rfl) h (fun hc1 h => ?_) (fun hc1 h => ?_)
    · refine ev_s 2 (M' := ev_M m c w) (pc' := 10) (lv' := [(3, .int 0), (0, .ref 606), (1, .int x1), (2, .int x2)]) (st' := []) (fun n => rfl) ?_
      refine ev_sub (lv := [(0, .ref 606), (1, .int x1), (2, .int x2), (3, .int 0)]) (mn_of rfl (by repeat (first | exact trivial | refine And.intro rfl ?_))) ?_
      exact ok_fX11_layLaid_c10 ih fu _ _ _ _ _ h
    · refine ev_s 2 (M' := ev_M m c w) (pc' := 122) (lv' := [(2, .int 0), (0, .ref 606), (1, .int x1)]) (st' := []) (fun n => rfl) ?_
      refine ev_sub (lv := [(0, .ref 606), (2, .int 0)]) (mn_of rfl (by repeat (first | exact trivial | refine And.intro rfl ?_))) ?_
      exact ok_fX11_layLaid_c122 fu _ _ _ h
def fX11_layLaid (m : mm_MM) (x1 : Int32) : Option (mm_MM) :=
  fX11_layLaid_c2 fu m x1 0
set_option maxRecDepth 20000 in
theorem ok_fX11_layLaid {m : mm_MM} {x1 : Int32} {q0 : mm_MM} (h : fX11_layLaid m x1 = some q0) : Ev XL xs (d + 7) 272 (ev_M m c w) 0 (lv_args 0 [.ref 606, .int x1]) [] (fr_v c w q0) := by
  unfold fX11_layLaid at h
  refine ev_s 2 (M' := ev_M m c w) (pc' := 2) (lv' := [(2, .int 0), (0, .ref 606), (1, .int x1)]) (st' := []) (fun n => rfl) ?_
  refine ev_sub (lv := [(0, .ref 606), (1, .int x1), (2, .int 0)]) (mn_of rfl (by repeat (first | exact trivial | refine And.intro rfl ?_))) ?_
  exact ok_fX11_layLaid_c2 fu _ _ _ _ h
def fX11_way_c214 (kr43 : mm_MM → Int32 → Int32 → Int32 → Option (Int32 × mm_MM)) (kr53 : mm_MM → Int32 → Int32 → Int32 → Int32 → Option (Int32 × mm_MM)) (kr139 : mm_MM → Int32 → Int32 → Int32 → Int32 → Int32 → Int32 → Int32 → Option (Int32 × mm_MM)) (m : mm_MM) (x1 : Int32) (x2 : Int32) (x3 : Int32) (x4 : Int32) (x5 : Int32) (x6 : Int32) (x7 : Int32) (s1 : Int32) (s2 : Int32) : Option (Int32 × mm_MM) :=
  (if s1 < 0 ∨ 2048 ≤ s1.toNatClampNeg then none else
   kr139 (wI m 630 s1.toNatClampNeg s2) x1 x2 x3 x4 x5 x6 (x7 + 1))
set_option maxRecDepth 20000 in
theorem ok_fX11_way_c214 {kr43 : mm_MM → Int32 → Int32 → Int32 → Option (Int32 × mm_MM)} (hkr43 : ∀ (m : mm_MM) (x1 : Int32) (x2 : Int32) (x3 : Int32) (q0 : Int32 × mm_MM), kr43 m x1 x2 x3 = some q0 → Ev XL xs (d + 4) 275 (ev_M m c w) 43 [(0, .ref 606), (1, .int x1), (2, .int x2), (3, .int x3)] [] (fr_i c w q0)) {kr53 : mm_MM → Int32 → Int32 → Int32 → Int32 → Option (Int32 × mm_MM)} (hkr53 : ∀ (m : mm_MM) (x1 : Int32) (x2 : Int32) (x3 : Int32) (x4 : Int32) (q0 : Int32 × mm_MM), kr53 m x1 x2 x3 x4 = some q0 → Ev XL xs (d + 4) 275 (ev_M m c w) 53 [(0, .ref 606), (1, .int x1), (2, .int x2), (3, .int x3), (4, .int x4)] [] (fr_i c w q0)) {kr139 : mm_MM → Int32 → Int32 → Int32 → Int32 → Int32 → Int32 → Int32 → Option (Int32 × mm_MM)} (hkr139 : ∀ (m : mm_MM) (x1 : Int32) (x2 : Int32) (x3 : Int32) (x4 : Int32) (x5 : Int32) (x6 : Int32) (x7 : Int32) (q0 : Int32 × mm_MM), kr139 m x1 x2 x3 x4 x5 x6 x7 = some q0 → Ev XL xs (d + 4) 275 (ev_M m c w) 139 [(0, .ref 606), (1, .int x1), (2, .int x2), (3, .int x3), (4, .int x4), (5, .int x5), (6, .int x6), (7, .int x7)] [] (fr_i c w q0)) {m : mm_MM} {x1 : Int32} {x2 : Int32} {x3 : Int32} {x4 : Int32} {x5 : Int32} {x6 : Int32} {x7 : Int32} {s1 : Int32} {s2 : Int32} {q0 : Int32 × mm_MM} (h : fX11_way_c214 kr43 kr53 kr139 m x1 x2 x3 x4 x5 x6 x7 s1 s2 = some q0) : Ev XL xs (d + 4) 275 (ev_M m c w) 214 [(0, .ref 606), (1, .int x1), (2, .int x2), (3, .int x3), (4, .int x4), (5, .int x5), (6, .int x6), (7, .int x7)] [.int s2, .int s1, .ref 630] (fr_i c w q0) := by
  unfold fX11_way_c214 at h
  refine ev_g 1 (M1 := ev_M (wI m 630 s1.toNatClampNeg s2) c w) (pc1 := 215) (lv1 := [(0, .ref 606), (1, .int x1), (2, .int x2), (3, .int x3), (4, .int x4), (5, .int x5), (6, .int x6), (7, .int x7)]) (st1 := []) (fun n => rfl) h (fun _ h => ?_)
  refine ev_s 2 (M' := ev_M (wI m 630 s1.toNatClampNeg s2) c w) (pc' := 139) (lv' := [(7, .int (x7 + 1)), (0, .ref 606), (1, .int x1), (2, .int x2), (3, .int x3), (4, .int x4), (5, .int x5), (6, .int x6)]) (st' := []) (fun n => rfl) ?_
  refine ev_sub (lv := [(0, .ref 606), (1, .int x1), (2, .int x2), (3, .int x3), (4, .int x4), (5, .int x5), (6, .int x6), (7, .int (x7 + 1))]) (mn_of rfl (by repeat (first | exact trivial | refine And.intro rfl ?_))) ?_
  exact hkr139 _ _ _ _ _ _ _ _ _ h
def fX11_way_c255 (kr43 : mm_MM → Int32 → Int32 → Int32 → Option (Int32 × mm_MM)) (kr53 : mm_MM → Int32 → Int32 → Int32 → Int32 → Option (Int32 × mm_MM)) (m : mm_MM) (x1 : Int32) (x2 : Int32) (x3 : Int32) (x4 : Int32) : Option (Int32 × mm_MM) :=
  kr53 m x1 x2 x3 (x4 + 1)
set_option maxRecDepth 20000 in
theorem ok_fX11_way_c255 {kr43 : mm_MM → Int32 → Int32 → Int32 → Option (Int32 × mm_MM)} (hkr43 : ∀ (m : mm_MM) (x1 : Int32) (x2 : Int32) (x3 : Int32) (q0 : Int32 × mm_MM), kr43 m x1 x2 x3 = some q0 → Ev XL xs (d + 4) 275 (ev_M m c w) 43 [(0, .ref 606), (1, .int x1), (2, .int x2), (3, .int x3)] [] (fr_i c w q0)) {kr53 : mm_MM → Int32 → Int32 → Int32 → Int32 → Option (Int32 × mm_MM)} (hkr53 : ∀ (m : mm_MM) (x1 : Int32) (x2 : Int32) (x3 : Int32) (x4 : Int32) (q0 : Int32 × mm_MM), kr53 m x1 x2 x3 x4 = some q0 → Ev XL xs (d + 4) 275 (ev_M m c w) 53 [(0, .ref 606), (1, .int x1), (2, .int x2), (3, .int x3), (4, .int x4)] [] (fr_i c w q0)) {m : mm_MM} {x1 : Int32} {x2 : Int32} {x3 : Int32} {x4 : Int32} {q0 : Int32 × mm_MM} (h : fX11_way_c255 kr43 kr53 m x1 x2 x3 x4 = some q0) : Ev XL xs (d + 4) 275 (ev_M m c w) 255 [(0, .ref 606), (1, .int x1), (2, .int x2), (3, .int x3), (4, .int x4)] [] (fr_i c w q0) := by
  unfold fX11_way_c255 at h
  refine ev_s 2 (M' := ev_M m c w) (pc' := 53) (lv' := [(4, .int (x4 + 1)), (0, .ref 606), (1, .int x1), (2, .int x2), (3, .int x3)]) (st' := []) (fun n => rfl) ?_
  refine ev_sub (lv := [(0, .ref 606), (1, .int x1), (2, .int x2), (3, .int x3), (4, .int (x4 + 1))]) (mn_of rfl (by repeat (first | exact trivial | refine And.intro rfl ?_))) ?_
  exact hkr53 _ _ _ _ _ _ h
def fX11_way_c254 (kr43 : mm_MM → Int32 → Int32 → Int32 → Option (Int32 × mm_MM)) (kr53 : mm_MM → Int32 → Int32 → Int32 → Int32 → Option (Int32 × mm_MM)) (m : mm_MM) (x1 : Int32) (x3 : Int32) (x4 : Int32) (s0 : Int32) : Option (Int32 × mm_MM) :=
  fX11_way_c255 kr43 kr53 m x1 s0 x3 x4
set_option maxRecDepth 20000 in
theorem ok_fX11_way_c254 {kr43 : mm_MM → Int32 → Int32 → Int32 → Option (Int32 × mm_MM)} (hkr43 : ∀ (m : mm_MM) (x1 : Int32) (x2 : Int32) (x3 : Int32) (q0 : Int32 × mm_MM), kr43 m x1 x2 x3 = some q0 → Ev XL xs (d + 4) 275 (ev_M m c w) 43 [(0, .ref 606), (1, .int x1), (2, .int x2), (3, .int x3)] [] (fr_i c w q0)) {kr53 : mm_MM → Int32 → Int32 → Int32 → Int32 → Option (Int32 × mm_MM)} (hkr53 : ∀ (m : mm_MM) (x1 : Int32) (x2 : Int32) (x3 : Int32) (x4 : Int32) (q0 : Int32 × mm_MM), kr53 m x1 x2 x3 x4 = some q0 → Ev XL xs (d + 4) 275 (ev_M m c w) 53 [(0, .ref 606), (1, .int x1), (2, .int x2), (3, .int x3), (4, .int x4)] [] (fr_i c w q0)) {m : mm_MM} {x1 : Int32} {x3 : Int32} {x4 : Int32} {s0 : Int32} {q0 : Int32 × mm_MM} (h : fX11_way_c254 kr43 kr53 m x1 x3 x4 s0 = some q0) : Ev XL xs (d + 4) 275 (ev_M m c w) 254 [(0, .ref 606), (1, .int x1), (3, .int x3), (4, .int x4)] [.int s0] (fr_i c w q0) := by
  unfold fX11_way_c254 at h
  refine ev_s 1 (M' := ev_M m c w) (pc' := 255) (lv' := [(2, .int s0), (0, .ref 606), (1, .int x1), (3, .int x3), (4, .int x4)]) (st' := []) (fun n => rfl) ?_
  refine ev_sub (lv := [(0, .ref 606), (1, .int x1), (2, .int s0), (3, .int x3), (4, .int x4)]) (mn_of rfl (by repeat (first | exact trivial | refine And.intro rfl ?_))) ?_
  exact ok_fX11_way_c255 hkr43 hkr53 h
def fX11_way_c139 (kr43 : mm_MM → Int32 → Int32 → Int32 → Option (Int32 × mm_MM)) (kr53 : mm_MM → Int32 → Int32 → Int32 → Int32 → Option (Int32 × mm_MM)) : Nat → mm_MM → Int32 → Int32 → Int32 → Int32 → Int32 → Int32 → Int32 → Option (Int32 × mm_MM)
  | 0 => fun _ _ _ _ _ _ _ _ => none
  | n + 1 => fun m x1 x2 x3 x4 x5 x6 x7 =>
    (if x7 < 8 then
      (fX11_has m x6 x7).bind fun r2 =>
       (if r2.1 = 0 then
         (if x5 < 0 ∨ 2048 ≤ x5.toNatClampNeg then none else
          fX11_way_c214 kr43 kr53 (fX11_way_c139 kr43 kr53 n) r2.2 x1 x2 x3 x4 x5 x6 x7 x5 (r2.2.1 630 x5.toNatClampNeg))
        else
         (if x5 < 0 ∨ 2048 ≤ x5.toNatClampNeg then none else
          (if ((8 * x6) + x7) < 0 ∨ 2048 ≤ ((8 * x6) + x7).toNatClampNeg then none else
           (fX11_of r2.2 x7 2).bind fun r4 =>
            (fX11_of r4.2 x4 2).bind fun r5 =>
             (fX11_stepsFrom r5.2 r4.1 r5.1).bind fun r6 =>
              (fJ9_min_7cf53 r6.2 (r2.2.1 630 x5.toNatClampNeg) (r2.2.1 630 (((8 * x6) + x7).toNatClampNeg) + r6.1)).bind fun r7 =>
               fX11_way_c214 kr43 kr53 (fX11_way_c139 kr43 kr53 n) r7.2 x1 x2 x3 x4 x5 x6 x7 x5 r7.1)))
     else
      (if x3 = x1 then
        (if x5 < 0 ∨ 2048 ≤ x5.toNatClampNeg then none else
         (fX11_of m x4 2).bind fun r9 =>
          (fX11_stepsFrom r9.2 r9.1 0).bind fun r10 =>
           (fJ9_min_7cf53 r10.2 x2 (m.1 630 x5.toNatClampNeg + r10.1)).bind fun r11 =>
            fX11_way_c254 kr43 kr53 r11.2 x1 x3 x4 r11.1)
       else
        fX11_way_c254 kr43 kr53 m x1 x3 x4 x2))
set_option maxRecDepth 20000 in
theorem ok_fX11_way_c139 {kr43 : mm_MM → Int32 → Int32 → Int32 → Option (Int32 × mm_MM)} (hkr43 : ∀ (m : mm_MM) (x1 : Int32) (x2 : Int32) (x3 : Int32) (q0 : Int32 × mm_MM), kr43 m x1 x2 x3 = some q0 → Ev XL xs (d + 4) 275 (ev_M m c w) 43 [(0, .ref 606), (1, .int x1), (2, .int x2), (3, .int x3)] [] (fr_i c w q0)) {kr53 : mm_MM → Int32 → Int32 → Int32 → Int32 → Option (Int32 × mm_MM)} (hkr53 : ∀ (m : mm_MM) (x1 : Int32) (x2 : Int32) (x3 : Int32) (x4 : Int32) (q0 : Int32 × mm_MM), kr53 m x1 x2 x3 x4 = some q0 → Ev XL xs (d + 4) 275 (ev_M m c w) 53 [(0, .ref 606), (1, .int x1), (2, .int x2), (3, .int x3), (4, .int x4)] [] (fr_i c w q0)) : ∀ (n : Nat) (m : mm_MM) (x1 : Int32) (x2 : Int32) (x3 : Int32) (x4 : Int32) (x5 : Int32) (x6 : Int32) (x7 : Int32) (q0 : Int32 × mm_MM), fX11_way_c139 kr43 kr53 n m x1 x2 x3 x4 x5 x6 x7 = some q0 → Ev XL xs (d + 4) 275 (ev_M m c w) 139 [(0, .ref 606), (1, .int x1), (2, .int x2), (3, .int x3), (4, .int x4), (5, .int x5), (6, .int x6), (7, .int x7)] [] (fr_i c w q0) := by
  intro n
  induction n with
  | zero => intro m x1 x2 x3 x4 x5 x6 x7 q0 h; exact absurd (show (none : Option (Int32 × mm_MM)) = some q0 from h) (by simp)
  | succ n ih =>
    intro m x1 x2 x3 x4 x5 x6 x7 q0 h
    unfold fX11_way_c139 at h
    refine ev_i 3 (M1 := ev_M m c w) (pc1 := 146) (lv1 := [(0, .ref 606), (1, .int x1), (2, .int x2), (3, .int x3), (4, .int x4), (5, .int x5), (6, .int x6), (7, .int x7)]) (st1 := []) (M2 := ev_M m c w) (pc2 := 221) (lv2 := [(0, .ref 606), (1, .int x1), (2, .int x2), (3, .int x3), (4, .int x4), (5, .int x5), (6, .int x6), (7, .int x7)]) (st2 := []) (fun n => rfl) h (fun hc1 h => ?_) (fun hc1 h => ?_)
    · obtain ⟨r2, hr2, h⟩ := Option.bind_eq_some_iff.mp h
      refine ev_c 6 (y' := 179) (M1 := ev_M m c w) (la := lv_args 0 [.int x6, .int x7]) (rest := [.int x5, .ref 630]) (pc' := 159) (lv' := [(0, .ref 606), (1, .int x1), (2, .int x2), (3, .int x3), (4, .int x4), (5, .int x5), (6, .int x6), (7, .int x7)]) (fun n => rfl) (ok_fX11_has hr2) ?_
      show Ev XL xs _ 275 (ev_M r2.2 c w) 159 [(0, .ref 606), (1, .int x1), (2, .int x2), (3, .int x3), (4, .int x4), (5, .int x5), (6, .int x6), (7, .int x7)] [.int r2.1, .int x5, .ref 630] _
      refine ev_i 1 (M1 := ev_M r2.2 c w) (pc1 := 207) (lv1 := [(0, .ref 606), (1, .int x1), (2, .int x2), (3, .int x3), (4, .int x4), (5, .int x5), (6, .int x6), (7, .int x7)]) (st1 := [.int x5, .ref 630]) (M2 := ev_M r2.2 c w) (pc2 := 162) (lv2 := [(0, .ref 606), (1, .int x1), (2, .int x2), (3, .int x3), (4, .int x4), (5, .int x5), (6, .int x6), (7, .int x7)]) (st2 := [.int x5, .ref 630]) (fun n => rfl) h (fun hc3 h => ?_) (fun hc3 h => ?_)
      · refine ev_g 4 (M1 := ev_M r2.2 c w) (pc1 := 214) (lv1 := [(0, .ref 606), (1, .int x1), (2, .int x2), (3, .int x3), (4, .int x4), (5, .int x5), (6, .int x6), (7, .int x7)]) (st1 := [.int (r2.2.1 630 x5.toNatClampNeg), .int x5, .ref 630]) (fun n => rfl) h (fun _ h => ?_)
        exact ok_fX11_way_c214 hkr43 hkr53 ih h
      · refine ev_g 4 (M1 := ev_M r2.2 c w) (pc1 := 169) (lv1 := [(0, .ref 606), (1, .int x1), (2, .int x2), (3, .int x3), (4, .int x4), (5, .int x5), (6, .int x6), (7, .int x7)]) (st1 := [.int (r2.2.1 630 x5.toNatClampNeg), .int x5, .ref 630]) (fun n => rfl) h (fun _ h => ?_)
        refine ev_s 7 (M' := ev_M r2.2 c w) (pc' := 181) (lv' := [(0, .ref 606), (1, .int x1), (2, .int x2), (3, .int x3), (4, .int x4), (5, .int x5), (6, .int x6), (7, .int x7)]) (st' := [.int ((8 * x6) + x7), .ref 630, .int (r2.2.1 630 x5.toNatClampNeg), .int x5, .ref 630]) (fun n => rfl) ?_
        refine ev_g 1 (M1 := ev_M r2.2 c w) (pc1 := 182) (lv1 := [(0, .ref 606), (1, .int x1), (2, .int x2), (3, .int x3), (4, .int x4), (5, .int x5), (6, .int x6), (7, .int x7)]) (st1 := [.int (r2.2.1 630 (((8 * x6) + x7).toNatClampNeg)), .int (r2.2.1 630 x5.toNatClampNeg), .int x5, .ref 630]) (fun n => rfl) h (fun _ h => ?_)
        obtain ⟨r4, hr4, h⟩ := Option.bind_eq_some_iff.mp h
        refine ev_c 5 (y' := 220) (M1 := ev_M r2.2 c w) (la := lv_args 0 [.ref 606, .int x7, .int 2]) (rest := [.ref 606, .int (r2.2.1 630 (((8 * x6) + x7).toNatClampNeg)), .int (r2.2.1 630 x5.toNatClampNeg), .int x5, .ref 630]) (pc' := 190) (lv' := [(0, .ref 606), (1, .int x1), (2, .int x2), (3, .int x3), (4, .int x4), (5, .int x5), (6, .int x6), (7, .int x7)]) (fun n => rfl) (ok_fX11_of hr4) ?_
        show Ev XL xs _ 275 (ev_M r4.2 c w) 190 [(0, .ref 606), (1, .int x1), (2, .int x2), (3, .int x3), (4, .int x4), (5, .int x5), (6, .int x6), (7, .int x7)] [.int r4.1, .ref 606, .int (r2.2.1 630 (((8 * x6) + x7).toNatClampNeg)), .int (r2.2.1 630 x5.toNatClampNeg), .int x5, .ref 630] _
        obtain ⟨r5, hr5, h⟩ := Option.bind_eq_some_iff.mp h
        refine ev_c 4 (y' := 220) (M1 := ev_M r4.2 c w) (la := lv_args 0 [.ref 606, .int x4, .int 2]) (rest := [.int r4.1, .ref 606, .int (r2.2.1 630 (((8 * x6) + x7).toNatClampNeg)), .int (r2.2.1 630 x5.toNatClampNeg), .int x5, .ref 630]) (pc' := 197) (lv' := [(0, .ref 606), (1, .int x1), (2, .int x2), (3, .int x3), (4, .int x4), (5, .int x5), (6, .int x6), (7, .int x7)]) (fun n => rfl) (ok_fX11_of hr5) ?_
        show Ev XL xs _ 275 (ev_M r5.2 c w) 197 [(0, .ref 606), (1, .int x1), (2, .int x2), (3, .int x3), (4, .int x4), (5, .int x5), (6, .int x6), (7, .int x7)] [.int r5.1, .int r4.1, .ref 606, .int (r2.2.1 630 (((8 * x6) + x7).toNatClampNeg)), .int (r2.2.1 630 x5.toNatClampNeg), .int x5, .ref 630] _
        obtain ⟨r6, hr6, h⟩ := Option.bind_eq_some_iff.mp h
        refine ev_c 1 (y' := 233) (M1 := ev_M r5.2 c w) (la := lv_args 0 [.ref 606, .int r4.1, .int r5.1]) (rest := [.int (r2.2.1 630 (((8 * x6) + x7).toNatClampNeg)), .int (r2.2.1 630 x5.toNatClampNeg), .int x5, .ref 630]) (pc' := 200) (lv' := [(0, .ref 606), (1, .int x1), (2, .int x2), (3, .int x3), (4, .int x4), (5, .int x5), (6, .int x6), (7, .int x7)]) (fun n => rfl) (ok_fX11_stepsFrom hr6) ?_
        show Ev XL xs _ 275 (ev_M r6.2 c w) 200 [(0, .ref 606), (1, .int x1), (2, .int x2), (3, .int x3), (4, .int x4), (5, .int x5), (6, .int x6), (7, .int x7)] [.int r6.1, .int (r2.2.1 630 (((8 * x6) + x7).toNatClampNeg)), .int (r2.2.1 630 x5.toNatClampNeg), .int x5, .ref 630] _
        obtain ⟨r7, hr7, h⟩ := Option.bind_eq_some_iff.mp h
        refine ev_c 2 (y' := 308) (M1 := ev_M r6.2 c w) (la := lv_args 0 [.int (r2.2.1 630 x5.toNatClampNeg), .int (r2.2.1 630 (((8 * x6) + x7).toNatClampNeg) + r6.1)]) (rest := [.int x5, .ref 630]) (pc' := 204) (lv' := [(0, .ref 606), (1, .int x1), (2, .int x2), (3, .int x3), (4, .int x4), (5, .int x5), (6, .int x6), (7, .int x7)]) (fun n => rfl) (ok_fJ9_min_7cf53 hr7) ?_
        show Ev XL xs _ 275 (ev_M r7.2 c w) 204 [(0, .ref 606), (1, .int x1), (2, .int x2), (3, .int x3), (4, .int x4), (5, .int x5), (6, .int x6), (7, .int x7)] [.int r7.1, .int x5, .ref 630] _
        refine ev_s 1 (M' := ev_M r7.2 c w) (pc' := 214) (lv' := [(0, .ref 606), (1, .int x1), (2, .int x2), (3, .int x3), (4, .int x4), (5, .int x5), (6, .int x6), (7, .int x7)]) (st' := [.int r7.1, .int x5, .ref 630]) (fun n => rfl) ?_
        exact ok_fX11_way_c214 hkr43 hkr53 ih h
    · refine ev_i 3 (M1 := ev_M m c w) (pc1 := 226) (lv1 := [(0, .ref 606), (1, .int x1), (2, .int x2), (3, .int x3), (4, .int x4), (5, .int x5), (6, .int x6), (7, .int x7)]) (st1 := []) (M2 := ev_M m c w) (pc2 := 253) (lv2 := [(0, .ref 606), (1, .int x1), (2, .int x2), (3, .int x3), (4, .int x4), (5, .int x5), (6, .int x6), (7, .int x7)]) (st2 := []) (fun n => rfl) h (fun hc8 h => ?_) (fun hc8 h => ?_)
      · refine ev_g 5 (M1 := ev_M m c w) (pc1 := 234) (lv1 := [(0, .ref 606), (1, .int x1), (2, .int x2), (3, .int x3), (4, .int x4), (5, .int x5), (6, .int x6), (7, .int x7)]) (st1 := [.int (m.1 630 x5.toNatClampNeg), .int x2]) (fun n => rfl) h (fun _ h => ?_)
        obtain ⟨r9, hr9, h⟩ := Option.bind_eq_some_iff.mp h
        refine ev_c 5 (y' := 220) (M1 := ev_M m c w) (la := lv_args 0 [.ref 606, .int x4, .int 2]) (rest := [.ref 606, .int (m.1 630 x5.toNatClampNeg), .int x2]) (pc' := 242) (lv' := [(0, .ref 606), (1, .int x1), (2, .int x2), (3, .int x3), (4, .int x4), (5, .int x5), (6, .int x6), (7, .int x7)]) (fun n => rfl) (ok_fX11_of hr9) ?_
        show Ev XL xs _ 275 (ev_M r9.2 c w) 242 [(0, .ref 606), (1, .int x1), (2, .int x2), (3, .int x3), (4, .int x4), (5, .int x5), (6, .int x6), (7, .int x7)] [.int r9.1, .ref 606, .int (m.1 630 x5.toNatClampNeg), .int x2] _
        obtain ⟨r10, hr10, h⟩ := Option.bind_eq_some_iff.mp h
        refine ev_c 2 (y' := 233) (M1 := ev_M r9.2 c w) (la := lv_args 0 [.ref 606, .int r9.1, .int 0]) (rest := [.int (m.1 630 x5.toNatClampNeg), .int x2]) (pc' := 246) (lv' := [(0, .ref 606), (1, .int x1), (2, .int x2), (3, .int x3), (4, .int x4), (5, .int x5), (6, .int x6), (7, .int x7)]) (fun n => rfl) (ok_fX11_stepsFrom hr10) ?_
        show Ev XL xs _ 275 (ev_M r10.2 c w) 246 [(0, .ref 606), (1, .int x1), (2, .int x2), (3, .int x3), (4, .int x4), (5, .int x5), (6, .int x6), (7, .int x7)] [.int r10.1, .int (m.1 630 x5.toNatClampNeg), .int x2] _
        obtain ⟨r11, hr11, h⟩ := Option.bind_eq_some_iff.mp h
        refine ev_c 2 (y' := 308) (M1 := ev_M r10.2 c w) (la := lv_args 0 [.int x2, .int (m.1 630 x5.toNatClampNeg + r10.1)]) (rest := []) (pc' := 250) (lv' := [(0, .ref 606), (1, .int x1), (2, .int x2), (3, .int x3), (4, .int x4), (5, .int x5), (6, .int x6), (7, .int x7)]) (fun n => rfl) (ok_fJ9_min_7cf53 hr11) ?_
        show Ev XL xs _ 275 (ev_M r11.2 c w) 250 [(0, .ref 606), (1, .int x1), (2, .int x2), (3, .int x3), (4, .int x4), (5, .int x5), (6, .int x6), (7, .int x7)] [.int r11.1] _
        refine ev_s 1 (M' := ev_M r11.2 c w) (pc' := 254) (lv' := [(0, .ref 606), (1, .int x1), (2, .int x2), (3, .int x3), (4, .int x4), (5, .int x5), (6, .int x6), (7, .int x7)]) (st' := [.int r11.1]) (fun n => rfl) ?_
        refine ev_sub (lv := [(0, .ref 606), (1, .int x1), (3, .int x3), (4, .int x4)]) (mn_of rfl (by repeat (first | exact trivial | refine And.intro rfl ?_))) ?_
        exact ok_fX11_way_c254 hkr43 hkr53 h
      · refine ev_s 1 (M' := ev_M m c w) (pc' := 254) (lv' := [(0, .ref 606), (1, .int x1), (2, .int x2), (3, .int x3), (4, .int x4), (5, .int x5), (6, .int x6), (7, .int x7)]) (st' := [.int x2]) (fun n => rfl) ?_
        refine ev_sub (lv := [(0, .ref 606), (1, .int x1), (3, .int x3), (4, .int x4)]) (mn_of rfl (by repeat (first | exact trivial | refine And.intro rfl ?_))) ?_
        exact ok_fX11_way_c254 hkr43 hkr53 h
def fX11_way_c135 (kr43 : mm_MM → Int32 → Int32 → Int32 → Option (Int32 × mm_MM)) (kr53 : mm_MM → Int32 → Int32 → Int32 → Int32 → Option (Int32 × mm_MM)) (m : mm_MM) (x1 : Int32) (x2 : Int32) (x3 : Int32) (x4 : Int32) (x5 : Int32) (x6 : Int32) (s1 : Int32) (s2 : Int32) : Option (Int32 × mm_MM) :=
  (if s1 < 0 ∨ 2048 ≤ s1.toNatClampNeg then none else
   fX11_way_c139 kr43 kr53 fu (wI m 630 s1.toNatClampNeg s2) x1 x2 x3 x4 x5 x6 0)
set_option maxRecDepth 20000 in
theorem ok_fX11_way_c135 {kr43 : mm_MM → Int32 → Int32 → Int32 → Option (Int32 × mm_MM)} (hkr43 : ∀ (m : mm_MM) (x1 : Int32) (x2 : Int32) (x3 : Int32) (q0 : Int32 × mm_MM), kr43 m x1 x2 x3 = some q0 → Ev XL xs (d + 4) 275 (ev_M m c w) 43 [(0, .ref 606), (1, .int x1), (2, .int x2), (3, .int x3)] [] (fr_i c w q0)) {kr53 : mm_MM → Int32 → Int32 → Int32 → Int32 → Option (Int32 × mm_MM)} (hkr53 : ∀ (m : mm_MM) (x1 : Int32) (x2 : Int32) (x3 : Int32) (x4 : Int32) (q0 : Int32 × mm_MM), kr53 m x1 x2 x3 x4 = some q0 → Ev XL xs (d + 4) 275 (ev_M m c w) 53 [(0, .ref 606), (1, .int x1), (2, .int x2), (3, .int x3), (4, .int x4)] [] (fr_i c w q0)) {m : mm_MM} {x1 : Int32} {x2 : Int32} {x3 : Int32} {x4 : Int32} {x5 : Int32} {x6 : Int32} {s1 : Int32} {s2 : Int32} {q0 : Int32 × mm_MM} (h : fX11_way_c135 kr43 kr53 m x1 x2 x3 x4 x5 x6 s1 s2 = some q0) : Ev XL xs (d + 4) 275 (ev_M m c w) 135 [(0, .ref 606), (1, .int x1), (2, .int x2), (3, .int x3), (4, .int x4), (5, .int x5), (6, .int x6)] [.int s2, .int s1, .ref 630] (fr_i c w q0) := by
  unfold fX11_way_c135 at h
  refine ev_g 1 (M1 := ev_M (wI m 630 s1.toNatClampNeg s2) c w) (pc1 := 136) (lv1 := [(0, .ref 606), (1, .int x1), (2, .int x2), (3, .int x3), (4, .int x4), (5, .int x5), (6, .int x6)]) (st1 := []) (fun n => rfl) h (fun _ h => ?_)
  refine ev_s 2 (M' := ev_M (wI m 630 s1.toNatClampNeg s2) c w) (pc' := 139) (lv' := [(7, .int 0), (0, .ref 606), (1, .int x1), (2, .int x2), (3, .int x3), (4, .int x4), (5, .int x5), (6, .int x6)]) (st' := []) (fun n => rfl) ?_
  refine ev_sub (lv := [(0, .ref 606), (1, .int x1), (2, .int x2), (3, .int x3), (4, .int x4), (5, .int x5), (6, .int x6), (7, .int 0)]) (mn_of rfl (by repeat (first | exact trivial | refine And.intro rfl ?_))) ?_
  exact ok_fX11_way_c139 hkr43 hkr53 fu _ _ _ _ _ _ _ _ _ h
def fX11_way_c53 (kr43 : mm_MM → Int32 → Int32 → Int32 → Option (Int32 × mm_MM)) : Nat → mm_MM → Int32 → Int32 → Int32 → Int32 → Option (Int32 × mm_MM)
  | 0 => fun _ _ _ _ _ => none
  | n + 1 => fun m x1 x2 x3 x4 =>
    (if x4 < 8 then
      (if ((8 * x3) + x4) < 0 ∨ 2048 ≤ ((8 * x3) + x4).toNatClampNeg then none else
       (if (x3 &&& (x1 ^^^ ((-1) : Int32))) = 0 then
         (fX11_has (wI m 630 (((8 * x3) + x4).toNatClampNeg) 1000000) x3 x4).bind fun r3 =>
          (if r3.1 = 0 then
            fX11_way_c255 kr43 (fX11_way_c53 kr43 n) r3.2 x1 x2 x3 x4
           else
            (if (x3 &&& (((1 : Int32) <<< (x4 &&& 31)) ^^^ ((-1) : Int32))) = 0 then
              (fX11_of r3.2 x4 2).bind fun r6 =>
               (fX11_stepsFrom r6.2 0 r6.1).bind fun r7 =>
                fX11_way_c135 kr43 (fX11_way_c53 kr43 n) r7.2 x1 x2 x3 x4 ((8 * x3) + x4) (x3 &&& (((1 : Int32) <<< (x4 &&& 31)) ^^^ ((-1) : Int32))) ((8 * x3) + x4) r7.1
             else
              fX11_way_c135 kr43 (fX11_way_c53 kr43 n) r3.2 x1 x2 x3 x4 ((8 * x3) + x4) (x3 &&& (((1 : Int32) <<< (x4 &&& 31)) ^^^ ((-1) : Int32))) ((8 * x3) + x4) 1000000))
        else
         fX11_way_c255 kr43 (fX11_way_c53 kr43 n) (wI m 630 (((8 * x3) + x4).toNatClampNeg) 1000000) x1 x2 x3 x4))
     else
      kr43 m x1 x2 (x3 + 1))
set_option maxRecDepth 20000 in
theorem ok_fX11_way_c53 {kr43 : mm_MM → Int32 → Int32 → Int32 → Option (Int32 × mm_MM)} (hkr43 : ∀ (m : mm_MM) (x1 : Int32) (x2 : Int32) (x3 : Int32) (q0 : Int32 × mm_MM), kr43 m x1 x2 x3 = some q0 → Ev XL xs (d + 4) 275 (ev_M m c w) 43 [(0, .ref 606), (1, .int x1), (2, .int x2), (3, .int x3)] [] (fr_i c w q0)) : ∀ (n : Nat) (m : mm_MM) (x1 : Int32) (x2 : Int32) (x3 : Int32) (x4 : Int32) (q0 : Int32 × mm_MM), fX11_way_c53 kr43 n m x1 x2 x3 x4 = some q0 → Ev XL xs (d + 4) 275 (ev_M m c w) 53 [(0, .ref 606), (1, .int x1), (2, .int x2), (3, .int x3), (4, .int x4)] [] (fr_i c w q0) := by
  intro n
  induction n with
  | zero => intro m x1 x2 x3 x4 q0 h; exact absurd (show (none : Option (Int32 × mm_MM)) = some q0 from h) (by simp)
  | succ n ih =>
    intro m x1 x2 x3 x4 q0 h
    unfold fX11_way_c53 at h
    refine ev_i 3 (M1 := ev_M m c w) (pc1 := 60) (lv1 := [(0, .ref 606), (1, .int x1), (2, .int x2), (3, .int x3), (4, .int x4)]) (st1 := []) (M2 := ev_M m c w) (pc2 := 261) (lv2 := [(0, .ref 606), (1, .int x1), (2, .int x2), (3, .int x3), (4, .int x4)]) (st2 := []) (fun n => rfl) h (fun hc1 h => ?_) (fun hc1 h => ?_)
    · refine ev_g 19 (M1 := ev_M (wI m 630 (((8 * x3) + x4).toNatClampNeg) 1000000) c w) (pc1 := 89) (lv1 := [(6, .int (x3 &&& (((1 : Int32) <<< (x4 &&& 31)) ^^^ ((-1) : Int32)))), (5, .int ((8 * x3) + x4)), (0, .ref 606), (1, .int x1), (2, .int x2), (3, .int x3), (4, .int x4)]) (st1 := []) (fun n => rfl) h (fun _ h => ?_)
      refine ev_i 6 (M1 := ev_M (wI m 630 (((8 * x3) + x4).toNatClampNeg) 1000000) c w) (pc1 := 97) (lv1 := [(6, .int (x3 &&& (((1 : Int32) <<< (x4 &&& 31)) ^^^ ((-1) : Int32)))), (5, .int ((8 * x3) + x4)), (0, .ref 606), (1, .int x1), (2, .int x2), (3, .int x3), (4, .int x4)]) (st1 := []) (M2 := ev_M (wI m 630 (((8 * x3) + x4).toNatClampNeg) 1000000) c w) (pc2 := 255) (lv2 := [(6, .int (x3 &&& (((1 : Int32) <<< (x4 &&& 31)) ^^^ ((-1) : Int32)))), (5, .int ((8 * x3) + x4)), (0, .ref 606), (1, .int x1), (2, .int x2), (3, .int x3), (4, .int x4)]) (st2 := []) (fun n => rfl) h (fun hc2 h => ?_) (fun hc2 h => ?_)
      · obtain ⟨r3, hr3, h⟩ := Option.bind_eq_some_iff.mp h
        refine ev_c 3 (y' := 179) (M1 := ev_M (wI m 630 (((8 * x3) + x4).toNatClampNeg) 1000000) c w) (la := lv_args 0 [.int x3, .int x4]) (rest := []) (pc' := 103) (lv' := [(6, .int (x3 &&& (((1 : Int32) <<< (x4 &&& 31)) ^^^ ((-1) : Int32)))), (5, .int ((8 * x3) + x4)), (0, .ref 606), (1, .int x1), (2, .int x2), (3, .int x3), (4, .int x4)]) (fun n => rfl) (ok_fX11_has hr3) ?_
        show Ev XL xs _ 275 (ev_M r3.2 c w) 103 [(6, .int (x3 &&& (((1 : Int32) <<< (x4 &&& 31)) ^^^ ((-1) : Int32)))), (5, .int ((8 * x3) + x4)), (0, .ref 606), (1, .int x1), (2, .int x2), (3, .int x3), (4, .int x4)] [.int r3.1] _
        refine ev_i 1 (M1 := ev_M r3.2 c w) (pc1 := 255) (lv1 := [(6, .int (x3 &&& (((1 : Int32) <<< (x4 &&& 31)) ^^^ ((-1) : Int32)))), (5, .int ((8 * x3) + x4)), (0, .ref 606), (1, .int x1), (2, .int x2), (3, .int x3), (4, .int x4)]) (st1 := []) (M2 := ev_M r3.2 c w) (pc2 := 106) (lv2 := [(6, .int (x3 &&& (((1 : Int32) <<< (x4 &&& 31)) ^^^ ((-1) : Int32)))), (5, .int ((8 * x3) + x4)), (0, .ref 606), (1, .int x1), (2, .int x2), (3, .int x3), (4, .int x4)]) (st2 := []) (fun n => rfl) h (fun hc4 h => ?_) (fun hc4 h => ?_)
        · refine ev_sub (lv := [(0, .ref 606), (1, .int x1), (2, .int x2), (3, .int x3), (4, .int x4)]) (mn_of rfl (by repeat (first | exact trivial | refine And.intro rfl ?_))) ?_
          exact ok_fX11_way_c255 hkr43 ih h
        · refine ev_i 5 (M1 := ev_M r3.2 c w) (pc1 := 117) (lv1 := [(6, .int (x3 &&& (((1 : Int32) <<< (x4 &&& 31)) ^^^ ((-1) : Int32)))), (5, .int ((8 * x3) + x4)), (0, .ref 606), (1, .int x1), (2, .int x2), (3, .int x3), (4, .int x4)]) (st1 := [.int ((8 * x3) + x4), .ref 630]) (M2 := ev_M r3.2 c w) (pc2 := 132) (lv2 := [(6, .int (x3 &&& (((1 : Int32) <<< (x4 &&& 31)) ^^^ ((-1) : Int32)))), (5, .int ((8 * x3) + x4)), (0, .ref 606), (1, .int x1), (2, .int x2), (3, .int x3), (4, .int x4)]) (st2 := [.int ((8 * x3) + x4), .ref 630]) (fun n => rfl) h (fun hc5 h => ?_) (fun hc5 h => ?_)
          · obtain ⟨r6, hr6, h⟩ := Option.bind_eq_some_iff.mp h
            refine ev_c 6 (y' := 220) (M1 := ev_M r3.2 c w) (la := lv_args 0 [.ref 606, .int x4, .int 2]) (rest := [.int 0, .ref 606, .int ((8 * x3) + x4), .ref 630]) (pc' := 126) (lv' := [(6, .int (x3 &&& (((1 : Int32) <<< (x4 &&& 31)) ^^^ ((-1) : Int32)))), (5, .int ((8 * x3) + x4)), (0, .ref 606), (1, .int x1), (2, .int x2), (3, .int x3), (4, .int x4)]) (fun n => rfl) (ok_fX11_of hr6) ?_
            show Ev XL xs _ 275 (ev_M r6.2 c w) 126 [(6, .int (x3 &&& (((1 : Int32) <<< (x4 &&& 31)) ^^^ ((-1) : Int32)))), (5, .int ((8 * x3) + x4)), (0, .ref 606), (1, .int x1), (2, .int x2), (3, .int x3), (4, .int x4)] [.int r6.1, .int 0, .ref 606, .int ((8 * x3) + x4), .ref 630] _
            obtain ⟨r7, hr7, h⟩ := Option.bind_eq_some_iff.mp h
            refine ev_c 1 (y' := 233) (M1 := ev_M r6.2 c w) (la := lv_args 0 [.ref 606, .int 0, .int r6.1]) (rest := [.int ((8 * x3) + x4), .ref 630]) (pc' := 129) (lv' := [(6, .int (x3 &&& (((1 : Int32) <<< (x4 &&& 31)) ^^^ ((-1) : Int32)))), (5, .int ((8 * x3) + x4)), (0, .ref 606), (1, .int x1), (2, .int x2), (3, .int x3), (4, .int x4)]) (fun n => rfl) (ok_fX11_stepsFrom hr7) ?_
            show Ev XL xs _ 275 (ev_M r7.2 c w) 129 [(6, .int (x3 &&& (((1 : Int32) <<< (x4 &&& 31)) ^^^ ((-1) : Int32)))), (5, .int ((8 * x3) + x4)), (0, .ref 606), (1, .int x1), (2, .int x2), (3, .int x3), (4, .int x4)] [.int r7.1, .int ((8 * x3) + x4), .ref 630] _
            refine ev_s 1 (M' := ev_M r7.2 c w) (pc' := 135) (lv' := [(6, .int (x3 &&& (((1 : Int32) <<< (x4 &&& 31)) ^^^ ((-1) : Int32)))), (5, .int ((8 * x3) + x4)), (0, .ref 606), (1, .int x1), (2, .int x2), (3, .int x3), (4, .int x4)]) (st' := [.int r7.1, .int ((8 * x3) + x4), .ref 630]) (fun n => rfl) ?_
            refine ev_sub (lv := [(0, .ref 606), (1, .int x1), (2, .int x2), (3, .int x3), (4, .int x4), (5, .int ((8 * x3) + x4)), (6, .int (x3 &&& (((1 : Int32) <<< (x4 &&& 31)) ^^^ ((-1) : Int32))))]) (mn_of rfl (by repeat (first | exact trivial | refine And.intro rfl ?_))) ?_
            exact ok_fX11_way_c135 hkr43 ih h
          · refine ev_s 1 (M' := ev_M r3.2 c w) (pc' := 135) (lv' := [(6, .int (x3 &&& (((1 : Int32) <<< (x4 &&& 31)) ^^^ ((-1) : Int32)))), (5, .int ((8 * x3) + x4)), (0, .ref 606), (1, .int x1), (2, .int x2), (3, .int x3), (4, .int x4)]) (st' := [.int 1000000, .int ((8 * x3) + x4), .ref 630]) (fun n => rfl) ?_
            refine ev_sub (lv := [(0, .ref 606), (1, .int x1), (2, .int x2), (3, .int x3), (4, .int x4), (5, .int ((8 * x3) + x4)), (6, .int (x3 &&& (((1 : Int32) <<< (x4 &&& 31)) ^^^ ((-1) : Int32))))]) (mn_of rfl (by repeat (first | exact trivial | refine And.intro rfl ?_))) ?_
            exact ok_fX11_way_c135 hkr43 ih h
      · refine ev_sub (lv := [(0, .ref 606), (1, .int x1), (2, .int x2), (3, .int x3), (4, .int x4)]) (mn_of rfl (by repeat (first | exact trivial | refine And.intro rfl ?_))) ?_
        exact ok_fX11_way_c255 hkr43 ih h
    · refine ev_s 2 (M' := ev_M m c w) (pc' := 43) (lv' := [(3, .int (x3 + 1)), (0, .ref 606), (1, .int x1), (2, .int x2), (4, .int x4)]) (st' := []) (fun n => rfl) ?_
      refine ev_sub (lv := [(0, .ref 606), (1, .int x1), (2, .int x2), (3, .int (x3 + 1))]) (mn_of rfl (by repeat (first | exact trivial | refine And.intro rfl ?_))) ?_
      exact hkr43 _ _ _ _ _ h
def fX11_way_c43 : Nat → mm_MM → Int32 → Int32 → Int32 → Option (Int32 × mm_MM)
  | 0 => fun _ _ _ _ => none
  | n + 1 => fun m x1 x2 x3 =>
    (if x3 < 256 then
      fX11_way_c53 (fX11_way_c43 n) fu m x1 x2 x3 0
     else
      some (x2, m))
set_option maxRecDepth 20000 in
theorem ok_fX11_way_c43 : ∀ (n : Nat) (m : mm_MM) (x1 : Int32) (x2 : Int32) (x3 : Int32) (q0 : Int32 × mm_MM), fX11_way_c43 n m x1 x2 x3 = some q0 → Ev XL xs (d + 4) 275 (ev_M m c w) 43 [(0, .ref 606), (1, .int x1), (2, .int x2), (3, .int x3)] [] (fr_i c w q0) := by
  intro n
  induction n with
  | zero => intro m x1 x2 x3 q0 h; exact absurd (show (none : Option (Int32 × mm_MM)) = some q0 from h) (by simp)
  | succ n ih =>
    intro m x1 x2 x3 q0 h
    unfold fX11_way_c43 at h
    refine ev_i 3 (M1 := ev_M m c w) (pc1 := 50) (lv1 := [(0, .ref 606), (1, .int x1), (2, .int x2), (3, .int x3)]) (st1 := []) (M2 := ev_M m c w) (pc2 := 267) (lv2 := [(0, .ref 606), (1, .int x1), (2, .int x2), (3, .int x3)]) (st2 := []) (fun n => rfl) h (fun hc1 h => ?_) (fun hc1 h => ?_)
    · refine ev_s 2 (M' := ev_M m c w) (pc' := 53) (lv' := [(4, .int 0), (0, .ref 606), (1, .int x1), (2, .int x2), (3, .int x3)]) (st' := []) (fun n => rfl) ?_
      refine ev_sub (lv := [(0, .ref 606), (1, .int x1), (2, .int x2), (3, .int x3), (4, .int 0)]) (mn_of rfl (by repeat (first | exact trivial | refine And.intro rfl ?_))) ?_
      exact ok_fX11_way_c53 ih fu _ _ _ _ _ _ h
    · cases h
      exact ev_r 2 (fun n => rfl)
def fX11_way_c40 (m : mm_MM) (x1 : Int32) (s0 : Int32) : Option (Int32 × mm_MM) :=
  fX11_way_c43 fu m x1 s0 1
set_option maxRecDepth 20000 in
theorem ok_fX11_way_c40 {m : mm_MM} {x1 : Int32} {s0 : Int32} {q0 : Int32 × mm_MM} (h : fX11_way_c40 m x1 s0 = some q0) : Ev XL xs (d + 4) 275 (ev_M m c w) 40 [(0, .ref 606), (1, .int x1)] [.int s0] (fr_i c w q0) := by
  unfold fX11_way_c40 at h
  refine ev_s 3 (M' := ev_M m c w) (pc' := 43) (lv' := [(3, .int 1), (2, .int s0), (0, .ref 606), (1, .int x1)]) (st' := []) (fun n => rfl) ?_
  refine ev_sub (lv := [(0, .ref 606), (1, .int x1), (2, .int s0), (3, .int 1)]) (mn_of rfl (by repeat (first | exact trivial | refine And.intro rfl ?_))) ?_
  exact ok_fX11_way_c43 fu _ _ _ _ _ h
def fX11_way (m : mm_MM) : Option (Int32 × mm_MM) :=
  (if m.1 606 26 = 0 then
    some (((-1) : Int32), m)
   else
    (fX11_onesWho m 1).bind fun r2 =>
     (fX11_onesWho r2.2 2).bind fun r3 =>
      (fX11_onesWho r3.2 3).bind fun r4 =>
       (if ((r2.1 &&& r3.1) &&& (r4.1 ^^^ ((-1) : Int32))) = 0 then
         fX11_way_c40 r4.2 ((r2.1 &&& r3.1) &&& (r4.1 ^^^ ((-1) : Int32))) 0
        else
         fX11_way_c40 r4.2 ((r2.1 &&& r3.1) &&& (r4.1 ^^^ ((-1) : Int32))) 1000000))
set_option maxRecDepth 20000 in
theorem ok_fX11_way {m : mm_MM} {q0 : Int32 × mm_MM} (h : fX11_way m = some q0) : Ev XL xs (d + 4) 275 (ev_M m c w) 0 (lv_args 0 [.ref 606]) [] (fr_i c w q0) := by
  unfold fX11_way at h
  refine ev_i 3 (M1 := ev_M m c w) (pc1 := 7) (lv1 := [(0, .ref 606)]) (st1 := []) (M2 := ev_M m c w) (pc2 := 9) (lv2 := [(0, .ref 606)]) (st2 := []) (fun n => rfl) h (fun hc1 h => ?_) (fun hc1 h => ?_)
  · cases h
    exact ev_r 2 (fun n => rfl)
  · obtain ⟨r2, hr2, h⟩ := Option.bind_eq_some_iff.mp h
    refine ev_c 3 (y' := 238) (M1 := ev_M m c w) (la := lv_args 0 [.ref 606, .int 1]) (rest := []) (pc' := 14) (lv' := [(0, .ref 606)]) (fun n => rfl) (ok_fX11_onesWho hr2) ?_
    show Ev XL xs _ 275 (ev_M r2.2 c w) 14 [(0, .ref 606)] [.int r2.1] _
    obtain ⟨r3, hr3, h⟩ := Option.bind_eq_some_iff.mp h
    refine ev_c 3 (y' := 238) (M1 := ev_M r2.2 c w) (la := lv_args 0 [.ref 606, .int 2]) (rest := [.int r2.1]) (pc' := 19) (lv' := [(0, .ref 606)]) (fun n => rfl) (ok_fX11_onesWho hr3) ?_
    show Ev XL xs _ 275 (ev_M r3.2 c w) 19 [(0, .ref 606)] [.int r3.1, .int r2.1] _
    obtain ⟨r4, hr4, h⟩ := Option.bind_eq_some_iff.mp h
    refine ev_c 4 (y' := 238) (M1 := ev_M r3.2 c w) (la := lv_args 0 [.ref 606, .int 3]) (rest := [.int (r2.1 &&& r3.1)]) (pc' := 25) (lv' := [(0, .ref 606)]) (fun n => rfl) (ok_fX11_onesWho hr4) ?_
    show Ev XL xs _ 275 (ev_M r4.2 c w) 25 [(0, .ref 606)] [.int r4.1, .int (r2.1 &&& r3.1)] _
    refine ev_i 6 (M1 := ev_M r4.2 c w) (pc1 := 33) (lv1 := [(1, .int ((r2.1 &&& r3.1) &&& (r4.1 ^^^ ((-1) : Int32)))), (0, .ref 606)]) (st1 := []) (M2 := ev_M r4.2 c w) (pc2 := 37) (lv2 := [(1, .int ((r2.1 &&& r3.1) &&& (r4.1 ^^^ ((-1) : Int32)))), (0, .ref 606)]) (st2 := []) (fun n => rfl) h (fun hc5 h => ?_) (fun hc5 h => ?_)
    · refine ev_s 2 (M' := ev_M r4.2 c w) (pc' := 40) (lv' := [(1, .int ((r2.1 &&& r3.1) &&& (r4.1 ^^^ ((-1) : Int32)))), (0, .ref 606)]) (st' := [.int 0]) (fun n => rfl) ?_
      refine ev_sub (lv := [(0, .ref 606), (1, .int ((r2.1 &&& r3.1) &&& (r4.1 ^^^ ((-1) : Int32))))]) (mn_of rfl (by repeat (first | exact trivial | refine And.intro rfl ?_))) ?_
      exact ok_fX11_way_c40 h
    · refine ev_s 1 (M' := ev_M r4.2 c w) (pc' := 40) (lv' := [(1, .int ((r2.1 &&& r3.1) &&& (r4.1 ^^^ ((-1) : Int32)))), (0, .ref 606)]) (st' := [.int 1000000]) (fun n => rfl) ?_
      refine ev_sub (lv := [(0, .ref 606), (1, .int ((r2.1 &&& r3.1) &&& (r4.1 ^^^ ((-1) : Int32))))]) (mn_of rfl (by repeat (first | exact trivial | refine And.intro rfl ?_))) ?_
      exact ok_fX11_way_c40 h
def fX11_isTold_c26 (m : mm_MM) (s0 : Int32) : Option (Int32 × mm_MM) :=
  (if s0 = 0 ∨ s0 = 1 then some (s0, m) else none)
theorem ok_fX11_isTold_c26 {m : mm_MM} {s0 : Int32} {q0 : Int32 × mm_MM} (h : fX11_isTold_c26 m s0 = some q0) : Ev XL xs (d + 1) 276 (ev_M m c w) 26 [] [.int s0] (fr_i c w q0) := by
  unfold fX11_isTold_c26 at h
  exact ev_rg 1 (f := fr_i c w) (fun n => rfl) h
def fX11_isTold_c25 (m : mm_MM) : Option (Int32 × mm_MM) :=
  fX11_isTold_c26 m 0
theorem ok_fX11_isTold_c25 {m : mm_MM} {q0 : Int32 × mm_MM} (h : fX11_isTold_c25 m = some q0) : Ev XL xs (d + 1) 276 (ev_M m c w) 25 [] [] (fr_i c w q0) := by
  unfold fX11_isTold_c25 at h
  refine ev_s 1 (M' := ev_M m c w) (pc' := 26) (lv' := []) (st' := [.int 0]) (fun n => rfl) ?_
  exact ok_fX11_isTold_c26 h
def fX11_isTold (m : mm_MM) (x1 : Int32) : Option (Int32 × mm_MM) :=
  (if m.1 606 26 = 0 then
    fX11_isTold_c25 m
   else
    (fX11_in m x1 0 (m.1 606 25 - 1)).bind fun r2 =>
     (if r2.1 = 0 then
       fX11_isTold_c25 r2.2
      else
       fX11_isTold_c26 r2.2 1))
theorem ok_fX11_isTold {m : mm_MM} {x1 : Int32} {q0 : Int32 × mm_MM} (h : fX11_isTold m x1 = some q0) : Ev XL xs (d + 1) 276 (ev_M m c w) 0 (lv_args 0 [.ref 606, .int x1]) [] (fr_i c w q0) := by
  unfold fX11_isTold at h
  refine ev_i 3 (M1 := ev_M m c w) (pc1 := 25) (lv1 := [(0, .ref 606), (1, .int x1)]) (st1 := []) (M2 := ev_M m c w) (pc2 := 7) (lv2 := [(0, .ref 606), (1, .int x1)]) (st2 := []) (fun n => rfl) h (fun hc1 h => ?_) (fun hc1 h => ?_)
  · refine ev_sub (lv := []) (mn_of rfl (by repeat (first | exact trivial | refine And.intro rfl ?_))) ?_
    exact ok_fX11_isTold_c25 h
  · obtain ⟨r2, hr2, h⟩ := Option.bind_eq_some_iff.mp h
    refine ev_c 7 (y' := 178) (M1 := ev_M m c w) (la := lv_args 0 [.int x1, .int 0, .int (m.1 606 25 - 1)]) (rest := []) (pc' := 18) (lv' := [(0, .ref 606), (1, .int x1)]) (fun n => rfl) (ok_fX11_in hr2) ?_
    show Ev XL xs _ 276 (ev_M r2.2 c w) 18 [(0, .ref 606), (1, .int x1)] [.int r2.1] _
    refine ev_i 1 (M1 := ev_M r2.2 c w) (pc1 := 25) (lv1 := [(0, .ref 606), (1, .int x1)]) (st1 := []) (M2 := ev_M r2.2 c w) (pc2 := 21) (lv2 := [(0, .ref 606), (1, .int x1)]) (st2 := []) (fun n => rfl) h (fun hc3 h => ?_) (fun hc3 h => ?_)
    · refine ev_sub (lv := []) (mn_of rfl (by repeat (first | exact trivial | refine And.intro rfl ?_))) ?_
      exact ok_fX11_isTold_c25 h
    · refine ev_s 2 (M' := ev_M r2.2 c w) (pc' := 26) (lv' := [(0, .ref 606), (1, .int x1)]) (st' := [.int 1]) (fun n => rfl) ?_
      refine ev_sub (lv := []) (mn_of rfl (by repeat (first | exact trivial | refine And.intro rfl ?_))) ?_
      exact ok_fX11_isTold_c26 h
def fX11_seen_c47 (m : mm_MM) : Option (Int32 × mm_MM) :=
  some (((-1) : Int32), m)
set_option maxRecDepth 20000 in
theorem ok_fX11_seen_c47 {m : mm_MM} {q0 : Int32 × mm_MM} (h : fX11_seen_c47 m = some q0) : Ev XL xs (d + 2) 277 (ev_M m c w) 47 [] [] (fr_i c w q0) := by
  unfold fX11_seen_c47 at h
  cases h
  exact ev_r 2 (fun n => rfl)
def fX11_seen (m : mm_MM) (x1 : Int32) (x2 : Int32) (x3 : Int32) (x4 : Int32) (x5 : Int32) : Option (Int32 × mm_MM) :=
  (fX11_isTold m x1).bind fun r1 =>
   (if r1.1 = 0 then
     fX11_seen_c47 r1.2
    else
     (fX11_isRow r1.2 x2).bind fun r3 =>
      (if r3.1 = 0 then
        fX11_seen_c47 r3.2
       else
        (fX11_in r3.2 x3 1 24).bind fun r5 =>
         (if r5.1 = 0 then
           fX11_seen_c47 r5.2
          else
           (fX11_in r5.2 x4 0 200).bind fun r7 =>
            (if r7.1 = 0 then
              fX11_seen_c47 r7.2
             else
              (if r7.2.1 606 47 = 10 then
                fX11_seen_c47 r7.2
               else
                (if r7.2.1 606 47 < 0 ∨ 10 ≤ (r7.2.1 606 47).toNatClampNeg then none else
                 (if r7.2.1 606 47 < 0 ∨ 10 ≤ (r7.2.1 606 47).toNatClampNeg then none else
                  (if r7.2.1 606 47 < 0 ∨ 10 ≤ (r7.2.1 606 47).toNatClampNeg then none else
                   (if r7.2.1 606 47 < 0 ∨ 10 ≤ (r7.2.1 606 47).toNatClampNeg then none else
                    (if r7.2.1 606 47 < 0 ∨ 10 ≤ (r7.2.1 606 47).toNatClampNeg then none else
                     (if x5 = 0 ∨ x5 = 1 then
                       some ((r7.2.1 606 47 + 1), (wI (wI (wI (wI (wI (wI r7.2 631 ((r7.2.1 606 47).toNatClampNeg) x1) 632 ((r7.2.1 606 47).toNatClampNeg) x2) 633 ((r7.2.1 606 47).toNatClampNeg) x3) 634 ((r7.2.1 606 47).toNatClampNeg) x4) 635 ((r7.2.1 606 47).toNatClampNeg) x5) 606 47 (r7.2.1 606 47 + 1)))
                      else none)))))))))))
set_option maxRecDepth 20000 in
theorem ok_fX11_seen {m : mm_MM} {x1 : Int32} {x2 : Int32} {x3 : Int32} {x4 : Int32} {x5 : Int32} {q0 : Int32 × mm_MM} (h : fX11_seen m x1 x2 x3 x4 x5 = some q0) : Ev XL xs (d + 2) 277 (ev_M m c w) 0 (lv_args 0 [.ref 606, .int x1, .int x2, .int x3, .int x4, .int x5]) [] (fr_i c w q0) := by
  unfold fX11_seen at h
  obtain ⟨r1, hr1, h⟩ := Option.bind_eq_some_iff.mp h
  refine ev_c 3 (y' := 276) (M1 := ev_M m c w) (la := lv_args 0 [.ref 606, .int x1]) (rest := []) (pc' := 5) (lv' := [(0, .ref 606), (1, .int x1), (2, .int x2), (3, .int x3), (4, .int x4), (5, .int x5)]) (fun n => rfl) (ok_fX11_isTold hr1) ?_
  show Ev XL xs _ 277 (ev_M r1.2 c w) 5 [(0, .ref 606), (1, .int x1), (2, .int x2), (3, .int x3), (4, .int x4), (5, .int x5)] [.int r1.1] _
  refine ev_i 1 (M1 := ev_M r1.2 c w) (pc1 := 47) (lv1 := [(0, .ref 606), (1, .int x1), (2, .int x2), (3, .int x3), (4, .int x4), (5, .int x5)]) (st1 := []) (M2 := ev_M r1.2 c w) (pc2 := 8) (lv2 := [(0, .ref 606), (1, .int x1), (2, .int x2), (3, .int x3), (4, .int x4), (5, .int x5)]) (st2 := []) (fun n => rfl) h (fun hc2 h => ?_) (fun hc2 h => ?_)
  · refine ev_sub (lv := []) (mn_of rfl (by repeat (first | exact trivial | refine And.intro rfl ?_))) ?_
    exact ok_fX11_seen_c47 h
  · obtain ⟨r3, hr3, h⟩ := Option.bind_eq_some_iff.mp h
    refine ev_c 3 (y' := 229) (M1 := ev_M r1.2 c w) (la := lv_args 0 [.ref 606, .int x2]) (rest := []) (pc' := 13) (lv' := [(0, .ref 606), (1, .int x1), (2, .int x2), (3, .int x3), (4, .int x4), (5, .int x5)]) (fun n => rfl) (ok_fX11_isRow hr3) ?_
    show Ev XL xs _ 277 (ev_M r3.2 c w) 13 [(0, .ref 606), (1, .int x1), (2, .int x2), (3, .int x3), (4, .int x4), (5, .int x5)] [.int r3.1] _
    refine ev_i 1 (M1 := ev_M r3.2 c w) (pc1 := 47) (lv1 := [(0, .ref 606), (1, .int x1), (2, .int x2), (3, .int x3), (4, .int x4), (5, .int x5)]) (st1 := []) (M2 := ev_M r3.2 c w) (pc2 := 16) (lv2 := [(0, .ref 606), (1, .int x1), (2, .int x2), (3, .int x3), (4, .int x4), (5, .int x5)]) (st2 := []) (fun n => rfl) h (fun hc4 h => ?_) (fun hc4 h => ?_)
    · refine ev_sub (lv := []) (mn_of rfl (by repeat (first | exact trivial | refine And.intro rfl ?_))) ?_
      exact ok_fX11_seen_c47 h
    · obtain ⟨r5, hr5, h⟩ := Option.bind_eq_some_iff.mp h
      refine ev_c 4 (y' := 178) (M1 := ev_M r3.2 c w) (la := lv_args 0 [.int x3, .int 1, .int 24]) (rest := []) (pc' := 23) (lv' := [(0, .ref 606), (1, .int x1), (2, .int x2), (3, .int x3), (4, .int x4), (5, .int x5)]) (fun n => rfl) (ok_fX11_in hr5) ?_
      show Ev XL xs _ 277 (ev_M r5.2 c w) 23 [(0, .ref 606), (1, .int x1), (2, .int x2), (3, .int x3), (4, .int x4), (5, .int x5)] [.int r5.1] _
      refine ev_i 1 (M1 := ev_M r5.2 c w) (pc1 := 47) (lv1 := [(0, .ref 606), (1, .int x1), (2, .int x2), (3, .int x3), (4, .int x4), (5, .int x5)]) (st1 := []) (M2 := ev_M r5.2 c w) (pc2 := 26) (lv2 := [(0, .ref 606), (1, .int x1), (2, .int x2), (3, .int x3), (4, .int x4), (5, .int x5)]) (st2 := []) (fun n => rfl) h (fun hc6 h => ?_) (fun hc6 h => ?_)
      · refine ev_sub (lv := []) (mn_of rfl (by repeat (first | exact trivial | refine And.intro rfl ?_))) ?_
        exact ok_fX11_seen_c47 h
      · obtain ⟨r7, hr7, h⟩ := Option.bind_eq_some_iff.mp h
        refine ev_c 4 (y' := 178) (M1 := ev_M r5.2 c w) (la := lv_args 0 [.int x4, .int 0, .int 200]) (rest := []) (pc' := 35) (lv' := [(0, .ref 606), (1, .int x1), (2, .int x2), (3, .int x3), (4, .int x4), (5, .int x5)]) (fun n => rfl) (ok_fX11_in hr7) ?_
        show Ev XL xs _ 277 (ev_M r7.2 c w) 35 [(0, .ref 606), (1, .int x1), (2, .int x2), (3, .int x3), (4, .int x4), (5, .int x5)] [.int r7.1] _
        refine ev_i 1 (M1 := ev_M r7.2 c w) (pc1 := 47) (lv1 := [(0, .ref 606), (1, .int x1), (2, .int x2), (3, .int x3), (4, .int x4), (5, .int x5)]) (st1 := []) (M2 := ev_M r7.2 c w) (pc2 := 38) (lv2 := [(0, .ref 606), (1, .int x1), (2, .int x2), (3, .int x3), (4, .int x4), (5, .int x5)]) (st2 := []) (fun n => rfl) h (fun hc8 h => ?_) (fun hc8 h => ?_)
        · refine ev_sub (lv := []) (mn_of rfl (by repeat (first | exact trivial | refine And.intro rfl ?_))) ?_
          exact ok_fX11_seen_c47 h
        · refine ev_i 4 (M1 := ev_M r7.2 c w) (pc1 := 47) (lv1 := [(0, .ref 606), (1, .int x1), (2, .int x2), (3, .int x3), (4, .int x4), (5, .int x5)]) (st1 := []) (M2 := ev_M r7.2 c w) (pc2 := 49) (lv2 := [(0, .ref 606), (1, .int x1), (2, .int x2), (3, .int x3), (4, .int x4), (5, .int x5)]) (st2 := []) (fun n => rfl) h (fun hc9 h => ?_) (fun hc9 h => ?_)
          · refine ev_sub (lv := []) (mn_of rfl (by repeat (first | exact trivial | refine And.intro rfl ?_))) ?_
            exact ok_fX11_seen_c47 h
          · refine ev_g 6 (M1 := ev_M (wI r7.2 631 ((r7.2.1 606 47).toNatClampNeg) x1) c w) (pc1 := 59) (lv1 := [(0, .ref 606), (1, .int x1), (2, .int x2), (3, .int x3), (4, .int x4), (5, .int x5)]) (st1 := []) (fun n => rfl) h (fun _ h => ?_)
            refine ev_g 6 (M1 := ev_M (wI (wI r7.2 631 ((r7.2.1 606 47).toNatClampNeg) x1) 632 ((r7.2.1 606 47).toNatClampNeg) x2) c w) (pc1 := 69) (lv1 := [(0, .ref 606), (1, .int x1), (2, .int x2), (3, .int x3), (4, .int x4), (5, .int x5)]) (st1 := []) (fun n => rfl) h (fun _ h => ?_)
            refine ev_g 6 (M1 := ev_M (wI (wI (wI r7.2 631 ((r7.2.1 606 47).toNatClampNeg) x1) 632 ((r7.2.1 606 47).toNatClampNeg) x2) 633 ((r7.2.1 606 47).toNatClampNeg) x3) c w) (pc1 := 79) (lv1 := [(0, .ref 606), (1, .int x1), (2, .int x2), (3, .int x3), (4, .int x4), (5, .int x5)]) (st1 := []) (fun n => rfl) h (fun _ h => ?_)
            refine ev_g 6 (M1 := ev_M (wI (wI (wI (wI r7.2 631 ((r7.2.1 606 47).toNatClampNeg) x1) 632 ((r7.2.1 606 47).toNatClampNeg) x2) 633 ((r7.2.1 606 47).toNatClampNeg) x3) 634 ((r7.2.1 606 47).toNatClampNeg) x4) c w) (pc1 := 90) (lv1 := [(0, .ref 606), (1, .int x1), (2, .int x2), (3, .int x3), (4, .int x4), (5, .int x5)]) (st1 := []) (fun n => rfl) h (fun _ h => ?_)
            refine ev_gg 6 (M1 := ev_M (wI (wI (wI (wI (wI r7.2 631 ((r7.2.1 606 47).toNatClampNeg) x1) 632 ((r7.2.1 606 47).toNatClampNeg) x2) 633 ((r7.2.1 606 47).toNatClampNeg) x3) 634 ((r7.2.1 606 47).toNatClampNeg) x4) 635 ((r7.2.1 606 47).toNatClampNeg) x5) c w) (pc1 := 101) (lv1 := [(0, .ref 606), (1, .int x1), (2, .int x2), (3, .int x3), (4, .int x4), (5, .int x5)]) (st1 := []) (fun n => rfl) h (fun h => ?_)
            cases h
            exact ev_r 9 (fun n => rfl)
def fX11_toldValue_c55 : Nat → mm_MM → Int32 → Int32 → Int32 → Int32 → Int32 → Option (Int32 × mm_MM)
  | 0 => fun _ _ _ _ _ _ => none
  | n + 1 => fun m x1 x2 x4 x5 x6 =>
    (if x6 < x4 then
      (fX11_live m).bind fun r2 =>
       fX11_toldValue_c55 n r2 x1 x2 x4 x5 (x6 + 1)
     else
      (if x2 < 0 ∨ 4 ≤ x2.toNatClampNeg then none else
       (fX11_of (wI m 621 x2.toNatClampNeg x5) x1 0).bind fun r3 =>
        (fX11_takeBack r3.2 0).bind fun r4 =>
         some (r3.1, r4)))
set_option maxRecDepth 20000 in
theorem ok_fX11_toldValue_c55 : ∀ (n : Nat) (m : mm_MM) (x1 : Int32) (x2 : Int32) (x4 : Int32) (x5 : Int32) (x6 : Int32) (q0 : Int32 × mm_MM), fX11_toldValue_c55 n m x1 x2 x4 x5 x6 = some q0 → Ev XL xs (d + 7) 278 (ev_M m c w) 55 [(0, .ref 606), (1, .int x1), (2, .int x2), (4, .int x4), (5, .int x5), (6, .int x6)] [] (fr_i c w q0) := by
  intro n
  induction n with
  | zero => intro m x1 x2 x4 x5 x6 q0 h; exact absurd (show (none : Option (Int32 × mm_MM)) = some q0 from h) (by simp)
  | succ n ih =>
    intro m x1 x2 x4 x5 x6 q0 h
    unfold fX11_toldValue_c55 at h
    refine ev_i 3 (M1 := ev_M m c w) (pc1 := 62) (lv1 := [(0, .ref 606), (1, .int x1), (2, .int x2), (4, .int x4), (5, .int x5), (6, .int x6)]) (st1 := []) (M2 := ev_M m c w) (pc2 := 72) (lv2 := [(0, .ref 606), (1, .int x1), (2, .int x2), (4, .int x4), (5, .int x5), (6, .int x6)]) (st2 := []) (fun n => rfl) h (fun hc1 h => ?_) (fun hc1 h => ?_)
    · obtain ⟨r2, hr2, h⟩ := Option.bind_eq_some_iff.mp h
      refine ev_c 2 (y' := 236) (M1 := ev_M m c w) (la := lv_args 0 [.ref 606]) (rest := []) (pc' := 66) (lv' := [(0, .ref 606), (1, .int x1), (2, .int x2), (4, .int x4), (5, .int x5), (6, .int x6)]) (fun n => rfl) (ok_fX11_live hr2) ?_
      show Ev XL xs _ 278 (ev_M r2 c w) 66 [(0, .ref 606), (1, .int x1), (2, .int x2), (4, .int x4), (5, .int x5), (6, .int x6)] [] _
      refine ev_s 2 (M' := ev_M r2 c w) (pc' := 55) (lv' := [(6, .int (x6 + 1)), (0, .ref 606), (1, .int x1), (2, .int x2), (4, .int x4), (5, .int x5)]) (st' := []) (fun n => rfl) ?_
      refine ev_sub (lv := [(0, .ref 606), (1, .int x1), (2, .int x2), (4, .int x4), (5, .int x5), (6, .int (x6 + 1))]) (mn_of rfl (by repeat (first | exact trivial | refine And.intro rfl ?_))) ?_
      exact ih _ _ _ _ _ _ _ h
    · refine ev_g 5 (M1 := ev_M (wI m 621 x2.toNatClampNeg x5) c w) (pc1 := 80) (lv1 := [(0, .ref 606), (1, .int x1), (2, .int x2), (4, .int x4), (5, .int x5), (6, .int x6)]) (st1 := []) (fun n => rfl) h (fun _ h => ?_)
      obtain ⟨r3, hr3, h⟩ := Option.bind_eq_some_iff.mp h
      refine ev_c 4 (y' := 220) (M1 := ev_M (wI m 621 x2.toNatClampNeg x5) c w) (la := lv_args 0 [.ref 606, .int x1, .int 0]) (rest := []) (pc' := 86) (lv' := [(0, .ref 606), (1, .int x1), (2, .int x2), (4, .int x4), (5, .int x5), (6, .int x6)]) (fun n => rfl) (ok_fX11_of hr3) ?_
      show Ev XL xs _ 278 (ev_M r3.2 c w) 86 [(0, .ref 606), (1, .int x1), (2, .int x2), (4, .int x4), (5, .int x5), (6, .int x6)] [.int r3.1] _
      obtain ⟨r4, hr4, h⟩ := Option.bind_eq_some_iff.mp h
      refine ev_c 4 (y' := 265) (M1 := ev_M r3.2 c w) (la := lv_args 0 [.ref 606, .int 0]) (rest := []) (pc' := 93) (lv' := [(6, .int r3.1), (0, .ref 606), (1, .int x1), (2, .int x2), (4, .int x4), (5, .int x5)]) (fun n => rfl) (ok_fX11_takeBack hr4) ?_
      show Ev XL xs _ 278 (ev_M r4 c w) 93 [(6, .int r3.1), (0, .ref 606), (1, .int x1), (2, .int x2), (4, .int x4), (5, .int x5)] [] _
      cases h
      exact ev_r 2 (fun n => rfl)
def fX11_toldValue (m : mm_MM) (x1 : Int32) (x2 : Int32) (x3 : Int32) (x4 : Int32) : Option (Int32 × mm_MM) :=
  (fX11_putAside m 0).bind fun r1 =>
   (fX11_leaveAlone r1 x1).bind fun r2 =>
    (fX11_layTold r2 x1).bind fun r3 =>
     (fX11_set r3 x1 2 (r3.1 620 0 * x2)).bind fun r4 =>
      (if x2 < 0 ∨ 4 ≤ x2.toNatClampNeg then none else
       (if x2 < 0 ∨ 4 ≤ x2.toNatClampNeg then none else
        fX11_toldValue_c55 fu (wI (wI r4 623 49 0) 621 x2.toNatClampNeg x3) x1 x2 x4 (r4.1 621 x2.toNatClampNeg) 0))
set_option maxRecDepth 20000 in
theorem ok_fX11_toldValue {m : mm_MM} {x1 : Int32} {x2 : Int32} {x3 : Int32} {x4 : Int32} {q0 : Int32 × mm_MM} (h : fX11_toldValue m x1 x2 x3 x4 = some q0) : Ev XL xs (d + 7) 278 (ev_M m c w) 0 (lv_args 0 [.ref 606, .int x1, .int x2, .int x3, .int x4]) [] (fr_i c w q0) := by
  unfold fX11_toldValue at h
  obtain ⟨r1, hr1, h⟩ := Option.bind_eq_some_iff.mp h
  refine ev_c 3 (y' := 264) (M1 := ev_M m c w) (la := lv_args 0 [.ref 606, .int 0]) (rest := []) (pc' := 5) (lv' := [(0, .ref 606), (1, .int x1), (2, .int x2), (3, .int x3), (4, .int x4)]) (fun n => rfl) (ok_fX11_putAside hr1) ?_
  show Ev XL xs _ 278 (ev_M r1 c w) 5 [(0, .ref 606), (1, .int x1), (2, .int x2), (3, .int x3), (4, .int x4)] [] _
  obtain ⟨r2, hr2, h⟩ := Option.bind_eq_some_iff.mp h
  refine ev_c 3 (y' := 271) (M1 := ev_M r1 c w) (la := lv_args 0 [.ref 606, .int x1]) (rest := []) (pc' := 10) (lv' := [(0, .ref 606), (1, .int x1), (2, .int x2), (3, .int x3), (4, .int x4)]) (fun n => rfl) (ok_fX11_leaveAlone hr2) ?_
  show Ev XL xs _ 278 (ev_M r2 c w) 10 [(0, .ref 606), (1, .int x1), (2, .int x2), (3, .int x3), (4, .int x4)] [] _
  obtain ⟨r3, hr3, h⟩ := Option.bind_eq_some_iff.mp h
  refine ev_c 3 (y' := 222) (M1 := ev_M r2 c w) (la := lv_args 0 [.ref 606, .int x1]) (rest := []) (pc' := 15) (lv' := [(0, .ref 606), (1, .int x1), (2, .int x2), (3, .int x3), (4, .int x4)]) (fun n => rfl) (ok_fX11_layTold hr3) ?_
  show Ev XL xs _ 278 (ev_M r3 c w) 15 [(0, .ref 606), (1, .int x1), (2, .int x2), (3, .int x3), (4, .int x4)] [] _
  obtain ⟨r4, hr4, h⟩ := Option.bind_eq_some_iff.mp h
  refine ev_c 10 (y' := 221) (M1 := ev_M r3 c w) (la := lv_args 0 [.ref 606, .int x1, .int 2, .int (r3.1 620 0 * x2)]) (rest := []) (pc' := 29) (lv' := [(0, .ref 606), (1, .int x1), (2, .int x2), (3, .int x3), (4, .int x4)]) (fun n => rfl) (ok_fX11_set hr4) ?_
  show Ev XL xs _ 278 (ev_M r4 c w) 29 [(0, .ref 606), (1, .int x1), (2, .int x2), (3, .int x3), (4, .int x4)] [] _
  refine ev_g 9 (M1 := ev_M (wI r4 623 49 0) c w) (pc1 := 43) (lv1 := [(0, .ref 606), (1, .int x1), (2, .int x2), (3, .int x3), (4, .int x4)]) (st1 := [.int (r4.1 621 x2.toNatClampNeg)]) (fun n => rfl) h (fun _ h => ?_)
  refine ev_g 6 (M1 := ev_M (wI (wI r4 623 49 0) 621 x2.toNatClampNeg x3) c w) (pc1 := 52) (lv1 := [(5, .int (r4.1 621 x2.toNatClampNeg)), (0, .ref 606), (1, .int x1), (2, .int x2), (3, .int x3), (4, .int x4)]) (st1 := []) (fun n => rfl) h (fun _ h => ?_)
  refine ev_s 2 (M' := ev_M (wI (wI r4 623 49 0) 621 x2.toNatClampNeg x3) c w) (pc' := 55) (lv' := [(6, .int 0), (5, .int (r4.1 621 x2.toNatClampNeg)), (0, .ref 606), (1, .int x1), (2, .int x2), (3, .int x3), (4, .int x4)]) (st' := []) (fun n => rfl) ?_
  refine ev_sub (lv := [(0, .ref 606), (1, .int x1), (2, .int x2), (4, .int x4), (5, .int (r4.1 621 x2.toNatClampNeg)), (6, .int 0)]) (mn_of rfl (by repeat (first | exact trivial | refine And.intro rfl ?_))) ?_
  exact ok_fX11_toldValue_c55 fu _ _ _ _ _ _ _ h
def fX11_isDamp_c63 (kr2 : mm_MM → Int32 → Int32 → Int32 → Option (Int32 × mm_MM)) (m : mm_MM) (x1 : Int32) (x2 : Int32) (x3 : Int32) : Option (Int32 × mm_MM) :=
  kr2 m x1 x2 (x3 + 1)
theorem ok_fX11_isDamp_c63 {kr2 : mm_MM → Int32 → Int32 → Int32 → Option (Int32 × mm_MM)} (hkr2 : ∀ (m : mm_MM) (x1 : Int32) (x2 : Int32) (x3 : Int32) (q0 : Int32 × mm_MM), kr2 m x1 x2 x3 = some q0 → Ev XL xs (d + 8) 279 (ev_M m c w) 2 [(0, .ref 606), (1, .int x1), (2, .int x2), (3, .int x3)] [] (fr_i c w q0)) {m : mm_MM} {x1 : Int32} {x2 : Int32} {x3 : Int32} {q0 : Int32 × mm_MM} (h : fX11_isDamp_c63 kr2 m x1 x2 x3 = some q0) : Ev XL xs (d + 8) 279 (ev_M m c w) 63 [(0, .ref 606), (1, .int x1), (2, .int x2), (3, .int x3)] [] (fr_i c w q0) := by
  unfold fX11_isDamp_c63 at h
  refine ev_s 2 (M' := ev_M m c w) (pc' := 2) (lv' := [(3, .int (x3 + 1)), (0, .ref 606), (1, .int x1), (2, .int x2)]) (st' := []) (fun n => rfl) ?_
  refine ev_sub (lv := [(0, .ref 606), (1, .int x1), (2, .int x2), (3, .int (x3 + 1))]) (mn_of rfl (by repeat (first | exact trivial | refine And.intro rfl ?_))) ?_
  exact hkr2 _ _ _ _ _ h
def fX11_isDamp_c52 (kr2 : mm_MM → Int32 → Int32 → Int32 → Option (Int32 × mm_MM)) (m : mm_MM) (x1 : Int32) (x2 : Int32) (x3 : Int32) (s0 : Int32) : Option (Int32 × mm_MM) :=
  (if x3 < 0 ∨ 10 ≤ x3.toNatClampNeg then none else
   (if s0 = m.1 635 x3.toNatClampNeg then
     fX11_isDamp_c63 kr2 m x1 x2 x3
    else
     some (0, m)))
theorem ok_fX11_isDamp_c52 {kr2 : mm_MM → Int32 → Int32 → Int32 → Option (Int32 × mm_MM)} (hkr2 : ∀ (m : mm_MM) (x1 : Int32) (x2 : Int32) (x3 : Int32) (q0 : Int32 × mm_MM), kr2 m x1 x2 x3 = some q0 → Ev XL xs (d + 8) 279 (ev_M m c w) 2 [(0, .ref 606), (1, .int x1), (2, .int x2), (3, .int x3)] [] (fr_i c w q0)) {m : mm_MM} {x1 : Int32} {x2 : Int32} {x3 : Int32} {s0 : Int32} {q0 : Int32 × mm_MM} (h : fX11_isDamp_c52 kr2 m x1 x2 x3 s0 = some q0) : Ev XL xs (d + 8) 279 (ev_M m c w) 52 [(0, .ref 606), (1, .int x1), (2, .int x2), (3, .int x3)] [.int s0] (fr_i c w q0) := by
  unfold fX11_isDamp_c52 at h
  refine ev_g 4 (M1 := ev_M m c w) (pc1 := 58) (lv1 := [(0, .ref 606), (1, .int x1), (2, .int x2), (3, .int x3)]) (st1 := [.int (m.1 635 x3.toNatClampNeg), .int s0]) (fun n => rfl) h (fun _ h => ?_)
  refine ev_i 1 (M1 := ev_M m c w) (pc1 := 63) (lv1 := [(0, .ref 606), (1, .int x1), (2, .int x2), (3, .int x3)]) (st1 := []) (M2 := ev_M m c w) (pc2 := 61) (lv2 := [(0, .ref 606), (1, .int x1), (2, .int x2), (3, .int x3)]) (st2 := []) (fun n => rfl) h (fun hc1 h => ?_) (fun hc1 h => ?_)
  · exact ok_fX11_isDamp_c63 hkr2 h
  · cases h
    exact ev_r 2 (fun n => rfl)
def fX11_isDamp_c2 : Nat → mm_MM → Int32 → Int32 → Int32 → Option (Int32 × mm_MM)
  | 0 => fun _ _ _ _ => none
  | n + 1 => fun m x1 x2 x3 =>
    (if x3 < m.1 606 47 then
      (if x3 < 0 ∨ 10 ≤ x3.toNatClampNeg then none else
       (if m.1 632 x3.toNatClampNeg = x1 then
         (if x3 < 0 ∨ 10 ≤ x3.toNatClampNeg then none else
          (if x3 < 0 ∨ 10 ≤ x3.toNatClampNeg then none else
           (fX11_toldValue m (m.1 631 x3.toNatClampNeg) x1 x2 (m.1 633 x3.toNatClampNeg)).bind fun r3 =>
            (if x3 < 0 ∨ 10 ≤ x3.toNatClampNeg then none else
             (if r3.1 < r3.2.1 634 x3.toNatClampNeg then
               fX11_isDamp_c52 (fX11_isDamp_c2 n) r3.2 x1 x2 x3 0
              else
               fX11_isDamp_c52 (fX11_isDamp_c2 n) r3.2 x1 x2 x3 1))))
        else
         fX11_isDamp_c63 (fX11_isDamp_c2 n) m x1 x2 x3))
     else
      some (1, m))
theorem ok_fX11_isDamp_c2 : ∀ (n : Nat) (m : mm_MM) (x1 : Int32) (x2 : Int32) (x3 : Int32) (q0 : Int32 × mm_MM), fX11_isDamp_c2 n m x1 x2 x3 = some q0 → Ev XL xs (d + 8) 279 (ev_M m c w) 2 [(0, .ref 606), (1, .int x1), (2, .int x2), (3, .int x3)] [] (fr_i c w q0) := by
  intro n
  induction n with
  | zero => intro m x1 x2 x3 q0 h; exact absurd (show (none : Option (Int32 × mm_MM)) = some q0 from h) (by simp)
  | succ n ih =>
    intro m x1 x2 x3 q0 h
    unfold fX11_isDamp_c2 at h
    refine ev_i 4 (M1 := ev_M m c w) (pc1 := 10) (lv1 := [(0, .ref 606), (1, .int x1), (2, .int x2), (3, .int x3)]) (st1 := []) (M2 := ev_M m c w) (pc2 := 69) (lv2 := [(0, .ref 606), (1, .int x1), (2, .int x2), (3, .int x3)]) (st2 := []) (fun n => rfl) h (fun hc1 h => ?_) (fun hc1 h => ?_)
    · refine ev_g 4 (M1 := ev_M m c w) (pc1 := 16) (lv1 := [(0, .ref 606), (1, .int x1), (2, .int x2), (3, .int x3)]) (st1 := [.int (m.1 632 x3.toNatClampNeg)]) (fun n => rfl) h (fun _ h => ?_)
      refine ev_i 2 (M1 := ev_M m c w) (pc1 := 20) (lv1 := [(0, .ref 606), (1, .int x1), (2, .int x2), (3, .int x3)]) (st1 := []) (M2 := ev_M m c w) (pc2 := 63) (lv2 := [(0, .ref 606), (1, .int x1), (2, .int x2), (3, .int x3)]) (st2 := []) (fun n => rfl) h (fun hc2 h => ?_) (fun hc2 h => ?_)
      · refine ev_g 5 (M1 := ev_M m c w) (pc1 := 27) (lv1 := [(0, .ref 606), (1, .int x1), (2, .int x2), (3, .int x3)]) (st1 := [.int (m.1 631 x3.toNatClampNeg), .ref 606]) (fun n => rfl) h (fun _ h => ?_)
        refine ev_g 6 (M1 := ev_M m c w) (pc1 := 35) (lv1 := [(0, .ref 606), (1, .int x1), (2, .int x2), (3, .int x3)]) (st1 := [.int (m.1 633 x3.toNatClampNeg), .int x2, .int x1, .int (m.1 631 x3.toNatClampNeg), .ref 606]) (fun n => rfl) h (fun _ h => ?_)
        obtain ⟨r3, hr3, h⟩ := Option.bind_eq_some_iff.mp h
        refine ev_c 1 (y' := 278) (M1 := ev_M m c w) (la := lv_args 0 [.ref 606, .int (m.1 631 x3.toNatClampNeg), .int x1, .int x2, .int (m.1 633 x3.toNatClampNeg)]) (rest := []) (pc' := 38) (lv' := [(0, .ref 606), (1, .int x1), (2, .int x2), (3, .int x3)]) (fun n => rfl) (ok_fX11_toldValue hr3) ?_
        show Ev XL xs _ 279 (ev_M r3.2 c w) 38 [(0, .ref 606), (1, .int x1), (2, .int x2), (3, .int x3)] [.int r3.1] _
        refine ev_g 4 (M1 := ev_M r3.2 c w) (pc1 := 44) (lv1 := [(0, .ref 606), (1, .int x1), (2, .int x2), (3, .int x3)]) (st1 := [.int (r3.2.1 634 x3.toNatClampNeg), .int r3.1]) (fun n => rfl) h (fun _ h => ?_)
        refine ev_i 1 (M1 := ev_M r3.2 c w) (pc1 := 51) (lv1 := [(0, .ref 606), (1, .int x1), (2, .int x2), (3, .int x3)]) (st1 := []) (M2 := ev_M r3.2 c w) (pc2 := 47) (lv2 := [(0, .ref 606), (1, .int x1), (2, .int x2), (3, .int x3)]) (st2 := []) (fun n => rfl) h (fun hc4 h => ?_) (fun hc4 h => ?_)
        · refine ev_s 1 (M' := ev_M r3.2 c w) (pc' := 52) (lv' := [(0, .ref 606), (1, .int x1), (2, .int x2), (3, .int x3)]) (st' := [.int 0]) (fun n => rfl) ?_
          exact ok_fX11_isDamp_c52 ih h
        · refine ev_s 2 (M' := ev_M r3.2 c w) (pc' := 52) (lv' := [(0, .ref 606), (1, .int x1), (2, .int x2), (3, .int x3)]) (st' := [.int 1]) (fun n => rfl) ?_
          exact ok_fX11_isDamp_c52 ih h
      · exact ok_fX11_isDamp_c63 ih h
    · cases h
      exact ev_r 2 (fun n => rfl)
def fX11_isDamp (m : mm_MM) (x1 : Int32) (x2 : Int32) : Option (Int32 × mm_MM) :=
  fX11_isDamp_c2 fu m x1 x2 0
theorem ok_fX11_isDamp {m : mm_MM} {x1 : Int32} {x2 : Int32} {q0 : Int32 × mm_MM} (h : fX11_isDamp m x1 x2 = some q0) : Ev XL xs (d + 8) 279 (ev_M m c w) 0 (lv_args 0 [.ref 606, .int x1, .int x2]) [] (fr_i c w q0) := by
  unfold fX11_isDamp at h
  refine ev_s 2 (M' := ev_M m c w) (pc' := 2) (lv' := [(3, .int 0), (0, .ref 606), (1, .int x1), (2, .int x2)]) (st' := []) (fun n => rfl) ?_
  refine ev_sub (lv := [(0, .ref 606), (1, .int x1), (2, .int x2), (3, .int 0)]) (mn_of rfl (by repeat (first | exact trivial | refine And.intro rfl ?_))) ?_
  exact ok_fX11_isDamp_c2 fu _ _ _ _ _ h
def fX11_damps_c13 (m : mm_MM) : Option (Int32 × mm_MM) :=
  some (((-1) : Int32), m)
theorem ok_fX11_damps_c13 {m : mm_MM} {q0 : Int32 × mm_MM} (h : fX11_damps_c13 m = some q0) : Ev XL xs (d + 9) 280 (ev_M m c w) 13 [] [] (fr_i c w q0) := by
  unfold fX11_damps_c13 at h
  cases h
  exact ev_r 2 (fun n => rfl)
def fX11_damps_c48 (kr20 : mm_MM → Int32 → Int32 → Int32 → Int32 → Option (Int32 × mm_MM)) (m : mm_MM) (x1 : Int32) (x2 : Int32) (x3 : Int32) (x4 : Int32) : Option (Int32 × mm_MM) :=
  kr20 m x1 x2 x3 (x4 + 1)
theorem ok_fX11_damps_c48 {kr20 : mm_MM → Int32 → Int32 → Int32 → Int32 → Option (Int32 × mm_MM)} (hkr20 : ∀ (m : mm_MM) (x1 : Int32) (x2 : Int32) (x3 : Int32) (x4 : Int32) (q0 : Int32 × mm_MM), kr20 m x1 x2 x3 x4 = some q0 → Ev XL xs (d + 9) 280 (ev_M m c w) 20 [(0, .ref 606), (1, .int x1), (2, .int x2), (3, .int x3), (4, .int x4)] [] (fr_i c w q0)) {m : mm_MM} {x1 : Int32} {x2 : Int32} {x3 : Int32} {x4 : Int32} {q0 : Int32 × mm_MM} (h : fX11_damps_c48 kr20 m x1 x2 x3 x4 = some q0) : Ev XL xs (d + 9) 280 (ev_M m c w) 48 [(0, .ref 606), (1, .int x1), (2, .int x2), (3, .int x3), (4, .int x4)] [] (fr_i c w q0) := by
  unfold fX11_damps_c48 at h
  refine ev_s 2 (M' := ev_M m c w) (pc' := 20) (lv' := [(4, .int (x4 + 1)), (0, .ref 606), (1, .int x1), (2, .int x2), (3, .int x3)]) (st' := []) (fun n => rfl) ?_
  refine ev_sub (lv := [(0, .ref 606), (1, .int x1), (2, .int x2), (3, .int x3), (4, .int (x4 + 1))]) (mn_of rfl (by repeat (first | exact trivial | refine And.intro rfl ?_))) ?_
  exact hkr20 _ _ _ _ _ _ h
def fX11_damps_c64 (m : mm_MM) (s0 : Int32) : Option (Int32 × mm_MM) :=
  some (s0, m)
theorem ok_fX11_damps_c64 {m : mm_MM} {s0 : Int32} {q0 : Int32 × mm_MM} (h : fX11_damps_c64 m s0 = some q0) : Ev XL xs (d + 9) 280 (ev_M m c w) 64 [] [.int s0] (fr_i c w q0) := by
  unfold fX11_damps_c64 at h
  cases h
  exact ev_r 1 (fun n => rfl)
def fX11_damps_c20 : Nat → mm_MM → Int32 → Int32 → Int32 → Int32 → Option (Int32 × mm_MM)
  | 0 => fun _ _ _ _ _ => none
  | n + 1 => fun m x1 x2 x3 x4 =>
    (if x4 ≤ 9 then
      (fX11_isDamp m x1 x4).bind fun r2 =>
       (if r2.1 = 0 then
         fX11_damps_c48 (fX11_damps_c20 n) r2.2 x1 x2 x3 x4
        else
         (if x3 = x2 then
           some (x4, r2.2)
          else
           fX11_damps_c48 (fX11_damps_c20 n) r2.2 x1 x2 (x3 + 1) x4))
     else
      (if x2 = ((-1) : Int32) then
        fX11_damps_c64 m x3
       else
        fX11_damps_c64 m ((-1) : Int32)))
theorem ok_fX11_damps_c20 : ∀ (n : Nat) (m : mm_MM) (x1 : Int32) (x2 : Int32) (x3 : Int32) (x4 : Int32) (q0 : Int32 × mm_MM), fX11_damps_c20 n m x1 x2 x3 x4 = some q0 → Ev XL xs (d + 9) 280 (ev_M m c w) 20 [(0, .ref 606), (1, .int x1), (2, .int x2), (3, .int x3), (4, .int x4)] [] (fr_i c w q0) := by
  intro n
  induction n with
  | zero => intro m x1 x2 x3 x4 q0 h; exact absurd (show (none : Option (Int32 × mm_MM)) = some q0 from h) (by simp)
  | succ n ih =>
    intro m x1 x2 x3 x4 q0 h
    unfold fX11_damps_c20 at h
    refine ev_i 3 (M1 := ev_M m c w) (pc1 := 27) (lv1 := [(0, .ref 606), (1, .int x1), (2, .int x2), (3, .int x3), (4, .int x4)]) (st1 := []) (M2 := ev_M m c w) (pc2 := 54) (lv2 := [(0, .ref 606), (1, .int x1), (2, .int x2), (3, .int x3), (4, .int x4)]) (st2 := []) (fun n => rfl) h (fun hc1 h => ?_) (fun hc1 h => ?_)
    · obtain ⟨r2, hr2, h⟩ := Option.bind_eq_some_iff.mp h
      refine ev_c 4 (y' := 279) (M1 := ev_M m c w) (la := lv_args 0 [.ref 606, .int x1, .int x4]) (rest := []) (pc' := 34) (lv' := [(0, .ref 606), (1, .int x1), (2, .int x2), (3, .int x3), (4, .int x4)]) (fun n => rfl) (ok_fX11_isDamp hr2) ?_
      show Ev XL xs _ 280 (ev_M r2.2 c w) 34 [(0, .ref 606), (1, .int x1), (2, .int x2), (3, .int x3), (4, .int x4)] [.int r2.1] _
      refine ev_i 1 (M1 := ev_M r2.2 c w) (pc1 := 48) (lv1 := [(0, .ref 606), (1, .int x1), (2, .int x2), (3, .int x3), (4, .int x4)]) (st1 := []) (M2 := ev_M r2.2 c w) (pc2 := 37) (lv2 := [(0, .ref 606), (1, .int x1), (2, .int x2), (3, .int x3), (4, .int x4)]) (st2 := []) (fun n => rfl) h (fun hc3 h => ?_) (fun hc3 h => ?_)
      · exact ok_fX11_damps_c48 ih h
      · refine ev_i 3 (M1 := ev_M r2.2 c w) (pc1 := 42) (lv1 := [(0, .ref 606), (1, .int x1), (2, .int x2), (3, .int x3), (4, .int x4)]) (st1 := []) (M2 := ev_M r2.2 c w) (pc2 := 45) (lv2 := [(0, .ref 606), (1, .int x1), (2, .int x2), (3, .int x3), (4, .int x4)]) (st2 := []) (fun n => rfl) h (fun hc4 h => ?_) (fun hc4 h => ?_)
        · cases h
          exact ev_r 2 (fun n => rfl)
        · refine ev_s 1 (M' := ev_M r2.2 c w) (pc' := 48) (lv' := [(3, .int (x3 + 1)), (0, .ref 606), (1, .int x1), (2, .int x2), (4, .int x4)]) (st' := []) (fun n => rfl) ?_
          refine ev_sub (lv := [(0, .ref 606), (1, .int x1), (2, .int x2), (3, .int (x3 + 1)), (4, .int x4)]) (mn_of rfl (by repeat (first | exact trivial | refine And.intro rfl ?_))) ?_
          exact ok_fX11_damps_c48 ih h
    · refine ev_i 3 (M1 := ev_M m c w) (pc1 := 59) (lv1 := [(0, .ref 606), (1, .int x1), (2, .int x2), (3, .int x3), (4, .int x4)]) (st1 := []) (M2 := ev_M m c w) (pc2 := 63) (lv2 := [(0, .ref 606), (1, .int x1), (2, .int x2), (3, .int x3), (4, .int x4)]) (st2 := []) (fun n => rfl) h (fun hc5 h => ?_) (fun hc5 h => ?_)
      · refine ev_s 2 (M' := ev_M m c w) (pc' := 64) (lv' := [(0, .ref 606), (1, .int x1), (2, .int x2), (3, .int x3), (4, .int x4)]) (st' := [.int x3]) (fun n => rfl) ?_
        refine ev_sub (lv := []) (mn_of rfl (by repeat (first | exact trivial | refine And.intro rfl ?_))) ?_
        exact ok_fX11_damps_c64 h
      · refine ev_s 1 (M' := ev_M m c w) (pc' := 64) (lv' := [(0, .ref 606), (1, .int x1), (2, .int x2), (3, .int x3), (4, .int x4)]) (st' := [.int ((-1) : Int32)]) (fun n => rfl) ?_
        refine ev_sub (lv := []) (mn_of rfl (by repeat (first | exact trivial | refine And.intro rfl ?_))) ?_
        exact ok_fX11_damps_c64 h
def fX11_damps (m : mm_MM) (x1 : Int32) (x2 : Int32) : Option (Int32 × mm_MM) :=
  (fX11_isRow m x1).bind fun r1 =>
   (if r1.1 = 0 then
     fX11_damps_c13 r1.2
    else
     (if x2 < ((-1) : Int32) then
       fX11_damps_c13 r1.2
      else
       fX11_damps_c20 fu r1.2 x1 x2 0 0))
theorem ok_fX11_damps {m : mm_MM} {x1 : Int32} {x2 : Int32} {q0 : Int32 × mm_MM} (h : fX11_damps m x1 x2 = some q0) : Ev XL xs (d + 9) 280 (ev_M m c w) 0 (lv_args 0 [.ref 606, .int x1, .int x2]) [] (fr_i c w q0) := by
  unfold fX11_damps at h
  obtain ⟨r1, hr1, h⟩ := Option.bind_eq_some_iff.mp h
  refine ev_c 3 (y' := 229) (M1 := ev_M m c w) (la := lv_args 0 [.ref 606, .int x1]) (rest := []) (pc' := 5) (lv' := [(0, .ref 606), (1, .int x1), (2, .int x2)]) (fun n => rfl) (ok_fX11_isRow hr1) ?_
  show Ev XL xs _ 280 (ev_M r1.2 c w) 5 [(0, .ref 606), (1, .int x1), (2, .int x2)] [.int r1.1] _
  refine ev_i 1 (M1 := ev_M r1.2 c w) (pc1 := 13) (lv1 := [(0, .ref 606), (1, .int x1), (2, .int x2)]) (st1 := []) (M2 := ev_M r1.2 c w) (pc2 := 8) (lv2 := [(0, .ref 606), (1, .int x1), (2, .int x2)]) (st2 := []) (fun n => rfl) h (fun hc2 h => ?_) (fun hc2 h => ?_)
  · refine ev_sub (lv := []) (mn_of rfl (by repeat (first | exact trivial | refine And.intro rfl ?_))) ?_
    exact ok_fX11_damps_c13 h
  · refine ev_i 3 (M1 := ev_M r1.2 c w) (pc1 := 13) (lv1 := [(0, .ref 606), (1, .int x1), (2, .int x2)]) (st1 := []) (M2 := ev_M r1.2 c w) (pc2 := 15) (lv2 := [(0, .ref 606), (1, .int x1), (2, .int x2)]) (st2 := []) (fun n => rfl) h (fun hc3 h => ?_) (fun hc3 h => ?_)
    · refine ev_sub (lv := []) (mn_of rfl (by repeat (first | exact trivial | refine And.intro rfl ?_))) ?_
      exact ok_fX11_damps_c13 h
    · refine ev_s 4 (M' := ev_M r1.2 c w) (pc' := 20) (lv' := [(4, .int 0), (3, .int 0), (0, .ref 606), (1, .int x1), (2, .int x2)]) (st' := []) (fun n => rfl) ?_
      refine ev_sub (lv := [(0, .ref 606), (1, .int x1), (2, .int x2), (3, .int 0), (4, .int 0)]) (mn_of rfl (by repeat (first | exact trivial | refine And.intro rfl ?_))) ?_
      exact ok_fX11_damps_c20 fu _ _ _ _ _ _ h
def fX11_mostAlike_c63 (kr4 : mm_MM → Int32 → Int32 → Option (Int32 × mm_MM)) (kr15 : mm_MM → Int32 → Int32 → Int32 → Int32 → Option (Int32 × mm_MM)) (m : mm_MM) (x1 : Int32) (x2 : Int32) (x4 : Int32) (s0 : Int32) (s1 : Int32) : Option (Int32 × mm_MM) :=
  kr15 m x1 x2 (s0 + s1) (x4 + 1)
theorem ok_fX11_mostAlike_c63 {kr4 : mm_MM → Int32 → Int32 → Option (Int32 × mm_MM)} (hkr4 : ∀ (m : mm_MM) (x1 : Int32) (x2 : Int32) (q0 : Int32 × mm_MM), kr4 m x1 x2 = some q0 → Ev XL xs (d + 1) 281 (ev_M m c w) 4 [(0, .ref 606), (1, .int x1), (2, .int x2)] [] (fr_i c w q0)) {kr15 : mm_MM → Int32 → Int32 → Int32 → Int32 → Option (Int32 × mm_MM)} (hkr15 : ∀ (m : mm_MM) (x1 : Int32) (x2 : Int32) (x3 : Int32) (x4 : Int32) (q0 : Int32 × mm_MM), kr15 m x1 x2 x3 x4 = some q0 → Ev XL xs (d + 1) 281 (ev_M m c w) 15 [(0, .ref 606), (1, .int x1), (2, .int x2), (3, .int x3), (4, .int x4)] [] (fr_i c w q0)) {m : mm_MM} {x1 : Int32} {x2 : Int32} {x4 : Int32} {s0 : Int32} {s1 : Int32} {q0 : Int32 × mm_MM} (h : fX11_mostAlike_c63 kr4 kr15 m x1 x2 x4 s0 s1 = some q0) : Ev XL xs (d + 1) 281 (ev_M m c w) 63 [(0, .ref 606), (1, .int x1), (2, .int x2), (4, .int x4)] [.int s1, .int s0] (fr_i c w q0) := by
  unfold fX11_mostAlike_c63 at h
  refine ev_s 4 (M' := ev_M m c w) (pc' := 15) (lv' := [(4, .int (x4 + 1)), (3, .int (s0 + s1)), (0, .ref 606), (1, .int x1), (2, .int x2)]) (st' := []) (fun n => rfl) ?_
  refine ev_sub (lv := [(0, .ref 606), (1, .int x1), (2, .int x2), (3, .int (s0 + s1)), (4, .int (x4 + 1))]) (mn_of rfl (by repeat (first | exact trivial | refine And.intro rfl ?_))) ?_
  exact hkr15 _ _ _ _ _ _ h
def fX11_mostAlike_c62 (kr4 : mm_MM → Int32 → Int32 → Option (Int32 × mm_MM)) (kr15 : mm_MM → Int32 → Int32 → Int32 → Int32 → Option (Int32 × mm_MM)) (m : mm_MM) (x1 : Int32) (x2 : Int32) (x4 : Int32) (s0 : Int32) : Option (Int32 × mm_MM) :=
  fX11_mostAlike_c63 kr4 kr15 m x1 x2 x4 s0 0
theorem ok_fX11_mostAlike_c62 {kr4 : mm_MM → Int32 → Int32 → Option (Int32 × mm_MM)} (hkr4 : ∀ (m : mm_MM) (x1 : Int32) (x2 : Int32) (q0 : Int32 × mm_MM), kr4 m x1 x2 = some q0 → Ev XL xs (d + 1) 281 (ev_M m c w) 4 [(0, .ref 606), (1, .int x1), (2, .int x2)] [] (fr_i c w q0)) {kr15 : mm_MM → Int32 → Int32 → Int32 → Int32 → Option (Int32 × mm_MM)} (hkr15 : ∀ (m : mm_MM) (x1 : Int32) (x2 : Int32) (x3 : Int32) (x4 : Int32) (q0 : Int32 × mm_MM), kr15 m x1 x2 x3 x4 = some q0 → Ev XL xs (d + 1) 281 (ev_M m c w) 15 [(0, .ref 606), (1, .int x1), (2, .int x2), (3, .int x3), (4, .int x4)] [] (fr_i c w q0)) {m : mm_MM} {x1 : Int32} {x2 : Int32} {x4 : Int32} {s0 : Int32} {q0 : Int32 × mm_MM} (h : fX11_mostAlike_c62 kr4 kr15 m x1 x2 x4 s0 = some q0) : Ev XL xs (d + 1) 281 (ev_M m c w) 62 [(0, .ref 606), (1, .int x1), (2, .int x2), (4, .int x4)] [.int s0] (fr_i c w q0) := by
  unfold fX11_mostAlike_c62 at h
  refine ev_s 1 (M' := ev_M m c w) (pc' := 63) (lv' := [(0, .ref 606), (1, .int x1), (2, .int x2), (4, .int x4)]) (st' := [.int 0, .int s0]) (fun n => rfl) ?_
  exact ok_fX11_mostAlike_c63 hkr4 hkr15 h
def fX11_mostAlike_c15 (kr4 : mm_MM → Int32 → Int32 → Option (Int32 × mm_MM)) : Nat → mm_MM → Int32 → Int32 → Int32 → Int32 → Option (Int32 × mm_MM)
  | 0 => fun _ _ _ _ _ => none
  | n + 1 => fun m x1 x2 x3 x4 =>
    (if x4 ≤ 9 then
      (if x2 < 0 ∨ 10 ≤ x2.toNatClampNeg then none else
       (if m.1 637 x2.toNatClampNeg = 0 then
         fX11_mostAlike_c62 kr4 (fX11_mostAlike_c15 kr4 n) m x1 x2 x4 x3
        else
         (if x4 < 0 ∨ 10 ≤ x4.toNatClampNeg then none else
          (if m.1 637 x4.toNatClampNeg = 0 then
            fX11_mostAlike_c62 kr4 (fX11_mostAlike_c15 kr4 n) m x1 x2 x4 x3
           else
            (if x2 < 0 ∨ 10 ≤ x2.toNatClampNeg then none else
             (if x4 < 0 ∨ 10 ≤ x4.toNatClampNeg then none else
              (if m.1 636 x2.toNatClampNeg = m.1 636 x4.toNatClampNeg then
                fX11_mostAlike_c63 kr4 (fX11_mostAlike_c15 kr4 n) m x1 x2 x4 x3 1
               else
                fX11_mostAlike_c62 kr4 (fX11_mostAlike_c15 kr4 n) m x1 x2 x4 x3)))))))
     else
      (fJ9_max_7cf53 m x1 x3).bind fun r5 =>
       kr4 r5.2 r5.1 (x2 + 1))
theorem ok_fX11_mostAlike_c15 {kr4 : mm_MM → Int32 → Int32 → Option (Int32 × mm_MM)} (hkr4 : ∀ (m : mm_MM) (x1 : Int32) (x2 : Int32) (q0 : Int32 × mm_MM), kr4 m x1 x2 = some q0 → Ev XL xs (d + 1) 281 (ev_M m c w) 4 [(0, .ref 606), (1, .int x1), (2, .int x2)] [] (fr_i c w q0)) : ∀ (n : Nat) (m : mm_MM) (x1 : Int32) (x2 : Int32) (x3 : Int32) (x4 : Int32) (q0 : Int32 × mm_MM), fX11_mostAlike_c15 kr4 n m x1 x2 x3 x4 = some q0 → Ev XL xs (d + 1) 281 (ev_M m c w) 15 [(0, .ref 606), (1, .int x1), (2, .int x2), (3, .int x3), (4, .int x4)] [] (fr_i c w q0) := by
  intro n
  induction n with
  | zero => intro m x1 x2 x3 x4 q0 h; exact absurd (show (none : Option (Int32 × mm_MM)) = some q0 from h) (by simp)
  | succ n ih =>
    intro m x1 x2 x3 x4 q0 h
    unfold fX11_mostAlike_c15 at h
    refine ev_i 3 (M1 := ev_M m c w) (pc1 := 22) (lv1 := [(0, .ref 606), (1, .int x1), (2, .int x2), (3, .int x3), (4, .int x4)]) (st1 := []) (M2 := ev_M m c w) (pc2 := 71) (lv2 := [(0, .ref 606), (1, .int x1), (2, .int x2), (3, .int x3), (4, .int x4)]) (st2 := []) (fun n => rfl) h (fun hc1 h => ?_) (fun hc1 h => ?_)
    · refine ev_g 5 (M1 := ev_M m c w) (pc1 := 29) (lv1 := [(0, .ref 606), (1, .int x1), (2, .int x2), (3, .int x3), (4, .int x4)]) (st1 := [.int (m.1 637 x2.toNatClampNeg), .int x3]) (fun n => rfl) h (fun _ h => ?_)
      refine ev_i 1 (M1 := ev_M m c w) (pc1 := 62) (lv1 := [(0, .ref 606), (1, .int x1), (2, .int x2), (3, .int x3), (4, .int x4)]) (st1 := [.int x3]) (M2 := ev_M m c w) (pc2 := 32) (lv2 := [(0, .ref 606), (1, .int x1), (2, .int x2), (3, .int x3), (4, .int x4)]) (st2 := [.int x3]) (fun n => rfl) h (fun hc2 h => ?_) (fun hc2 h => ?_)
      · refine ev_sub (lv := [(0, .ref 606), (1, .int x1), (2, .int x2), (4, .int x4)]) (mn_of rfl (by repeat (first | exact trivial | refine And.intro rfl ?_))) ?_
        exact ok_fX11_mostAlike_c62 hkr4 ih h
      · refine ev_g 4 (M1 := ev_M m c w) (pc1 := 39) (lv1 := [(0, .ref 606), (1, .int x1), (2, .int x2), (3, .int x3), (4, .int x4)]) (st1 := [.int (m.1 637 x4.toNatClampNeg), .int x3]) (fun n => rfl) h (fun _ h => ?_)
        refine ev_i 1 (M1 := ev_M m c w) (pc1 := 62) (lv1 := [(0, .ref 606), (1, .int x1), (2, .int x2), (3, .int x3), (4, .int x4)]) (st1 := [.int x3]) (M2 := ev_M m c w) (pc2 := 42) (lv2 := [(0, .ref 606), (1, .int x1), (2, .int x2), (3, .int x3), (4, .int x4)]) (st2 := [.int x3]) (fun n => rfl) h (fun hc3 h => ?_) (fun hc3 h => ?_)
        · refine ev_sub (lv := [(0, .ref 606), (1, .int x1), (2, .int x2), (4, .int x4)]) (mn_of rfl (by repeat (first | exact trivial | refine And.intro rfl ?_))) ?_
          exact ok_fX11_mostAlike_c62 hkr4 ih h
        · refine ev_g 4 (M1 := ev_M m c w) (pc1 := 48) (lv1 := [(0, .ref 606), (1, .int x1), (2, .int x2), (3, .int x3), (4, .int x4)]) (st1 := [.int (m.1 636 x2.toNatClampNeg), .int x3]) (fun n => rfl) h (fun _ h => ?_)
          refine ev_g 4 (M1 := ev_M m c w) (pc1 := 55) (lv1 := [(0, .ref 606), (1, .int x1), (2, .int x2), (3, .int x3), (4, .int x4)]) (st1 := [.int (m.1 636 x4.toNatClampNeg), .int (m.1 636 x2.toNatClampNeg), .int x3]) (fun n => rfl) h (fun _ h => ?_)
          refine ev_i 1 (M1 := ev_M m c w) (pc1 := 58) (lv1 := [(0, .ref 606), (1, .int x1), (2, .int x2), (3, .int x3), (4, .int x4)]) (st1 := [.int x3]) (M2 := ev_M m c w) (pc2 := 62) (lv2 := [(0, .ref 606), (1, .int x1), (2, .int x2), (3, .int x3), (4, .int x4)]) (st2 := [.int x3]) (fun n => rfl) h (fun hc4 h => ?_) (fun hc4 h => ?_)
          · refine ev_s 2 (M' := ev_M m c w) (pc' := 63) (lv' := [(0, .ref 606), (1, .int x1), (2, .int x2), (3, .int x3), (4, .int x4)]) (st' := [.int 1, .int x3]) (fun n => rfl) ?_
            refine ev_sub (lv := [(0, .ref 606), (1, .int x1), (2, .int x2), (4, .int x4)]) (mn_of rfl (by repeat (first | exact trivial | refine And.intro rfl ?_))) ?_
            exact ok_fX11_mostAlike_c63 hkr4 ih h
          · refine ev_sub (lv := [(0, .ref 606), (1, .int x1), (2, .int x2), (4, .int x4)]) (mn_of rfl (by repeat (first | exact trivial | refine And.intro rfl ?_))) ?_
            exact ok_fX11_mostAlike_c62 hkr4 ih h
    · obtain ⟨r5, hr5, h⟩ := Option.bind_eq_some_iff.mp h
      refine ev_c 3 (y' := 306) (M1 := ev_M m c w) (la := lv_args 0 [.int x1, .int x3]) (rest := []) (pc' := 76) (lv' := [(0, .ref 606), (1, .int x1), (2, .int x2), (3, .int x3), (4, .int x4)]) (fun n => rfl) (ok_fJ9_max_7cf53 hr5) ?_
      show Ev XL xs _ 281 (ev_M r5.2 c w) 76 [(0, .ref 606), (1, .int x1), (2, .int x2), (3, .int x3), (4, .int x4)] [.int r5.1] _
      refine ev_s 3 (M' := ev_M r5.2 c w) (pc' := 4) (lv' := [(2, .int (x2 + 1)), (1, .int r5.1), (0, .ref 606), (3, .int x3), (4, .int x4)]) (st' := []) (fun n => rfl) ?_
      refine ev_sub (lv := [(0, .ref 606), (1, .int r5.1), (2, .int (x2 + 1))]) (mn_of rfl (by repeat (first | exact trivial | refine And.intro rfl ?_))) ?_
      exact hkr4 _ _ _ _ h
def fX11_mostAlike_c4 : Nat → mm_MM → Int32 → Int32 → Option (Int32 × mm_MM)
  | 0 => fun _ _ _ => none
  | n + 1 => fun m x1 x2 =>
    (if x2 ≤ 9 then
      fX11_mostAlike_c15 (fX11_mostAlike_c4 n) fu m x1 x2 0 0
     else
      some (x1, m))
theorem ok_fX11_mostAlike_c4 : ∀ (n : Nat) (m : mm_MM) (x1 : Int32) (x2 : Int32) (q0 : Int32 × mm_MM), fX11_mostAlike_c4 n m x1 x2 = some q0 → Ev XL xs (d + 1) 281 (ev_M m c w) 4 [(0, .ref 606), (1, .int x1), (2, .int x2)] [] (fr_i c w q0) := by
  intro n
  induction n with
  | zero => intro m x1 x2 q0 h; exact absurd (show (none : Option (Int32 × mm_MM)) = some q0 from h) (by simp)
  | succ n ih =>
    intro m x1 x2 q0 h
    unfold fX11_mostAlike_c4 at h
    refine ev_i 3 (M1 := ev_M m c w) (pc1 := 10) (lv1 := [(0, .ref 606), (1, .int x1), (2, .int x2)]) (st1 := []) (M2 := ev_M m c w) (pc2 := 83) (lv2 := [(0, .ref 606), (1, .int x1), (2, .int x2)]) (st2 := []) (fun n => rfl) h (fun hc1 h => ?_) (fun hc1 h => ?_)
    · refine ev_s 4 (M' := ev_M m c w) (pc' := 15) (lv' := [(4, .int 0), (3, .int 0), (0, .ref 606), (1, .int x1), (2, .int x2)]) (st' := []) (fun n => rfl) ?_
      refine ev_sub (lv := [(0, .ref 606), (1, .int x1), (2, .int x2), (3, .int 0), (4, .int 0)]) (mn_of rfl (by repeat (first | exact trivial | refine And.intro rfl ?_))) ?_
      exact ok_fX11_mostAlike_c15 ih fu _ _ _ _ _ _ h
    · cases h
      exact ev_r 2 (fun n => rfl)
def fX11_mostAlike (m : mm_MM) : Option (Int32 × mm_MM) :=
  fX11_mostAlike_c4 fu m 0 0
theorem ok_fX11_mostAlike {m : mm_MM} {q0 : Int32 × mm_MM} (h : fX11_mostAlike m = some q0) : Ev XL xs (d + 1) 281 (ev_M m c w) 0 (lv_args 0 [.ref 606]) [] (fr_i c w q0) := by
  unfold fX11_mostAlike at h
  refine ev_s 4 (M' := ev_M m c w) (pc' := 4) (lv' := [(2, .int 0), (1, .int 0), (0, .ref 606)]) (st' := []) (fun n => rfl) ?_
  refine ev_sub (lv := [(0, .ref 606), (1, .int 0), (2, .int 0)]) (mn_of rfl (by repeat (first | exact trivial | refine And.intro rfl ?_))) ?_
  exact ok_fX11_mostAlike_c4 fu _ _ _ _ h
def fX11_ask_c26 (m : mm_MM) : Option (Int32 × mm_MM) :=
  some (((-1) : Int32), m)
set_option maxRecDepth 20000 in
theorem ok_fX11_ask_c26 {m : mm_MM} {q0 : Int32 × mm_MM} (h : fX11_ask_c26 m = some q0) : Ev XL xs (d + 10) 282 (ev_M m c w) 26 [] [] (fr_i c w q0) := by
  unfold fX11_ask_c26 at h
  cases h
  exact ev_r 2 (fun n => rfl)
def fX11_ask_c109 (kr62 : mm_MM → Int32 → Int32 → Int32 → Int32 → Int32 → Option (Int32 × mm_MM)) (kr72 : mm_MM → Int32 → Int32 → Int32 → Int32 → Int32 → Int32 → Option (Int32 × mm_MM)) (m : mm_MM) (x1 : Int32) (x2 : Int32) (x3 : Int32) (x4 : Int32) (x5 : Int32) (x6 : Int32) (s1 : Int32) (s2 : Int32) : Option (Int32 × mm_MM) :=
  (if s1 < 0 ∨ 10 ≤ s1.toNatClampNeg then none else
   kr72 (wI m 636 s1.toNatClampNeg s2) x1 x2 x3 x4 x5 (x6 + 1))
set_option maxRecDepth 20000 in
theorem ok_fX11_ask_c109 {kr62 : mm_MM → Int32 → Int32 → Int32 → Int32 → Int32 → Option (Int32 × mm_MM)} (hkr62 : ∀ (m : mm_MM) (x1 : Int32) (x2 : Int32) (x3 : Int32) (x4 : Int32) (x5 : Int32) (q0 : Int32 × mm_MM), kr62 m x1 x2 x3 x4 x5 = some q0 → Ev XL xs (d + 10) 282 (ev_M m c w) 62 [(0, .ref 606), (1, .int x1), (2, .int x2), (3, .int x3), (4, .int x4), (5, .int x5)] [] (fr_i c w q0)) {kr72 : mm_MM → Int32 → Int32 → Int32 → Int32 → Int32 → Int32 → Option (Int32 × mm_MM)} (hkr72 : ∀ (m : mm_MM) (x1 : Int32) (x2 : Int32) (x3 : Int32) (x4 : Int32) (x5 : Int32) (x6 : Int32) (q0 : Int32 × mm_MM), kr72 m x1 x2 x3 x4 x5 x6 = some q0 → Ev XL xs (d + 10) 282 (ev_M m c w) 72 [(0, .ref 606), (1, .int x1), (2, .int x2), (3, .int x3), (4, .int x4), (5, .int x5), (6, .int x6)] [] (fr_i c w q0)) {m : mm_MM} {x1 : Int32} {x2 : Int32} {x3 : Int32} {x4 : Int32} {x5 : Int32} {x6 : Int32} {s1 : Int32} {s2 : Int32} {q0 : Int32 × mm_MM} (h : fX11_ask_c109 kr62 kr72 m x1 x2 x3 x4 x5 x6 s1 s2 = some q0) : Ev XL xs (d + 10) 282 (ev_M m c w) 109 [(0, .ref 606), (1, .int x1), (2, .int x2), (3, .int x3), (4, .int x4), (5, .int x5), (6, .int x6)] [.int s2, .int s1, .ref 636] (fr_i c w q0) := by
  unfold fX11_ask_c109 at h
  refine ev_g 1 (M1 := ev_M (wI m 636 s1.toNatClampNeg s2) c w) (pc1 := 110) (lv1 := [(0, .ref 606), (1, .int x1), (2, .int x2), (3, .int x3), (4, .int x4), (5, .int x5), (6, .int x6)]) (st1 := []) (fun n => rfl) h (fun _ h => ?_)
  refine ev_s 2 (M' := ev_M (wI m 636 s1.toNatClampNeg s2) c w) (pc' := 72) (lv' := [(6, .int (x6 + 1)), (0, .ref 606), (1, .int x1), (2, .int x2), (3, .int x3), (4, .int x4), (5, .int x5)]) (st' := []) (fun n => rfl) ?_
  refine ev_sub (lv := [(0, .ref 606), (1, .int x1), (2, .int x2), (3, .int x3), (4, .int x4), (5, .int x5), (6, .int (x6 + 1))]) (mn_of rfl (by repeat (first | exact trivial | refine And.intro rfl ?_))) ?_
  exact hkr72 _ _ _ _ _ _ _ _ h
def fX11_ask_c141 (kr62 : mm_MM → Int32 → Int32 → Int32 → Int32 → Int32 → Option (Int32 × mm_MM)) (m : mm_MM) (x1 : Int32) (x2 : Int32) (x3 : Int32) (x4 : Int32) (x5 : Int32) : Option (Int32 × mm_MM) :=
  kr62 m x1 x2 x3 x4 (x5 + 1)
set_option maxRecDepth 20000 in
theorem ok_fX11_ask_c141 {kr62 : mm_MM → Int32 → Int32 → Int32 → Int32 → Int32 → Option (Int32 × mm_MM)} (hkr62 : ∀ (m : mm_MM) (x1 : Int32) (x2 : Int32) (x3 : Int32) (x4 : Int32) (x5 : Int32) (q0 : Int32 × mm_MM), kr62 m x1 x2 x3 x4 x5 = some q0 → Ev XL xs (d + 10) 282 (ev_M m c w) 62 [(0, .ref 606), (1, .int x1), (2, .int x2), (3, .int x3), (4, .int x4), (5, .int x5)] [] (fr_i c w q0)) {m : mm_MM} {x1 : Int32} {x2 : Int32} {x3 : Int32} {x4 : Int32} {x5 : Int32} {q0 : Int32 × mm_MM} (h : fX11_ask_c141 kr62 m x1 x2 x3 x4 x5 = some q0) : Ev XL xs (d + 10) 282 (ev_M m c w) 141 [(0, .ref 606), (1, .int x1), (2, .int x2), (3, .int x3), (4, .int x4), (5, .int x5)] [] (fr_i c w q0) := by
  unfold fX11_ask_c141 at h
  refine ev_s 2 (M' := ev_M m c w) (pc' := 62) (lv' := [(5, .int (x5 + 1)), (0, .ref 606), (1, .int x1), (2, .int x2), (3, .int x3), (4, .int x4)]) (st' := []) (fun n => rfl) ?_
  refine ev_sub (lv := [(0, .ref 606), (1, .int x1), (2, .int x2), (3, .int x3), (4, .int x4), (5, .int (x5 + 1))]) (mn_of rfl (by repeat (first | exact trivial | refine And.intro rfl ?_))) ?_
  exact hkr62 _ _ _ _ _ _ _ h
def fX11_ask_c134 (kr62 : mm_MM → Int32 → Int32 → Int32 → Int32 → Int32 → Option (Int32 × mm_MM)) (m : mm_MM) (x1 : Int32) (x2 : Int32) (x5 : Int32) (x6 : Int32) : Option (Int32 × mm_MM) :=
  fX11_ask_c141 kr62 m x1 x2 x5 x6 x5
set_option maxRecDepth 20000 in
theorem ok_fX11_ask_c134 {kr62 : mm_MM → Int32 → Int32 → Int32 → Int32 → Int32 → Option (Int32 × mm_MM)} (hkr62 : ∀ (m : mm_MM) (x1 : Int32) (x2 : Int32) (x3 : Int32) (x4 : Int32) (x5 : Int32) (q0 : Int32 × mm_MM), kr62 m x1 x2 x3 x4 x5 = some q0 → Ev XL xs (d + 10) 282 (ev_M m c w) 62 [(0, .ref 606), (1, .int x1), (2, .int x2), (3, .int x3), (4, .int x4), (5, .int x5)] [] (fr_i c w q0)) {m : mm_MM} {x1 : Int32} {x2 : Int32} {x5 : Int32} {x6 : Int32} {q0 : Int32 × mm_MM} (h : fX11_ask_c134 kr62 m x1 x2 x5 x6 = some q0) : Ev XL xs (d + 10) 282 (ev_M m c w) 134 [(0, .ref 606), (1, .int x1), (2, .int x2), (5, .int x5), (6, .int x6)] [] (fr_i c w q0) := by
  unfold fX11_ask_c134 at h
  refine ev_s 4 (M' := ev_M m c w) (pc' := 141) (lv' := [(4, .int x6), (3, .int x5), (0, .ref 606), (1, .int x1), (2, .int x2), (5, .int x5), (6, .int x6)]) (st' := []) (fun n => rfl) ?_
  refine ev_sub (lv := [(0, .ref 606), (1, .int x1), (2, .int x2), (3, .int x5), (4, .int x6), (5, .int x5)]) (mn_of rfl (by repeat (first | exact trivial | refine And.intro rfl ?_))) ?_
  exact ok_fX11_ask_c141 hkr62 h
def fX11_ask_c72 (kr62 : mm_MM → Int32 → Int32 → Int32 → Int32 → Int32 → Option (Int32 × mm_MM)) : Nat → mm_MM → Int32 → Int32 → Int32 → Int32 → Int32 → Int32 → Option (Int32 × mm_MM)
  | 0 => fun _ _ _ _ _ _ _ => none
  | n + 1 => fun m x1 x2 x3 x4 x5 x6 =>
    (if x6 ≤ 9 then
      (if x6 < 0 ∨ 10 ≤ x6.toNatClampNeg then none else
       (if m.1 637 x6.toNatClampNeg = 0 then
         fX11_ask_c109 kr62 (fX11_ask_c72 kr62 n) m x1 x2 x3 x4 x5 x6 x6 0
        else
         (fX11_toldValue m x2 x1 x6 x5).bind fun r3 =>
          fX11_ask_c109 kr62 (fX11_ask_c72 kr62 n) r3.2 x1 x2 x3 x4 x5 x6 x6 r3.1))
     else
      (fX11_mostAlike m).bind fun r4 =>
       (if x3 = ((-1) : Int32) then
         fX11_ask_c134 kr62 r4.2 x1 x2 x5 r4.1
        else
         (if r4.1 < x4 then
           fX11_ask_c134 kr62 r4.2 x1 x2 x5 r4.1
          else
           fX11_ask_c141 kr62 r4.2 x1 x2 x3 x4 x5)))
set_option maxRecDepth 20000 in
theorem ok_fX11_ask_c72 {kr62 : mm_MM → Int32 → Int32 → Int32 → Int32 → Int32 → Option (Int32 × mm_MM)} (hkr62 : ∀ (m : mm_MM) (x1 : Int32) (x2 : Int32) (x3 : Int32) (x4 : Int32) (x5 : Int32) (q0 : Int32 × mm_MM), kr62 m x1 x2 x3 x4 x5 = some q0 → Ev XL xs (d + 10) 282 (ev_M m c w) 62 [(0, .ref 606), (1, .int x1), (2, .int x2), (3, .int x3), (4, .int x4), (5, .int x5)] [] (fr_i c w q0)) : ∀ (n : Nat) (m : mm_MM) (x1 : Int32) (x2 : Int32) (x3 : Int32) (x4 : Int32) (x5 : Int32) (x6 : Int32) (q0 : Int32 × mm_MM), fX11_ask_c72 kr62 n m x1 x2 x3 x4 x5 x6 = some q0 → Ev XL xs (d + 10) 282 (ev_M m c w) 72 [(0, .ref 606), (1, .int x1), (2, .int x2), (3, .int x3), (4, .int x4), (5, .int x5), (6, .int x6)] [] (fr_i c w q0) := by
  intro n
  induction n with
  | zero => intro m x1 x2 x3 x4 x5 x6 q0 h; exact absurd (show (none : Option (Int32 × mm_MM)) = some q0 from h) (by simp)
  | succ n ih =>
    intro m x1 x2 x3 x4 x5 x6 q0 h
    unfold fX11_ask_c72 at h
    refine ev_i 3 (M1 := ev_M m c w) (pc1 := 79) (lv1 := [(0, .ref 606), (1, .int x1), (2, .int x2), (3, .int x3), (4, .int x4), (5, .int x5), (6, .int x6)]) (st1 := []) (M2 := ev_M m c w) (pc2 := 116) (lv2 := [(0, .ref 606), (1, .int x1), (2, .int x2), (3, .int x3), (4, .int x4), (5, .int x5), (6, .int x6)]) (st2 := []) (fun n => rfl) h (fun hc1 h => ?_) (fun hc1 h => ?_)
    · refine ev_g 7 (M1 := ev_M m c w) (pc1 := 92) (lv1 := [(0, .ref 606), (1, .int x1), (2, .int x2), (3, .int x3), (4, .int x4), (5, .int x5), (6, .int x6)]) (st1 := [.int (m.1 637 x6.toNatClampNeg), .int x6, .ref 636]) (fun n => rfl) h (fun _ h => ?_)
      refine ev_i 1 (M1 := ev_M m c w) (pc1 := 108) (lv1 := [(0, .ref 606), (1, .int x1), (2, .int x2), (3, .int x3), (4, .int x4), (5, .int x5), (6, .int x6)]) (st1 := [.int x6, .ref 636]) (M2 := ev_M m c w) (pc2 := 95) (lv2 := [(0, .ref 606), (1, .int x1), (2, .int x2), (3, .int x3), (4, .int x4), (5, .int x5), (6, .int x6)]) (st2 := [.int x6, .ref 636]) (fun n => rfl) h (fun hc2 h => ?_) (fun hc2 h => ?_)
      · refine ev_s 1 (M' := ev_M m c w) (pc' := 109) (lv' := [(0, .ref 606), (1, .int x1), (2, .int x2), (3, .int x3), (4, .int x4), (5, .int x5), (6, .int x6)]) (st' := [.int 0, .int x6, .ref 636]) (fun n => rfl) ?_
        exact ok_fX11_ask_c109 hkr62 ih h
      · obtain ⟨r3, hr3, h⟩ := Option.bind_eq_some_iff.mp h
        refine ev_c 6 (y' := 278) (M1 := ev_M m c w) (la := lv_args 0 [.ref 606, .int x2, .int x1, .int x6, .int x5]) (rest := [.int x6, .ref 636]) (pc' := 105) (lv' := [(0, .ref 606), (1, .int x1), (2, .int x2), (3, .int x3), (4, .int x4), (5, .int x5), (6, .int x6)]) (fun n => rfl) (ok_fX11_toldValue hr3) ?_
        show Ev XL xs _ 282 (ev_M r3.2 c w) 105 [(0, .ref 606), (1, .int x1), (2, .int x2), (3, .int x3), (4, .int x4), (5, .int x5), (6, .int x6)] [.int r3.1, .int x6, .ref 636] _
        refine ev_s 1 (M' := ev_M r3.2 c w) (pc' := 109) (lv' := [(0, .ref 606), (1, .int x1), (2, .int x2), (3, .int x3), (4, .int x4), (5, .int x5), (6, .int x6)]) (st' := [.int r3.1, .int x6, .ref 636]) (fun n => rfl) ?_
        exact ok_fX11_ask_c109 hkr62 ih h
    · obtain ⟨r4, hr4, h⟩ := Option.bind_eq_some_iff.mp h
      refine ev_c 2 (y' := 281) (M1 := ev_M m c w) (la := lv_args 0 [.ref 606]) (rest := []) (pc' := 120) (lv' := [(0, .ref 606), (1, .int x1), (2, .int x2), (3, .int x3), (4, .int x4), (5, .int x5), (6, .int x6)]) (fun n => rfl) (ok_fX11_mostAlike hr4) ?_
      show Ev XL xs _ 282 (ev_M r4.2 c w) 120 [(0, .ref 606), (1, .int x1), (2, .int x2), (3, .int x3), (4, .int x4), (5, .int x5), (6, .int x6)] [.int r4.1] _
      refine ev_i 4 (M1 := ev_M r4.2 c w) (pc1 := 134) (lv1 := [(6, .int r4.1), (0, .ref 606), (1, .int x1), (2, .int x2), (3, .int x3), (4, .int x4), (5, .int x5)]) (st1 := []) (M2 := ev_M r4.2 c w) (pc2 := 127) (lv2 := [(6, .int r4.1), (0, .ref 606), (1, .int x1), (2, .int x2), (3, .int x3), (4, .int x4), (5, .int x5)]) (st2 := []) (fun n => rfl) h (fun hc5 h => ?_) (fun hc5 h => ?_)
      · refine ev_sub (lv := [(0, .ref 606), (1, .int x1), (2, .int x2), (5, .int x5), (6, .int r4.1)]) (mn_of rfl (by repeat (first | exact trivial | refine And.intro rfl ?_))) ?_
        exact ok_fX11_ask_c134 hkr62 h
      · refine ev_i 3 (M1 := ev_M r4.2 c w) (pc1 := 134) (lv1 := [(6, .int r4.1), (0, .ref 606), (1, .int x1), (2, .int x2), (3, .int x3), (4, .int x4), (5, .int x5)]) (st1 := []) (M2 := ev_M r4.2 c w) (pc2 := 141) (lv2 := [(6, .int r4.1), (0, .ref 606), (1, .int x1), (2, .int x2), (3, .int x3), (4, .int x4), (5, .int x5)]) (st2 := []) (fun n => rfl) h (fun hc6 h => ?_) (fun hc6 h => ?_)
        · refine ev_sub (lv := [(0, .ref 606), (1, .int x1), (2, .int x2), (5, .int x5), (6, .int r4.1)]) (mn_of rfl (by repeat (first | exact trivial | refine And.intro rfl ?_))) ?_
          exact ok_fX11_ask_c134 hkr62 h
        · refine ev_sub (lv := [(0, .ref 606), (1, .int x1), (2, .int x2), (3, .int x3), (4, .int x4), (5, .int x5)]) (mn_of rfl (by repeat (first | exact trivial | refine And.intro rfl ?_))) ?_
          exact ok_fX11_ask_c141 hkr62 h
def fX11_ask_c62 : Nat → mm_MM → Int32 → Int32 → Int32 → Int32 → Int32 → Option (Int32 × mm_MM)
  | 0 => fun _ _ _ _ _ _ => none
  | n + 1 => fun m x1 x2 x3 x4 x5 =>
    (if x5 ≤ 24 then
      fX11_ask_c72 (fX11_ask_c62 n) fu m x1 x2 x3 x4 x5 0
     else
      some (x3, m))
set_option maxRecDepth 20000 in
theorem ok_fX11_ask_c62 : ∀ (n : Nat) (m : mm_MM) (x1 : Int32) (x2 : Int32) (x3 : Int32) (x4 : Int32) (x5 : Int32) (q0 : Int32 × mm_MM), fX11_ask_c62 n m x1 x2 x3 x4 x5 = some q0 → Ev XL xs (d + 10) 282 (ev_M m c w) 62 [(0, .ref 606), (1, .int x1), (2, .int x2), (3, .int x3), (4, .int x4), (5, .int x5)] [] (fr_i c w q0) := by
  intro n
  induction n with
  | zero => intro m x1 x2 x3 x4 x5 q0 h; exact absurd (show (none : Option (Int32 × mm_MM)) = some q0 from h) (by simp)
  | succ n ih =>
    intro m x1 x2 x3 x4 x5 q0 h
    unfold fX11_ask_c62 at h
    refine ev_i 3 (M1 := ev_M m c w) (pc1 := 69) (lv1 := [(0, .ref 606), (1, .int x1), (2, .int x2), (3, .int x3), (4, .int x4), (5, .int x5)]) (st1 := []) (M2 := ev_M m c w) (pc2 := 147) (lv2 := [(0, .ref 606), (1, .int x1), (2, .int x2), (3, .int x3), (4, .int x4), (5, .int x5)]) (st2 := []) (fun n => rfl) h (fun hc1 h => ?_) (fun hc1 h => ?_)
    · refine ev_s 2 (M' := ev_M m c w) (pc' := 72) (lv' := [(6, .int 0), (0, .ref 606), (1, .int x1), (2, .int x2), (3, .int x3), (4, .int x4), (5, .int x5)]) (st' := []) (fun n => rfl) ?_
      refine ev_sub (lv := [(0, .ref 606), (1, .int x1), (2, .int x2), (3, .int x3), (4, .int x4), (5, .int x5), (6, .int 0)]) (mn_of rfl (by repeat (first | exact trivial | refine And.intro rfl ?_))) ?_
      exact ok_fX11_ask_c72 ih fu _ _ _ _ _ _ _ _ h
    · cases h
      exact ev_r 2 (fun n => rfl)
def fX11_ask_c30 : Nat → mm_MM → Int32 → Int32 → Int32 → Option (Int32 × mm_MM)
  | 0 => fun _ _ _ _ => none
  | n + 1 => fun m x1 x2 x3 =>
    (if x3 ≤ 9 then
      (fX11_isDamp m x1 x3).bind fun r2 =>
       (if x3 < 0 ∨ 10 ≤ x3.toNatClampNeg then none else
        (if r2.1 = 0 ∨ r2.1 = 1 then
          fX11_ask_c30 n (wI r2.2 637 x3.toNatClampNeg r2.1) x1 x2 (x3 + 1)
         else none))
     else
      fX11_ask_c62 fu m x1 x2 ((-1) : Int32) 0 1)
set_option maxRecDepth 20000 in
theorem ok_fX11_ask_c30 : ∀ (n : Nat) (m : mm_MM) (x1 : Int32) (x2 : Int32) (x3 : Int32) (q0 : Int32 × mm_MM), fX11_ask_c30 n m x1 x2 x3 = some q0 → Ev XL xs (d + 10) 282 (ev_M m c w) 30 [(0, .ref 606), (1, .int x1), (2, .int x2), (3, .int x3)] [] (fr_i c w q0) := by
  intro n
  induction n with
  | zero => intro m x1 x2 x3 q0 h; exact absurd (show (none : Option (Int32 × mm_MM)) = some q0 from h) (by simp)
  | succ n ih =>
    intro m x1 x2 x3 q0 h
    unfold fX11_ask_c30 at h
    refine ev_i 3 (M1 := ev_M m c w) (pc1 := 36) (lv1 := [(0, .ref 606), (1, .int x1), (2, .int x2), (3, .int x3)]) (st1 := []) (M2 := ev_M m c w) (pc2 := 54) (lv2 := [(0, .ref 606), (1, .int x1), (2, .int x2), (3, .int x3)]) (st2 := []) (fun n => rfl) h (fun hc1 h => ?_) (fun hc1 h => ?_)
    · obtain ⟨r2, hr2, h⟩ := Option.bind_eq_some_iff.mp h
      refine ev_c 7 (y' := 279) (M1 := ev_M m c w) (la := lv_args 0 [.ref 606, .int x1, .int x3]) (rest := [.int x3, .ref 637]) (pc' := 47) (lv' := [(0, .ref 606), (1, .int x1), (2, .int x2), (3, .int x3)]) (fun n => rfl) (ok_fX11_isDamp hr2) ?_
      show Ev XL xs _ 282 (ev_M r2.2 c w) 47 [(0, .ref 606), (1, .int x1), (2, .int x2), (3, .int x3)] [.int r2.1, .int x3, .ref 637] _
      refine ev_gg 1 (M1 := ev_M (wI r2.2 637 x3.toNatClampNeg r2.1) c w) (pc1 := 48) (lv1 := [(0, .ref 606), (1, .int x1), (2, .int x2), (3, .int x3)]) (st1 := []) (fun n => rfl) h (fun h => ?_)
      refine ev_s 2 (M' := ev_M (wI r2.2 637 x3.toNatClampNeg r2.1) c w) (pc' := 30) (lv' := [(3, .int (x3 + 1)), (0, .ref 606), (1, .int x1), (2, .int x2)]) (st' := []) (fun n => rfl) ?_
      refine ev_sub (lv := [(0, .ref 606), (1, .int x1), (2, .int x2), (3, .int (x3 + 1))]) (mn_of rfl (by repeat (first | exact trivial | refine And.intro rfl ?_))) ?_
      exact ih _ _ _ _ _ h
    · refine ev_s 6 (M' := ev_M m c w) (pc' := 62) (lv' := [(5, .int 1), (4, .int 0), (3, .int ((-1) : Int32)), (0, .ref 606), (1, .int x1), (2, .int x2)]) (st' := []) (fun n => rfl) ?_
      refine ev_sub (lv := [(0, .ref 606), (1, .int x1), (2, .int x2), (3, .int ((-1) : Int32)), (4, .int 0), (5, .int 1)]) (mn_of rfl (by repeat (first | exact trivial | refine And.intro rfl ?_))) ?_
      exact ok_fX11_ask_c62 fu _ _ _ _ _ _ _ h
def fX11_ask (m : mm_MM) (x1 : Int32) (x2 : Int32) : Option (Int32 × mm_MM) :=
  (fX11_isRow m x1).bind fun r1 =>
   (if r1.1 = 0 then
     fX11_ask_c26 r1.2
    else
     (fX11_isTold r1.2 x2).bind fun r3 =>
      (if r3.1 = 0 then
        fX11_ask_c26 r3.2
       else
        (fX11_damps r3.2 x1 0).bind fun r5 =>
         (if r5.1 = ((-1) : Int32) then
           fX11_ask_c26 r5.2
          else
           fX11_ask_c30 fu r5.2 x1 x2 0)))
set_option maxRecDepth 20000 in
theorem ok_fX11_ask {m : mm_MM} {x1 : Int32} {x2 : Int32} {q0 : Int32 × mm_MM} (h : fX11_ask m x1 x2 = some q0) : Ev XL xs (d + 10) 282 (ev_M m c w) 0 (lv_args 0 [.ref 606, .int x1, .int x2]) [] (fr_i c w q0) := by
  unfold fX11_ask at h
  obtain ⟨r1, hr1, h⟩ := Option.bind_eq_some_iff.mp h
  refine ev_c 3 (y' := 229) (M1 := ev_M m c w) (la := lv_args 0 [.ref 606, .int x1]) (rest := []) (pc' := 5) (lv' := [(0, .ref 606), (1, .int x1), (2, .int x2)]) (fun n => rfl) (ok_fX11_isRow hr1) ?_
  show Ev XL xs _ 282 (ev_M r1.2 c w) 5 [(0, .ref 606), (1, .int x1), (2, .int x2)] [.int r1.1] _
  refine ev_i 1 (M1 := ev_M r1.2 c w) (pc1 := 26) (lv1 := [(0, .ref 606), (1, .int x1), (2, .int x2)]) (st1 := []) (M2 := ev_M r1.2 c w) (pc2 := 8) (lv2 := [(0, .ref 606), (1, .int x1), (2, .int x2)]) (st2 := []) (fun n => rfl) h (fun hc2 h => ?_) (fun hc2 h => ?_)
  · refine ev_sub (lv := []) (mn_of rfl (by repeat (first | exact trivial | refine And.intro rfl ?_))) ?_
    exact ok_fX11_ask_c26 h
  · obtain ⟨r3, hr3, h⟩ := Option.bind_eq_some_iff.mp h
    refine ev_c 3 (y' := 276) (M1 := ev_M r1.2 c w) (la := lv_args 0 [.ref 606, .int x2]) (rest := []) (pc' := 13) (lv' := [(0, .ref 606), (1, .int x1), (2, .int x2)]) (fun n => rfl) (ok_fX11_isTold hr3) ?_
    show Ev XL xs _ 282 (ev_M r3.2 c w) 13 [(0, .ref 606), (1, .int x1), (2, .int x2)] [.int r3.1] _
    refine ev_i 1 (M1 := ev_M r3.2 c w) (pc1 := 26) (lv1 := [(0, .ref 606), (1, .int x1), (2, .int x2)]) (st1 := []) (M2 := ev_M r3.2 c w) (pc2 := 16) (lv2 := [(0, .ref 606), (1, .int x1), (2, .int x2)]) (st2 := []) (fun n => rfl) h (fun hc4 h => ?_) (fun hc4 h => ?_)
    · refine ev_sub (lv := []) (mn_of rfl (by repeat (first | exact trivial | refine And.intro rfl ?_))) ?_
      exact ok_fX11_ask_c26 h
    · obtain ⟨r5, hr5, h⟩ := Option.bind_eq_some_iff.mp h
      refine ev_c 4 (y' := 280) (M1 := ev_M r3.2 c w) (la := lv_args 0 [.ref 606, .int x1, .int 0]) (rest := []) (pc' := 22) (lv' := [(0, .ref 606), (1, .int x1), (2, .int x2)]) (fun n => rfl) (ok_fX11_damps hr5) ?_
      show Ev XL xs _ 282 (ev_M r5.2 c w) 22 [(0, .ref 606), (1, .int x1), (2, .int x2)] [.int r5.1] _
      refine ev_i 2 (M1 := ev_M r5.2 c w) (pc1 := 26) (lv1 := [(0, .ref 606), (1, .int x1), (2, .int x2)]) (st1 := []) (M2 := ev_M r5.2 c w) (pc2 := 28) (lv2 := [(0, .ref 606), (1, .int x1), (2, .int x2)]) (st2 := []) (fun n => rfl) h (fun hc6 h => ?_) (fun hc6 h => ?_)
      · refine ev_sub (lv := []) (mn_of rfl (by repeat (first | exact trivial | refine And.intro rfl ?_))) ?_
        exact ok_fX11_ask_c26 h
      · refine ev_s 2 (M' := ev_M r5.2 c w) (pc' := 30) (lv' := [(3, .int 0), (0, .ref 606), (1, .int x1), (2, .int x2)]) (st' := []) (fun n => rfl) ?_
        refine ev_sub (lv := [(0, .ref 606), (1, .int x1), (2, .int x2), (3, .int 0)]) (mn_of rfl (by repeat (first | exact trivial | refine And.intro rfl ?_))) ?_
        exact ok_fX11_ask_c30 fu _ _ _ _ _ h
def fX11_thiefHas_c26 (m : mm_MM) (s0 : Int32) : Option (Int32 × mm_MM) :=
  some (s0, m)
theorem ok_fX11_thiefHas_c26 {m : mm_MM} {s0 : Int32} {q0 : Int32 × mm_MM} (h : fX11_thiefHas_c26 m s0 = some q0) : Ev XL xs (d + 1) 283 (ev_M m c w) 26 [] [.int s0] (fr_i c w q0) := by
  unfold fX11_thiefHas_c26 at h
  cases h
  exact ev_r 1 (fun n => rfl)
def fX11_thiefHas_c22 (m : mm_MM) (s1 : Int32) : Option (Int32 × mm_MM) :=
  (fX11_of m s1 0).bind fun r1 =>
   fX11_thiefHas_c26 r1.2 r1.1
theorem ok_fX11_thiefHas_c22 {m : mm_MM} {s1 : Int32} {q0 : Int32 × mm_MM} (h : fX11_thiefHas_c22 m s1 = some q0) : Ev XL xs (d + 1) 283 (ev_M m c w) 22 [] [.int s1, .ref 606] (fr_i c w q0) := by
  unfold fX11_thiefHas_c22 at h
  obtain ⟨r1, hr1, h⟩ := Option.bind_eq_some_iff.mp h
  refine ev_c 2 (y' := 220) (M1 := ev_M m c w) (la := lv_args 0 [.ref 606, .int s1, .int 0]) (rest := []) (pc' := 26) (lv' := []) (fun n => rfl) (ok_fX11_of hr1) ?_
  show Ev XL xs _ 283 (ev_M r1.2 c w) 26 [] [.int r1.1] _
  exact ok_fX11_thiefHas_c26 h
def fX11_thiefHas (m : mm_MM) (x1 : Int32) (x2 : Int32) (x3 : Int32) (x4 : Int32) : Option (Int32 × mm_MM) :=
  (if x3 = x4 then
    fX11_thiefHas_c26 m ((-5) : Int32)
   else
    (if x4 = 0 then
      fX11_thiefHas_c22 m x1
     else
      fX11_thiefHas_c22 m x2))
theorem ok_fX11_thiefHas {m : mm_MM} {x1 : Int32} {x2 : Int32} {x3 : Int32} {x4 : Int32} {q0 : Int32 × mm_MM} (h : fX11_thiefHas m x1 x2 x3 x4 = some q0) : Ev XL xs (d + 1) 283 (ev_M m c w) 0 (lv_args 0 [.ref 606, .int x1, .int x2, .int x3, .int x4]) [] (fr_i c w q0) := by
  unfold fX11_thiefHas at h
  refine ev_i 3 (M1 := ev_M m c w) (pc1 := 6) (lv1 := [(0, .ref 606), (1, .int x1), (2, .int x2), (3, .int x3), (4, .int x4)]) (st1 := []) (M2 := ev_M m c w) (pc2 := 11) (lv2 := [(0, .ref 606), (1, .int x1), (2, .int x2), (3, .int x3), (4, .int x4)]) (st2 := []) (fun n => rfl) h (fun hc1 h => ?_) (fun hc1 h => ?_)
  · refine ev_s 2 (M' := ev_M m c w) (pc' := 26) (lv' := [(0, .ref 606), (1, .int x1), (2, .int x2), (3, .int x3), (4, .int x4)]) (st' := [.int ((-5) : Int32)]) (fun n => rfl) ?_
    refine ev_sub (lv := []) (mn_of rfl (by repeat (first | exact trivial | refine And.intro rfl ?_))) ?_
    exact ok_fX11_thiefHas_c26 h
  · refine ev_i 3 (M1 := ev_M m c w) (pc1 := 17) (lv1 := [(0, .ref 606), (1, .int x1), (2, .int x2), (3, .int x3), (4, .int x4)]) (st1 := [.ref 606]) (M2 := ev_M m c w) (pc2 := 21) (lv2 := [(0, .ref 606), (1, .int x1), (2, .int x2), (3, .int x3), (4, .int x4)]) (st2 := [.ref 606]) (fun n => rfl) h (fun hc2 h => ?_) (fun hc2 h => ?_)
    · refine ev_s 2 (M' := ev_M m c w) (pc' := 22) (lv' := [(0, .ref 606), (1, .int x1), (2, .int x2), (3, .int x3), (4, .int x4)]) (st' := [.int x1, .ref 606]) (fun n => rfl) ?_
      refine ev_sub (lv := []) (mn_of rfl (by repeat (first | exact trivial | refine And.intro rfl ?_))) ?_
      exact ok_fX11_thiefHas_c22 h
    · refine ev_s 1 (M' := ev_M m c w) (pc' := 22) (lv' := [(0, .ref 606), (1, .int x1), (2, .int x2), (3, .int x3), (4, .int x4)]) (st' := [.int x2, .ref 606]) (fun n => rfl) ?_
      refine ev_sub (lv := []) (mn_of rfl (by repeat (first | exact trivial | refine And.intro rfl ?_))) ?_
      exact ok_fX11_thiefHas_c22 h
def fX11_merchantHas (m : mm_MM) (x1 : Int32) (x2 : Int32) (x3 : Int32) (x4 : Int32) : Option (Int32 × mm_MM) :=
  (fX11_thiefHas m x1 x2 x3 x4).bind fun r1 =>
   some (((-r1.1) - x3), r1.2)
theorem ok_fX11_merchantHas {m : mm_MM} {x1 : Int32} {x2 : Int32} {x3 : Int32} {x4 : Int32} {q0 : Int32 × mm_MM} (h : fX11_merchantHas m x1 x2 x3 x4 = some q0) : Ev XL xs (d + 2) 284 (ev_M m c w) 0 (lv_args 0 [.ref 606, .int x1, .int x2, .int x3, .int x4]) [] (fr_i c w q0) := by
  unfold fX11_merchantHas at h
  obtain ⟨r1, hr1, h⟩ := Option.bind_eq_some_iff.mp h
  refine ev_c 6 (y' := 283) (M1 := ev_M m c w) (la := lv_args 0 [.ref 606, .int x1, .int x2, .int x3, .int x4]) (rest := []) (pc' := 9) (lv' := [(0, .ref 606), (1, .int x1), (2, .int x2), (3, .int x3), (4, .int x4)]) (fun n => rfl) (ok_fX11_thiefHas hr1) ?_
  show Ev XL xs _ 284 (ev_M r1.2 c w) 9 [(0, .ref 606), (1, .int x1), (2, .int x2), (3, .int x3), (4, .int x4)] [.int r1.1] _
  cases h
  exact ev_r 4 (fun n => rfl)
def fX11_areTwo_c26 (m : mm_MM) (s0 : Int32) : Option (Int32 × mm_MM) :=
  (if s0 = 0 ∨ s0 = 1 then some (s0, m) else none)
theorem ok_fX11_areTwo_c26 {m : mm_MM} {s0 : Int32} {q0 : Int32 × mm_MM} (h : fX11_areTwo_c26 m s0 = some q0) : Ev XL xs (d + 3) 285 (ev_M m c w) 26 [] [.int s0] (fr_i c w q0) := by
  unfold fX11_areTwo_c26 at h
  exact ev_rg 1 (f := fr_i c w) (fun n => rfl) h
def fX11_areTwo_c25 (m : mm_MM) : Option (Int32 × mm_MM) :=
  fX11_areTwo_c26 m 0
theorem ok_fX11_areTwo_c25 {m : mm_MM} {q0 : Int32 × mm_MM} (h : fX11_areTwo_c25 m = some q0) : Ev XL xs (d + 3) 285 (ev_M m c w) 25 [] [] (fr_i c w q0) := by
  unfold fX11_areTwo_c25 at h
  refine ev_s 1 (M' := ev_M m c w) (pc' := 26) (lv' := []) (st' := [.int 0]) (fun n => rfl) ?_
  exact ok_fX11_areTwo_c26 h
def fX11_areTwo (m : mm_MM) (x1 : Int32) (x2 : Int32) : Option (Int32 × mm_MM) :=
  (fX11_doesLie m x1).bind fun r1 =>
   (if r1.1 = 0 then
     fX11_areTwo_c25 r1.2
    else
     (fX11_doesLie r1.2 x2).bind fun r3 =>
      (if r3.1 = 0 then
        fX11_areTwo_c25 r3.2
       else
        (if x1 = x2 then
          fX11_areTwo_c25 r3.2
         else
          fX11_areTwo_c26 r3.2 1)))
theorem ok_fX11_areTwo {m : mm_MM} {x1 : Int32} {x2 : Int32} {q0 : Int32 × mm_MM} (h : fX11_areTwo m x1 x2 = some q0) : Ev XL xs (d + 3) 285 (ev_M m c w) 0 (lv_args 0 [.ref 606, .int x1, .int x2]) [] (fr_i c w q0) := by
  unfold fX11_areTwo at h
  obtain ⟨r1, hr1, h⟩ := Option.bind_eq_some_iff.mp h
  refine ev_c 3 (y' := 226) (M1 := ev_M m c w) (la := lv_args 0 [.ref 606, .int x1]) (rest := []) (pc' := 5) (lv' := [(0, .ref 606), (1, .int x1), (2, .int x2)]) (fun n => rfl) (ok_fX11_doesLie hr1) ?_
  show Ev XL xs _ 285 (ev_M r1.2 c w) 5 [(0, .ref 606), (1, .int x1), (2, .int x2)] [.int r1.1] _
  refine ev_i 1 (M1 := ev_M r1.2 c w) (pc1 := 25) (lv1 := [(0, .ref 606), (1, .int x1), (2, .int x2)]) (st1 := []) (M2 := ev_M r1.2 c w) (pc2 := 8) (lv2 := [(0, .ref 606), (1, .int x1), (2, .int x2)]) (st2 := []) (fun n => rfl) h (fun hc2 h => ?_) (fun hc2 h => ?_)
  · refine ev_sub (lv := []) (mn_of rfl (by repeat (first | exact trivial | refine And.intro rfl ?_))) ?_
    exact ok_fX11_areTwo_c25 h
  · obtain ⟨r3, hr3, h⟩ := Option.bind_eq_some_iff.mp h
    refine ev_c 3 (y' := 226) (M1 := ev_M r1.2 c w) (la := lv_args 0 [.ref 606, .int x2]) (rest := []) (pc' := 13) (lv' := [(0, .ref 606), (1, .int x1), (2, .int x2)]) (fun n => rfl) (ok_fX11_doesLie hr3) ?_
    show Ev XL xs _ 285 (ev_M r3.2 c w) 13 [(0, .ref 606), (1, .int x1), (2, .int x2)] [.int r3.1] _
    refine ev_i 1 (M1 := ev_M r3.2 c w) (pc1 := 25) (lv1 := [(0, .ref 606), (1, .int x1), (2, .int x2)]) (st1 := []) (M2 := ev_M r3.2 c w) (pc2 := 16) (lv2 := [(0, .ref 606), (1, .int x1), (2, .int x2)]) (st2 := []) (fun n => rfl) h (fun hc4 h => ?_) (fun hc4 h => ?_)
    · refine ev_sub (lv := []) (mn_of rfl (by repeat (first | exact trivial | refine And.intro rfl ?_))) ?_
      exact ok_fX11_areTwo_c25 h
    · refine ev_i 3 (M1 := ev_M r3.2 c w) (pc1 := 25) (lv1 := [(0, .ref 606), (1, .int x1), (2, .int x2)]) (st1 := []) (M2 := ev_M r3.2 c w) (pc2 := 21) (lv2 := [(0, .ref 606), (1, .int x1), (2, .int x2)]) (st2 := []) (fun n => rfl) h (fun hc5 h => ?_) (fun hc5 h => ?_)
      · refine ev_sub (lv := []) (mn_of rfl (by repeat (first | exact trivial | refine And.intro rfl ?_))) ?_
        exact ok_fX11_areTwo_c25 h
      · refine ev_s 2 (M' := ev_M r3.2 c w) (pc' := 26) (lv' := [(0, .ref 606), (1, .int x1), (2, .int x2)]) (st' := [.int 1]) (fun n => rfl) ?_
        refine ev_sub (lv := []) (mn_of rfl (by repeat (first | exact trivial | refine And.intro rfl ?_))) ?_
        exact ok_fX11_areTwo_c26 h
def fX11_game_c38 (m : mm_MM) : Option (Int32 × mm_MM) :=
  some (((-1000000) : Int32), m)
theorem ok_fX11_game_c38 {m : mm_MM} {q0 : Int32 × mm_MM} (h : fX11_game_c38 m = some q0) : Ev XL xs (d + 4) 286 (ev_M m c w) 38 [] [] (fr_i c w q0) := by
  unfold fX11_game_c38 at h
  cases h
  exact ev_r 2 (fun n => rfl)
def fX11_game_c68 (m : mm_MM) (s0 : Int32) : Option (Int32 × mm_MM) :=
  some (s0, m)
theorem ok_fX11_game_c68 {m : mm_MM} {s0 : Int32} {q0 : Int32 × mm_MM} (h : fX11_game_c68 m s0 = some q0) : Ev XL xs (d + 4) 286 (ev_M m c w) 68 [] [.int s0] (fr_i c w q0) := by
  unfold fX11_game_c68 at h
  cases h
  exact ev_r 1 (fun n => rfl)
def fX11_game (m : mm_MM) (x1 : Int32) (x2 : Int32) (x3 : Int32) (x4 : Int32) (x5 : Int32) : Option (Int32 × mm_MM) :=
  (fX11_areTwo m x1 x2).bind fun r1 =>
   (if r1.1 = 0 then
     fX11_game_c38 r1.2
    else
     (fX11_in r1.2 x3 0 1).bind fun r3 =>
      (if r3.1 = 0 then
        fX11_game_c38 r3.2
       else
        (fX11_in r3.2 x4 0 1).bind fun r5 =>
         (if r5.1 = 0 then
           fX11_game_c38 r5.2
          else
           (fX11_in r5.2 x5 0 1).bind fun r7 =>
            (if r7.1 = 0 then
              fX11_game_c38 r7.2
             else
              (if x5 = 0 then
                (fX11_merchantHas r7.2 x1 x2 x3 x4).bind fun r10 =>
                 fX11_game_c68 r10.2 r10.1
               else
                (fX11_thiefHas r7.2 x1 x2 x3 x4).bind fun r11 =>
                 fX11_game_c68 r11.2 r11.1)))))
theorem ok_fX11_game {m : mm_MM} {x1 : Int32} {x2 : Int32} {x3 : Int32} {x4 : Int32} {x5 : Int32} {q0 : Int32 × mm_MM} (h : fX11_game m x1 x2 x3 x4 x5 = some q0) : Ev XL xs (d + 4) 286 (ev_M m c w) 0 (lv_args 0 [.ref 606, .int x1, .int x2, .int x3, .int x4, .int x5]) [] (fr_i c w q0) := by
  unfold fX11_game at h
  obtain ⟨r1, hr1, h⟩ := Option.bind_eq_some_iff.mp h
  refine ev_c 4 (y' := 285) (M1 := ev_M m c w) (la := lv_args 0 [.ref 606, .int x1, .int x2]) (rest := []) (pc' := 6) (lv' := [(0, .ref 606), (1, .int x1), (2, .int x2), (3, .int x3), (4, .int x4), (5, .int x5)]) (fun n => rfl) (ok_fX11_areTwo hr1) ?_
  show Ev XL xs _ 286 (ev_M r1.2 c w) 6 [(0, .ref 606), (1, .int x1), (2, .int x2), (3, .int x3), (4, .int x4), (5, .int x5)] [.int r1.1] _
  refine ev_i 1 (M1 := ev_M r1.2 c w) (pc1 := 38) (lv1 := [(0, .ref 606), (1, .int x1), (2, .int x2), (3, .int x3), (4, .int x4), (5, .int x5)]) (st1 := []) (M2 := ev_M r1.2 c w) (pc2 := 9) (lv2 := [(0, .ref 606), (1, .int x1), (2, .int x2), (3, .int x3), (4, .int x4), (5, .int x5)]) (st2 := []) (fun n => rfl) h (fun hc2 h => ?_) (fun hc2 h => ?_)
  · refine ev_sub (lv := []) (mn_of rfl (by repeat (first | exact trivial | refine And.intro rfl ?_))) ?_
    exact ok_fX11_game_c38 h
  · obtain ⟨r3, hr3, h⟩ := Option.bind_eq_some_iff.mp h
    refine ev_c 4 (y' := 178) (M1 := ev_M r1.2 c w) (la := lv_args 0 [.int x3, .int 0, .int 1]) (rest := []) (pc' := 15) (lv' := [(0, .ref 606), (1, .int x1), (2, .int x2), (3, .int x3), (4, .int x4), (5, .int x5)]) (fun n => rfl) (ok_fX11_in hr3) ?_
    show Ev XL xs _ 286 (ev_M r3.2 c w) 15 [(0, .ref 606), (1, .int x1), (2, .int x2), (3, .int x3), (4, .int x4), (5, .int x5)] [.int r3.1] _
    refine ev_i 1 (M1 := ev_M r3.2 c w) (pc1 := 38) (lv1 := [(0, .ref 606), (1, .int x1), (2, .int x2), (3, .int x3), (4, .int x4), (5, .int x5)]) (st1 := []) (M2 := ev_M r3.2 c w) (pc2 := 18) (lv2 := [(0, .ref 606), (1, .int x1), (2, .int x2), (3, .int x3), (4, .int x4), (5, .int x5)]) (st2 := []) (fun n => rfl) h (fun hc4 h => ?_) (fun hc4 h => ?_)
    · refine ev_sub (lv := []) (mn_of rfl (by repeat (first | exact trivial | refine And.intro rfl ?_))) ?_
      exact ok_fX11_game_c38 h
    · obtain ⟨r5, hr5, h⟩ := Option.bind_eq_some_iff.mp h
      refine ev_c 4 (y' := 178) (M1 := ev_M r3.2 c w) (la := lv_args 0 [.int x4, .int 0, .int 1]) (rest := []) (pc' := 25) (lv' := [(0, .ref 606), (1, .int x1), (2, .int x2), (3, .int x3), (4, .int x4), (5, .int x5)]) (fun n => rfl) (ok_fX11_in hr5) ?_
      show Ev XL xs _ 286 (ev_M r5.2 c w) 25 [(0, .ref 606), (1, .int x1), (2, .int x2), (3, .int x3), (4, .int x4), (5, .int x5)] [.int r5.1] _
      refine ev_i 1 (M1 := ev_M r5.2 c w) (pc1 := 38) (lv1 := [(0, .ref 606), (1, .int x1), (2, .int x2), (3, .int x3), (4, .int x4), (5, .int x5)]) (st1 := []) (M2 := ev_M r5.2 c w) (pc2 := 28) (lv2 := [(0, .ref 606), (1, .int x1), (2, .int x2), (3, .int x3), (4, .int x4), (5, .int x5)]) (st2 := []) (fun n => rfl) h (fun hc6 h => ?_) (fun hc6 h => ?_)
      · refine ev_sub (lv := []) (mn_of rfl (by repeat (first | exact trivial | refine And.intro rfl ?_))) ?_
        exact ok_fX11_game_c38 h
      · obtain ⟨r7, hr7, h⟩ := Option.bind_eq_some_iff.mp h
        refine ev_c 4 (y' := 178) (M1 := ev_M r5.2 c w) (la := lv_args 0 [.int x5, .int 0, .int 1]) (rest := []) (pc' := 35) (lv' := [(0, .ref 606), (1, .int x1), (2, .int x2), (3, .int x3), (4, .int x4), (5, .int x5)]) (fun n => rfl) (ok_fX11_in hr7) ?_
        show Ev XL xs _ 286 (ev_M r7.2 c w) 35 [(0, .ref 606), (1, .int x1), (2, .int x2), (3, .int x3), (4, .int x4), (5, .int x5)] [.int r7.1] _
        refine ev_i 1 (M1 := ev_M r7.2 c w) (pc1 := 38) (lv1 := [(0, .ref 606), (1, .int x1), (2, .int x2), (3, .int x3), (4, .int x4), (5, .int x5)]) (st1 := []) (M2 := ev_M r7.2 c w) (pc2 := 42) (lv2 := [(0, .ref 606), (1, .int x1), (2, .int x2), (3, .int x3), (4, .int x4), (5, .int x5)]) (st2 := []) (fun n => rfl) h (fun hc8 h => ?_) (fun hc8 h => ?_)
        · refine ev_sub (lv := []) (mn_of rfl (by repeat (first | exact trivial | refine And.intro rfl ?_))) ?_
          exact ok_fX11_game_c38 h
        · refine ev_i 2 (M1 := ev_M r7.2 c w) (pc1 := 47) (lv1 := [(0, .ref 606), (1, .int x1), (2, .int x2), (3, .int x3), (4, .int x4), (5, .int x5)]) (st1 := []) (M2 := ev_M r7.2 c w) (pc2 := 59) (lv2 := [(0, .ref 606), (1, .int x1), (2, .int x2), (3, .int x3), (4, .int x4), (5, .int x5)]) (st2 := []) (fun n => rfl) h (fun hc9 h => ?_) (fun hc9 h => ?_)
          · obtain ⟨r10, hr10, h⟩ := Option.bind_eq_some_iff.mp h
            refine ev_c 6 (y' := 284) (M1 := ev_M r7.2 c w) (la := lv_args 0 [.ref 606, .int x1, .int x2, .int x3, .int x4]) (rest := []) (pc' := 56) (lv' := [(0, .ref 606), (1, .int x1), (2, .int x2), (3, .int x3), (4, .int x4), (5, .int x5)]) (fun n => rfl) (ok_fX11_merchantHas hr10) ?_
            show Ev XL xs _ 286 (ev_M r10.2 c w) 56 [(0, .ref 606), (1, .int x1), (2, .int x2), (3, .int x3), (4, .int x4), (5, .int x5)] [.int r10.1] _
            refine ev_s 1 (M' := ev_M r10.2 c w) (pc' := 68) (lv' := [(0, .ref 606), (1, .int x1), (2, .int x2), (3, .int x3), (4, .int x4), (5, .int x5)]) (st' := [.int r10.1]) (fun n => rfl) ?_
            refine ev_sub (lv := []) (mn_of rfl (by repeat (first | exact trivial | refine And.intro rfl ?_))) ?_
            exact ok_fX11_game_c68 h
          · obtain ⟨r11, hr11, h⟩ := Option.bind_eq_some_iff.mp h
            refine ev_c 6 (y' := 283) (M1 := ev_M r7.2 c w) (la := lv_args 0 [.ref 606, .int x1, .int x2, .int x3, .int x4]) (rest := []) (pc' := 68) (lv' := [(0, .ref 606), (1, .int x1), (2, .int x2), (3, .int x3), (4, .int x4), (5, .int x5)]) (fun n => rfl) (ok_fX11_thiefHas hr11) ?_
            show Ev XL xs _ 286 (ev_M r11.2 c w) 68 [(0, .ref 606), (1, .int x1), (2, .int x2), (3, .int x3), (4, .int x4), (5, .int x5)] [.int r11.1] _
            refine ev_sub (lv := []) (mn_of rfl (by repeat (first | exact trivial | refine And.intro rfl ?_))) ?_
            exact ok_fX11_game_c68 h
def fX11_isRest_c51 (m : mm_MM) (s0 : Int32) : Option (Int32 × mm_MM) :=
  (if s0 = 0 ∨ s0 = 1 then some (s0, m) else none)
theorem ok_fX11_isRest_c51 {m : mm_MM} {s0 : Int32} {q0 : Int32 × mm_MM} (h : fX11_isRest_c51 m s0 = some q0) : Ev XL xs (d + 3) 287 (ev_M m c w) 51 [] [.int s0] (fr_i c w q0) := by
  unfold fX11_isRest_c51 at h
  exact ev_rg 1 (f := fr_i c w) (fun n => rfl) h
def fX11_isRest_c50 (m : mm_MM) : Option (Int32 × mm_MM) :=
  fX11_isRest_c51 m 0
theorem ok_fX11_isRest_c50 {m : mm_MM} {q0 : Int32 × mm_MM} (h : fX11_isRest_c50 m = some q0) : Ev XL xs (d + 3) 287 (ev_M m c w) 50 [] [] (fr_i c w q0) := by
  unfold fX11_isRest_c50 at h
  refine ev_s 1 (M' := ev_M m c w) (pc' := 51) (lv' := []) (st' := [.int 0]) (fun n => rfl) ?_
  exact ok_fX11_isRest_c51 h
def fX11_isRest (m : mm_MM) (x1 : Int32) (x2 : Int32) (x3 : Int32) (x4 : Int32) : Option (Int32 × mm_MM) :=
  (fX11_merchantHas m x1 x2 (1 - x3) x4).bind fun r1 =>
   (fX11_merchantHas r1.2 x1 x2 x3 x4).bind fun r2 =>
    (if r1.1 ≤ r2.1 then
      (fX11_thiefHas r2.2 x1 x2 x3 (1 - x4)).bind fun r4 =>
       (fX11_thiefHas r4.2 x1 x2 x3 x4).bind fun r5 =>
        (if r4.1 ≤ r5.1 then
          fX11_isRest_c51 r5.2 1
         else
          fX11_isRest_c50 r5.2)
     else
      fX11_isRest_c50 r2.2)
theorem ok_fX11_isRest {m : mm_MM} {x1 : Int32} {x2 : Int32} {x3 : Int32} {x4 : Int32} {q0 : Int32 × mm_MM} (h : fX11_isRest m x1 x2 x3 x4 = some q0) : Ev XL xs (d + 3) 287 (ev_M m c w) 0 (lv_args 0 [.ref 606, .int x1, .int x2, .int x3, .int x4]) [] (fr_i c w q0) := by
  unfold fX11_isRest at h
  obtain ⟨r1, hr1, h⟩ := Option.bind_eq_some_iff.mp h
  refine ev_c 8 (y' := 284) (M1 := ev_M m c w) (la := lv_args 0 [.ref 606, .int x1, .int x2, .int (1 - x3), .int x4]) (rest := []) (pc' := 11) (lv' := [(0, .ref 606), (1, .int x1), (2, .int x2), (3, .int x3), (4, .int x4)]) (fun n => rfl) (ok_fX11_merchantHas hr1) ?_
  show Ev XL xs _ 287 (ev_M r1.2 c w) 11 [(0, .ref 606), (1, .int x1), (2, .int x2), (3, .int x3), (4, .int x4)] [.int r1.1] _
  obtain ⟨r2, hr2, h⟩ := Option.bind_eq_some_iff.mp h
  refine ev_c 6 (y' := 284) (M1 := ev_M r1.2 c w) (la := lv_args 0 [.ref 606, .int x1, .int x2, .int x3, .int x4]) (rest := [.int r1.1]) (pc' := 20) (lv' := [(0, .ref 606), (1, .int x1), (2, .int x2), (3, .int x3), (4, .int x4)]) (fun n => rfl) (ok_fX11_merchantHas hr2) ?_
  show Ev XL xs _ 287 (ev_M r2.2 c w) 20 [(0, .ref 606), (1, .int x1), (2, .int x2), (3, .int x3), (4, .int x4)] [.int r2.1, .int r1.1] _
  refine ev_i 1 (M1 := ev_M r2.2 c w) (pc1 := 23) (lv1 := [(0, .ref 606), (1, .int x1), (2, .int x2), (3, .int x3), (4, .int x4)]) (st1 := []) (M2 := ev_M r2.2 c w) (pc2 := 50) (lv2 := [(0, .ref 606), (1, .int x1), (2, .int x2), (3, .int x3), (4, .int x4)]) (st2 := []) (fun n => rfl) h (fun hc3 h => ?_) (fun hc3 h => ?_)
  · obtain ⟨r4, hr4, h⟩ := Option.bind_eq_some_iff.mp h
    refine ev_c 8 (y' := 283) (M1 := ev_M r2.2 c w) (la := lv_args 0 [.ref 606, .int x1, .int x2, .int x3, .int (1 - x4)]) (rest := []) (pc' := 34) (lv' := [(0, .ref 606), (1, .int x1), (2, .int x2), (3, .int x3), (4, .int x4)]) (fun n => rfl) (ok_fX11_thiefHas hr4) ?_
    show Ev XL xs _ 287 (ev_M r4.2 c w) 34 [(0, .ref 606), (1, .int x1), (2, .int x2), (3, .int x3), (4, .int x4)] [.int r4.1] _
    obtain ⟨r5, hr5, h⟩ := Option.bind_eq_some_iff.mp h
    refine ev_c 6 (y' := 283) (M1 := ev_M r4.2 c w) (la := lv_args 0 [.ref 606, .int x1, .int x2, .int x3, .int x4]) (rest := [.int r4.1]) (pc' := 43) (lv' := [(0, .ref 606), (1, .int x1), (2, .int x2), (3, .int x3), (4, .int x4)]) (fun n => rfl) (ok_fX11_thiefHas hr5) ?_
    show Ev XL xs _ 287 (ev_M r5.2 c w) 43 [(0, .ref 606), (1, .int x1), (2, .int x2), (3, .int x3), (4, .int x4)] [.int r5.1, .int r4.1] _
    refine ev_i 1 (M1 := ev_M r5.2 c w) (pc1 := 46) (lv1 := [(0, .ref 606), (1, .int x1), (2, .int x2), (3, .int x3), (4, .int x4)]) (st1 := []) (M2 := ev_M r5.2 c w) (pc2 := 50) (lv2 := [(0, .ref 606), (1, .int x1), (2, .int x2), (3, .int x3), (4, .int x4)]) (st2 := []) (fun n => rfl) h (fun hc6 h => ?_) (fun hc6 h => ?_)
    · refine ev_s 2 (M' := ev_M r5.2 c w) (pc' := 51) (lv' := [(0, .ref 606), (1, .int x1), (2, .int x2), (3, .int x3), (4, .int x4)]) (st' := [.int 1]) (fun n => rfl) ?_
      refine ev_sub (lv := []) (mn_of rfl (by repeat (first | exact trivial | refine And.intro rfl ?_))) ?_
      exact ok_fX11_isRest_c51 h
    · refine ev_sub (lv := []) (mn_of rfl (by repeat (first | exact trivial | refine And.intro rfl ?_))) ?_
      exact ok_fX11_isRest_c50 h
  · refine ev_sub (lv := []) (mn_of rfl (by repeat (first | exact trivial | refine And.intro rfl ?_))) ?_
    exact ok_fX11_isRest_c50 h
def fX11_rests_c14 (m : mm_MM) : Option (Int32 × mm_MM) :=
  some (((-1) : Int32), m)
theorem ok_fX11_rests_c14 {m : mm_MM} {q0 : Int32 × mm_MM} (h : fX11_rests_c14 m = some q0) : Ev XL xs (d + 4) 288 (ev_M m c w) 14 [] [] (fr_i c w q0) := by
  unfold fX11_rests_c14 at h
  cases h
  exact ev_r 2 (fun n => rfl)
def fX11_rests_c67 (kr22 : mm_MM → Int32 → Int32 → Int32 → Int32 → Int32 → Option (Int32 × mm_MM)) (m : mm_MM) (x1 : Int32) (x2 : Int32) (x3 : Int32) (x4 : Int32) (x5 : Int32) : Option (Int32 × mm_MM) :=
  kr22 m x1 x2 x3 x4 (x5 + 1)
theorem ok_fX11_rests_c67 {kr22 : mm_MM → Int32 → Int32 → Int32 → Int32 → Int32 → Option (Int32 × mm_MM)} (hkr22 : ∀ (m : mm_MM) (x1 : Int32) (x2 : Int32) (x3 : Int32) (x4 : Int32) (x5 : Int32) (q0 : Int32 × mm_MM), kr22 m x1 x2 x3 x4 x5 = some q0 → Ev XL xs (d + 4) 288 (ev_M m c w) 22 [(0, .ref 606), (1, .int x1), (2, .int x2), (3, .int x3), (4, .int x4), (5, .int x5)] [] (fr_i c w q0)) {m : mm_MM} {x1 : Int32} {x2 : Int32} {x3 : Int32} {x4 : Int32} {x5 : Int32} {q0 : Int32 × mm_MM} (h : fX11_rests_c67 kr22 m x1 x2 x3 x4 x5 = some q0) : Ev XL xs (d + 4) 288 (ev_M m c w) 67 [(0, .ref 606), (1, .int x1), (2, .int x2), (3, .int x3), (4, .int x4), (5, .int x5)] [] (fr_i c w q0) := by
  unfold fX11_rests_c67 at h
  refine ev_s 2 (M' := ev_M m c w) (pc' := 22) (lv' := [(5, .int (x5 + 1)), (0, .ref 606), (1, .int x1), (2, .int x2), (3, .int x3), (4, .int x4)]) (st' := []) (fun n => rfl) ?_
  refine ev_sub (lv := [(0, .ref 606), (1, .int x1), (2, .int x2), (3, .int x3), (4, .int x4), (5, .int (x5 + 1))]) (mn_of rfl (by repeat (first | exact trivial | refine And.intro rfl ?_))) ?_
  exact hkr22 _ _ _ _ _ _ _ h
def fX11_rests_c84 (m : mm_MM) (s0 : Int32) : Option (Int32 × mm_MM) :=
  some (s0, m)
theorem ok_fX11_rests_c84 {m : mm_MM} {s0 : Int32} {q0 : Int32 × mm_MM} (h : fX11_rests_c84 m s0 = some q0) : Ev XL xs (d + 4) 288 (ev_M m c w) 84 [] [.int s0] (fr_i c w q0) := by
  unfold fX11_rests_c84 at h
  cases h
  exact ev_r 1 (fun n => rfl)
def fX11_rests_c22 : Nat → mm_MM → Int32 → Int32 → Int32 → Int32 → Int32 → Option (Int32 × mm_MM)
  | 0 => fun _ _ _ _ _ _ => none
  | n + 1 => fun m x1 x2 x3 x4 x5 =>
    (if x5 < 4 then
      (fX11_isRest m x1 x2 ((x5 : Int32) / 2) ((x5 : Int32) - x5 / 2 * 2)).bind fun r2 =>
       (if r2.1 = 0 then
         fX11_rests_c67 (fX11_rests_c22 n) r2.2 x1 x2 x3 x4 x5
        else
         (if x4 = x3 then
           some (((10 * ((x5 : Int32) / 2)) + ((x5 : Int32) - x5 / 2 * 2)), r2.2)
          else
           fX11_rests_c67 (fX11_rests_c22 n) r2.2 x1 x2 x3 (x4 + 1) x5))
     else
      (if x3 = ((-1) : Int32) then
        fX11_rests_c84 m x4
       else
        fX11_rests_c84 m ((-1) : Int32)))
theorem ok_fX11_rests_c22 : ∀ (n : Nat) (m : mm_MM) (x1 : Int32) (x2 : Int32) (x3 : Int32) (x4 : Int32) (x5 : Int32) (q0 : Int32 × mm_MM), fX11_rests_c22 n m x1 x2 x3 x4 x5 = some q0 → Ev XL xs (d + 4) 288 (ev_M m c w) 22 [(0, .ref 606), (1, .int x1), (2, .int x2), (3, .int x3), (4, .int x4), (5, .int x5)] [] (fr_i c w q0) := by
  intro n
  induction n with
  | zero => intro m x1 x2 x3 x4 x5 q0 h; exact absurd (show (none : Option (Int32 × mm_MM)) = some q0 from h) (by simp)
  | succ n ih =>
    intro m x1 x2 x3 x4 x5 q0 h
    unfold fX11_rests_c22 at h
    refine ev_i 3 (M1 := ev_M m c w) (pc1 := 28) (lv1 := [(0, .ref 606), (1, .int x1), (2, .int x2), (3, .int x3), (4, .int x4), (5, .int x5)]) (st1 := []) (M2 := ev_M m c w) (pc2 := 73) (lv2 := [(0, .ref 606), (1, .int x1), (2, .int x2), (3, .int x3), (4, .int x4), (5, .int x5)]) (st2 := []) (fun n => rfl) h (fun hc1 h => ?_) (fun hc1 h => ?_)
    · obtain ⟨r2, hr2, h⟩ := Option.bind_eq_some_iff.mp h
      refine ev_c 10 (y' := 287) (M1 := ev_M m c w) (la := lv_args 0 [.ref 606, .int x1, .int x2, .int ((x5 : Int32) / 2), .int ((x5 : Int32) - x5 / 2 * 2)]) (rest := []) (pc' := 42) (lv' := [(0, .ref 606), (1, .int x1), (2, .int x2), (3, .int x3), (4, .int x4), (5, .int x5)]) (fun n => rfl) (ok_fX11_isRest hr2) ?_
      show Ev XL xs _ 288 (ev_M r2.2 c w) 42 [(0, .ref 606), (1, .int x1), (2, .int x2), (3, .int x3), (4, .int x4), (5, .int x5)] [.int r2.1] _
      refine ev_i 1 (M1 := ev_M r2.2 c w) (pc1 := 67) (lv1 := [(0, .ref 606), (1, .int x1), (2, .int x2), (3, .int x3), (4, .int x4), (5, .int x5)]) (st1 := []) (M2 := ev_M r2.2 c w) (pc2 := 45) (lv2 := [(0, .ref 606), (1, .int x1), (2, .int x2), (3, .int x3), (4, .int x4), (5, .int x5)]) (st2 := []) (fun n => rfl) h (fun hc3 h => ?_) (fun hc3 h => ?_)
      · exact ok_fX11_rests_c67 ih h
      · refine ev_i 3 (M1 := ev_M r2.2 c w) (pc1 := 51) (lv1 := [(0, .ref 606), (1, .int x1), (2, .int x2), (3, .int x3), (4, .int x4), (5, .int x5)]) (st1 := []) (M2 := ev_M r2.2 c w) (pc2 := 64) (lv2 := [(0, .ref 606), (1, .int x1), (2, .int x2), (3, .int x3), (4, .int x4), (5, .int x5)]) (st2 := []) (fun n => rfl) h (fun hc4 h => ?_) (fun hc4 h => ?_)
        · cases h
          exact ev_r 10 (fun n => rfl)
        · refine ev_s 1 (M' := ev_M r2.2 c w) (pc' := 67) (lv' := [(4, .int (x4 + 1)), (0, .ref 606), (1, .int x1), (2, .int x2), (3, .int x3), (5, .int x5)]) (st' := []) (fun n => rfl) ?_
          refine ev_sub (lv := [(0, .ref 606), (1, .int x1), (2, .int x2), (3, .int x3), (4, .int (x4 + 1)), (5, .int x5)]) (mn_of rfl (by repeat (first | exact trivial | refine And.intro rfl ?_))) ?_
          exact ok_fX11_rests_c67 ih h
    · refine ev_i 3 (M1 := ev_M m c w) (pc1 := 78) (lv1 := [(0, .ref 606), (1, .int x1), (2, .int x2), (3, .int x3), (4, .int x4), (5, .int x5)]) (st1 := []) (M2 := ev_M m c w) (pc2 := 83) (lv2 := [(0, .ref 606), (1, .int x1), (2, .int x2), (3, .int x3), (4, .int x4), (5, .int x5)]) (st2 := []) (fun n => rfl) h (fun hc5 h => ?_) (fun hc5 h => ?_)
      · refine ev_s 2 (M' := ev_M m c w) (pc' := 84) (lv' := [(0, .ref 606), (1, .int x1), (2, .int x2), (3, .int x3), (4, .int x4), (5, .int x5)]) (st' := [.int x4]) (fun n => rfl) ?_
        refine ev_sub (lv := []) (mn_of rfl (by repeat (first | exact trivial | refine And.intro rfl ?_))) ?_
        exact ok_fX11_rests_c84 h
      · refine ev_s 1 (M' := ev_M m c w) (pc' := 84) (lv' := [(0, .ref 606), (1, .int x1), (2, .int x2), (3, .int x3), (4, .int x4), (5, .int x5)]) (st' := [.int ((-1) : Int32)]) (fun n => rfl) ?_
        refine ev_sub (lv := []) (mn_of rfl (by repeat (first | exact trivial | refine And.intro rfl ?_))) ?_
        exact ok_fX11_rests_c84 h
def fX11_rests (m : mm_MM) (x1 : Int32) (x2 : Int32) (x3 : Int32) : Option (Int32 × mm_MM) :=
  (fX11_areTwo m x1 x2).bind fun r1 =>
   (if r1.1 = 0 then
     fX11_rests_c14 r1.2
    else
     (if x3 < ((-1) : Int32) then
       fX11_rests_c14 r1.2
      else
       fX11_rests_c22 fu r1.2 x1 x2 x3 0 0))
theorem ok_fX11_rests {m : mm_MM} {x1 : Int32} {x2 : Int32} {x3 : Int32} {q0 : Int32 × mm_MM} (h : fX11_rests m x1 x2 x3 = some q0) : Ev XL xs (d + 4) 288 (ev_M m c w) 0 (lv_args 0 [.ref 606, .int x1, .int x2, .int x3]) [] (fr_i c w q0) := by
  unfold fX11_rests at h
  obtain ⟨r1, hr1, h⟩ := Option.bind_eq_some_iff.mp h
  refine ev_c 4 (y' := 285) (M1 := ev_M m c w) (la := lv_args 0 [.ref 606, .int x1, .int x2]) (rest := []) (pc' := 6) (lv' := [(0, .ref 606), (1, .int x1), (2, .int x2), (3, .int x3)]) (fun n => rfl) (ok_fX11_areTwo hr1) ?_
  show Ev XL xs _ 288 (ev_M r1.2 c w) 6 [(0, .ref 606), (1, .int x1), (2, .int x2), (3, .int x3)] [.int r1.1] _
  refine ev_i 1 (M1 := ev_M r1.2 c w) (pc1 := 14) (lv1 := [(0, .ref 606), (1, .int x1), (2, .int x2), (3, .int x3)]) (st1 := []) (M2 := ev_M r1.2 c w) (pc2 := 9) (lv2 := [(0, .ref 606), (1, .int x1), (2, .int x2), (3, .int x3)]) (st2 := []) (fun n => rfl) h (fun hc2 h => ?_) (fun hc2 h => ?_)
  · refine ev_sub (lv := []) (mn_of rfl (by repeat (first | exact trivial | refine And.intro rfl ?_))) ?_
    exact ok_fX11_rests_c14 h
  · refine ev_i 3 (M1 := ev_M r1.2 c w) (pc1 := 14) (lv1 := [(0, .ref 606), (1, .int x1), (2, .int x2), (3, .int x3)]) (st1 := []) (M2 := ev_M r1.2 c w) (pc2 := 16) (lv2 := [(0, .ref 606), (1, .int x1), (2, .int x2), (3, .int x3)]) (st2 := []) (fun n => rfl) h (fun hc3 h => ?_) (fun hc3 h => ?_)
    · refine ev_sub (lv := []) (mn_of rfl (by repeat (first | exact trivial | refine And.intro rfl ?_))) ?_
      exact ok_fX11_rests_c14 h
    · refine ev_s 4 (M' := ev_M r1.2 c w) (pc' := 22) (lv' := [(5, .int 0), (4, .int 0), (0, .ref 606), (1, .int x1), (2, .int x2), (3, .int x3)]) (st' := []) (fun n => rfl) ?_
      refine ev_sub (lv := [(0, .ref 606), (1, .int x1), (2, .int x2), (3, .int x3), (4, .int 0), (5, .int 0)]) (mn_of rfl (by repeat (first | exact trivial | refine And.intro rfl ?_))) ?_
      exact ok_fX11_rests_c22 fu _ _ _ _ _ _ _ h
def fX11_meanBy (m : mm_MM) (x1 : Int32) (x2 : Int32) (x3 : Int32) (x4 : Int32) : Option (Int32 × mm_MM) :=
  (fX11_thiefHas m x1 x2 0 x4).bind fun r1 =>
   (fX11_thiefHas r1.2 x1 x2 1 x4).bind fun r2 =>
    some (((x3 * r1.1) + ((100 - x3) * r2.1)), r2.2)
theorem ok_fX11_meanBy {m : mm_MM} {x1 : Int32} {x2 : Int32} {x3 : Int32} {x4 : Int32} {q0 : Int32 × mm_MM} (h : fX11_meanBy m x1 x2 x3 x4 = some q0) : Ev XL xs (d + 2) 289 (ev_M m c w) 0 (lv_args 0 [.ref 606, .int x1, .int x2, .int x3, .int x4]) [] (fr_i c w q0) := by
  unfold fX11_meanBy at h
  obtain ⟨r1, hr1, h⟩ := Option.bind_eq_some_iff.mp h
  refine ev_c 7 (y' := 283) (M1 := ev_M m c w) (la := lv_args 0 [.ref 606, .int x1, .int x2, .int 0, .int x4]) (rest := [.int x3]) (pc' := 10) (lv' := [(0, .ref 606), (1, .int x1), (2, .int x2), (3, .int x3), (4, .int x4)]) (fun n => rfl) (ok_fX11_thiefHas hr1) ?_
  show Ev XL xs _ 289 (ev_M r1.2 c w) 10 [(0, .ref 606), (1, .int x1), (2, .int x2), (3, .int x3), (4, .int x4)] [.int r1.1, .int x3] _
  obtain ⟨r2, hr2, h⟩ := Option.bind_eq_some_iff.mp h
  refine ev_c 10 (y' := 283) (M1 := ev_M r1.2 c w) (la := lv_args 0 [.ref 606, .int x1, .int x2, .int 1, .int x4]) (rest := [.int (100 - x3), .int (x3 * r1.1)]) (pc' := 24) (lv' := [(0, .ref 606), (1, .int x1), (2, .int x2), (3, .int x3), (4, .int x4)]) (fun n => rfl) (ok_fX11_thiefHas hr2) ?_
  show Ev XL xs _ 289 (ev_M r2.2 c w) 24 [(0, .ref 606), (1, .int x1), (2, .int x2), (3, .int x3), (4, .int x4)] [.int r2.1, .int (100 - x3), .int (x3 * r1.1)] _
  cases h
  exact ev_r 3 (fun n => rfl)
def fX11_safe_c18 (m : mm_MM) : Option (Int32 × mm_MM) :=
  some (((-1000000) : Int32), m)
set_option maxRecDepth 20000 in
theorem ok_fX11_safe_c18 {m : mm_MM} {q0 : Int32 × mm_MM} (h : fX11_safe_c18 m = some q0) : Ev XL xs (d + 4) 290 (ev_M m c w) 18 [] [] (fr_i c w q0) := by
  unfold fX11_safe_c18 at h
  cases h
  exact ev_r 2 (fun n => rfl)
def fX11_safe_c82 (kr31 : mm_MM → Int32 → Int32 → Int32 → Int32 → Int32 → Int32 → Option (Int32 × mm_MM)) (m : mm_MM) (x1 : Int32) (x2 : Int32) (x3 : Int32) (x4 : Int32) (x5 : Int32) (x6 : Int32) : Option (Int32 × mm_MM) :=
  kr31 m x1 x2 x3 x4 x5 (x6 + 1)
set_option maxRecDepth 20000 in
theorem ok_fX11_safe_c82 {kr31 : mm_MM → Int32 → Int32 → Int32 → Int32 → Int32 → Int32 → Option (Int32 × mm_MM)} (hkr31 : ∀ (m : mm_MM) (x1 : Int32) (x2 : Int32) (x3 : Int32) (x4 : Int32) (x5 : Int32) (x6 : Int32) (q0 : Int32 × mm_MM), kr31 m x1 x2 x3 x4 x5 x6 = some q0 → Ev XL xs (d + 4) 290 (ev_M m c w) 31 [(0, .ref 606), (1, .int x1), (2, .int x2), (3, .int x3), (4, .int x4), (5, .int x5), (6, .int x6)] [] (fr_i c w q0)) {m : mm_MM} {x1 : Int32} {x2 : Int32} {x3 : Int32} {x4 : Int32} {x5 : Int32} {x6 : Int32} {q0 : Int32 × mm_MM} (h : fX11_safe_c82 kr31 m x1 x2 x3 x4 x5 x6 = some q0) : Ev XL xs (d + 4) 290 (ev_M m c w) 82 [(0, .ref 606), (1, .int x1), (2, .int x2), (3, .int x3), (4, .int x4), (5, .int x5), (6, .int x6)] [] (fr_i c w q0) := by
  unfold fX11_safe_c82 at h
  refine ev_s 2 (M' := ev_M m c w) (pc' := 31) (lv' := [(6, .int (x6 + 1)), (0, .ref 606), (1, .int x1), (2, .int x2), (3, .int x3), (4, .int x4), (5, .int x5)]) (st' := []) (fun n => rfl) ?_
  refine ev_sub (lv := [(0, .ref 606), (1, .int x1), (2, .int x2), (3, .int x3), (4, .int x4), (5, .int x5), (6, .int (x6 + 1))]) (mn_of rfl (by repeat (first | exact trivial | refine And.intro rfl ?_))) ?_
  exact hkr31 _ _ _ _ _ _ _ _ h
def fX11_safe_c74 (kr31 : mm_MM → Int32 → Int32 → Int32 → Int32 → Int32 → Int32 → Option (Int32 × mm_MM)) (m : mm_MM) (x1 : Int32) (x2 : Int32) (x3 : Int32) (x6 : Int32) (x7 : Int32) : Option (Int32 × mm_MM) :=
  fX11_safe_c82 kr31 m x1 x2 x3 x6 x7 x6
set_option maxRecDepth 20000 in
theorem ok_fX11_safe_c74 {kr31 : mm_MM → Int32 → Int32 → Int32 → Int32 → Int32 → Int32 → Option (Int32 × mm_MM)} (hkr31 : ∀ (m : mm_MM) (x1 : Int32) (x2 : Int32) (x3 : Int32) (x4 : Int32) (x5 : Int32) (x6 : Int32) (q0 : Int32 × mm_MM), kr31 m x1 x2 x3 x4 x5 x6 = some q0 → Ev XL xs (d + 4) 290 (ev_M m c w) 31 [(0, .ref 606), (1, .int x1), (2, .int x2), (3, .int x3), (4, .int x4), (5, .int x5), (6, .int x6)] [] (fr_i c w q0)) {m : mm_MM} {x1 : Int32} {x2 : Int32} {x3 : Int32} {x6 : Int32} {x7 : Int32} {q0 : Int32 × mm_MM} (h : fX11_safe_c74 kr31 m x1 x2 x3 x6 x7 = some q0) : Ev XL xs (d + 4) 290 (ev_M m c w) 74 [(0, .ref 606), (1, .int x1), (2, .int x2), (3, .int x3), (6, .int x6), (7, .int x7)] [] (fr_i c w q0) := by
  unfold fX11_safe_c74 at h
  refine ev_s 4 (M' := ev_M m c w) (pc' := 82) (lv' := [(5, .int x7), (4, .int x6), (0, .ref 606), (1, .int x1), (2, .int x2), (3, .int x3), (6, .int x6), (7, .int x7)]) (st' := []) (fun n => rfl) ?_
  refine ev_sub (lv := [(0, .ref 606), (1, .int x1), (2, .int x2), (3, .int x3), (4, .int x6), (5, .int x7), (6, .int x6)]) (mn_of rfl (by repeat (first | exact trivial | refine And.intro rfl ?_))) ?_
  exact ok_fX11_safe_c82 hkr31 h
def fX11_safe_c99 (m : mm_MM) (s0 : Int32) : Option (Int32 × mm_MM) :=
  some (s0, m)
set_option maxRecDepth 20000 in
theorem ok_fX11_safe_c99 {m : mm_MM} {s0 : Int32} {q0 : Int32 × mm_MM} (h : fX11_safe_c99 m s0 = some q0) : Ev XL xs (d + 4) 290 (ev_M m c w) 99 [] [.int s0] (fr_i c w q0) := by
  unfold fX11_safe_c99 at h
  cases h
  exact ev_r 1 (fun n => rfl)
def fX11_safe_c31 : Nat → mm_MM → Int32 → Int32 → Int32 → Int32 → Int32 → Int32 → Option (Int32 × mm_MM)
  | 0 => fun _ _ _ _ _ _ _ => none
  | n + 1 => fun m x1 x2 x3 x4 x5 x6 =>
    (if x6 ≤ 100 then
      (fX11_meanBy m x1 x2 x6 0).bind fun r2 =>
       (fX11_meanBy r2.2 x1 x2 x6 1).bind fun r3 =>
        (fJ9_max_7cf53 r3.2 r2.1 r3.1).bind fun r4 =>
         (if x4 = ((-1) : Int32) then
           fX11_safe_c74 (fX11_safe_c31 n) r4.2 x1 x2 x3 x6 r4.1
          else
           (if r4.1 < x5 then
             fX11_safe_c74 (fX11_safe_c31 n) r4.2 x1 x2 x3 x6 r4.1
            else
             fX11_safe_c82 (fX11_safe_c31 n) r4.2 x1 x2 x3 x4 x5 x6))
     else
      (if x3 = 0 then
        fX11_safe_c99 m x4
       else
        fX11_safe_c99 m x5))
set_option maxRecDepth 20000 in
theorem ok_fX11_safe_c31 : ∀ (n : Nat) (m : mm_MM) (x1 : Int32) (x2 : Int32) (x3 : Int32) (x4 : Int32) (x5 : Int32) (x6 : Int32) (q0 : Int32 × mm_MM), fX11_safe_c31 n m x1 x2 x3 x4 x5 x6 = some q0 → Ev XL xs (d + 4) 290 (ev_M m c w) 31 [(0, .ref 606), (1, .int x1), (2, .int x2), (3, .int x3), (4, .int x4), (5, .int x5), (6, .int x6)] [] (fr_i c w q0) := by
  intro n
  induction n with
  | zero => intro m x1 x2 x3 x4 x5 x6 q0 h; exact absurd (show (none : Option (Int32 × mm_MM)) = some q0 from h) (by simp)
  | succ n ih =>
    intro m x1 x2 x3 x4 x5 x6 q0 h
    unfold fX11_safe_c31 at h
    refine ev_i 3 (M1 := ev_M m c w) (pc1 := 38) (lv1 := [(0, .ref 606), (1, .int x1), (2, .int x2), (3, .int x3), (4, .int x4), (5, .int x5), (6, .int x6)]) (st1 := []) (M2 := ev_M m c w) (pc2 := 88) (lv2 := [(0, .ref 606), (1, .int x1), (2, .int x2), (3, .int x3), (4, .int x4), (5, .int x5), (6, .int x6)]) (st2 := []) (fun n => rfl) h (fun hc1 h => ?_) (fun hc1 h => ?_)
    · obtain ⟨r2, hr2, h⟩ := Option.bind_eq_some_iff.mp h
      refine ev_c 6 (y' := 289) (M1 := ev_M m c w) (la := lv_args 0 [.ref 606, .int x1, .int x2, .int x6, .int 0]) (rest := []) (pc' := 47) (lv' := [(0, .ref 606), (1, .int x1), (2, .int x2), (3, .int x3), (4, .int x4), (5, .int x5), (6, .int x6)]) (fun n => rfl) (ok_fX11_meanBy hr2) ?_
      show Ev XL xs _ 290 (ev_M r2.2 c w) 47 [(0, .ref 606), (1, .int x1), (2, .int x2), (3, .int x3), (4, .int x4), (5, .int x5), (6, .int x6)] [.int r2.1] _
      obtain ⟨r3, hr3, h⟩ := Option.bind_eq_some_iff.mp h
      refine ev_c 6 (y' := 289) (M1 := ev_M r2.2 c w) (la := lv_args 0 [.ref 606, .int x1, .int x2, .int x6, .int 1]) (rest := [.int r2.1]) (pc' := 56) (lv' := [(0, .ref 606), (1, .int x1), (2, .int x2), (3, .int x3), (4, .int x4), (5, .int x5), (6, .int x6)]) (fun n => rfl) (ok_fX11_meanBy hr3) ?_
      show Ev XL xs _ 290 (ev_M r3.2 c w) 56 [(0, .ref 606), (1, .int x1), (2, .int x2), (3, .int x3), (4, .int x4), (5, .int x5), (6, .int x6)] [.int r3.1, .int r2.1] _
      obtain ⟨r4, hr4, h⟩ := Option.bind_eq_some_iff.mp h
      refine ev_c 1 (y' := 306) (M1 := ev_M r3.2 c w) (la := lv_args 0 [.int r2.1, .int r3.1]) (rest := []) (pc' := 59) (lv' := [(0, .ref 606), (1, .int x1), (2, .int x2), (3, .int x3), (4, .int x4), (5, .int x5), (6, .int x6)]) (fun n => rfl) (ok_fJ9_max_7cf53 hr4) ?_
      show Ev XL xs _ 290 (ev_M r4.2 c w) 59 [(0, .ref 606), (1, .int x1), (2, .int x2), (3, .int x3), (4, .int x4), (5, .int x5), (6, .int x6)] [.int r4.1] _
      refine ev_i 4 (M1 := ev_M r4.2 c w) (pc1 := 74) (lv1 := [(7, .int r4.1), (0, .ref 606), (1, .int x1), (2, .int x2), (3, .int x3), (4, .int x4), (5, .int x5), (6, .int x6)]) (st1 := []) (M2 := ev_M r4.2 c w) (pc2 := 67) (lv2 := [(7, .int r4.1), (0, .ref 606), (1, .int x1), (2, .int x2), (3, .int x3), (4, .int x4), (5, .int x5), (6, .int x6)]) (st2 := []) (fun n => rfl) h (fun hc5 h => ?_) (fun hc5 h => ?_)
      · refine ev_sub (lv := [(0, .ref 606), (1, .int x1), (2, .int x2), (3, .int x3), (6, .int x6), (7, .int r4.1)]) (mn_of rfl (by repeat (first | exact trivial | refine And.intro rfl ?_))) ?_
        exact ok_fX11_safe_c74 ih h
      · refine ev_i 3 (M1 := ev_M r4.2 c w) (pc1 := 74) (lv1 := [(7, .int r4.1), (0, .ref 606), (1, .int x1), (2, .int x2), (3, .int x3), (4, .int x4), (5, .int x5), (6, .int x6)]) (st1 := []) (M2 := ev_M r4.2 c w) (pc2 := 82) (lv2 := [(7, .int r4.1), (0, .ref 606), (1, .int x1), (2, .int x2), (3, .int x3), (4, .int x4), (5, .int x5), (6, .int x6)]) (st2 := []) (fun n => rfl) h (fun hc6 h => ?_) (fun hc6 h => ?_)
        · refine ev_sub (lv := [(0, .ref 606), (1, .int x1), (2, .int x2), (3, .int x3), (6, .int x6), (7, .int r4.1)]) (mn_of rfl (by repeat (first | exact trivial | refine And.intro rfl ?_))) ?_
          exact ok_fX11_safe_c74 ih h
        · refine ev_sub (lv := [(0, .ref 606), (1, .int x1), (2, .int x2), (3, .int x3), (4, .int x4), (5, .int x5), (6, .int x6)]) (mn_of rfl (by repeat (first | exact trivial | refine And.intro rfl ?_))) ?_
          exact ok_fX11_safe_c82 ih h
    · refine ev_i 2 (M1 := ev_M m c w) (pc1 := 92) (lv1 := [(0, .ref 606), (1, .int x1), (2, .int x2), (3, .int x3), (4, .int x4), (5, .int x5), (6, .int x6)]) (st1 := []) (M2 := ev_M m c w) (pc2 := 97) (lv2 := [(0, .ref 606), (1, .int x1), (2, .int x2), (3, .int x3), (4, .int x4), (5, .int x5), (6, .int x6)]) (st2 := []) (fun n => rfl) h (fun hc7 h => ?_) (fun hc7 h => ?_)
      · refine ev_s 2 (M' := ev_M m c w) (pc' := 99) (lv' := [(0, .ref 606), (1, .int x1), (2, .int x2), (3, .int x3), (4, .int x4), (5, .int x5), (6, .int x6)]) (st' := [.int x4]) (fun n => rfl) ?_
        refine ev_sub (lv := []) (mn_of rfl (by repeat (first | exact trivial | refine And.intro rfl ?_))) ?_
        exact ok_fX11_safe_c99 h
      · refine ev_s 1 (M' := ev_M m c w) (pc' := 99) (lv' := [(0, .ref 606), (1, .int x1), (2, .int x2), (3, .int x3), (4, .int x4), (5, .int x5), (6, .int x6)]) (st' := [.int x5]) (fun n => rfl) ?_
        refine ev_sub (lv := []) (mn_of rfl (by repeat (first | exact trivial | refine And.intro rfl ?_))) ?_
        exact ok_fX11_safe_c99 h
def fX11_safe (m : mm_MM) (x1 : Int32) (x2 : Int32) (x3 : Int32) : Option (Int32 × mm_MM) :=
  (fX11_areTwo m x1 x2).bind fun r1 =>
   (if r1.1 = 0 then
     fX11_safe_c18 r1.2
    else
     (fX11_in r1.2 x3 0 1).bind fun r3 =>
      (if r3.1 = 0 then
        fX11_safe_c18 r3.2
       else
        fX11_safe_c31 fu r3.2 x1 x2 x3 ((-1) : Int32) 0 0))
set_option maxRecDepth 20000 in
theorem ok_fX11_safe {m : mm_MM} {x1 : Int32} {x2 : Int32} {x3 : Int32} {q0 : Int32 × mm_MM} (h : fX11_safe m x1 x2 x3 = some q0) : Ev XL xs (d + 4) 290 (ev_M m c w) 0 (lv_args 0 [.ref 606, .int x1, .int x2, .int x3]) [] (fr_i c w q0) := by
  unfold fX11_safe at h
  obtain ⟨r1, hr1, h⟩ := Option.bind_eq_some_iff.mp h
  refine ev_c 4 (y' := 285) (M1 := ev_M m c w) (la := lv_args 0 [.ref 606, .int x1, .int x2]) (rest := []) (pc' := 6) (lv' := [(0, .ref 606), (1, .int x1), (2, .int x2), (3, .int x3)]) (fun n => rfl) (ok_fX11_areTwo hr1) ?_
  show Ev XL xs _ 290 (ev_M r1.2 c w) 6 [(0, .ref 606), (1, .int x1), (2, .int x2), (3, .int x3)] [.int r1.1] _
  refine ev_i 1 (M1 := ev_M r1.2 c w) (pc1 := 18) (lv1 := [(0, .ref 606), (1, .int x1), (2, .int x2), (3, .int x3)]) (st1 := []) (M2 := ev_M r1.2 c w) (pc2 := 9) (lv2 := [(0, .ref 606), (1, .int x1), (2, .int x2), (3, .int x3)]) (st2 := []) (fun n => rfl) h (fun hc2 h => ?_) (fun hc2 h => ?_)
  · refine ev_sub (lv := []) (mn_of rfl (by repeat (first | exact trivial | refine And.intro rfl ?_))) ?_
    exact ok_fX11_safe_c18 h
  · obtain ⟨r3, hr3, h⟩ := Option.bind_eq_some_iff.mp h
    refine ev_c 4 (y' := 178) (M1 := ev_M r1.2 c w) (la := lv_args 0 [.int x3, .int 0, .int 1]) (rest := []) (pc' := 15) (lv' := [(0, .ref 606), (1, .int x1), (2, .int x2), (3, .int x3)]) (fun n => rfl) (ok_fX11_in hr3) ?_
    show Ev XL xs _ 290 (ev_M r3.2 c w) 15 [(0, .ref 606), (1, .int x1), (2, .int x2), (3, .int x3)] [.int r3.1] _
    refine ev_i 1 (M1 := ev_M r3.2 c w) (pc1 := 18) (lv1 := [(0, .ref 606), (1, .int x1), (2, .int x2), (3, .int x3)]) (st1 := []) (M2 := ev_M r3.2 c w) (pc2 := 22) (lv2 := [(0, .ref 606), (1, .int x1), (2, .int x2), (3, .int x3)]) (st2 := []) (fun n => rfl) h (fun hc4 h => ?_) (fun hc4 h => ?_)
    · refine ev_sub (lv := []) (mn_of rfl (by repeat (first | exact trivial | refine And.intro rfl ?_))) ?_
      exact ok_fX11_safe_c18 h
    · refine ev_s 6 (M' := ev_M r3.2 c w) (pc' := 31) (lv' := [(6, .int 0), (5, .int 0), (4, .int ((-1) : Int32)), (0, .ref 606), (1, .int x1), (2, .int x2), (3, .int x3)]) (st' := []) (fun n => rfl) ?_
      refine ev_sub (lv := [(0, .ref 606), (1, .int x1), (2, .int x2), (3, .int x3), (4, .int ((-1) : Int32)), (5, .int 0), (6, .int 0)]) (mn_of rfl (by repeat (first | exact trivial | refine And.intro rfl ?_))) ?_
      exact ok_fX11_safe_c31 fu _ _ _ _ _ _ _ _ h
def fX11_shares_c19 (m : mm_MM) : Option (Int32 × mm_MM) :=
  some (((-1) : Int32), m)
theorem ok_fX11_shares_c19 {m : mm_MM} {q0 : Int32 × mm_MM} (h : fX11_shares_c19 m = some q0) : Ev XL xs (d + 4) 293 (ev_M m c w) 19 [] [] (fr_i c w q0) := by
  unfold fX11_shares_c19 at h
  cases h
  exact ev_r 2 (fun n => rfl)
def fX11_shares_c49 (m : mm_MM) (s0 : Int32) : Option (Int32 × mm_MM) :=
  some (s0, m)
theorem ok_fX11_shares_c49 {m : mm_MM} {s0 : Int32} {q0 : Int32 × mm_MM} (h : fX11_shares_c49 m s0 = some q0) : Ev XL xs (d + 4) 293 (ev_M m c w) 49 [] [.int s0] (fr_i c w q0) := by
  unfold fX11_shares_c49 at h
  cases h
  exact ev_r 1 (fun n => rfl)
def fX11_shares (m : mm_MM) (x1 : Int32) (x2 : Int32) : Option (Int32 × mm_MM) :=
  (fX11_isThere m x1).bind fun r1 =>
   (if r1.1 = 0 then
     fX11_shares_c19 r1.2
    else
     (fX11_in r1.2 x2 0 999).bind fun r3 =>
      (if r3.1 = 0 then
        fX11_shares_c19 r3.2
       else
        (fX11_onesWho r3.2 0).bind fun r5 =>
         (fX11_valueOf r5.2 r5.1).bind fun r6 =>
          (if r6.1 = 0 then
            fX11_shares_c49 r6.2 0
           else
            (fX11_of r6.2 x1 0).bind fun r8 =>
             (if r6.1 = (0 : Int32) then none else
              fX11_shares_c49 r8.2 (((x2 * r8.1) : Int32) / r6.1)))))
theorem ok_fX11_shares {m : mm_MM} {x1 : Int32} {x2 : Int32} {q0 : Int32 × mm_MM} (h : fX11_shares m x1 x2 = some q0) : Ev XL xs (d + 4) 293 (ev_M m c w) 0 (lv_args 0 [.ref 606, .int x1, .int x2]) [] (fr_i c w q0) := by
  unfold fX11_shares at h
  obtain ⟨r1, hr1, h⟩ := Option.bind_eq_some_iff.mp h
  refine ev_c 3 (y' := 225) (M1 := ev_M m c w) (la := lv_args 0 [.ref 606, .int x1]) (rest := []) (pc' := 5) (lv' := [(0, .ref 606), (1, .int x1), (2, .int x2)]) (fun n => rfl) (ok_fX11_isThere hr1) ?_
  show Ev XL xs _ 293 (ev_M r1.2 c w) 5 [(0, .ref 606), (1, .int x1), (2, .int x2)] [.int r1.1] _
  refine ev_i 1 (M1 := ev_M r1.2 c w) (pc1 := 19) (lv1 := [(0, .ref 606), (1, .int x1), (2, .int x2)]) (st1 := []) (M2 := ev_M r1.2 c w) (pc2 := 8) (lv2 := [(0, .ref 606), (1, .int x1), (2, .int x2)]) (st2 := []) (fun n => rfl) h (fun hc2 h => ?_) (fun hc2 h => ?_)
  · refine ev_sub (lv := []) (mn_of rfl (by repeat (first | exact trivial | refine And.intro rfl ?_))) ?_
    exact ok_fX11_shares_c19 h
  · obtain ⟨r3, hr3, h⟩ := Option.bind_eq_some_iff.mp h
    refine ev_c 4 (y' := 178) (M1 := ev_M r1.2 c w) (la := lv_args 0 [.int x2, .int 0, .int 999]) (rest := []) (pc' := 16) (lv' := [(0, .ref 606), (1, .int x1), (2, .int x2)]) (fun n => rfl) (ok_fX11_in hr3) ?_
    show Ev XL xs _ 293 (ev_M r3.2 c w) 16 [(0, .ref 606), (1, .int x1), (2, .int x2)] [.int r3.1] _
    refine ev_i 1 (M1 := ev_M r3.2 c w) (pc1 := 19) (lv1 := [(0, .ref 606), (1, .int x1), (2, .int x2)]) (st1 := []) (M2 := ev_M r3.2 c w) (pc2 := 21) (lv2 := [(0, .ref 606), (1, .int x1), (2, .int x2)]) (st2 := []) (fun n => rfl) h (fun hc4 h => ?_) (fun hc4 h => ?_)
    · refine ev_sub (lv := []) (mn_of rfl (by repeat (first | exact trivial | refine And.intro rfl ?_))) ?_
      exact ok_fX11_shares_c19 h
    · obtain ⟨r5, hr5, h⟩ := Option.bind_eq_some_iff.mp h
      refine ev_c 4 (y' := 238) (M1 := ev_M r3.2 c w) (la := lv_args 0 [.ref 606, .int 0]) (rest := [.ref 606]) (pc' := 27) (lv' := [(0, .ref 606), (1, .int x1), (2, .int x2)]) (fun n => rfl) (ok_fX11_onesWho hr5) ?_
      show Ev XL xs _ 293 (ev_M r5.2 c w) 27 [(0, .ref 606), (1, .int x1), (2, .int x2)] [.int r5.1, .ref 606] _
      obtain ⟨r6, hr6, h⟩ := Option.bind_eq_some_iff.mp h
      refine ev_c 1 (y' := 237) (M1 := ev_M r5.2 c w) (la := lv_args 0 [.ref 606, .int r5.1]) (rest := []) (pc' := 30) (lv' := [(0, .ref 606), (1, .int x1), (2, .int x2)]) (fun n => rfl) (ok_fX11_valueOf hr6) ?_
      show Ev XL xs _ 293 (ev_M r6.2 c w) 30 [(0, .ref 606), (1, .int x1), (2, .int x2)] [.int r6.1] _
      refine ev_i 3 (M1 := ev_M r6.2 c w) (pc1 := 35) (lv1 := [(3, .int r6.1), (0, .ref 606), (1, .int x1), (2, .int x2)]) (st1 := []) (M2 := ev_M r6.2 c w) (pc2 := 39) (lv2 := [(3, .int r6.1), (0, .ref 606), (1, .int x1), (2, .int x2)]) (st2 := []) (fun n => rfl) h (fun hc7 h => ?_) (fun hc7 h => ?_)
      · refine ev_s 2 (M' := ev_M r6.2 c w) (pc' := 49) (lv' := [(3, .int r6.1), (0, .ref 606), (1, .int x1), (2, .int x2)]) (st' := [.int 0]) (fun n => rfl) ?_
        refine ev_sub (lv := []) (mn_of rfl (by repeat (first | exact trivial | refine And.intro rfl ?_))) ?_
        exact ok_fX11_shares_c49 h
      · obtain ⟨r8, hr8, h⟩ := Option.bind_eq_some_iff.mp h
        refine ev_c 5 (y' := 220) (M1 := ev_M r6.2 c w) (la := lv_args 0 [.ref 606, .int x1, .int 0]) (rest := [.int x2]) (pc' := 46) (lv' := [(3, .int r6.1), (0, .ref 606), (1, .int x1), (2, .int x2)]) (fun n => rfl) (ok_fX11_of hr8) ?_
        show Ev XL xs _ 293 (ev_M r8.2 c w) 46 [(3, .int r6.1), (0, .ref 606), (1, .int x1), (2, .int x2)] [.int r8.1, .int x2] _
        refine ev_g 3 (M1 := ev_M r8.2 c w) (pc1 := 49) (lv1 := [(3, .int r6.1), (0, .ref 606), (1, .int x1), (2, .int x2)]) (st1 := [.int (((x2 * r8.1) : Int32) / r6.1)]) (fun n => rfl) h (fun _ h => ?_)
        refine ev_sub (lv := []) (mn_of rfl (by repeat (first | exact trivial | refine And.intro rfl ?_))) ?_
        exact ok_fX11_shares_c49 h
def fX11_topThing_c43 (kr4 : mm_MM → Int32 → Int32 → Int32 → Option (Int32 × mm_MM)) (m : mm_MM) (x1 : Int32) (x3 : Int32) (s0 : Int32) : Option (Int32 × mm_MM) :=
  kr4 m x1 s0 (x3 + 1)
theorem ok_fX11_topThing_c43 {kr4 : mm_MM → Int32 → Int32 → Int32 → Option (Int32 × mm_MM)} (hkr4 : ∀ (m : mm_MM) (x1 : Int32) (x2 : Int32) (x3 : Int32) (q0 : Int32 × mm_MM), kr4 m x1 x2 x3 = some q0 → Ev XL xs (d + 2) 294 (ev_M m c w) 4 [(0, .ref 606), (1, .int x1), (2, .int x2), (3, .int x3)] [] (fr_i c w q0)) {m : mm_MM} {x1 : Int32} {x3 : Int32} {s0 : Int32} {q0 : Int32 × mm_MM} (h : fX11_topThing_c43 kr4 m x1 x3 s0 = some q0) : Ev XL xs (d + 2) 294 (ev_M m c w) 43 [(0, .ref 606), (1, .int x1), (3, .int x3)] [.int s0] (fr_i c w q0) := by
  unfold fX11_topThing_c43 at h
  refine ev_s 3 (M' := ev_M m c w) (pc' := 4) (lv' := [(3, .int (x3 + 1)), (2, .int s0), (0, .ref 606), (1, .int x1)]) (st' := []) (fun n => rfl) ?_
  refine ev_sub (lv := [(0, .ref 606), (1, .int x1), (2, .int s0), (3, .int (x3 + 1))]) (mn_of rfl (by repeat (first | exact trivial | refine And.intro rfl ?_))) ?_
  exact hkr4 _ _ _ _ _ h
def fX11_topThing_c38 (kr4 : mm_MM → Int32 → Int32 → Int32 → Option (Int32 × mm_MM)) (m : mm_MM) (x1 : Int32) (x3 : Int32) : Option (Int32 × mm_MM) :=
  fX11_topThing_c43 kr4 m x1 x3 x3
theorem ok_fX11_topThing_c38 {kr4 : mm_MM → Int32 → Int32 → Int32 → Option (Int32 × mm_MM)} (hkr4 : ∀ (m : mm_MM) (x1 : Int32) (x2 : Int32) (x3 : Int32) (q0 : Int32 × mm_MM), kr4 m x1 x2 x3 = some q0 → Ev XL xs (d + 2) 294 (ev_M m c w) 4 [(0, .ref 606), (1, .int x1), (2, .int x2), (3, .int x3)] [] (fr_i c w q0)) {m : mm_MM} {x1 : Int32} {x3 : Int32} {q0 : Int32 × mm_MM} (h : fX11_topThing_c38 kr4 m x1 x3 = some q0) : Ev XL xs (d + 2) 294 (ev_M m c w) 38 [(0, .ref 606), (1, .int x1), (3, .int x3)] [] (fr_i c w q0) := by
  unfold fX11_topThing_c38 at h
  refine ev_s 2 (M' := ev_M m c w) (pc' := 43) (lv' := [(0, .ref 606), (1, .int x1), (3, .int x3)]) (st' := [.int x3]) (fun n => rfl) ?_
  exact ok_fX11_topThing_c43 hkr4 h
def fX11_topThing_c42 (kr4 : mm_MM → Int32 → Int32 → Int32 → Option (Int32 × mm_MM)) (m : mm_MM) (x1 : Int32) (x2 : Int32) (x3 : Int32) : Option (Int32 × mm_MM) :=
  fX11_topThing_c43 kr4 m x1 x3 x2
theorem ok_fX11_topThing_c42 {kr4 : mm_MM → Int32 → Int32 → Int32 → Option (Int32 × mm_MM)} (hkr4 : ∀ (m : mm_MM) (x1 : Int32) (x2 : Int32) (x3 : Int32) (q0 : Int32 × mm_MM), kr4 m x1 x2 x3 = some q0 → Ev XL xs (d + 2) 294 (ev_M m c w) 4 [(0, .ref 606), (1, .int x1), (2, .int x2), (3, .int x3)] [] (fr_i c w q0)) {m : mm_MM} {x1 : Int32} {x2 : Int32} {x3 : Int32} {q0 : Int32 × mm_MM} (h : fX11_topThing_c42 kr4 m x1 x2 x3 = some q0) : Ev XL xs (d + 2) 294 (ev_M m c w) 42 [(0, .ref 606), (1, .int x1), (2, .int x2), (3, .int x3)] [] (fr_i c w q0) := by
  unfold fX11_topThing_c42 at h
  refine ev_s 1 (M' := ev_M m c w) (pc' := 43) (lv' := [(0, .ref 606), (1, .int x1), (2, .int x2), (3, .int x3)]) (st' := [.int x2]) (fun n => rfl) ?_
  refine ev_sub (lv := [(0, .ref 606), (1, .int x1), (3, .int x3)]) (mn_of rfl (by repeat (first | exact trivial | refine And.intro rfl ?_))) ?_
  exact ok_fX11_topThing_c43 hkr4 h
def fX11_topThing_c4 : Nat → mm_MM → Int32 → Int32 → Int32 → Option (Int32 × mm_MM)
  | 0 => fun _ _ _ _ => none
  | n + 1 => fun m x1 x2 x3 =>
    (if x3 < 8 then
      (fX11_isThere m x3).bind fun r2 =>
       (if r2.1 = 0 then
         fX11_topThing_c42 (fX11_topThing_c4 n) r2.2 x1 x2 x3
        else
         (if x2 = ((-1) : Int32) then
           fX11_topThing_c38 (fX11_topThing_c4 n) r2.2 x1 x3
          else
           (fX11_of r2.2 x3 x1).bind fun r5 =>
            (fX11_of r5.2 x2 x1).bind fun r6 =>
             (if r5.1 ≤ r6.1 then
               fX11_topThing_c42 (fX11_topThing_c4 n) r6.2 x1 x2 x3
              else
               fX11_topThing_c38 (fX11_topThing_c4 n) r6.2 x1 x3)))
     else
      some (x2, m))
theorem ok_fX11_topThing_c4 : ∀ (n : Nat) (m : mm_MM) (x1 : Int32) (x2 : Int32) (x3 : Int32) (q0 : Int32 × mm_MM), fX11_topThing_c4 n m x1 x2 x3 = some q0 → Ev XL xs (d + 2) 294 (ev_M m c w) 4 [(0, .ref 606), (1, .int x1), (2, .int x2), (3, .int x3)] [] (fr_i c w q0) := by
  intro n
  induction n with
  | zero => intro m x1 x2 x3 q0 h; exact absurd (show (none : Option (Int32 × mm_MM)) = some q0 from h) (by simp)
  | succ n ih =>
    intro m x1 x2 x3 q0 h
    unfold fX11_topThing_c4 at h
    refine ev_i 3 (M1 := ev_M m c w) (pc1 := 10) (lv1 := [(0, .ref 606), (1, .int x1), (2, .int x2), (3, .int x3)]) (st1 := []) (M2 := ev_M m c w) (pc2 := 50) (lv2 := [(0, .ref 606), (1, .int x1), (2, .int x2), (3, .int x3)]) (st2 := []) (fun n => rfl) h (fun hc1 h => ?_) (fun hc1 h => ?_)
    · obtain ⟨r2, hr2, h⟩ := Option.bind_eq_some_iff.mp h
      refine ev_c 3 (y' := 225) (M1 := ev_M m c w) (la := lv_args 0 [.ref 606, .int x3]) (rest := []) (pc' := 15) (lv' := [(0, .ref 606), (1, .int x1), (2, .int x2), (3, .int x3)]) (fun n => rfl) (ok_fX11_isThere hr2) ?_
      show Ev XL xs _ 294 (ev_M r2.2 c w) 15 [(0, .ref 606), (1, .int x1), (2, .int x2), (3, .int x3)] [.int r2.1] _
      refine ev_i 1 (M1 := ev_M r2.2 c w) (pc1 := 42) (lv1 := [(0, .ref 606), (1, .int x1), (2, .int x2), (3, .int x3)]) (st1 := []) (M2 := ev_M r2.2 c w) (pc2 := 18) (lv2 := [(0, .ref 606), (1, .int x1), (2, .int x2), (3, .int x3)]) (st2 := []) (fun n => rfl) h (fun hc3 h => ?_) (fun hc3 h => ?_)
      · exact ok_fX11_topThing_c42 ih h
      · refine ev_i 3 (M1 := ev_M r2.2 c w) (pc1 := 38) (lv1 := [(0, .ref 606), (1, .int x1), (2, .int x2), (3, .int x3)]) (st1 := []) (M2 := ev_M r2.2 c w) (pc2 := 23) (lv2 := [(0, .ref 606), (1, .int x1), (2, .int x2), (3, .int x3)]) (st2 := []) (fun n => rfl) h (fun hc4 h => ?_) (fun hc4 h => ?_)
        · refine ev_sub (lv := [(0, .ref 606), (1, .int x1), (3, .int x3)]) (mn_of rfl (by repeat (first | exact trivial | refine And.intro rfl ?_))) ?_
          exact ok_fX11_topThing_c38 ih h
        · obtain ⟨r5, hr5, h⟩ := Option.bind_eq_some_iff.mp h
          refine ev_c 4 (y' := 220) (M1 := ev_M r2.2 c w) (la := lv_args 0 [.ref 606, .int x3, .int x1]) (rest := []) (pc' := 29) (lv' := [(0, .ref 606), (1, .int x1), (2, .int x2), (3, .int x3)]) (fun n => rfl) (ok_fX11_of hr5) ?_
          show Ev XL xs _ 294 (ev_M r5.2 c w) 29 [(0, .ref 606), (1, .int x1), (2, .int x2), (3, .int x3)] [.int r5.1] _
          obtain ⟨r6, hr6, h⟩ := Option.bind_eq_some_iff.mp h
          refine ev_c 4 (y' := 220) (M1 := ev_M r5.2 c w) (la := lv_args 0 [.ref 606, .int x2, .int x1]) (rest := [.int r5.1]) (pc' := 35) (lv' := [(0, .ref 606), (1, .int x1), (2, .int x2), (3, .int x3)]) (fun n => rfl) (ok_fX11_of hr6) ?_
          show Ev XL xs _ 294 (ev_M r6.2 c w) 35 [(0, .ref 606), (1, .int x1), (2, .int x2), (3, .int x3)] [.int r6.1, .int r5.1] _
          refine ev_i 1 (M1 := ev_M r6.2 c w) (pc1 := 42) (lv1 := [(0, .ref 606), (1, .int x1), (2, .int x2), (3, .int x3)]) (st1 := []) (M2 := ev_M r6.2 c w) (pc2 := 38) (lv2 := [(0, .ref 606), (1, .int x1), (2, .int x2), (3, .int x3)]) (st2 := []) (fun n => rfl) h (fun hc7 h => ?_) (fun hc7 h => ?_)
          · exact ok_fX11_topThing_c42 ih h
          · refine ev_sub (lv := [(0, .ref 606), (1, .int x1), (3, .int x3)]) (mn_of rfl (by repeat (first | exact trivial | refine And.intro rfl ?_))) ?_
            exact ok_fX11_topThing_c38 ih h
    · cases h
      exact ev_r 2 (fun n => rfl)
def fX11_topThing (m : mm_MM) (x1 : Int32) : Option (Int32 × mm_MM) :=
  fX11_topThing_c4 fu m x1 ((-1) : Int32) 0
theorem ok_fX11_topThing {m : mm_MM} {x1 : Int32} {q0 : Int32 × mm_MM} (h : fX11_topThing m x1 = some q0) : Ev XL xs (d + 2) 294 (ev_M m c w) 0 (lv_args 0 [.ref 606, .int x1]) [] (fr_i c w q0) := by
  unfold fX11_topThing at h
  refine ev_s 4 (M' := ev_M m c w) (pc' := 4) (lv' := [(3, .int 0), (2, .int ((-1) : Int32)), (0, .ref 606), (1, .int x1)]) (st' := []) (fun n => rfl) ?_
  refine ev_sub (lv := [(0, .ref 606), (1, .int x1), (2, .int ((-1) : Int32)), (3, .int 0)]) (mn_of rfl (by repeat (first | exact trivial | refine And.intro rfl ?_))) ?_
  exact ok_fX11_topThing_c4 fu _ _ _ _ _ h
def fX11_rowValue_c38 (kr4 : mm_MM → Int32 → Int32 → Int32 → Option (Int32 × mm_MM)) (m : mm_MM) (x1 : Int32) (x3 : Int32) (s0 : Int32) (s1 : Int32) : Option (Int32 × mm_MM) :=
  kr4 m x1 (s0 + s1) (x3 + 1)
theorem ok_fX11_rowValue_c38 {kr4 : mm_MM → Int32 → Int32 → Int32 → Option (Int32 × mm_MM)} (hkr4 : ∀ (m : mm_MM) (x1 : Int32) (x2 : Int32) (x3 : Int32) (q0 : Int32 × mm_MM), kr4 m x1 x2 x3 = some q0 → Ev XL xs (d + 3) 295 (ev_M m c w) 4 [(0, .ref 606), (1, .int x1), (2, .int x2), (3, .int x3)] [] (fr_i c w q0)) {m : mm_MM} {x1 : Int32} {x3 : Int32} {s0 : Int32} {s1 : Int32} {q0 : Int32 × mm_MM} (h : fX11_rowValue_c38 kr4 m x1 x3 s0 s1 = some q0) : Ev XL xs (d + 3) 295 (ev_M m c w) 38 [(0, .ref 606), (1, .int x1), (3, .int x3)] [.int s1, .int s0] (fr_i c w q0) := by
  unfold fX11_rowValue_c38 at h
  refine ev_s 4 (M' := ev_M m c w) (pc' := 4) (lv' := [(3, .int (x3 + 1)), (2, .int (s0 + s1)), (0, .ref 606), (1, .int x1)]) (st' := []) (fun n => rfl) ?_
  refine ev_sub (lv := [(0, .ref 606), (1, .int x1), (2, .int (s0 + s1)), (3, .int (x3 + 1))]) (mn_of rfl (by repeat (first | exact trivial | refine And.intro rfl ?_))) ?_
  exact hkr4 _ _ _ _ _ h
def fX11_rowValue_c37 (kr4 : mm_MM → Int32 → Int32 → Int32 → Option (Int32 × mm_MM)) (m : mm_MM) (x1 : Int32) (x3 : Int32) (s0 : Int32) : Option (Int32 × mm_MM) :=
  fX11_rowValue_c38 kr4 m x1 x3 s0 0
theorem ok_fX11_rowValue_c37 {kr4 : mm_MM → Int32 → Int32 → Int32 → Option (Int32 × mm_MM)} (hkr4 : ∀ (m : mm_MM) (x1 : Int32) (x2 : Int32) (x3 : Int32) (q0 : Int32 × mm_MM), kr4 m x1 x2 x3 = some q0 → Ev XL xs (d + 3) 295 (ev_M m c w) 4 [(0, .ref 606), (1, .int x1), (2, .int x2), (3, .int x3)] [] (fr_i c w q0)) {m : mm_MM} {x1 : Int32} {x3 : Int32} {s0 : Int32} {q0 : Int32 × mm_MM} (h : fX11_rowValue_c37 kr4 m x1 x3 s0 = some q0) : Ev XL xs (d + 3) 295 (ev_M m c w) 37 [(0, .ref 606), (1, .int x1), (3, .int x3)] [.int s0] (fr_i c w q0) := by
  unfold fX11_rowValue_c37 at h
  refine ev_s 1 (M' := ev_M m c w) (pc' := 38) (lv' := [(0, .ref 606), (1, .int x1), (3, .int x3)]) (st' := [.int 0, .int s0]) (fun n => rfl) ?_
  exact ok_fX11_rowValue_c38 hkr4 h
def fX11_rowValue_c4 : Nat → mm_MM → Int32 → Int32 → Int32 → Option (Int32 × mm_MM)
  | 0 => fun _ _ _ _ => none
  | n + 1 => fun m x1 x2 x3 =>
    (if x3 < 8 then
      (fX11_doesLie m x3).bind fun r2 =>
       (if r2.1 = 0 then
         fX11_rowValue_c37 (fX11_rowValue_c4 n) r2.2 x1 x3 x2
        else
         (fX11_rowOf r2.2 x3).bind fun r4 =>
          (if r4.1 = x1 then
            (fX11_of r4.2 x3 0).bind fun r6 =>
             fX11_rowValue_c38 (fX11_rowValue_c4 n) r6.2 x1 x3 x2 r6.1
           else
            fX11_rowValue_c37 (fX11_rowValue_c4 n) r4.2 x1 x3 x2))
     else
      some (x2, m))
theorem ok_fX11_rowValue_c4 : ∀ (n : Nat) (m : mm_MM) (x1 : Int32) (x2 : Int32) (x3 : Int32) (q0 : Int32 × mm_MM), fX11_rowValue_c4 n m x1 x2 x3 = some q0 → Ev XL xs (d + 3) 295 (ev_M m c w) 4 [(0, .ref 606), (1, .int x1), (2, .int x2), (3, .int x3)] [] (fr_i c w q0) := by
  intro n
  induction n with
  | zero => intro m x1 x2 x3 q0 h; exact absurd (show (none : Option (Int32 × mm_MM)) = some q0 from h) (by simp)
  | succ n ih =>
    intro m x1 x2 x3 q0 h
    unfold fX11_rowValue_c4 at h
    refine ev_i 3 (M1 := ev_M m c w) (pc1 := 10) (lv1 := [(0, .ref 606), (1, .int x1), (2, .int x2), (3, .int x3)]) (st1 := []) (M2 := ev_M m c w) (pc2 := 46) (lv2 := [(0, .ref 606), (1, .int x1), (2, .int x2), (3, .int x3)]) (st2 := []) (fun n => rfl) h (fun hc1 h => ?_) (fun hc1 h => ?_)
    · obtain ⟨r2, hr2, h⟩ := Option.bind_eq_some_iff.mp h
      refine ev_c 4 (y' := 226) (M1 := ev_M m c w) (la := lv_args 0 [.ref 606, .int x3]) (rest := [.int x2]) (pc' := 16) (lv' := [(0, .ref 606), (1, .int x1), (2, .int x2), (3, .int x3)]) (fun n => rfl) (ok_fX11_doesLie hr2) ?_
      show Ev XL xs _ 295 (ev_M r2.2 c w) 16 [(0, .ref 606), (1, .int x1), (2, .int x2), (3, .int x3)] [.int r2.1, .int x2] _
      refine ev_i 1 (M1 := ev_M r2.2 c w) (pc1 := 37) (lv1 := [(0, .ref 606), (1, .int x1), (2, .int x2), (3, .int x3)]) (st1 := [.int x2]) (M2 := ev_M r2.2 c w) (pc2 := 19) (lv2 := [(0, .ref 606), (1, .int x1), (2, .int x2), (3, .int x3)]) (st2 := [.int x2]) (fun n => rfl) h (fun hc3 h => ?_) (fun hc3 h => ?_)
      · refine ev_sub (lv := [(0, .ref 606), (1, .int x1), (3, .int x3)]) (mn_of rfl (by repeat (first | exact trivial | refine And.intro rfl ?_))) ?_
        exact ok_fX11_rowValue_c37 ih h
      · obtain ⟨r4, hr4, h⟩ := Option.bind_eq_some_iff.mp h
        refine ev_c 3 (y' := 230) (M1 := ev_M r2.2 c w) (la := lv_args 0 [.ref 606, .int x3]) (rest := [.int x2]) (pc' := 24) (lv' := [(0, .ref 606), (1, .int x1), (2, .int x2), (3, .int x3)]) (fun n => rfl) (ok_fX11_rowOf hr4) ?_
        show Ev XL xs _ 295 (ev_M r4.2 c w) 24 [(0, .ref 606), (1, .int x1), (2, .int x2), (3, .int x3)] [.int r4.1, .int x2] _
        refine ev_i 2 (M1 := ev_M r4.2 c w) (pc1 := 28) (lv1 := [(0, .ref 606), (1, .int x1), (2, .int x2), (3, .int x3)]) (st1 := [.int x2]) (M2 := ev_M r4.2 c w) (pc2 := 37) (lv2 := [(0, .ref 606), (1, .int x1), (2, .int x2), (3, .int x3)]) (st2 := [.int x2]) (fun n => rfl) h (fun hc5 h => ?_) (fun hc5 h => ?_)
        · obtain ⟨r6, hr6, h⟩ := Option.bind_eq_some_iff.mp h
          refine ev_c 4 (y' := 220) (M1 := ev_M r4.2 c w) (la := lv_args 0 [.ref 606, .int x3, .int 0]) (rest := [.int x2]) (pc' := 34) (lv' := [(0, .ref 606), (1, .int x1), (2, .int x2), (3, .int x3)]) (fun n => rfl) (ok_fX11_of hr6) ?_
          show Ev XL xs _ 295 (ev_M r6.2 c w) 34 [(0, .ref 606), (1, .int x1), (2, .int x2), (3, .int x3)] [.int r6.1, .int x2] _
          refine ev_s 1 (M' := ev_M r6.2 c w) (pc' := 38) (lv' := [(0, .ref 606), (1, .int x1), (2, .int x2), (3, .int x3)]) (st' := [.int r6.1, .int x2]) (fun n => rfl) ?_
          refine ev_sub (lv := [(0, .ref 606), (1, .int x1), (3, .int x3)]) (mn_of rfl (by repeat (first | exact trivial | refine And.intro rfl ?_))) ?_
          exact ok_fX11_rowValue_c38 ih h
        · refine ev_sub (lv := [(0, .ref 606), (1, .int x1), (3, .int x3)]) (mn_of rfl (by repeat (first | exact trivial | refine And.intro rfl ?_))) ?_
          exact ok_fX11_rowValue_c37 ih h
    · cases h
      exact ev_r 2 (fun n => rfl)
def fX11_rowValue (m : mm_MM) (x1 : Int32) : Option (Int32 × mm_MM) :=
  fX11_rowValue_c4 fu m x1 0 0
theorem ok_fX11_rowValue {m : mm_MM} {x1 : Int32} {q0 : Int32 × mm_MM} (h : fX11_rowValue m x1 = some q0) : Ev XL xs (d + 3) 295 (ev_M m c w) 0 (lv_args 0 [.ref 606, .int x1]) [] (fr_i c w q0) := by
  unfold fX11_rowValue at h
  refine ev_s 4 (M' := ev_M m c w) (pc' := 4) (lv' := [(3, .int 0), (2, .int 0), (0, .ref 606), (1, .int x1)]) (st' := []) (fun n => rfl) ?_
  refine ev_sub (lv := [(0, .ref 606), (1, .int x1), (2, .int 0), (3, .int 0)]) (mn_of rfl (by repeat (first | exact trivial | refine And.intro rfl ?_))) ?_
  exact ok_fX11_rowValue_c4 fu _ _ _ _ _ h
def fX11_topRow_c57 (kr4 : mm_MM → Int32 → Int32 → Int32 → Option (Int32 × mm_MM)) (m : mm_MM) (x1 : Int32) (x3 : Int32) (s0 : Int32) : Option (Int32 × mm_MM) :=
  kr4 m x1 s0 (x3 + 1)
theorem ok_fX11_topRow_c57 {kr4 : mm_MM → Int32 → Int32 → Int32 → Option (Int32 × mm_MM)} (hkr4 : ∀ (m : mm_MM) (x1 : Int32) (x2 : Int32) (x3 : Int32) (q0 : Int32 × mm_MM), kr4 m x1 x2 x3 = some q0 → Ev XL xs (d + 4) 296 (ev_M m c w) 4 [(0, .ref 606), (1, .int x1), (2, .int x2), (3, .int x3)] [] (fr_i c w q0)) {m : mm_MM} {x1 : Int32} {x3 : Int32} {s0 : Int32} {q0 : Int32 × mm_MM} (h : fX11_topRow_c57 kr4 m x1 x3 s0 = some q0) : Ev XL xs (d + 4) 296 (ev_M m c w) 57 [(0, .ref 606), (1, .int x1), (3, .int x3)] [.int s0] (fr_i c w q0) := by
  unfold fX11_topRow_c57 at h
  refine ev_s 3 (M' := ev_M m c w) (pc' := 4) (lv' := [(3, .int (x3 + 1)), (2, .int s0), (0, .ref 606), (1, .int x1)]) (st' := []) (fun n => rfl) ?_
  refine ev_sub (lv := [(0, .ref 606), (1, .int x1), (2, .int s0), (3, .int (x3 + 1))]) (mn_of rfl (by repeat (first | exact trivial | refine And.intro rfl ?_))) ?_
  exact hkr4 _ _ _ _ _ h
def fX11_topRow_c45 (kr4 : mm_MM → Int32 → Int32 → Int32 → Option (Int32 × mm_MM)) (m : mm_MM) (x1 : Int32) (x2 : Int32) (x3 : Int32) (s0 : Int32) : Option (Int32 × mm_MM) :=
  (if s0 ≤ 0 then
    fX11_topRow_c57 kr4 m x1 x3 x2
   else
    fX11_topRow_c57 kr4 m x1 x3 x3)
theorem ok_fX11_topRow_c45 {kr4 : mm_MM → Int32 → Int32 → Int32 → Option (Int32 × mm_MM)} (hkr4 : ∀ (m : mm_MM) (x1 : Int32) (x2 : Int32) (x3 : Int32) (q0 : Int32 × mm_MM), kr4 m x1 x2 x3 = some q0 → Ev XL xs (d + 4) 296 (ev_M m c w) 4 [(0, .ref 606), (1, .int x1), (2, .int x2), (3, .int x3)] [] (fr_i c w q0)) {m : mm_MM} {x1 : Int32} {x2 : Int32} {x3 : Int32} {s0 : Int32} {q0 : Int32 × mm_MM} (h : fX11_topRow_c45 kr4 m x1 x2 x3 s0 = some q0) : Ev XL xs (d + 4) 296 (ev_M m c w) 45 [(0, .ref 606), (1, .int x1), (2, .int x2), (3, .int x3)] [.int s0] (fr_i c w q0) := by
  unfold fX11_topRow_c45 at h
  refine ev_i 3 (M1 := ev_M m c w) (pc1 := 56) (lv1 := [(4, .int s0), (0, .ref 606), (1, .int x1), (2, .int x2), (3, .int x3)]) (st1 := []) (M2 := ev_M m c w) (pc2 := 52) (lv2 := [(4, .int s0), (0, .ref 606), (1, .int x1), (2, .int x2), (3, .int x3)]) (st2 := []) (fun n => rfl) h (fun hc1 h => ?_) (fun hc1 h => ?_)
  · refine ev_s 1 (M' := ev_M m c w) (pc' := 57) (lv' := [(4, .int s0), (0, .ref 606), (1, .int x1), (2, .int x2), (3, .int x3)]) (st' := [.int x2]) (fun n => rfl) ?_
    refine ev_sub (lv := [(0, .ref 606), (1, .int x1), (3, .int x3)]) (mn_of rfl (by repeat (first | exact trivial | refine And.intro rfl ?_))) ?_
    exact ok_fX11_topRow_c57 hkr4 h
  · refine ev_s 2 (M' := ev_M m c w) (pc' := 57) (lv' := [(4, .int s0), (0, .ref 606), (1, .int x1), (2, .int x2), (3, .int x3)]) (st' := [.int x3]) (fun n => rfl) ?_
    refine ev_sub (lv := [(0, .ref 606), (1, .int x1), (3, .int x3)]) (mn_of rfl (by repeat (first | exact trivial | refine And.intro rfl ?_))) ?_
    exact ok_fX11_topRow_c57 hkr4 h
def fX11_topRow_c4 : Nat → mm_MM → Int32 → Int32 → Int32 → Option (Int32 × mm_MM)
  | 0 => fun _ _ _ _ => none
  | n + 1 => fun m x1 x2 x3 =>
    (if x3 < m.1 620 1 then
      (if x1 = 0 then
        (if x3 < 0 ∨ 4 ≤ x3.toNatClampNeg then none else
         (if x2 < 0 ∨ 4 ≤ x2.toNatClampNeg then none else
          fX11_topRow_c45 (fX11_topRow_c4 n) m x1 x2 x3 (m.1 621 x3.toNatClampNeg - m.1 621 x2.toNatClampNeg)))
       else
        (fX11_rowValue m x3).bind fun r3 =>
         (fX11_rowValue r3.2 x2).bind fun r4 =>
          fX11_topRow_c45 (fX11_topRow_c4 n) r4.2 x1 x2 x3 (r3.1 - r4.1))
     else
      some (x2, m))
theorem ok_fX11_topRow_c4 : ∀ (n : Nat) (m : mm_MM) (x1 : Int32) (x2 : Int32) (x3 : Int32) (q0 : Int32 × mm_MM), fX11_topRow_c4 n m x1 x2 x3 = some q0 → Ev XL xs (d + 4) 296 (ev_M m c w) 4 [(0, .ref 606), (1, .int x1), (2, .int x2), (3, .int x3)] [] (fr_i c w q0) := by
  intro n
  induction n with
  | zero => intro m x1 x2 x3 q0 h; exact absurd (show (none : Option (Int32 × mm_MM)) = some q0 from h) (by simp)
  | succ n ih =>
    intro m x1 x2 x3 q0 h
    unfold fX11_topRow_c4 at h
    refine ev_i 6 (M1 := ev_M m c w) (pc1 := 14) (lv1 := [(0, .ref 606), (1, .int x1), (2, .int x2), (3, .int x3)]) (st1 := []) (M2 := ev_M m c w) (pc2 := 64) (lv2 := [(0, .ref 606), (1, .int x1), (2, .int x2), (3, .int x3)]) (st2 := []) (fun n => rfl) h (fun hc1 h => ?_) (fun hc1 h => ?_)
    · refine ev_i 2 (M1 := ev_M m c w) (pc1 := 32) (lv1 := [(0, .ref 606), (1, .int x1), (2, .int x2), (3, .int x3)]) (st1 := []) (M2 := ev_M m c w) (pc2 := 18) (lv2 := [(0, .ref 606), (1, .int x1), (2, .int x2), (3, .int x3)]) (st2 := []) (fun n => rfl) h (fun hc2 h => ?_) (fun hc2 h => ?_)
      · refine ev_g 4 (M1 := ev_M m c w) (pc1 := 38) (lv1 := [(0, .ref 606), (1, .int x1), (2, .int x2), (3, .int x3)]) (st1 := [.int (m.1 621 x3.toNatClampNeg)]) (fun n => rfl) h (fun _ h => ?_)
        refine ev_g 4 (M1 := ev_M m c w) (pc1 := 44) (lv1 := [(0, .ref 606), (1, .int x1), (2, .int x2), (3, .int x3)]) (st1 := [.int (m.1 621 x2.toNatClampNeg), .int (m.1 621 x3.toNatClampNeg)]) (fun n => rfl) h (fun _ h => ?_)
        refine ev_s 1 (M' := ev_M m c w) (pc' := 45) (lv' := [(0, .ref 606), (1, .int x1), (2, .int x2), (3, .int x3)]) (st' := [.int (m.1 621 x3.toNatClampNeg - m.1 621 x2.toNatClampNeg)]) (fun n => rfl) ?_
        exact ok_fX11_topRow_c45 ih h
      · obtain ⟨r3, hr3, h⟩ := Option.bind_eq_some_iff.mp h
        refine ev_c 3 (y' := 295) (M1 := ev_M m c w) (la := lv_args 0 [.ref 606, .int x3]) (rest := []) (pc' := 23) (lv' := [(0, .ref 606), (1, .int x1), (2, .int x2), (3, .int x3)]) (fun n => rfl) (ok_fX11_rowValue hr3) ?_
        show Ev XL xs _ 296 (ev_M r3.2 c w) 23 [(0, .ref 606), (1, .int x1), (2, .int x2), (3, .int x3)] [.int r3.1] _
        obtain ⟨r4, hr4, h⟩ := Option.bind_eq_some_iff.mp h
        refine ev_c 3 (y' := 295) (M1 := ev_M r3.2 c w) (la := lv_args 0 [.ref 606, .int x2]) (rest := [.int r3.1]) (pc' := 28) (lv' := [(0, .ref 606), (1, .int x1), (2, .int x2), (3, .int x3)]) (fun n => rfl) (ok_fX11_rowValue hr4) ?_
        show Ev XL xs _ 296 (ev_M r4.2 c w) 28 [(0, .ref 606), (1, .int x1), (2, .int x2), (3, .int x3)] [.int r4.1, .int r3.1] _
        refine ev_s 2 (M' := ev_M r4.2 c w) (pc' := 45) (lv' := [(0, .ref 606), (1, .int x1), (2, .int x2), (3, .int x3)]) (st' := [.int (r3.1 - r4.1)]) (fun n => rfl) ?_
        exact ok_fX11_topRow_c45 ih h
    · cases h
      exact ev_r 2 (fun n => rfl)
def fX11_topRow (m : mm_MM) (x1 : Int32) : Option (Int32 × mm_MM) :=
  fX11_topRow_c4 fu m x1 0 1
theorem ok_fX11_topRow {m : mm_MM} {x1 : Int32} {q0 : Int32 × mm_MM} (h : fX11_topRow m x1 = some q0) : Ev XL xs (d + 4) 296 (ev_M m c w) 0 (lv_args 0 [.ref 606, .int x1]) [] (fr_i c w q0) := by
  unfold fX11_topRow at h
  refine ev_s 4 (M' := ev_M m c w) (pc' := 4) (lv' := [(3, .int 1), (2, .int 0), (0, .ref 606), (1, .int x1)]) (st' := []) (fun n => rfl) ?_
  refine ev_sub (lv := [(0, .ref 606), (1, .int x1), (2, .int 0), (3, .int 1)]) (mn_of rfl (by repeat (first | exact trivial | refine And.intro rfl ?_))) ?_
  exact ok_fX11_topRow_c4 fu _ _ _ _ _ h
def fX11_besideMany_c28 (kr4 : mm_MM → Int32 → Int32 → Option (Int32 × mm_MM)) (m : mm_MM) (x2 : Int32) (s0 : Int32) (s1 : Int32) : Option (Int32 × mm_MM) :=
  kr4 m (s0 + s1) (x2 + 1)
theorem ok_fX11_besideMany_c28 {kr4 : mm_MM → Int32 → Int32 → Option (Int32 × mm_MM)} (hkr4 : ∀ (m : mm_MM) (x1 : Int32) (x2 : Int32) (q0 : Int32 × mm_MM), kr4 m x1 x2 = some q0 → Ev XL xs (d + 4) 297 (ev_M m c w) 4 [(0, .ref 606), (1, .int x1), (2, .int x2)] [] (fr_i c w q0)) {m : mm_MM} {x2 : Int32} {s0 : Int32} {s1 : Int32} {q0 : Int32 × mm_MM} (h : fX11_besideMany_c28 kr4 m x2 s0 s1 = some q0) : Ev XL xs (d + 4) 297 (ev_M m c w) 28 [(0, .ref 606), (2, .int x2)] [.int s1, .int s0] (fr_i c w q0) := by
  unfold fX11_besideMany_c28 at h
  refine ev_s 4 (M' := ev_M m c w) (pc' := 4) (lv' := [(2, .int (x2 + 1)), (1, .int (s0 + s1)), (0, .ref 606)]) (st' := []) (fun n => rfl) ?_
  refine ev_sub (lv := [(0, .ref 606), (1, .int (s0 + s1)), (2, .int (x2 + 1))]) (mn_of rfl (by repeat (first | exact trivial | refine And.intro rfl ?_))) ?_
  exact hkr4 _ _ _ _ h
def fX11_besideMany_c4 : Nat → mm_MM → Int32 → Int32 → Option (Int32 × mm_MM)
  | 0 => fun _ _ _ => none
  | n + 1 => fun m x1 x2 =>
    (if x2 < 8 then
      (fX11_doesLie m x2).bind fun r2 =>
       (if r2.1 = 0 then
         fX11_besideMany_c28 (fX11_besideMany_c4 n) r2.2 x2 x1 0
        else
         (fX11_besideOf r2.2 x2).bind fun r4 =>
          fX11_besideMany_c28 (fX11_besideMany_c4 n) r4.2 x2 x1 r4.1)
     else
      some (((x1 : Int32) / 2), m))
theorem ok_fX11_besideMany_c4 : ∀ (n : Nat) (m : mm_MM) (x1 : Int32) (x2 : Int32) (q0 : Int32 × mm_MM), fX11_besideMany_c4 n m x1 x2 = some q0 → Ev XL xs (d + 4) 297 (ev_M m c w) 4 [(0, .ref 606), (1, .int x1), (2, .int x2)] [] (fr_i c w q0) := by
  intro n
  induction n with
  | zero => intro m x1 x2 q0 h; exact absurd (show (none : Option (Int32 × mm_MM)) = some q0 from h) (by simp)
  | succ n ih =>
    intro m x1 x2 q0 h
    unfold fX11_besideMany_c4 at h
    refine ev_i 3 (M1 := ev_M m c w) (pc1 := 10) (lv1 := [(0, .ref 606), (1, .int x1), (2, .int x2)]) (st1 := []) (M2 := ev_M m c w) (pc2 := 36) (lv2 := [(0, .ref 606), (1, .int x1), (2, .int x2)]) (st2 := []) (fun n => rfl) h (fun hc1 h => ?_) (fun hc1 h => ?_)
    · obtain ⟨r2, hr2, h⟩ := Option.bind_eq_some_iff.mp h
      refine ev_c 4 (y' := 226) (M1 := ev_M m c w) (la := lv_args 0 [.ref 606, .int x2]) (rest := [.int x1]) (pc' := 16) (lv' := [(0, .ref 606), (1, .int x1), (2, .int x2)]) (fun n => rfl) (ok_fX11_doesLie hr2) ?_
      show Ev XL xs _ 297 (ev_M r2.2 c w) 16 [(0, .ref 606), (1, .int x1), (2, .int x2)] [.int r2.1, .int x1] _
      refine ev_i 1 (M1 := ev_M r2.2 c w) (pc1 := 27) (lv1 := [(0, .ref 606), (1, .int x1), (2, .int x2)]) (st1 := [.int x1]) (M2 := ev_M r2.2 c w) (pc2 := 19) (lv2 := [(0, .ref 606), (1, .int x1), (2, .int x2)]) (st2 := [.int x1]) (fun n => rfl) h (fun hc3 h => ?_) (fun hc3 h => ?_)
      · refine ev_s 1 (M' := ev_M r2.2 c w) (pc' := 28) (lv' := [(0, .ref 606), (1, .int x1), (2, .int x2)]) (st' := [.int 0, .int x1]) (fun n => rfl) ?_
        refine ev_sub (lv := [(0, .ref 606), (2, .int x2)]) (mn_of rfl (by repeat (first | exact trivial | refine And.intro rfl ?_))) ?_
        exact ok_fX11_besideMany_c28 ih h
      · obtain ⟨r4, hr4, h⟩ := Option.bind_eq_some_iff.mp h
        refine ev_c 3 (y' := 234) (M1 := ev_M r2.2 c w) (la := lv_args 0 [.ref 606, .int x2]) (rest := [.int x1]) (pc' := 24) (lv' := [(0, .ref 606), (1, .int x1), (2, .int x2)]) (fun n => rfl) (ok_fX11_besideOf hr4) ?_
        show Ev XL xs _ 297 (ev_M r4.2 c w) 24 [(0, .ref 606), (1, .int x1), (2, .int x2)] [.int r4.1, .int x1] _
        refine ev_s 1 (M' := ev_M r4.2 c w) (pc' := 28) (lv' := [(0, .ref 606), (1, .int x1), (2, .int x2)]) (st' := [.int r4.1, .int x1]) (fun n => rfl) ?_
        refine ev_sub (lv := [(0, .ref 606), (2, .int x2)]) (mn_of rfl (by repeat (first | exact trivial | refine And.intro rfl ?_))) ?_
        exact ok_fX11_besideMany_c28 ih h
    · cases h
      exact ev_r 4 (fun n => rfl)
def fX11_besideMany (m : mm_MM) : Option (Int32 × mm_MM) :=
  fX11_besideMany_c4 fu m 0 0
theorem ok_fX11_besideMany {m : mm_MM} {q0 : Int32 × mm_MM} (h : fX11_besideMany m = some q0) : Ev XL xs (d + 4) 297 (ev_M m c w) 0 (lv_args 0 [.ref 606]) [] (fr_i c w q0) := by
  unfold fX11_besideMany at h
  refine ev_s 4 (M' := ev_M m c w) (pc' := 4) (lv' := [(2, .int 0), (1, .int 0), (0, .ref 606)]) (st' := []) (fun n => rfl) ?_
  refine ev_sub (lv := [(0, .ref 606), (1, .int 0), (2, .int 0)]) (mn_of rfl (by repeat (first | exact trivial | refine And.intro rfl ?_))) ?_
  exact ok_fX11_besideMany_c4 fu _ _ _ _ h
def fX11_most_c17 (m : mm_MM) : Option (Int32 × mm_MM) :=
  some (((-1) : Int32), m)
set_option maxRecDepth 20000 in
theorem ok_fX11_most_c17 {m : mm_MM} {q0 : Int32 × mm_MM} (h : fX11_most_c17 m = some q0) : Ev XL xs (d + 5) 298 (ev_M m c w) 17 [] [] (fr_i c w q0) := by
  unfold fX11_most_c17 at h
  cases h
  exact ev_r 2 (fun n => rfl)
def fX11_most (m : mm_MM) (x1 : Int32) : Option (Int32 × mm_MM) :=
  (if m.1 606 26 = 0 then
    fX11_most_c17 m
   else
    (fX11_in m x1 0 11).bind fun r2 =>
     (if r2.1 = 0 then
       fX11_most_c17 r2.2
      else
       (if x1 = 0 then
         (fX11_topThing r2.2 0).bind fun r4 =>
          some (r4.1, r4.2)
        else (if x1 = 1 then
         (fX11_topThing r2.2 3).bind fun r6 =>
          some (r6.1, r6.2)
        else (if x1 = 2 then
         (fX11_topRow r2.2 1).bind fun r8 =>
          some (r8.1, r8.2)
        else (if x1 = 3 then
         (fX11_topRow r2.2 0).bind fun r10 =>
          some (r10.1, r10.2)
        else (if x1 = 4 then
         (fX11_onesWho r2.2 (x1 - 4)).bind fun r12 =>
          some (r12.1, r12.2)
        else (if x1 = 5 then
         (fX11_onesWho r2.2 (x1 - 4)).bind fun r14 =>
          some (r14.1, r14.2)
        else (if x1 = 6 then
         (fX11_onesWho r2.2 (x1 - 4)).bind fun r16 =>
          some (r16.1, r16.2)
        else (if x1 = 7 then
         (fX11_onesWho r2.2 (x1 - 4)).bind fun r18 =>
          some (r18.1, r18.2)
        else (if x1 = 8 then
         (fX11_plots r2.2).bind fun r20 =>
          (fX11_onesWho r20.2 1).bind fun r21 =>
           (fJ6_bitCount_0f7a4 r21.2 r21.1).bind fun r22 =>
            some ((r20.1 - r22.1), r22.2)
        else (if x1 = 9 then
         (fX11_onesWho r2.2 0).bind fun r24 =>
          (fX11_valueOf r24.2 r24.1).bind fun r25 =>
           some (r25.1, r25.2)
        else (if x1 = 10 then
         (fX11_onesWho r2.2 2).bind fun r27 =>
          (fX11_onesWho r27.2 1).bind fun r28 =>
           (fX11_valueOf r28.2 (r27.1 &&& (r28.1 ^^^ ((-1) : Int32)))).bind fun r29 =>
            (fJ9_min_7cf53 r29.2 999 (r2.2.1 623 48 + r29.1)).bind fun r30 =>
             some (r30.1, r30.2)
        else (if x1 = 11 then
         (fX11_besideMany r2.2).bind fun r32 =>
          some (r32.1, r32.2)
        else (fX11_onesWho r2.2 (x1 - 4)).bind fun r34 =>
        some (r34.1, r34.2)))))))))))))))
set_option maxRecDepth 20000 in
theorem ok_fX11_most {m : mm_MM} {x1 : Int32} {q0 : Int32 × mm_MM} (h : fX11_most m x1 = some q0) : Ev XL xs (d + 5) 298 (ev_M m c w) 0 (lv_args 0 [.ref 606, .int x1]) [] (fr_i c w q0) := by
  unfold fX11_most at h
  refine ev_i 3 (M1 := ev_M m c w) (pc1 := 17) (lv1 := [(0, .ref 606), (1, .int x1)]) (st1 := []) (M2 := ev_M m c w) (pc2 := 7) (lv2 := [(0, .ref 606), (1, .int x1)]) (st2 := []) (fun n => rfl) h (fun hc1 h => ?_) (fun hc1 h => ?_)
  · refine ev_sub (lv := []) (mn_of rfl (by repeat (first | exact trivial | refine And.intro rfl ?_))) ?_
    exact ok_fX11_most_c17 h
  · obtain ⟨r2, hr2, h⟩ := Option.bind_eq_some_iff.mp h
    refine ev_c 4 (y' := 178) (M1 := ev_M m c w) (la := lv_args 0 [.int x1, .int 0, .int 11]) (rest := []) (pc' := 14) (lv' := [(0, .ref 606), (1, .int x1)]) (fun n => rfl) (ok_fX11_in hr2) ?_
    show Ev XL xs _ 298 (ev_M r2.2 c w) 14 [(0, .ref 606), (1, .int x1)] [.int r2.1] _
    refine ev_i 1 (M1 := ev_M r2.2 c w) (pc1 := 17) (lv1 := [(0, .ref 606), (1, .int x1)]) (st1 := []) (M2 := ev_M r2.2 c w) (pc2 := 19) (lv2 := [(0, .ref 606), (1, .int x1)]) (st2 := []) (fun n => rfl) h (fun hc3 h => ?_) (fun hc3 h => ?_)
    · refine ev_sub (lv := []) (mn_of rfl (by repeat (first | exact trivial | refine And.intro rfl ?_))) ?_
      exact ok_fX11_most_c17 h
    · refine ev_s 1 (M' := ev_M r2.2 c w) (pc' := 20) (lv' := [(0, .ref 606), (1, .int x1)]) (st' := [.int x1]) (fun n => rfl) ?_
      refine ev_e 0 h (fun hv5 h => ?_) (fun hv5 h => ?_)
      · refine ev_s 1 (M' := ev_M r2.2 c w) (pc' := 84) (lv' := [(0, .ref 606), (1, .int x1)]) (st' := []) (fun n => by rw [hv5]; rfl) ?_
        obtain ⟨r4, hr4, h⟩ := Option.bind_eq_some_iff.mp h
        refine ev_c 3 (y' := 294) (M1 := ev_M r2.2 c w) (la := lv_args 0 [.ref 606, .int 0]) (rest := []) (pc' := 89) (lv' := [(0, .ref 606), (1, .int x1)]) (fun n => rfl) (ok_fX11_topThing hr4) ?_
        show Ev XL xs _ 298 (ev_M r4.2 c w) 89 [(0, .ref 606), (1, .int x1)] [.int r4.1] _
        cases h
        exact ev_r 1 (fun n => rfl)
      refine ev_e 1 h (fun hv7 h => ?_) (fun hv7 h => ?_)
      · refine ev_s 1 (M' := ev_M r2.2 c w) (pc' := 90) (lv' := [(0, .ref 606), (1, .int x1)]) (st' := []) (fun n => by rw [hv7]; rfl) ?_
        obtain ⟨r6, hr6, h⟩ := Option.bind_eq_some_iff.mp h
        refine ev_c 3 (y' := 294) (M1 := ev_M r2.2 c w) (la := lv_args 0 [.ref 606, .int 3]) (rest := []) (pc' := 95) (lv' := [(0, .ref 606), (1, .int x1)]) (fun n => rfl) (ok_fX11_topThing hr6) ?_
        show Ev XL xs _ 298 (ev_M r6.2 c w) 95 [(0, .ref 606), (1, .int x1)] [.int r6.1] _
        cases h
        exact ev_r 1 (fun n => rfl)
      refine ev_e 2 h (fun hv9 h => ?_) (fun hv9 h => ?_)
      · refine ev_s 1 (M' := ev_M r2.2 c w) (pc' := 96) (lv' := [(0, .ref 606), (1, .int x1)]) (st' := []) (fun n => by rw [hv9]; rfl) ?_
        obtain ⟨r8, hr8, h⟩ := Option.bind_eq_some_iff.mp h
        refine ev_c 3 (y' := 296) (M1 := ev_M r2.2 c w) (la := lv_args 0 [.ref 606, .int 1]) (rest := []) (pc' := 101) (lv' := [(0, .ref 606), (1, .int x1)]) (fun n => rfl) (ok_fX11_topRow hr8) ?_
        show Ev XL xs _ 298 (ev_M r8.2 c w) 101 [(0, .ref 606), (1, .int x1)] [.int r8.1] _
        cases h
        exact ev_r 1 (fun n => rfl)
      refine ev_e 3 h (fun hv11 h => ?_) (fun hv11 h => ?_)
      · refine ev_s 1 (M' := ev_M r2.2 c w) (pc' := 102) (lv' := [(0, .ref 606), (1, .int x1)]) (st' := []) (fun n => by rw [hv11]; rfl) ?_
        obtain ⟨r10, hr10, h⟩ := Option.bind_eq_some_iff.mp h
        refine ev_c 3 (y' := 296) (M1 := ev_M r2.2 c w) (la := lv_args 0 [.ref 606, .int 0]) (rest := []) (pc' := 107) (lv' := [(0, .ref 606), (1, .int x1)]) (fun n => rfl) (ok_fX11_topRow hr10) ?_
        show Ev XL xs _ 298 (ev_M r10.2 c w) 107 [(0, .ref 606), (1, .int x1)] [.int r10.1] _
        cases h
        exact ev_r 1 (fun n => rfl)
      refine ev_e 4 h (fun hv13 h => ?_) (fun hv13 h => ?_)
      · refine ev_s 1 (M' := ev_M r2.2 c w) (pc' := 169) (lv' := [(0, .ref 606), (1, .int x1)]) (st' := []) (fun n => by rw [hv13]; rfl) ?_
        obtain ⟨r12, hr12, h⟩ := Option.bind_eq_some_iff.mp h
        refine ev_c 5 (y' := 238) (M1 := ev_M r2.2 c w) (la := lv_args 0 [.ref 606, .int (x1 - 4)]) (rest := []) (pc' := 176) (lv' := [(0, .ref 606), (1, .int x1)]) (fun n => rfl) (ok_fX11_onesWho hr12) ?_
        show Ev XL xs _ 298 (ev_M r12.2 c w) 176 [(0, .ref 606), (1, .int x1)] [.int r12.1] _
        cases h
        exact ev_r 1 (fun n => rfl)
      refine ev_e 5 h (fun hv15 h => ?_) (fun hv15 h => ?_)
      · refine ev_s 1 (M' := ev_M r2.2 c w) (pc' := 169) (lv' := [(0, .ref 606), (1, .int x1)]) (st' := []) (fun n => by rw [hv15]; rfl) ?_
        obtain ⟨r14, hr14, h⟩ := Option.bind_eq_some_iff.mp h
        refine ev_c 5 (y' := 238) (M1 := ev_M r2.2 c w) (la := lv_args 0 [.ref 606, .int (x1 - 4)]) (rest := []) (pc' := 176) (lv' := [(0, .ref 606), (1, .int x1)]) (fun n => rfl) (ok_fX11_onesWho hr14) ?_
        show Ev XL xs _ 298 (ev_M r14.2 c w) 176 [(0, .ref 606), (1, .int x1)] [.int r14.1] _
        cases h
        exact ev_r 1 (fun n => rfl)
      refine ev_e 6 h (fun hv17 h => ?_) (fun hv17 h => ?_)
      · refine ev_s 1 (M' := ev_M r2.2 c w) (pc' := 169) (lv' := [(0, .ref 606), (1, .int x1)]) (st' := []) (fun n => by rw [hv17]; rfl) ?_
        obtain ⟨r16, hr16, h⟩ := Option.bind_eq_some_iff.mp h
        refine ev_c 5 (y' := 238) (M1 := ev_M r2.2 c w) (la := lv_args 0 [.ref 606, .int (x1 - 4)]) (rest := []) (pc' := 176) (lv' := [(0, .ref 606), (1, .int x1)]) (fun n => rfl) (ok_fX11_onesWho hr16) ?_
        show Ev XL xs _ 298 (ev_M r16.2 c w) 176 [(0, .ref 606), (1, .int x1)] [.int r16.1] _
        cases h
        exact ev_r 1 (fun n => rfl)
      refine ev_e 7 h (fun hv19 h => ?_) (fun hv19 h => ?_)
      · refine ev_s 1 (M' := ev_M r2.2 c w) (pc' := 169) (lv' := [(0, .ref 606), (1, .int x1)]) (st' := []) (fun n => by rw [hv19]; rfl) ?_
        obtain ⟨r18, hr18, h⟩ := Option.bind_eq_some_iff.mp h
        refine ev_c 5 (y' := 238) (M1 := ev_M r2.2 c w) (la := lv_args 0 [.ref 606, .int (x1 - 4)]) (rest := []) (pc' := 176) (lv' := [(0, .ref 606), (1, .int x1)]) (fun n => rfl) (ok_fX11_onesWho hr18) ?_
        show Ev XL xs _ 298 (ev_M r18.2 c w) 176 [(0, .ref 606), (1, .int x1)] [.int r18.1] _
        cases h
        exact ev_r 1 (fun n => rfl)
      refine ev_e 8 h (fun hv23 h => ?_) (fun hv23 h => ?_)
      · refine ev_s 1 (M' := ev_M r2.2 c w) (pc' := 108) (lv' := [(0, .ref 606), (1, .int x1)]) (st' := []) (fun n => by rw [hv23]; rfl) ?_
        obtain ⟨r20, hr20, h⟩ := Option.bind_eq_some_iff.mp h
        refine ev_c 2 (y' := 227) (M1 := ev_M r2.2 c w) (la := lv_args 0 [.ref 606]) (rest := []) (pc' := 112) (lv' := [(0, .ref 606), (1, .int x1)]) (fun n => rfl) (ok_fX11_plots hr20) ?_
        show Ev XL xs _ 298 (ev_M r20.2 c w) 112 [(0, .ref 606), (1, .int x1)] [.int r20.1] _
        obtain ⟨r21, hr21, h⟩ := Option.bind_eq_some_iff.mp h
        refine ev_c 3 (y' := 238) (M1 := ev_M r20.2 c w) (la := lv_args 0 [.ref 606, .int 1]) (rest := [.int r20.1]) (pc' := 117) (lv' := [(0, .ref 606), (1, .int x1)]) (fun n => rfl) (ok_fX11_onesWho hr21) ?_
        show Ev XL xs _ 298 (ev_M r21.2 c w) 117 [(0, .ref 606), (1, .int x1)] [.int r21.1, .int r20.1] _
        obtain ⟨r22, hr22, h⟩ := Option.bind_eq_some_iff.mp h
        refine ev_c 1 (y' := 302) (M1 := ev_M r21.2 c w) (la := lv_args 0 [.int r21.1]) (rest := [.int r20.1]) (pc' := 120) (lv' := [(0, .ref 606), (1, .int x1)]) (fun n => rfl) (ok_fJ6_bitCount_0f7a4 hr22) ?_
        show Ev XL xs _ 298 (ev_M r22.2 c w) 120 [(0, .ref 606), (1, .int x1)] [.int r22.1, .int r20.1] _
        cases h
        exact ev_r 2 (fun n => rfl)
      refine ev_e 9 h (fun hv26 h => ?_) (fun hv26 h => ?_)
      · refine ev_s 1 (M' := ev_M r2.2 c w) (pc' := 122) (lv' := [(0, .ref 606), (1, .int x1)]) (st' := []) (fun n => by rw [hv26]; rfl) ?_
        obtain ⟨r24, hr24, h⟩ := Option.bind_eq_some_iff.mp h
        refine ev_c 4 (y' := 238) (M1 := ev_M r2.2 c w) (la := lv_args 0 [.ref 606, .int 0]) (rest := [.ref 606]) (pc' := 128) (lv' := [(0, .ref 606), (1, .int x1)]) (fun n => rfl) (ok_fX11_onesWho hr24) ?_
        show Ev XL xs _ 298 (ev_M r24.2 c w) 128 [(0, .ref 606), (1, .int x1)] [.int r24.1, .ref 606] _
        obtain ⟨r25, hr25, h⟩ := Option.bind_eq_some_iff.mp h
        refine ev_c 1 (y' := 237) (M1 := ev_M r24.2 c w) (la := lv_args 0 [.ref 606, .int r24.1]) (rest := []) (pc' := 131) (lv' := [(0, .ref 606), (1, .int x1)]) (fun n => rfl) (ok_fX11_valueOf hr25) ?_
        show Ev XL xs _ 298 (ev_M r25.2 c w) 131 [(0, .ref 606), (1, .int x1)] [.int r25.1] _
        cases h
        exact ev_r 1 (fun n => rfl)
      refine ev_e 10 h (fun hv31 h => ?_) (fun hv31 h => ?_)
      · refine ev_s 1 (M' := ev_M r2.2 c w) (pc' := 132) (lv' := [(0, .ref 606), (1, .int x1)]) (st' := []) (fun n => by rw [hv31]; rfl) ?_
        obtain ⟨r27, hr27, h⟩ := Option.bind_eq_some_iff.mp h
        refine ev_c 9 (y' := 238) (M1 := ev_M r2.2 c w) (la := lv_args 0 [.ref 606, .int 2]) (rest := [.ref 606, .int (r2.2.1 623 48), .int 999]) (pc' := 148) (lv' := [(0, .ref 606), (1, .int x1)]) (fun n => rfl) (ok_fX11_onesWho hr27) ?_
        show Ev XL xs _ 298 (ev_M r27.2 c w) 148 [(0, .ref 606), (1, .int x1)] [.int r27.1, .ref 606, .int (r2.2.1 623 48), .int 999] _
        obtain ⟨r28, hr28, h⟩ := Option.bind_eq_some_iff.mp h
        refine ev_c 3 (y' := 238) (M1 := ev_M r27.2 c w) (la := lv_args 0 [.ref 606, .int 1]) (rest := [.int r27.1, .ref 606, .int (r2.2.1 623 48), .int 999]) (pc' := 153) (lv' := [(0, .ref 606), (1, .int x1)]) (fun n => rfl) (ok_fX11_onesWho hr28) ?_
        show Ev XL xs _ 298 (ev_M r28.2 c w) 153 [(0, .ref 606), (1, .int x1)] [.int r28.1, .int r27.1, .ref 606, .int (r2.2.1 623 48), .int 999] _
        obtain ⟨r29, hr29, h⟩ := Option.bind_eq_some_iff.mp h
        refine ev_c 4 (y' := 237) (M1 := ev_M r28.2 c w) (la := lv_args 0 [.ref 606, .int (r27.1 &&& (r28.1 ^^^ ((-1) : Int32)))]) (rest := [.int (r2.2.1 623 48), .int 999]) (pc' := 159) (lv' := [(0, .ref 606), (1, .int x1)]) (fun n => rfl) (ok_fX11_valueOf hr29) ?_
        show Ev XL xs _ 298 (ev_M r29.2 c w) 159 [(0, .ref 606), (1, .int x1)] [.int r29.1, .int (r2.2.1 623 48), .int 999] _
        obtain ⟨r30, hr30, h⟩ := Option.bind_eq_some_iff.mp h
        refine ev_c 2 (y' := 308) (M1 := ev_M r29.2 c w) (la := lv_args 0 [.int 999, .int (r2.2.1 623 48 + r29.1)]) (rest := []) (pc' := 163) (lv' := [(0, .ref 606), (1, .int x1)]) (fun n => rfl) (ok_fJ9_min_7cf53 hr30) ?_
        show Ev XL xs _ 298 (ev_M r30.2 c w) 163 [(0, .ref 606), (1, .int x1)] [.int r30.1] _
        cases h
        exact ev_r 1 (fun n => rfl)
      refine ev_e 11 h (fun hv33 h => ?_) (fun hv33 h => ?_)
      · refine ev_s 1 (M' := ev_M r2.2 c w) (pc' := 164) (lv' := [(0, .ref 606), (1, .int x1)]) (st' := []) (fun n => by rw [hv33]; rfl) ?_
        obtain ⟨r32, hr32, h⟩ := Option.bind_eq_some_iff.mp h
        refine ev_c 2 (y' := 297) (M1 := ev_M r2.2 c w) (la := lv_args 0 [.ref 606]) (rest := []) (pc' := 168) (lv' := [(0, .ref 606), (1, .int x1)]) (fun n => rfl) (ok_fX11_besideMany hr32) ?_
        show Ev XL xs _ 298 (ev_M r32.2 c w) 168 [(0, .ref 606), (1, .int x1)] [.int r32.1] _
        cases h
        exact ev_r 1 (fun n => rfl)
      have ghv5 : (x1 : Int32).toInt ≠ 0 := fun z => hv5 (Int32.toInt_inj.mp (z.trans rfl))
      have ghv7 : (x1 : Int32).toInt ≠ 1 := fun z => hv7 (Int32.toInt_inj.mp (z.trans rfl))
      have ghv9 : (x1 : Int32).toInt ≠ 2 := fun z => hv9 (Int32.toInt_inj.mp (z.trans rfl))
      have ghv11 : (x1 : Int32).toInt ≠ 3 := fun z => hv11 (Int32.toInt_inj.mp (z.trans rfl))
      have ghv13 : (x1 : Int32).toInt ≠ 4 := fun z => hv13 (Int32.toInt_inj.mp (z.trans rfl))
      have ghv15 : (x1 : Int32).toInt ≠ 5 := fun z => hv15 (Int32.toInt_inj.mp (z.trans rfl))
      have ghv17 : (x1 : Int32).toInt ≠ 6 := fun z => hv17 (Int32.toInt_inj.mp (z.trans rfl))
      have ghv19 : (x1 : Int32).toInt ≠ 7 := fun z => hv19 (Int32.toInt_inj.mp (z.trans rfl))
      have ghv23 : (x1 : Int32).toInt ≠ 8 := fun z => hv23 (Int32.toInt_inj.mp (z.trans rfl))
      have ghv26 : (x1 : Int32).toInt ≠ 9 := fun z => hv26 (Int32.toInt_inj.mp (z.trans rfl))
      have ghv31 : (x1 : Int32).toInt ≠ 10 := fun z => hv31 (Int32.toInt_inj.mp (z.trans rfl))
      have ghv33 : (x1 : Int32).toInt ≠ 11 := fun z => hv33 (Int32.toInt_inj.mp (z.trans rfl))
      refine ev_td (M' := ev_M r2.2 c w) (pc' := 169) (lv' := [(0, .ref 606), (1, .int x1)]) (st' := []) rfl (by omega) rfl ?_
      obtain ⟨r34, hr34, h⟩ := Option.bind_eq_some_iff.mp h
      refine ev_c 5 (y' := 238) (M1 := ev_M r2.2 c w) (la := lv_args 0 [.ref 606, .int (x1 - 4)]) (rest := []) (pc' := 176) (lv' := [(0, .ref 606), (1, .int x1)]) (fun n => rfl) (ok_fX11_onesWho hr34) ?_
      show Ev XL xs _ 298 (ev_M r34.2 c w) 176 [(0, .ref 606), (1, .int x1)] [.int r34.1] _
      cases h
      exact ev_r 1 (fun n => rfl)
def fX11_image_c11 : Nat → mm_MM → Int32 → Option (Int32 × mm_MM)
  | 0 => fun _ _ => none
  | n + 1 => fun m x1 =>
    (if x1 < 231 then
      (if x1 < 0 ∨ 231 ≤ x1.toNatClampNeg then none else
       (if x1 < 0 ∨ 231 ≤ x1.toNatClampNeg then none else
        fX11_image_c11 n (wI m 638 x1.toNatClampNeg (m.1 623 x1.toNatClampNeg)) (x1 + 1)))
     else
      some (m.1 623 49, (wI m 606 51 1)))
theorem ok_fX11_image_c11 : ∀ (n : Nat) (m : mm_MM) (x1 : Int32) (q0 : Int32 × mm_MM), fX11_image_c11 n m x1 = some q0 → Ev XL xs d 299 (ev_M m c w) 11 [(0, .ref 606), (1, .int x1)] [] (fr_i c w q0) := by
  intro n
  induction n with
  | zero => intro m x1 q0 h; exact absurd (show (none : Option (Int32 × mm_MM)) = some q0 from h) (by simp)
  | succ n ih =>
    intro m x1 q0 h
    unfold fX11_image_c11 at h
    refine ev_i 3 (M1 := ev_M m c w) (pc1 := 18) (lv1 := [(0, .ref 606), (1, .int x1)]) (st1 := []) (M2 := ev_M m c w) (pc2 := 36) (lv2 := [(0, .ref 606), (1, .int x1)]) (st2 := []) (fun n => rfl) h (fun hc1 h => ?_) (fun hc1 h => ?_)
    · refine ev_g 7 (M1 := ev_M m c w) (pc1 := 29) (lv1 := [(0, .ref 606), (1, .int x1)]) (st1 := [.int (m.1 623 x1.toNatClampNeg), .int x1, .ref 638]) (fun n => rfl) h (fun _ h => ?_)
      refine ev_g 1 (M1 := ev_M (wI m 638 x1.toNatClampNeg (m.1 623 x1.toNatClampNeg)) c w) (pc1 := 30) (lv1 := [(0, .ref 606), (1, .int x1)]) (st1 := []) (fun n => rfl) h (fun _ h => ?_)
      refine ev_s 2 (M' := ev_M (wI m 638 x1.toNatClampNeg (m.1 623 x1.toNatClampNeg)) c w) (pc' := 11) (lv' := [(1, .int (x1 + 1)), (0, .ref 606)]) (st' := []) (fun n => rfl) ?_
      refine ev_sub (lv := [(0, .ref 606), (1, .int (x1 + 1))]) (mn_of rfl (by repeat (first | exact trivial | refine And.intro rfl ?_))) ?_
      exact ih _ _ _ h
    · cases h
      exact ev_r 8 (fun n => rfl)
def fX11_image (m : mm_MM) : Option (Int32 × mm_MM) :=
  (if m.1 606 26 = 0 then
    some (((-1) : Int32), m)
   else
    fX11_image_c11 fu m 0)
theorem ok_fX11_image {m : mm_MM} {q0 : Int32 × mm_MM} (h : fX11_image m = some q0) : Ev XL xs d 299 (ev_M m c w) 0 (lv_args 0 [.ref 606]) [] (fr_i c w q0) := by
  unfold fX11_image at h
  refine ev_i 3 (M1 := ev_M m c w) (pc1 := 7) (lv1 := [(0, .ref 606)]) (st1 := []) (M2 := ev_M m c w) (pc2 := 9) (lv2 := [(0, .ref 606)]) (st2 := []) (fun n => rfl) h (fun hc1 h => ?_) (fun hc1 h => ?_)
  · cases h
    exact ev_r 2 (fun n => rfl)
  · refine ev_s 2 (M' := ev_M m c w) (pc' := 11) (lv' := [(1, .int 0), (0, .ref 606)]) (st' := []) (fun n => rfl) ?_
    refine ev_sub (lv := [(0, .ref 606), (1, .int 0)]) (mn_of rfl (by repeat (first | exact trivial | refine And.intro rfl ?_))) ?_
    exact ok_fX11_image_c11 fu _ _ _ h
def fX11_back_c11 : Nat → mm_MM → Int32 → Option (Int32 × mm_MM)
  | 0 => fun _ _ => none
  | n + 1 => fun m x1 =>
    (if x1 < 231 then
      (if x1 < 0 ∨ 231 ≤ x1.toNatClampNeg then none else
       (if x1 < 0 ∨ 231 ≤ x1.toNatClampNeg then none else
        fX11_back_c11 n (wI m 623 x1.toNatClampNeg (m.1 638 x1.toNatClampNeg)) (x1 + 1)))
     else
      some (m.1 623 49, (wI m 606 34 0)))
theorem ok_fX11_back_c11 : ∀ (n : Nat) (m : mm_MM) (x1 : Int32) (q0 : Int32 × mm_MM), fX11_back_c11 n m x1 = some q0 → Ev XL xs d 300 (ev_M m c w) 11 [(0, .ref 606), (1, .int x1)] [] (fr_i c w q0) := by
  intro n
  induction n with
  | zero => intro m x1 q0 h; exact absurd (show (none : Option (Int32 × mm_MM)) = some q0 from h) (by simp)
  | succ n ih =>
    intro m x1 q0 h
    unfold fX11_back_c11 at h
    refine ev_i 3 (M1 := ev_M m c w) (pc1 := 18) (lv1 := [(0, .ref 606), (1, .int x1)]) (st1 := []) (M2 := ev_M m c w) (pc2 := 36) (lv2 := [(0, .ref 606), (1, .int x1)]) (st2 := []) (fun n => rfl) h (fun hc1 h => ?_) (fun hc1 h => ?_)
    · refine ev_g 7 (M1 := ev_M m c w) (pc1 := 29) (lv1 := [(0, .ref 606), (1, .int x1)]) (st1 := [.int (m.1 638 x1.toNatClampNeg), .int x1, .ref 623]) (fun n => rfl) h (fun _ h => ?_)
      refine ev_g 1 (M1 := ev_M (wI m 623 x1.toNatClampNeg (m.1 638 x1.toNatClampNeg)) c w) (pc1 := 30) (lv1 := [(0, .ref 606), (1, .int x1)]) (st1 := []) (fun n => rfl) h (fun _ h => ?_)
      refine ev_s 2 (M' := ev_M (wI m 623 x1.toNatClampNeg (m.1 638 x1.toNatClampNeg)) c w) (pc' := 11) (lv' := [(1, .int (x1 + 1)), (0, .ref 606)]) (st' := []) (fun n => rfl) ?_
      refine ev_sub (lv := [(0, .ref 606), (1, .int (x1 + 1))]) (mn_of rfl (by repeat (first | exact trivial | refine And.intro rfl ?_))) ?_
      exact ih _ _ _ h
    · cases h
      exact ev_r 8 (fun n => rfl)
def fX11_back (m : mm_MM) : Option (Int32 × mm_MM) :=
  (if m.1 606 51 = 0 then
    some (((-1) : Int32), m)
   else
    fX11_back_c11 fu m 0)
theorem ok_fX11_back {m : mm_MM} {q0 : Int32 × mm_MM} (h : fX11_back m = some q0) : Ev XL xs d 300 (ev_M m c w) 0 (lv_args 0 [.ref 606]) [] (fr_i c w q0) := by
  unfold fX11_back at h
  refine ev_i 3 (M1 := ev_M m c w) (pc1 := 7) (lv1 := [(0, .ref 606)]) (st1 := []) (M2 := ev_M m c w) (pc2 := 9) (lv2 := [(0, .ref 606)]) (st2 := []) (fun n => rfl) h (fun hc1 h => ?_) (fun hc1 h => ?_)
  · cases h
    exact ev_r 2 (fun n => rfl)
  · refine ev_s 2 (M' := ev_M m c w) (pc' := 11) (lv' := [(1, .int 0), (0, .ref 606)]) (st' := []) (fun n => rfl) ?_
    refine ev_sub (lv := [(0, .ref 606), (1, .int 0)]) (mn_of rfl (by repeat (first | exact trivial | refine And.intro rfl ?_))) ?_
    exact ok_fX11_back_c11 fu _ _ _ h
def fX11_count (m : mm_MM) (x1 : Int32) : Option (Int32 × mm_MM) :=
  (if x1 = 0 then
    some (m.1 606 25, m)
   else (if x1 = 1 then
    (fX11_onesWho m 0).bind fun r2 =>
     (fJ6_bitCount_0f7a4 r2.2 r2.1).bind fun r3 =>
      some (r3.1, r3.2)
   else (if x1 = 2 then
    some (m.1 606 13, m)
   else (if x1 = 3 then
    some (m.1 606 2, m)
   else (if x1 = 4 then
    some (m.1 606 29, m)
   else (if x1 = 5 then
    some (m.1 623 49, m)
   else (if x1 = 6 then
    some (m.1 606 30, m)
   else (if x1 = 7 then
    some (m.1 606 47, m)
   else (if x1 = 8 then
    some (m.1 623 50, m)
   else (if x1 = 9 then
    some (m.1 606 34, m)
   else some (((-1000000) : Int32), m)))))))))))
set_option maxRecDepth 20000 in
theorem ok_fX11_count {m : mm_MM} {x1 : Int32} {q0 : Int32 × mm_MM} (h : fX11_count m x1 = some q0) : Ev XL xs (d + 4) 301 (ev_M m c w) 0 (lv_args 0 [.ref 606, .int x1]) [] (fr_i c w q0) := by
  unfold fX11_count at h
  refine ev_s 1 (M' := ev_M m c w) (pc' := 1) (lv' := [(0, .ref 606), (1, .int x1)]) (st' := [.int x1]) (fun n => rfl) ?_
  refine ev_e 0 h (fun hv1 h => ?_) (fun hv1 h => ?_)
  · refine ev_s 1 (M' := ev_M m c w) (pc' := 56) (lv' := [(0, .ref 606), (1, .int x1)]) (st' := []) (fun n => by rw [hv1]; rfl) ?_
    cases h
    exact ev_r 3 (fun n => rfl)
  refine ev_e 1 h (fun hv4 h => ?_) (fun hv4 h => ?_)
  · refine ev_s 1 (M' := ev_M m c w) (pc' := 61) (lv' := [(0, .ref 606), (1, .int x1)]) (st' := []) (fun n => by rw [hv4]; rfl) ?_
    obtain ⟨r2, hr2, h⟩ := Option.bind_eq_some_iff.mp h
    refine ev_c 3 (y' := 238) (M1 := ev_M m c w) (la := lv_args 0 [.ref 606, .int 0]) (rest := []) (pc' := 66) (lv' := [(0, .ref 606), (1, .int x1)]) (fun n => rfl) (ok_fX11_onesWho hr2) ?_
    show Ev XL xs _ 301 (ev_M r2.2 c w) 66 [(0, .ref 606), (1, .int x1)] [.int r2.1] _
    obtain ⟨r3, hr3, h⟩ := Option.bind_eq_some_iff.mp h
    refine ev_c 1 (y' := 302) (M1 := ev_M r2.2 c w) (la := lv_args 0 [.int r2.1]) (rest := []) (pc' := 69) (lv' := [(0, .ref 606), (1, .int x1)]) (fun n => rfl) (ok_fJ6_bitCount_0f7a4 hr3) ?_
    show Ev XL xs _ 301 (ev_M r3.2 c w) 69 [(0, .ref 606), (1, .int x1)] [.int r3.1] _
    cases h
    exact ev_r 1 (fun n => rfl)
  refine ev_e 2 h (fun hv5 h => ?_) (fun hv5 h => ?_)
  · refine ev_s 1 (M' := ev_M m c w) (pc' := 70) (lv' := [(0, .ref 606), (1, .int x1)]) (st' := []) (fun n => by rw [hv5]; rfl) ?_
    cases h
    exact ev_r 3 (fun n => rfl)
  refine ev_e 3 h (fun hv6 h => ?_) (fun hv6 h => ?_)
  · refine ev_s 1 (M' := ev_M m c w) (pc' := 75) (lv' := [(0, .ref 606), (1, .int x1)]) (st' := []) (fun n => by rw [hv6]; rfl) ?_
    cases h
    exact ev_r 3 (fun n => rfl)
  refine ev_e 4 h (fun hv7 h => ?_) (fun hv7 h => ?_)
  · refine ev_s 1 (M' := ev_M m c w) (pc' := 80) (lv' := [(0, .ref 606), (1, .int x1)]) (st' := []) (fun n => by rw [hv7]; rfl) ?_
    cases h
    exact ev_r 3 (fun n => rfl)
  refine ev_e 5 h (fun hv8 h => ?_) (fun hv8 h => ?_)
  · refine ev_s 1 (M' := ev_M m c w) (pc' := 85) (lv' := [(0, .ref 606), (1, .int x1)]) (st' := []) (fun n => by rw [hv8]; rfl) ?_
    cases h
    exact ev_r 5 (fun n => rfl)
  refine ev_e 6 h (fun hv9 h => ?_) (fun hv9 h => ?_)
  · refine ev_s 1 (M' := ev_M m c w) (pc' := 93) (lv' := [(0, .ref 606), (1, .int x1)]) (st' := []) (fun n => by rw [hv9]; rfl) ?_
    cases h
    exact ev_r 3 (fun n => rfl)
  refine ev_e 7 h (fun hv10 h => ?_) (fun hv10 h => ?_)
  · refine ev_s 1 (M' := ev_M m c w) (pc' := 98) (lv' := [(0, .ref 606), (1, .int x1)]) (st' := []) (fun n => by rw [hv10]; rfl) ?_
    cases h
    exact ev_r 3 (fun n => rfl)
  refine ev_e 8 h (fun hv11 h => ?_) (fun hv11 h => ?_)
  · refine ev_s 1 (M' := ev_M m c w) (pc' := 103) (lv' := [(0, .ref 606), (1, .int x1)]) (st' := []) (fun n => by rw [hv11]; rfl) ?_
    cases h
    exact ev_r 5 (fun n => rfl)
  refine ev_e 9 h (fun hv12 h => ?_) (fun hv12 h => ?_)
  · refine ev_s 1 (M' := ev_M m c w) (pc' := 111) (lv' := [(0, .ref 606), (1, .int x1)]) (st' := []) (fun n => by rw [hv12]; rfl) ?_
    cases h
    exact ev_r 3 (fun n => rfl)
  have ghv1 : (x1 : Int32).toInt ≠ 0 := fun z => hv1 (Int32.toInt_inj.mp (z.trans rfl))
  have ghv4 : (x1 : Int32).toInt ≠ 1 := fun z => hv4 (Int32.toInt_inj.mp (z.trans rfl))
  have ghv5 : (x1 : Int32).toInt ≠ 2 := fun z => hv5 (Int32.toInt_inj.mp (z.trans rfl))
  have ghv6 : (x1 : Int32).toInt ≠ 3 := fun z => hv6 (Int32.toInt_inj.mp (z.trans rfl))
  have ghv7 : (x1 : Int32).toInt ≠ 4 := fun z => hv7 (Int32.toInt_inj.mp (z.trans rfl))
  have ghv8 : (x1 : Int32).toInt ≠ 5 := fun z => hv8 (Int32.toInt_inj.mp (z.trans rfl))
  have ghv9 : (x1 : Int32).toInt ≠ 6 := fun z => hv9 (Int32.toInt_inj.mp (z.trans rfl))
  have ghv10 : (x1 : Int32).toInt ≠ 7 := fun z => hv10 (Int32.toInt_inj.mp (z.trans rfl))
  have ghv11 : (x1 : Int32).toInt ≠ 8 := fun z => hv11 (Int32.toInt_inj.mp (z.trans rfl))
  have ghv12 : (x1 : Int32).toInt ≠ 9 := fun z => hv12 (Int32.toInt_inj.mp (z.trans rfl))
  refine ev_td (M' := ev_M m c w) (pc' := 116) (lv' := [(0, .ref 606), (1, .int x1)]) (st' := []) rfl (by omega) rfl ?_
  cases h
  exact ev_r 2 (fun n => rfl)
end EV
