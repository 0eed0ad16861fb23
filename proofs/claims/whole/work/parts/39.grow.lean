/-! HOW A THING GROWS -/
theorem rem_n {T k : Nat} (hT : T < 2 ^ 31) (hk : k < 2 ^ 31) : rem (Int32.ofNat T) (Int32.ofNat k) = Int32.ofNat (T % k) := by
  unfold rem
  rw [← Int32.ofNat_div hT hk, ← Int32.ofNat_mul, ← Int32.ofNat_sub _ _ (Nat.div_mul_le_self T k)]
  rw [Nat.mul_comm, Nat.mod_def]
def lt6 (v s d mo n t : Int32) : Nat → Int32 := fun k => if k = 0 then v else if k = 1 then s else if k = 2 then d else if k = 3 then mo else if k = 4 then n else rem t 12
/-- by what VALUE is more: the law that holds (none: without) -/
def gnB (o : Option (List Cla)) (y v s d mo n t : Int32) : Int32 := match o with
  | none => if mo < y then (if d ≤ s then 1 else 2) else -(mo / y)
  | some cs => evC (lt6 v s d mo n t) cs
def gn (o : Option (List Cla)) (y v s d mo n t : Int32) : Int32 := ma (-9) (mi 9 (gnB o y v s d mo n t))
/-- a month: VALUE, how long it lay, the month -/
def st1 (o : Option (List Cla)) (y f s d n : Int32) (q : Int32 × Int32 × Nat) : Int32 × Int32 × Nat :=
  (ma 0 (mi 200 (q.1 + gn o y q.1 s d q.2.1 n (Int32.ofNat q.2.2))), mi 99 (q.2.1 + if rem (Int32.ofNat q.2.2) 12 < f then 2 else 1), q.2.2 + 1)
def it (o : Option (List Cla)) (y f s d n : Int32) : Nat → Int32 × Int32 × Nat → Int32 × Int32 × Nat
  | 0, q => q
  | k + 1, q => it o y f s d n k (st1 o y f s d n q)
theorem it_add (o : Option (List Cla)) (y f s d n : Int32) : ∀ (a b : Nat) (q : Int32 × Int32 × Nat), it o y f s d n (a + b) q = it o y f s d n b (it o y f s d n a q)
  | 0, b, q => by rw [Nat.zero_add]; rfl
  | a + 1, b, q => by rw [Nat.add_right_comm]; exact it_add o y f s d n a b _
theorem it_s (o : Option (List Cla)) (y f s d n : Int32) (a : Nat) (q : Int32 × Int32 × Nat) : it o y f s d n (a + 1) q = st1 o y f s d n (it o y f s d n a q) := it_add o y f s d n a 1 q
def bdQ (q : Int32 × Int32 × Nat) : Prop := (0 ≤ q.1 ∧ q.1 ≤ 200) ∧ (0 ≤ q.2.1 ∧ q.2.1 ≤ 99)
def bdS (s d n : Int32) : Prop := (0 ≤ s ∧ s ≤ 5) ∧ (0 ≤ d ∧ d ≤ 9) ∧ (0 ≤ n ∧ n ≤ 8)
theorem bdQ_st (o : Option (List Cla)) (y f s d n : Int32) {q : Int32 × Int32 × Nat} (h : bdQ q) : bdQ (st1 o y f s d n q) := by
  obtain ⟨v, l, t⟩ := q
  unfold bdQ at h ⊢
  simp only [st1, ma, mi] at h ⊢
  generalize v + gn o y v s d l n (Int32.ofNat t) = x
  by_cases h1 : rem (Int32.ofNat t) 12 < f <;> grind
theorem bdQ_it (o : Option (List Cla)) (y f s d n : Int32) : ∀ (k : Nat) {q : Int32 × Int32 × Nat}, bdQ q → bdQ (it o y f s d n k q)
  | 0, _, h => h
  | k + 1, _, h => bdQ_it o y f s d n k (bdQ_st o y f s d n h)
theorem it_t (o : Option (List Cla)) (y f s d n : Int32) : ∀ (k : Nat) (q : Int32 × Int32 × Nat), (it o y f s d n k q).2.2 = q.2.2 + k
  | 0, _ => rfl
  | k + 1, q => (it_t o y f s d n k _).trans (by simp only [st1]; omega)
theorem lt6_ok {v s d mo n : Int32} {t : Nat} (hq : bdQ (v, mo, t)) (hs : bdS s d n) (ht : t < 2 ^ 31) : ∀ k, k ≤ 5 → okV false (lt6 v s d mo n (Int32.ofNat t) k) := by
  intro k hk
  obtain ⟨⟨a1, a2⟩, a3, a4⟩ := hq
  obtain ⟨⟨b1, b2⟩, ⟨b3, b4⟩, b5, b6⟩ := hs
  dsimp only at a1 a2 a3 a4
  have hr : rem (Int32.ofNat t) 12 = Int32.ofNat (t % 12) := rem_n (k := 12) ht (by decide)
  obtain rfl | rfl | rfl | rfl | rfl | rfl : k = 0 ∨ k = 1 ∨ k = 2 ∨ k = 3 ∨ k = 4 ∨ k = 5 := by omega
  · show -1000000 ≤ v ∧ v ≤ 1000000; grind
  · show -1000000 ≤ s ∧ s ≤ 1000000; grind
  · show -1000000 ≤ d ∧ d ≤ 1000000; grind
  · show -1000000 ≤ mo ∧ mo ≤ 1000000; grind
  · show -1000000 ≤ n ∧ n ≤ 1000000; grind
  · show okV false (rem (Int32.ofNat t) 12)
    rw [hr]; exact okv_n (by omega)
/-! the class -/
/-- what laws at work write -/
def WS : Nat → Nat → Bool := fun a k => (a == 596 || a == 599 || a == 602 || a == 605) || (k == 3 && (a == 594 || a == 597 || a == 600 || a == 603))
def HoldC (m : mm_MM) (o : Option (List Cla)) : Prop := (o = none ∧ m.1 0 17 = -1) ∨ ∃ h cs, o = some cs ∧ h < 4 ∧ m.1 0 17 = Int32.ofNat h ∧ LawC m (594 + 3 * h) cs ∧ ∀ c ∈ cs, wfC c
theorem WL_WS {h : Nat} (hh : h < 4) : ∀ a k, WS a k = false → WL (594 + 3 * h) a k = false := by
  intro a k
  obtain rfl | rfl | rfl | rfl : h = 0 ∨ h = 1 ∨ h = 2 ∨ h = 3 := by omega
  all_goals simp [WS, WL]; grind
theorem LawC_fr {W : Nat → Nat → Bool} {m m' : mm_MM} {h : Nat} {cs : List Cla} (hW : ∀ k, W (595 + 3 * h) k = false) (hW2 : W (594 + 3 * h) 2 = false) (hf : fr W m m') (hl : LawC m (594 + 3 * h) cs) : LawC m' (594 + 3 * h) cs := by
  refine ⟨(hf.1 _ _ hW2).trans hl.1, hl.2.1, fun j x hj => ?_⟩
  have := hl.2.2 j x hj
  rw [← this]
  exact hf.1 _ _ (by have := hW (0 + j); rwa [show 595 + 3 * h = 594 + 3 * h + 1 by omega] at this)
theorem kd_law {h : Nat} (hh : h < 4) : mm_kd (594 + 3 * h) = (2, 4) ∧ mm_kd (594 + 3 * h + 1) = (20, 240) ∧ mm_kd (594 + 3 * h + 2) = (20, 64) := by
  obtain rfl | rfl | rfl | rfl : h = 0 ∨ h = 1 ∨ h = 2 ∨ h = 3 := by omega
  all_goals exact ⟨rfl, rfl, rfl⟩
theorem c_lawAt_n (m : mm_MM) {h : Nat} (hh : h < 4) : fX10_lawAt m (Int32.ofNat h) = some (some (594 + 3 * h), m) := by
  have hk := (kd_law hh).1
  have h4 : Int32.ofNat h < 4 := (nn_lt (k := 4) (by omega) (by decide)).mpr hh
  unfold fX10_lawAt fX10_lawAt_c23
  rw [if_neg (nn_n0 (by omega)), if_pos h4, nn_go (by omega) hh, nn_tn (by omega)]
  simp [hk]
theorem c_gain (m : mm_MM) {o : Option (List Cla)} (h : HoldC m o) (hy : ¬ m.1 14 5 ≤ 0) {t : Nat} (ht : t < 2 ^ 31) (h5 : m.1 583 5 = Int32.ofNat t) (hq : bdQ (m.1 583 0, m.1 583 2, t)) (hs : bdS (m.1 583 1) (m.1 583 3) (m.1 583 4)) : ∃ m', fX10_gainOfGrowth m = some (gn o (m.1 14 5) (m.1 583 0) (m.1 583 1) (m.1 583 3) (m.1 583 2) (m.1 583 4) (Int32.ofNat t), m') ∧ fr WS m m' := by
  rcases h with ⟨rfl, h1⟩ | ⟨h, cs, rfl, hh, h1, hl, hw⟩
  · refine ⟨m, ?_, fr_refl _ _⟩
    have h0 : ¬ m.1 14 5 = 0 := fun z => hy (by rw [z]; decide)
    unfold fX10_gainOfGrowth
    rw [h1]
    have hx : fX10_lawAt m (-1) = some (none, m) := rfl
    simp only [hx, Option.bind_some, fX10_gainWithoutLaw, fX10_gainWithoutLaw_c70, fX10_gainWithoutLaw_c47, fX10_gainOfGrowth_c28, gn, gnB, if_neg hy, if_neg h0]
    by_cases a1 : m.1 583 2 < m.1 14 5
    · by_cases a2 : m.1 583 3 ≤ m.1 583 1
      · simp [a1, a2, j_min, j_max]
      · simp [a1, a2, j_min, j_max]
    · simp [a1, j_min, j_max]
  · obtain ⟨k1, k2, k3⟩ := kd_law hh
    have hL : ∀ k, k ≤ 5 → okV false (letC m k) := by
      have := lt6_ok hq hs ht
      rw [← h5] at this
      exact this
    obtain ⟨m', e, g⟩ := c_worth (u := 594 + 3 * h) (by omega) k2 k3 hl hw hL
    refine ⟨m', ?_, fr_mono (WL_WS hh) g⟩
    unfold fX10_gainOfGrowth
    rw [h1, c_lawAt_n m hh, ← h5]
    simp [k1, e, fX10_gainOfGrowth_c28, j_min, j_max, gn, gnB]
    rfl
def WG : Nat → Nat → Bool := fun a k => WS a k || a == 583
theorem WG_WS : ∀ a k, WG a k = false → WS a k = false := by intro a k; simp only [WG]; grind
theorem HoldC_fr {W : Nat → Nat → Bool} {m m' : mm_MM} {o : Option (List Cla)} (h0 : W 0 17 = false) (hW : ∀ h k, h < 4 → W (595 + 3 * h) k = false) (hW2 : ∀ h, h < 4 → W (594 + 3 * h) 2 = false) (hf : fr W m m') (h : HoldC m o) : HoldC m' o := by
  rcases h with ⟨rfl, h1⟩ | ⟨h, cs, rfl, hh, h1, hl, hw⟩
  · exact Or.inl ⟨rfl, (hf.1 _ _ h0).trans h1⟩
  · exact Or.inr ⟨h, cs, rfl, hh, (hf.1 _ _ h0).trans h1, LawC_fr (fun k => hW h k hh) (hW2 h hh) hf hl, hw⟩
theorem WG_1 : ∀ h k, h < 4 → WG (595 + 3 * h) k = false := by
  intro h k hh
  obtain rfl | rfl | rfl | rfl : h = 0 ∨ h = 1 ∨ h = 2 ∨ h = 3 := by omega
  all_goals simp [WG, WS]
theorem WG_2 : ∀ h, h < 4 → WG (594 + 3 * h) 2 = false := by
  intro h hh
  obtain rfl | rfl | rfl | rfl : h = 0 ∨ h = 1 ∨ h = 2 ∨ h = 3 := by omega
  all_goals rfl
theorem HoldC_WG {m m' : mm_MM} {o : Option (List Cla)} (hf : fr WG m m') (h : HoldC m o) : HoldC m' o := HoldC_fr rfl WG_1 WG_2 hf h
theorem c_lainAfter (m : mm_MM) (x t : Int32) : fX10_lainAfter m x t = some (mi 99 (x + if rem t 12 < m.1 14 6 then 2 else 1), m) := by
  unfold fX10_lainAfter fX10_lainAfter_c19 fX10_lainAfter_c32
  by_cases h : t - t / 12 * 12 < m.1 14 6 <;> simp [h, j_min, rem]
/-- the growth's cells -/
def GS (m : mm_MM) (s d n : Int32) (q : Int32 × Int32 × Nat) : Prop := m.1 583 0 = q.1 ∧ m.1 583 1 = s ∧ m.1 583 2 = q.2.1 ∧ m.1 583 3 = d ∧ m.1 583 4 = n ∧ m.1 583 5 = Int32.ofNat q.2.2
theorem c_grow_l {o : Option (List Cla)} {s d n : Int32} (hs : bdS s d n) {N : Nat} (hN : N < 2 ^ 31) : ∀ (k i : Nat) (m : mm_MM) (q : Int32 × Int32 × Nat) (f : Nat), i + k = N → k < f → HoldC m o → ¬ m.1 14 5 ≤ 0 → bdQ q → GS m s d n q → q.2.2 + k < 2 ^ 31 → ∃ m', fX10_grow_c2 f m (Int32.ofNat N) (Int32.ofNat i) = some m' ∧ GS m' s d n (it o (m.1 14 5) (m.1 14 6) s d n k q) ∧ fr WG m m' := by
  intro k
  induction k with
  | zero =>
    intro i m q f hi hf ho hy hq hg ht
    obtain ⟨f, rfl⟩ : ∃ g, f = g + 1 := ⟨f - 1, by omega⟩
    refine ⟨m, ?_, hg, fr_refl _ _⟩
    rw [fX10_grow_c2]
    dsimp only
    rw [if_neg (by rw [nn_lt (by omega) hN]; omega)]
  | succ k ih =>
    intro i m q f hi hf ho hy hq hg ht
    obtain ⟨f, rfl⟩ : ∃ g, f = g + 1 := ⟨f - 1, by omega⟩
    obtain ⟨v, l, t⟩ := q
    obtain ⟨g0, g1, g2, g3, g4, g5⟩ := hg
    dsimp only at g0 g1 g2 g3 g4 g5 ht
    obtain ⟨m1, e1, f1⟩ := c_gain m ho hy (t := t) (by omega) g5 (by rw [g0, g2]; exact hq) (by rw [g1, g3, g4]; exact hs)
    rw [g0, g1, g2, g3, g4] at e1
    have h583 : ∀ j, m1.1 583 j = m.1 583 j := fun j => f1.1 583 j (by simp [WS])
    have h14 : ∀ j, m1.1 14 j = m.1 14 j := fun j => f1.1 14 j (by simp [WS])
    have hfr : fr WG m (wI (wI (wI m1 583 0 (st1 o (m.1 14 5) (m.1 14 6) s d n (v, l, t)).1) 583 2 (st1 o (m.1 14 5) (m.1 14 6) s d n (v, l, t)).2.1) 583 5 (Int32.ofNat (t + 1))) :=
      fr_wI (fr_wI (fr_wI (fr_mono WG_WS f1) (by simp [WG])) (by simp [WG])) (by simp [WG])
    obtain ⟨m2, e2, g', f2⟩ := ih (i + 1) (wI (wI (wI m1 583 0 (st1 o (m.1 14 5) (m.1 14 6) s d n (v, l, t)).1) 583 2 (st1 o (m.1 14 5) (m.1 14 6) s d n (v, l, t)).2.1) 583 5 (Int32.ofNat (t + 1))) (st1 o (m.1 14 5) (m.1 14 6) s d n (v, l, t)) f (by omega) (by omega) (HoldC_WG hfr ho) (by rw [hfr.1 14 5 (by simp [WG, WS])]; exact hy) (bdQ_st _ _ _ _ _ _ hq) ⟨by simp [wI_1], by simp [wI_1, h583, g1], by simp [wI_1], by simp [wI_1, h583, g3], by simp [wI_1, h583, g4], by simp [wI_1, st1]⟩ (by simp only [st1]; omega)
    refine ⟨m2, ?_, ?_, fr_trans hfr f2⟩
    · rw [fX10_grow_c2]
      dsimp only
      rw [if_pos (by rw [nn_lt (by omega) hN]; omega), e1]
      simp only [Option.bind_some, j_min, j_max, c_lainAfter, nn_s, g0, wI_ne (show ¬ (14 : Nat) = 583 by decide), h14, h583, g2, g5]
      rw [← e2]
      simp only [wI_1, h583, g5, st1]
      simp
    · rw [hfr.1 14 5 (by simp [WG, WS]), hfr.1 14 6 (by simp [WG, WS])] at g'
      exact g'
theorem c_grow {m : mm_MM} {o : Option (List Cla)} {s d n : Int32} {q : Int32 × Int32 × Nat} {N : Nat} (hN : N < 1000) (ho : HoldC m o) (hy : ¬ m.1 14 5 ≤ 0) (hs : bdS s d n) (hq : bdQ q) (hg : GS m s d n q) (ht : q.2.2 < 10000) : ∃ m', fX10_grow m (Int32.ofNat N) = some m' ∧ GS m' s d n (it o (m.1 14 5) (m.1 14 6) s d n N q) ∧ fr WG m m' :=
  c_grow_l hs (by omega) N 0 m q fu (by omega) (by unfold fu; omega) ho hy hq hg (by omega)
