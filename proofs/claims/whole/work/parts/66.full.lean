/-! FULL: how long till all that lie are ripe -/
section FUL
variable {m m1 : mm_MM} {W H : Nat} {P : List Vw} {ls : Nat → List Cla}
theorem mi99 {n z : Nat} (hz : n + z < 2 ^ 31) : mi 99 (Int32.ofNat n + Int32.ofNat z) = Int32.ofNat (min 99 (n + z)) := by
  rw [← Int32.ofNat_add]
  unfold mi
  rw [show (99 : Int32) = Int32.ofNat 99 from rfl]
  by_cases h1 : Int32.ofNat 99 ≤ Int32.ofNat (n + z)
  · rw [if_pos h1, Nat.min_eq_left ((nn_le (by decide) hz).mp h1)]
  · rw [if_neg h1, Nat.min_eq_right (by have : ¬ 99 ≤ n + z := fun w => h1 ((nn_le (by decide) hz).mpr w); omega)]
theorem ldn_up (f : Int32) {n t k : Nat} {L : Int32} (h : ldn f k L t = Int32.ofNat n) (hn : n ≤ 99) : ∃ n', ldn f (k + 1) L t = Int32.ofNat n' ∧ n' ≤ 99 ∧ n ≤ n' ∧ min 99 (n + 1) ≤ n' := by
  rw [ldn_s, h]
  by_cases c : rem (Int32.ofNat (t + k)) 12 < f
  · rw [if_pos c, show (2 : Int32) = Int32.ofNat 2 from rfl, mi99 (by omega)]
    exact ⟨_, rfl, by omega, by omega, by omega⟩
  · rw [if_neg c, show (1 : Int32) = Int32.ofNat 1 from rfl, mi99 (by omega)]
    exact ⟨_, rfl, by omega, by omega, by omega⟩
theorem ldn_n (f : Int32) {l t : Nat} (hl : l ≤ 99) : ∀ k, ∃ n, ldn f k (Int32.ofNat l) t = Int32.ofNat n ∧ n ≤ 99 ∧ min 99 k ≤ n
  | 0 => ⟨l, rfl, hl, by omega⟩
  | k + 1 => by
    obtain ⟨n, h1, h2, h3⟩ := ldn_n f (t := t) hl k
    obtain ⟨n', g1, g2, g3, g4⟩ := ldn_up f h1 h2
    exact ⟨n', g1, g2, by omega⟩
theorem fst1_spec {p : Nat → Prop} [DecidablePred p] : ∀ n i, p (i + n) → ∃ j, i ≤ j ∧ j ≤ i + n ∧ fst1 p n i = Int32.ofNat j ∧ p j ∧ ∀ k, i ≤ k → k < j → ¬ p k
  | 0, i, h => ⟨i, by omega, by omega, by unfold fst1; exact if_pos h, h, fun k h1 h2 => by omega⟩
  | n + 1, i, h => by
    by_cases c : p i
    · exact ⟨i, by omega, by omega, by unfold fst1; exact if_pos c, c, fun k h1 h2 => by omega⟩
    · obtain ⟨j, a1, a2, a3, a4, a5⟩ := fst1_spec (p := p) n (i + 1) (by rw [show i + 1 + n = i + (n + 1) by omega]; exact h)
      refine ⟨j, by omega, by omega, by unfold fst1; rw [if_neg c]; exact a3, a4, fun k h1 h2 => ?_⟩
      by_cases e : k = i
      · subst e; exact c
      · exact a5 k (by omega) h2
theorem fst1_is {p : Nat → Prop} [DecidablePred p] {j : Nat} (hp : p j) : ∀ n i, i ≤ j → j ≤ i + n → (∀ k, i ≤ k → k < j → ¬ p k) → fst1 p n i = Int32.ofNat j
  | 0, i, h1, h2, h3 => by
    obtain rfl : i = j := by omega
    unfold fst1; exact if_pos hp
  | n + 1, i, h1, h2, h3 => by
    unfold fst1
    by_cases e : i = j
    · subst e; exact if_pos hp
    · rw [if_neg (h3 i (by omega) (by omega))]
      exact fst1_is hp n (i + 1) (by omega) (by omega) (fun k a b => h3 k (by omega) b)
/-- one thing's first month -/
theorem ripe_one (f : Int32) {Y l t : Nat} (hY : Y ≤ 24) (hl : l ≤ 99) : ∃ j, j ≤ 99 ∧ fst1 (fun k => ¬ ldn f k (Int32.ofNat l) t < Int32.ofNat Y) 99 0 = Int32.ofNat j ∧ (∀ k, j ≤ k → ¬ ldn f k (Int32.ofNat l) t < Int32.ofNat Y) ∧ ∀ k, k < j → ldn f k (Int32.ofNat l) t < Int32.ofNat Y := by
  have hm : ∀ k, ¬ ldn f k (Int32.ofNat l) t < Int32.ofNat Y → ¬ ldn f (k + 1) (Int32.ofNat l) t < Int32.ofNat Y := by
    intro k hk
    obtain ⟨n, h1, h2, h3⟩ := ldn_n f (t := t) hl k
    obtain ⟨n', g1, g2, g3, -⟩ := ldn_up f h1 h2
    rw [h1, nn_lt (by omega) (by omega)] at hk
    rw [g1, nn_lt (by omega) (by omega)]
    omega
  have h99 : ¬ ldn f (0 + 99) (Int32.ofNat l) t < Int32.ofNat Y := by
    obtain ⟨n, h1, h2, h3⟩ := ldn_n f (t := t) hl (0 + 99)
    rw [h1, nn_lt (by omega) (by omega)]
    omega
  obtain ⟨j, a1, a2, a3, a4, a5⟩ := fst1_spec (p := fun k => ¬ ldn f k (Int32.ofNat l) t < Int32.ofNat Y) 99 0 h99
  refine ⟨j, by omega, a3, fun k hk => ?_, fun k hk => Decidable.byContradiction (a5 k (by omega) hk)⟩
  obtain ⟨d, rfl⟩ : ∃ d, k = j + d := ⟨k - j, by omega⟩
  clear hk
  induction d with
  | zero => exact a4
  | succ d ih => exact hm _ ih
theorem owN_and (p : Nat → Bool) (X : Int32) : ∀ (n b : Nat) (a : Int32), (owN p n b a &&& X = 0) ↔ (a &&& X = 0 ∧ ∀ i, b ≤ i → i < b + n → p i = true → bitI i &&& X = 0)
  | 0, b, a => ⟨fun z => ⟨z, fun i h1 h2 => by omega⟩, fun z => z.1⟩
  | n + 1, b, a => by
    rw [owN, owN_and p X n (b + 1)]
    have hd : ∀ u v : Int32, (u ||| v) &&& X = 0 ↔ u &&& X = 0 ∧ v &&& X = 0 := by
      intro u v
      rw [← Int32.or_eq_zero_iff, show (u ||| v) &&& X = u &&& X ||| v &&& X from Int32.toBitVec_inj.mp (by simp [BitVec.and_or_distrib_right])]
    by_cases c : p b = true
    · rw [if_pos c, hd]
      refine ⟨fun z => ⟨z.1.1, fun i h1 h2 h3 => ?_⟩, fun z => ⟨⟨z.1, z.2 b (by omega) (by omega) c⟩, fun i h1 h2 h3 => z.2 i (by omega) (by omega) h3⟩⟩
      by_cases e : i = b
      · subst e; exact z.1.2
      · exact z.2 i (by omega) (by omega) h3
    · rw [if_neg c]
      refine ⟨fun z => ⟨z.1, fun i h1 h2 h3 => ?_⟩, fun z => ⟨z.1, fun i h1 h2 h3 => z.2 i (by omega) (by omega) h3⟩⟩
      by_cases e : i = b
      · subst e; exact absurd h3 c
      · exact z.2 i (by omega) (by omega) h3
theorem mk8_nx (p q : Nat → Bool) : (mk8 p &&& (mk8 q ^^^ ((-1) : Int32))) = 0 ↔ ∀ i, i < 8 → p i = true → q i = true := by
  unfold mk8
  rw [owN_and]
  refine ⟨fun z i hi hp => (bit_nx q hi).mp (z.2 i (by omega) (by omega) hp), fun z => ⟨Int32.zero_and, fun i _ hi hp => (bit_nx q (by omega)).mpr (z i (by omega) hp)⟩⟩
theorem mk8_0 (p : Nat → Bool) : mk8 p = 0 ↔ ∀ i, i < 8 → ¬ p i = true := by
  have h := mk8_nx p (fun _ => false)
  have e : (mk8 (fun _ => false) ^^^ ((-1) : Int32)) = -1 := by decide +kernel
  rw [e, Int32.and_neg_one] at h
  exact h.trans ⟨fun z i hi hp => Bool.noConfusion (z i hi hp), fun z i hi hp => absurd hp (z i hi)⟩
/-- those below b that lie are ripe -/
def ripQ (f y : Int32) (T : TT) (t b k : Nat) : Prop := ∀ i, i < b → lyT T i → ¬ ldn f k (T i 3) t < y
/-- what the loop has, before place b -/
def fulI (f y : Int32) (T : TT) (t b : Nat) (a : Int32) : Prop := (a = -1 ∧ ∀ i, i < b → ¬ lyT T i) ∨ ∃ J, J ≤ 99 ∧ a = Int32.ofNat J ∧ (∃ i, i < b ∧ lyT T i) ∧ (∀ k, J ≤ k → ripQ f y T t b k) ∧ ∀ k, k < J → ¬ ripQ f y T t b k
theorem ma_n {a b : Nat} (ha : a < 2 ^ 31) (hb : b < 2 ^ 31) : ma (Int32.ofNat a) (Int32.ofNat b) = Int32.ofNat (max a b) := by
  unfold ma
  by_cases h : Int32.ofNat a < Int32.ofNat b
  · rw [if_pos h, Nat.max_eq_right (by have := (nn_lt ha hb).mp h; omega)]
  · rw [if_neg h, Nat.max_eq_left (by have : ¬ a < b := fun z => h ((nn_lt ha hb).mpr z); omega)]
theorem ma_m {b : Nat} (hb : b < 2 ^ 31) : ma (-1) (Int32.ofNat b) = Int32.ofNat b := by
  have := nn_n0 hb
  unfold ma
  rw [if_pos (by grind)]
theorem fulI_s {f y : Int32} {T : TT} {t b : Nat} {a : Int32} {j : Nat} (hl : lyT T b) (hj : j ≤ 99) (h1 : ∀ k, j ≤ k → ¬ ldn f k (T b 3) t < y) (h2 : ∀ k, k < j → ldn f k (T b 3) t < y) (h : fulI f y T t b a) : fulI f y T t (b + 1) (ma a (Int32.ofNat j)) := by
  rcases h with ⟨rfl, hn⟩ | ⟨J, hJ, rfl, hx, g1, g2⟩
  · refine Or.inr ⟨j, hj, ma_m (by omega), ⟨b, by omega, hl⟩, fun k hk i hi hli => ?_, fun k hk z => z b (by omega) hl (h2 k hk)⟩
    by_cases e : i = b
    · subst e; exact h1 k hk
    · exact absurd hli (hn i (by omega))
  · refine Or.inr ⟨max J j, by omega, ma_n (by omega) (by omega), ⟨b, by omega, hl⟩, fun k hk i hi hli => ?_, fun k hk z => ?_⟩
    · by_cases e : i = b
      · subst e; exact h1 k (by omega)
      · exact g1 k (by omega) i (by omega) hli
    · by_cases c : k < j
      · exact z b (by omega) hl (h2 k c)
      · exact g2 k (by omega) (fun i hi hli => z i (by omega) hli)
theorem fulI_n {f y : Int32} {T : TT} {t b : Nat} {a : Int32} (hl : ¬ lyT T b) (h : fulI f y T t b a) : fulI f y T t (b + 1) a := by
  have hq : ∀ k, ripQ f y T t (b + 1) k ↔ ripQ f y T t b k := fun k => ⟨fun z i hi => z i (by omega), fun z i hi hli => by
    by_cases e : i = b
    · subst e; exact absurd hli hl
    · exact z i (by omega) hli⟩
  rcases h with ⟨rfl, hn⟩ | ⟨J, hJ, rfl, ⟨i, hi, hli⟩, g1, g2⟩
  · refine Or.inl ⟨rfl, fun i hi hli => ?_⟩
    by_cases e : i = b
    · subst e; exact hl hli
    · exact hn i (by omega) hli
  · exact Or.inr ⟨J, hJ, rfl, ⟨i, by omega, hli⟩, fun k hk => (hq k).mpr (g1 k hk), fun k hk z => g2 k hk ((hq k).mp z)⟩
theorem c_full_l {t : Nat} {o : Option (List Cla)} {Y : Nat} (EC : EnvC m W H o t) (hY : Y ≤ 24) (ey : m.1 14 5 = Int32.ofNat Y) : ∀ (n b : Nat) (a : Int32) (g : Nat), b + n = 8 → n < g → fulI (m.1 14 6) (m.1 14 5) (thc m 34) t b a → ∃ v, fX10_full_c4 g m a (Int32.ofNat b) = some (v, m) ∧ fulI (m.1 14 6) (m.1 14 5) (thc m 34) t 8 v := by
  intro n
  induction n with
  | zero =>
    intro b a g hb hg hi
    obtain ⟨g, rfl⟩ : ∃ h, g = h + 1 := ⟨g - 1, by omega⟩
    obtain rfl : b = 8 := by omega
    refine ⟨a, ?_, hi⟩
    rw [fX10_full_c4]
    exact if_neg (by decide)
  | succ n ih =>
    intro b a g hb hg hi
    obtain ⟨g, rfl⟩ : ∃ h, g = h + 1 := ⟨g - 1, by omega⟩
    have h8 : Int32.ofNat b < 8 := (nn_lt (k := 8) (by omega) (by decide)).mpr (by omega)
    by_cases hl : lyT (thc m 34) b
    · have hB := EC.2.2.2.2.2.1 b hl.1
      obtain ⟨l, hl9, el⟩ : ∃ l, l ≤ 99 ∧ thc m 34 b 3 = Int32.ofNat l := by
        have h0 : ¬ thc m 34 b 3 < 0 := Int32.not_lt.mpr hB.2.2.2.1.1
        exact ⟨_, (nn_lek (k := 99) h0 (by decide)).mp hB.2.2.2.1.2, nn_of h0⟩
      obtain ⟨j, j1, j2, j3, j4⟩ := ripe_one (m.1 14 6) (t := t) hY hl9
      rw [← el, ← ey] at j2 j3 j4
      have ec := c_months (y := m.1 14 5) (f := m.1 14 6) rfl rfl EC.2.2.2.2.2.2.2.1 hl.1
      rw [j2] at ec
      obtain ⟨v, e, hv⟩ := ih (b + 1) _ g (by omega) (by omega) (fulI_s hl j1 j3 j4 hi)
      refine ⟨v, ?_, hv⟩
      rw [fX10_full_c4]
      dsimp only
      rw [if_pos h8, c_findLying_n m (by omega), if_pos hl]
      simp only [Option.bind_some, if_pos (show mm_kd (34 + b) = (9, 6) from kd_p (by omega)), ec, if_neg (ofN_ne (Q := j) (by omega)), j_max, fX10_full_c45, nn_s]
      exact e
    · obtain ⟨v, e, hv⟩ := ih (b + 1) a g (by omega) (by omega) (fulI_n hl hi)
      refine ⟨v, ?_, hv⟩
      rw [fX10_full_c4]
      dsimp only
      rw [if_pos h8, c_findLying_n m (by omega), if_neg hl]
      simp only [Option.bind_some, fX10_full_c45, nn_s]
      exact e
theorem c_full_0 (hn : ∀ b, ¬ thc m 34 b 5 = 1) : ∀ (n b : Nat) (a : Int32) (g : Nat), b + n = 8 → n < g → fX10_full_c4 g m a (Int32.ofNat b) = some (a, m) := by
  intro n
  induction n with
  | zero =>
    intro b a g hb hg
    obtain ⟨g, rfl⟩ : ∃ h, g = h + 1 := ⟨g - 1, by omega⟩
    obtain rfl : b = 8 := by omega
    rw [fX10_full_c4]
    exact if_neg (by decide)
  | succ n ih =>
    intro b a g hb hg
    obtain ⟨g, rfl⟩ : ∃ h, g = h + 1 := ⟨g - 1, by omega⟩
    have h8 : Int32.ofNat b < 8 := (nn_lt (k := 8) (by omega) (by decide)).mpr (by omega)
    rw [fX10_full_c4]
    dsimp only
    rw [if_pos h8, c_findLying_n m (by omega), if_neg (fun z => hn b z.1)]
    simp only [Option.bind_some, fX10_full_c45, nn_s]
    exact ih (b + 1) a g (by omega) (by omega)
theorem allR_Q {o : Option (List Cla)} {y f w : Int32} {D : Nat → Int32} {T : TT} {t : Nat} (k : Nat) : allR (mk8 (lyB T)) y (nxTs o y f w D k T t) ↔ ripQ f y T t 8 k := by
  refine (mk8_nx _ _).trans ⟨fun z i hi hl => (ripe_k hl k).mp (z i hi (decide_eq_true hl)), fun z i hi hl => (ripe_k (of_decide_eq_true hl) k).mpr (z i hi (of_decide_eq_true hl))⟩
theorem q_full (hi : Inv m) : EQ m (fun m => fX10_full m) (fun m => fX11_full m) := by
  obtain ⟨W, H, P, ls, h⟩ := id hi
  have hs := see0 h
  by_cases hk : m.1 0 14 = 0
  · refine EQ_0 (v := -1) hi ?_ ?_
    · exact c_full_0 (h.2.1.2.2.2.2.2.2.2 hk).2 8 0 (-1) fu rfl (by decide)
    · simp only [fX11_full, hs.2.1, if_pos hk, fX11_full_c27, fX11_full_c28]
  · have hk1 := h.1.2.1.resolve_left hk
    obtain ⟨o, t, ht, EC, ER⟩ := IA_env h hk1
    obtain ⟨-, -, -, ⟨Y, -, hY, ey⟩, -⟩ := h.1.2.2.2.2.1 hk1
    obtain ⟨v, ec, hv⟩ := c_full_l EC hY ey 8 0 (-1) fu rfl (by decide) (Or.inl ⟨rfl, fun i hi => by omega⟩)
    rcases hv with ⟨rfl, hn⟩ | ⟨J, hJ, rfl, ⟨i, i1, i2⟩, g1, g2⟩
    · refine EQ_0 (v := -1) hi ec ?_
      have hz : mk8 (lyB (thr m 623 0)) = 0 := (mk8_0 _).mpr (fun i hi z => hn i hi (by rw [← hs.1]; exact of_decide_eq_true z))
      simp only [fX11_full, hs.2.1, if_neg hk, r_ones1, Option.bind_some, hz, if_true, fX11_full_c27, fX11_full_c28]
    · have hz : ¬ mk8 (lyB (thr m 623 0)) = 0 := fun z => (mk8_0 _).mp z i i1 (decide_eq_true (by rw [hs.1]; exact i2))
      obtain ⟨m2, e2, f2⟩ := r_within (x := mk8 (lyB (thr m 623 0))) ER (by omega)
      refine ⟨Int32.ofNat J, m, m2, ec, ?_, Inv_B f2 hi⟩
      simp only [fX11_full, hs.2.1, if_neg hk, r_ones1, Option.bind_some, if_neg hz, fX11_full_c28]
      refine bs e2 ?_
      simp only []
      refine congrArg (fun v => some (v, m2)) ?_
      rw [hs.1, hs.2.2.2.2.1, hs.2.2.2.2.2.1]
      exact fst1_is ((allR_Q J).mpr (g1 J (Nat.le_refl _))) 99 0 (by omega) (by omega) (fun k _ hk z => g2 k hk ((allR_Q k).mp z))
end FUL
