/-! A FIELD READ FROM ITS START, both sides -/
section FST
variable {B : Nat → Int32} {n : Nat}
theorem clr_l : ∀ (k i g : Nat) (m : mm_MM), i + k = 8 → k < g → ∃ m', fX1_clear_c24 g m 3 (Int32.ofNat i) = some m' ∧ (∀ a j, ¬ (6 + i ≤ a ∧ a < 14) → ¬ a = 3 → m'.1 a j = m.1 a j) ∧ m'.2 = m.2 ∧ (∀ b, i ≤ b → b < 8 → clS m' b) ∧ m'.1 3 2 = 0 ∧ m'.1 3 3 = 4 ∧ m'.1 3 4 = 3 ∧ m'.1 3 5 = 12 ∧ m'.1 3 6 = 2 ∧ m'.1 3 7 = 30 ∧ m'.1 3 8 = 0 ∧ m'.1 3 9 = 0 := by
  intro k
  induction k with
  | zero =>
    intro i g m hi hg
    obtain ⟨g, rfl⟩ : ∃ h, g = h + 1 := ⟨g - 1, by omega⟩
    obtain rfl : i = 8 := by omega
    refine ⟨wI (wI (wI (wI (wI (wI (wI (wI m 3 2 0) 3 3 4) 3 4 3) 3 5 12) 3 6 2) 3 7 30) 3 8 0) 3 9 0, ?_, fun a j z1 z2 => ?_, rfl, fun b h1 h2 => absurd h1 (by omega), ?_⟩
    · rw [fX1_clear_c24]
      exact if_neg (show ¬ Int32.ofNat 8 < 8 by decide)
    · rw [wI_ne z2, wI_ne z2, wI_ne z2, wI_ne z2, wI_ne z2, wI_ne z2, wI_ne z2, wI_ne z2]
    · simp [wI_1]
  | succ k ih =>
    intro i g m hi hg
    obtain ⟨g, rfl⟩ : ∃ h, g = h + 1 := ⟨g - 1, by omega⟩
    have hi8 : i < 8 := by omega
    obtain ⟨m', e, f1, f2, f3, f4⟩ := ih (i + 1) g (wI (wI (wI (wI (wI (wI m (6 + i) 0 0) (6 + i) 1 0) (6 + i) 2 0) (6 + i) 3 (-1)) (6 + i) 4 0) (6 + i) 5 0) (by omega) (by omega)
    refine ⟨m', ?_, fun a j z1 z2 => ?_, f2, fun b h1 h2 => ?_, f4⟩
    · rw [fX1_clear_c24]
      dsimp only
      rw [if_pos (show Int32.ofNat i < 8 from (nn_lt (k := 8) (by omega) (by decide)).mpr hi8), nn_go (by omega) hi8, nn_tn (by omega)]
      refine bs (show fX9_clear m (3 + 3 + i) = some _ from rfl) ?_
      unfold fX1_clear_c48
      rw [nn_s]
      exact e
    · rw [f1 a j (by omega) z2]
      have : ¬ a = 6 + i := by omega
      rw [wI_ne this, wI_ne this, wI_ne this, wI_ne this, wI_ne this, wI_ne this]
    · by_cases c : b = i
      · subst c
        unfold clS
        have : ∀ j, m'.1 (6 + b) j = _ := fun j => f1 (6 + b) j (by omega) (by omega)
        simp only [this]
        simp [wI_1]
      · exact f3 b (by omega) h2
theorem clr_r : ∀ (k i g : Nat) (m : mm_MM), i + k = 4 → k < g → ∃ m', fX1_clear_c2 g m 3 (Int32.ofNat i) = fX1_clear_c24 fu m' 3 0 ∧ (∀ a j, ¬ a = 4 → m'.1 a j = m.1 a j) ∧ m'.2 = m.2 ∧ (∀ r, i ≤ r → r < 4 → m'.1 4 r = 3) ∧ ∀ r, r < i → m'.1 4 r = m.1 4 r := by
  intro k
  induction k with
  | zero =>
    intro i g m hi hg
    obtain ⟨g, rfl⟩ : ∃ h, g = h + 1 := ⟨g - 1, by omega⟩
    obtain rfl : i = 4 := by omega
    refine ⟨m, ?_, fun a j z => rfl, rfl, fun b h1 h2 => absurd h1 (by omega), fun _ _ => rfl⟩
    rw [fX1_clear_c2]
    exact if_neg (by decide)
  | succ k ih =>
    intro i g m hi hg
    obtain ⟨g, rfl⟩ : ∃ h, g = h + 1 := ⟨g - 1, by omega⟩
    have hi4 : i < 4 := by omega
    obtain ⟨m', e, f1, f2, f3, f4⟩ := ih (i + 1) g (wI m 4 i 3) (by omega) (by omega)
    refine ⟨m', ?_, fun a j z => (f1 a j z).trans (wI_ne z), f2, fun r h1 h2 => ?_, fun r h => (f4 r (by omega)).trans (wI_nk (by omega))⟩
    · rw [fX1_clear_c2]
      dsimp only
      rw [if_pos (show Int32.ofNat i < 4 from (nn_lt (k := 4) (by omega) (by decide)).mpr hi4)]
      refine bs (c_place_n m (3 + 1) _ (n := 4) rfl (by decide) hi4) ?_
      rw [nn_s]
      exact e
    · by_cases c : r = i
      · subst c; exact (f4 r (by omega)).trans wI_eq
      · exact f3 r (by omega) h2
theorem c_start (m : mm_MM) : ∃ m', fX1_read m 3 = fX1_read_c10 fu m' 3 0 ∧ cfr m m' ∧ m'.1 1 2 = 0 ∧ (∀ r, r < 4 → m'.1 4 r = 3) ∧ (∀ b, b < 8 → clS m' b) ∧ m'.1 3 2 = 0 ∧ m'.1 3 3 = 4 ∧ m'.1 3 4 = 3 ∧ m'.1 3 5 = 12 ∧ m'.1 3 6 = 2 ∧ m'.1 3 7 = 30 ∧ m'.1 3 8 = 0 ∧ m'.1 3 9 = 0 := by
  obtain ⟨ma, ea, a1, a2, a3, -⟩ := clr_r 4 0 fu m rfl (by decide)
  obtain ⟨mb, eb, b1, b2, b3, b4⟩ := clr_l 8 0 fu ma rfl (by decide)
  refine ⟨wI mb 1 2 0, ?_, ⟨fun a k z => ?_, b2.trans a2⟩, wI_eq, fun r hr => ?_, fun b hb => ?_, ?_⟩
  · unfold fX1_read fX1_clear
    refine bs (Eq.trans ea eb) ?_
    rfl
  · rw [wI_1, if_neg (by omega), b1 a k (by omega) (by omega), a1 a k (by omega)]
  · rw [wI_ne (by decide), b1 4 r (by omega) (by omega)]; exact a3 r (by omega) hr
  · have := b3 b (by omega) hb
    unfold clS at this ⊢
    simp only [wI_ne (show ¬ 6 + b = 1 by omega)]
    exact this
  · simp only [wI_ne (show ¬ 3 = 1 by decide)]
    exact b4
theorem r_us (m : mm_MM) {k : Nat} (hk : k < 5) : fX11_usual m 115 (Int32.ofNat k) = some (usS k, m) := by
  obtain rfl | rfl | rfl | rfl | rfl : k = 0 ∨ k = 1 ∨ k = 2 ∨ k = 3 ∨ k = 4 := by omega
  all_goals rfl
theorem rst_1 : ∀ (k i g : Nat) (m : mm_MM), i + k = 5 → k < g → ∃ m', fX11_readField_c24 g m 0 (Int32.ofNat i) = fX11_readField_c49 fu m' 0 0 ∧ (∀ a j, ¬ a = 617 → m'.1 a j = m.1 a j) ∧ m'.2 = m.2 ∧ (∀ r, i ≤ r → r < 5 → m'.1 617 r = usS r) ∧ ∀ r, r < i → m'.1 617 r = m.1 617 r := by
  intro k
  induction k with
  | zero =>
    intro i g m hi hg
    obtain ⟨g, rfl⟩ : ∃ h, g = h + 1 := ⟨g - 1, by omega⟩
    obtain rfl : i = 5 := by omega
    refine ⟨m, ?_, fun a j z => rfl, rfl, fun b h1 h2 => absurd h1 (by omega), fun _ _ => rfl⟩
    rw [fX11_readField_c24]
    exact if_neg (by decide)
  | succ k ih =>
    intro i g m hi hg
    obtain ⟨g, rfl⟩ : ∃ h, g = h + 1 := ⟨g - 1, by omega⟩
    have hi4 : i < 5 := by omega
    obtain ⟨m', e, f1, f2, f3, f4⟩ := ih (i + 1) g (wI m 617 i (usS i)) (by omega) (by omega)
    refine ⟨m', ?_, fun a j z => (f1 a j z).trans (wI_ne z), f2, fun r h1 h2 => ?_, fun r h => (f4 r (by omega)).trans (wI_nk (by omega))⟩
    · rw [fX11_readField_c24]
      dsimp only
      rw [if_pos (show Int32.ofNat i < 5 from (nn_lt (k := 5) (by omega) (by decide)).mpr hi4)]
      refine bs (r_us m hi4) ?_
      rw [nn_go (by omega) hi4, nn_tn (by omega), nn_s]
      exact e
    · by_cases c : r = i
      · subst c; exact (f4 r (by omega)).trans wI_eq
      · exact f3 r (by omega) h2
theorem rst_2 : ∀ (k i g : Nat) (m : mm_MM), i + k = 4 → k < g → ∃ m', fX11_readField_c49 g m 0 (Int32.ofNat i) = fX11_readField_c69 fu m' 0 1 ∧ (∀ a j, ¬ a = 618 → m'.1 a j = m.1 a j) ∧ m'.2 = m.2 ∧ (∀ r, i ≤ r → r < 4 → m'.1 618 r = 3) ∧ ∀ r, r < i → m'.1 618 r = m.1 618 r := by
  intro k
  induction k with
  | zero =>
    intro i g m hi hg
    obtain ⟨g, rfl⟩ : ∃ h, g = h + 1 := ⟨g - 1, by omega⟩
    obtain rfl : i = 4 := by omega
    refine ⟨m, ?_, fun a j z => rfl, rfl, fun b h1 h2 => absurd h1 (by omega), fun _ _ => rfl⟩
    rw [fX11_readField_c49]
    exact if_neg (by decide)
  | succ k ih =>
    intro i g m hi hg
    obtain ⟨g, rfl⟩ : ∃ h, g = h + 1 := ⟨g - 1, by omega⟩
    have hi4 : i < 4 := by omega
    obtain ⟨m', e, f1, f2, f3, f4⟩ := ih (i + 1) g (wI m 618 i 3) (by omega) (by omega)
    refine ⟨m', ?_, fun a j z => (f1 a j z).trans (wI_ne z), f2, fun r h1 h2 => ?_, fun r h => (f4 r (by omega)).trans (wI_nk (by omega))⟩
    · rw [fX11_readField_c49]
      dsimp only
      rw [if_pos (show Int32.ofNat i < 4 from (nn_lt (k := 4) (by omega) (by decide)).mpr hi4), nn_go (by omega) hi4, nn_tn (by omega), nn_s]
      exact e
    · by_cases c : r = i
      · subst c; exact (f4 r (by omega)).trans wI_eq
      · exact f3 r (by omega) h2
theorem r_start (m : mm_MM) : ∃ m', fX11_readField m = fX11_readField_c69 fu m' 0 1 ∧ rfr m m' ∧ m'.1 606 3 = 0 ∧ m'.1 606 4 = -1 ∧ m'.1 606 20 = 0 ∧ m'.1 606 21 = 0 ∧ (∀ k, k < 5 → m'.1 617 k = usS k) ∧ ∀ r, r < 4 → m'.1 618 r = 3 := by
  generalize h0 : wI (wI (wI (wI m 606 3 0) 606 4 ((-1) : Int32)) 606 20 0) 606 21 0 = m0
  obtain ⟨ma, ea, a1, a2, a3, -⟩ := rst_1 5 0 fu m0 rfl (by decide)
  obtain ⟨mb, eb, b1, b2, b3, -⟩ := rst_2 4 0 fu ma rfl (by decide)
  have q : ∀ j, mb.1 606 j = m0.1 606 j := fun j => (b1 606 j (by decide)).trans (a1 606 j (by decide))
  refine ⟨mb, ?_, ⟨fun a k z => ?_, ?_⟩, ?_, ?_, ?_, ?_, fun k hk => (b1 617 k (by decide)).trans (a3 k (by omega) hk), fun r hr => b3 r (by omega) hr⟩
  · unfold fX11_readField
    rw [h0]
    exact Eq.trans ea eb
  · rw [b1 a k (by omega), a1 a k (by omega), ← h0]
    simp only [wI_1]
    rw [if_neg (by omega), if_neg (by omega), if_neg (by omega), if_neg (by omega)]
  · rw [b2, a2, ← h0]; rfl
  · rw [q, ← h0]; simp [wI_1]
  · rw [q, ← h0]; simp [wI_1]
  · rw [q, ← h0]; simp [wI_1]
  · rw [q, ← h0]; simp [wI_1]
theorem field_read {m : mm_MM} (hn : n ≤ 240) (hB : ∀ i, i < n → ¬ B i = -1) (tC : tpeC m B n) (tR : ∃ X, tpeR X B n) : ∃ v m1, fX1_read m 3 = some (v, m1) ∧ cfr m m1 ∧ ∀ X, tpeR X B n → ∃ m2, fX11_readField X = some (v, m2) ∧ rfr X m2 ∧ (v = -1 → fldOK m1 m2) := by
  obtain ⟨M, e, f, c12, c4, c6, d2, d3, d4, d5, d6, d7, d8, d9⟩ := c_start m
  have start : ∀ R, R.1 606 20 = 0 → R.1 606 21 = 0 → (∀ k, k < 5 → R.1 617 k = usS k) → (∀ r, r < 4 → R.1 618 r = 3) → FS M R 0 0 0 0 0 := fun R r20 r21 r17 r18 => by
    refine ⟨⟨d2, fun _ => r17⟩, fun k hk => ?_, ⟨d8, r20, by decide⟩, fun r hr => ?_, ⟨d9, r21, by decide⟩, fun i hi => by omega, fun i _ h => c6 i h⟩
    · rw [r17 k hk]
      obtain rfl | rfl | rfl | rfl | rfl : k = 0 ∨ k = 1 ∨ k = 2 ∨ k = 3 ∨ k = 4 := by omega
      · exact ⟨d3, 4, by decide, by decide, rfl⟩
      · exact ⟨d4, 3, by decide, by decide, rfl⟩
      · exact ⟨d5, 12, by decide, by decide, rfl⟩
      · exact ⟨d6, 2, by decide, by decide, rfl⟩
      · exact ⟨d7, 30, by decide, by decide, rfl⟩
    · rw [c4 r hr, r18 r hr]
      exact ⟨rfl, by decide, fun _ => rfl⟩
  have go : ∀ X, tpeR X B n → ∃ v m1 m2, fX1_read_c10 fu M 3 0 = some (v, m1) ∧ fX11_readField X = some (v, m2) ∧ cfr M m1 ∧ rfr X m2 ∧ (v = -1 → fldOK m1 m2) := fun X tX => by
    obtain ⟨R, er, g, q3, q4, q20, q21, q17, q18⟩ := r_start X
    obtain ⟨v', m1', m2, e1', e2, f1', g2, h2⟩ := field_sim hn hB (n + 1) 0 0 fu fu M R 0 0 0 (by omega) (by omega) (by omega) (by unfold fu; omega) (by unfold fu; omega) (tpeC_f f tC) (tpeR_f g tX) c12 q3 q4 (Or.inl rfl) (start R q20 q21 q17 q18)
    exact ⟨v', m1', m2, e1', er.trans e2, f1', rfr_trans g g2, h2⟩
  obtain ⟨X0, tX0⟩ := tR
  obtain ⟨v, m1, -, e1, -, f1, -, -⟩ := go X0 tX0
  refine ⟨v, m1, e.trans e1, cfr_trans f f1, fun X tX => ?_⟩
  obtain ⟨v', m1', m2, e1', e2, -, g2, h2⟩ := go X tX
  rw [e1] at e1'
  cases e1'
  exact ⟨m2, e2, g2, h2⟩
end FST
