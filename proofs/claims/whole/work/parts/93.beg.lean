/-! A FIELD BEGUN: the class -/
section BEG
theorem thAt14 (M : mm_MM) {i : Nat} (hi : i < 8) : fX1_thingAt M 14 (Int32.ofNat i) = some (some (17 + i), M) := by
  unfold fX1_thingAt fX1_thingAt_c23
  have hkd : mm_kd (17 + i) = (9, 6) := kd_Le (s := 14) rfl hi
  rw [if_neg (nn_n0 (by omega)), if_pos (show Int32.ofNat i < 8 from (nn_lt (k := 8) (by omega) (by decide)).mpr hi), nn_go (by omega) hi, nn_tn (by omega)]
  show (if mm_kd (17 + i) = (9, 6) then _ else _) = _
  rw [if_pos hkd]
theorem cpT1 {m0 : mm_MM} (hb : ∀ b, b < 8 → (m0.1 (6 + b) 0 = 0 ∨ m0.1 (6 + b) 0 = 1) ∧ (m0.1 (6 + b) 5 = 0 ∨ m0.1 (6 + b) 5 = 1)) : ∀ (k i g : Nat) (m : mm_MM), i + k = 8 → k < g → (∀ a j, ¬ (17 ≤ a ∧ a < 17 + i) → m.1 a j = m0.1 a j) → (∀ b, b < i → ∀ j, j < 6 → m.1 (17 + b) j = m0.1 (6 + b) j) →
    ∃ m', fX1_copy_c13 g m 14 3 (Int32.ofNat i) = fX1_copy_c13 1 m' 14 3 8 ∧ (∀ a j, ¬ (17 ≤ a ∧ a < 25) → m'.1 a j = m0.1 a j) ∧ ∀ b, b < 8 → ∀ j, j < 6 → m'.1 (17 + b) j = m0.1 (6 + b) j := by
  intro k
  induction k with
  | zero =>
    intro i g m hi hg h1 h2
    obtain ⟨g, rfl⟩ : ∃ h, g = h + 1 := ⟨g - 1, by omega⟩
    obtain rfl : i = 8 := by omega
    refine ⟨m, ?_, h1, h2⟩
    show fX1_copy_c13 (g + 1) m 14 3 8 = fX1_copy_c13 (0 + 1) m 14 3 8
    rw [fX1_copy_c13, fX1_copy_c13]
    dsimp only
    rw [if_neg (show ¬ (8 : Int32) < 8 by decide), if_neg (show ¬ (8 : Int32) < 8 by decide)]
  | succ k ih =>
    intro i g m hi hg h1 h2
    obtain ⟨g, rfl⟩ : ∃ h, g = h + 1 := ⟨g - 1, by omega⟩
    have hi8 : i < 8 := by omega
    have hkd : mm_kd (6 + i) = (9, 6) := kd_d hi8
    have q : ∀ j, m.1 (6 + i) j = m0.1 (6 + i) j := fun j => h1 _ _ (by omega)
    obtain ⟨m1, e1, g1, f1⟩ := c_copyT m (t := 17 + i) (u := 6 + i) (by omega) (by rw [q]; exact (hb i hi8).1) (by rw [q]; exact (hb i hi8).2)
    have f1' : ∀ a j, ¬ a = 17 + i → m1.1 a j = m.1 a j := fun a j z => f1.1 a j (by simp only [WT, beq_eq_false_iff_ne]; exact z)
    obtain ⟨m', e, r1, r2⟩ := ih (i + 1) g m1 (by omega) (by omega) (fun a j z => by rw [f1' a j (by omega), h1 a j (by omega)]) (fun b hb' j hj => by
      by_cases c : b = i
      · subst c; rw [g1 j hj, q]
      · rw [f1' _ _ (by omega)]; exact h2 b (by omega) j hj)
    refine ⟨m', ?_, r1, r2⟩
    rw [fX1_copy_c13]
    dsimp only
    rw [if_pos (show Int32.ofNat i < 8 from (nn_lt (k := 8) (by omega) (by decide)).mpr hi8), nn_go (by omega) hi8, nn_tn (by omega), thAt m hi8]
    simp only [Option.bind_some, if_pos hkd, e1, fX1_copy_c51, nn_s]
    exact e
theorem cpT2 {m0 : mm_MM} (hb : ∀ b, b < 8 → (m0.1 (17 + b) 0 = 0 ∨ m0.1 (17 + b) 0 = 1) ∧ (m0.1 (17 + b) 5 = 0 ∨ m0.1 (17 + b) 5 = 1)) : ∀ (k i g : Nat) (m : mm_MM), i + k = 8 → k < g → (∀ a j, ¬ (34 ≤ a ∧ a < 34 + i) → m.1 a j = m0.1 a j) → (∀ b, b < i → ∀ j, j < 6 → m.1 (34 + b) j = m0.1 (17 + b) j) →
    ∃ m', fX7_begin_c2 g m 29 14 (Int32.ofNat i) = fX7_begin_c2 1 m' 29 14 8 ∧ (∀ a j, ¬ (34 ≤ a ∧ a < 42) → m'.1 a j = m0.1 a j) ∧ ∀ b, b < 8 → ∀ j, j < 6 → m'.1 (34 + b) j = m0.1 (17 + b) j := by
  intro k
  induction k with
  | zero =>
    intro i g m hi hg h1 h2
    obtain ⟨g, rfl⟩ : ∃ h, g = h + 1 := ⟨g - 1, by omega⟩
    obtain rfl : i = 8 := by omega
    refine ⟨m, ?_, h1, h2⟩
    show fX7_begin_c2 (g + 1) m 29 14 8 = fX7_begin_c2 (0 + 1) m 29 14 8
    rw [fX7_begin_c2, fX7_begin_c2]
    dsimp only
    rw [if_neg (show ¬ (8 : Int32) < 8 by decide), if_neg (show ¬ (8 : Int32) < 8 by decide)]
  | succ k ih =>
    intro i g m hi hg h1 h2
    obtain ⟨g, rfl⟩ : ∃ h, g = h + 1 := ⟨g - 1, by omega⟩
    have hi8 : i < 8 := by omega
    have hkd : mm_kd (17 + i) = (9, 6) := kd_Le (s := 14) rfl hi8
    have hk2 : mm_kd (34 + i) = (9, 6) := kd_p hi8
    have q : ∀ j, m.1 (17 + i) j = m0.1 (17 + i) j := fun j => h1 _ _ (by omega)
    obtain ⟨m1, e1, g1, f1⟩ := c_copyT m (t := 34 + i) (u := 17 + i) (by omega) (by rw [q]; exact (hb i hi8).1) (by rw [q]; exact (hb i hi8).2)
    have f1' : ∀ a j, ¬ a = 34 + i → m1.1 a j = m.1 a j := fun a j z => f1.1 a j (by simp only [WT, beq_eq_false_iff_ne]; exact z)
    obtain ⟨m', e, r1, r2⟩ := ih (i + 1) g m1 (by omega) (by omega) (fun a j z => by rw [f1' a j (by omega), h1 a j (by omega)]) (fun b hb' j hj => by
      by_cases c : b = i
      · subst c; rw [g1 j hj, q]
      · rw [f1' _ _ (by omega)]; exact h2 b (by omega) j hj)
    refine ⟨m', ?_, r1, r2⟩
    have sl : fX7_slot m 29 (Int32.ofNat i) = some (some (34 + i), m) := c_slot_n m (t := 29) rfl hi8
    rw [fX7_begin_c2]
    dsimp only
    rw [if_pos (show Int32.ofNat i < 8 from (nn_lt (k := 8) (by omega) (by decide)).mpr hi8), sl]
    simp only [Option.bind_some, if_pos hk2, thAt14 m hi8, if_pos hkd, e1, fX7_begin_c36, nn_s]
    exact e
theorem c_begin (m : mm_MM) (h2 : m.1 3 2 = 0 ∨ m.1 3 2 = 1) (hb : ∀ b, b < 8 → (m.1 (6 + b) 0 = 0 ∨ m.1 (6 + b) 0 = 1) ∧ (m.1 (6 + b) 5 = 0 ∨ m.1 (6 + b) 5 = 1)) : ∃ m', fX10_beginField m = some m' ∧ (∀ b, b < 8 → ∀ k, k < 6 → m'.1 (17 + b) k = m.1 (6 + b) k) ∧ (∀ b, b < 8 → ∀ k, k < 6 → m'.1 (34 + b) k = m.1 (6 + b) k) ∧ (∀ r, r < 4 → m'.1 15 r = m.1 4 r) ∧ (∀ k, 2 ≤ k → k < 10 → m'.1 14 k = m.1 3 k) ∧ (m'.1 29 6 = m.1 3 7 ∧ m'.1 29 7 = 0 ∧ m'.1 29 4 = 0 ∧ m'.1 29 5 = 0 ∧ m'.1 55 2 = 0 ∧ m'.1 577 5 = 0 ∧ m'.1 0 14 = 1 ∧ m'.1 0 15 = 0) ∧ ∀ a k, ¬ ((a = 0 ∧ (k = 14 ∨ k = 15)) ∨ (14 ≤ a ∧ a < 25) ∨ (a = 29 ∧ 4 ≤ k ∧ k < 8) ∨ (34 ≤ a ∧ a < 42) ∨ (a = 55 ∧ k = 2) ∨ (a = 577 ∧ k = 5)) → m'.1 a k = m.1 a k := by
  have e1 := c_copyRow m (A := 4) (B := 15) (N := 4) rfl rfl (by decide) (by decide)
  generalize hm1 : cpM m 15 0 4 4 0 = m1 at e1
  have q1 : ∀ a k, ¬ a = 15 → m1.1 a k = m.1 a k := fun a k z => by rw [← hm1, cpM_ne z]
  obtain ⟨m2, e2, f2, g2⟩ := cpT1 (m0 := m1) (fun b hb8 => by rw [q1 _ _ (by omega), q1 _ _ (by omega)]; exact hb b hb8) 8 0 fu m1 rfl (by decide) (fun _ _ _ => rfl) (fun b hb' => by omega)
  have s3 : ∀ k, m2.1 3 k = m.1 3 k := fun k => by rw [f2 3 k (by omega), q1 3 k (by decide)]
  have e3 : fX1_copy_c13 1 m2 14 3 8 = some (wI (wI (wI (wI (wI (wI (wI (wI m2 14 2 (m2.1 3 2)) 14 3 (m2.1 3 3)) 14 4 (m2.1 3 4)) 14 5 (m2.1 3 5)) 14 6 (m2.1 3 6)) 14 7 (m2.1 3 7)) 14 8 (m2.1 3 8)) 14 9 (m2.1 3 9)) := by
    show fX1_copy_c13 (0 + 1) m2 14 3 8 = _
    rw [fX1_copy_c13]
    dsimp only
    rw [if_neg (show ¬ (8 : Int32) < 8 by decide), if_pos (by rw [s3]; exact h2)]
    simp only [wI_ne (show ¬ 3 = 14 by decide)]
  generalize hm3 : wI (wI (wI (wI (wI (wI (wI (wI m2 14 2 (m2.1 3 2)) 14 3 (m2.1 3 3)) 14 4 (m2.1 3 4)) 14 5 (m2.1 3 5)) 14 6 (m2.1 3 6)) 14 7 (m2.1 3 7)) 14 8 (m2.1 3 8)) 14 9 (m2.1 3 9) = m3 at e3
  have q3 : ∀ a k, ¬ a = 14 → m3.1 a k = m2.1 a k := fun a k z => by rw [← hm3, wI_ne z, wI_ne z, wI_ne z, wI_ne z, wI_ne z, wI_ne z, wI_ne z, wI_ne z]
  have q3' : ∀ k, 2 ≤ k → k < 10 → m3.1 14 k = m.1 3 k := fun k h1 h2 => by
    rw [← hm3]
    obtain rfl | rfl | rfl | rfl | rfl | rfl | rfl | rfl : k = 2 ∨ k = 3 ∨ k = 4 ∨ k = 5 ∨ k = 6 ∨ k = 7 ∨ k = 8 ∨ k = 9 := by omega
    all_goals simp [wI_1, s3]
  have t3 : ∀ b, b < 8 → ∀ k, k < 6 → m3.1 (17 + b) k = m.1 (6 + b) k := fun b hb8 k hk => by rw [q3 _ _ (by omega), g2 b hb8 k hk, q1 _ _ (by omega)]
  obtain ⟨m4, e4, f4, g4⟩ := cpT2 (m0 := m3) (fun b hb8 => by rw [t3 b hb8 0 (by decide), t3 b hb8 5 (by decide)]; exact hb b hb8) 8 0 fu m3 rfl (by decide) (fun _ _ _ => rfl) (fun b hb' => by omega)
  have e5 : fX7_begin_c2 1 m4 29 14 8 = some (wI (wI (wI (wI m4 29 6 (m4.1 14 7)) 29 7 0) 29 4 0) 29 5 0) := by
    show fX7_begin_c2 (0 + 1) m4 29 14 8 = _
    rw [fX7_begin_c2]
    dsimp only
    rw [if_neg (show ¬ (8 : Int32) < 8 by decide)]
  have hz : ∀ a k, ¬ ((a = 0 ∧ (k = 14 ∨ k = 15)) ∨ (a = 29 ∧ 4 ≤ k ∧ k < 8) ∨ (a = 55 ∧ k = 2) ∨ (a = 577 ∧ k = 5)) → (wI (wI (wI (wI (wI (wI (wI (wI m4 29 6 (m4.1 14 7)) 29 7 0) 29 4 0) 29 5 0) 55 2 0) 577 5 0) 0 14 1) 0 15 0).1 a k = m4.1 a k := fun a k z => by
    simp only [wI_1]
    rw [if_neg (by omega), if_neg (by omega), if_neg (by omega), if_neg (by omega), if_neg (by omega), if_neg (by omega), if_neg (by omega), if_neg (by omega)]
  refine ⟨wI (wI (wI (wI (wI (wI (wI (wI m4 29 6 (m4.1 14 7)) 29 7 0) 29 4 0) 29 5 0) 55 2 0) 577 5 0) 0 14 1) 0 15 0, ?_, fun b hb8 k hk => ?_, fun b hb8 k hk => ?_, fun r hr => ?_, fun k h1 h2 => ?_, ⟨?_, ?_, ?_, ?_, ?_, ?_, ?_, ?_⟩, fun a k z => ?_⟩
  · unfold fX10_beginField fX1_copy fX7_begin
    refine bs (bs e1 (e2.trans e3)) (bs (e4.trans e5) ?_)
    rfl
  · rw [hz _ _ (by omega), f4 _ _ (by omega), t3 b hb8 k hk]
  · rw [hz _ _ (by omega), g4 b hb8 k hk, t3 b hb8 k hk]
  · rw [hz _ _ (by omega), f4 _ _ (by omega), q3 _ _ (by decide), f2 _ _ (by omega), ← hm1]
    have := cpM_in (m := m) (B := 15) (o := 0) (N := 4) (A := 4) (p := 0) hr
    rw [Nat.zero_add] at this
    exact this
  · rw [hz _ _ (by omega), f4 _ _ (by omega), q3' k h1 h2]
  · simp only [wI_1]
    simp
    rw [f4 _ _ (by omega), q3' 7 (by decide) (by decide)]
  · simp [wI_1]
  · simp [wI_1]
  · simp [wI_1]
  · simp [wI_1]
  · simp [wI_1]
  · simp [wI_1]
  · simp [wI_1]
  · rw [hz _ _ (by omega), f4 _ _ (by omega), q3 _ _ (by omega), f2 _ _ (by omega), q1 _ _ (by omega)]
end BEG
