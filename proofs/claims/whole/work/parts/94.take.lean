/-! A FIELD TAKEN: the reference -/
section TAK
theorem r_layTold2 (m : mm_MM) {b : Nat} (hb : b < 8) : fX11_layTold m (Int32.ofNat b) = some (wI (wI (cpM m 623 (6 * b) 4 622 (4 * b)) 623 (6 * b + 4) (if m.1 622 (4 * b + 2) = -1 then 0 else 1)) 623 (6 * b + 5) 1) := by
  have hloop := cp_l (F := fun n m x => fX11_layTold_c2 n m (Int32.ofNat b) x) (fin := fun m => (fX11_of m (Int32.ofNat b) 2).bind fun r3 => (if r3.1 = ((-1) : Int32) then fX11_layTold_c47 r3.2 (Int32.ofNat b) (Int32.ofNat b) 4 0 else fX11_layTold_c47 r3.2 (Int32.ofNat b) (Int32.ofNat b) 4 1)) (I := fun _ => True) (A := 622) (B := 623) (o := 6 * b) (p := 4 * b) (c := 0) (N := 4) (Or.inl (by decide)) (fun _ _ _ _ => trivial) (fun n m z hz _ => by
      rw [fX11_layTold_c2]
      dsimp only
      have e : 4 * Int32.ofNat b + Int32.ofNat (0 + z) = Int32.ofNat (4 * b + z) := by rw [Nat.zero_add, Int32.ofNat_add, Int32.ofNat_mul]; rfl
      rw [if_pos (show Int32.ofNat (0 + z) < 4 from (nn_lt (k := 4) (by omega) (by decide)).mpr (by omega)), e, nn_go (by omega) (by omega), nn_tn (by omega), Nat.zero_add, r_set m _ hb (by omega)]
      simp only [Option.bind_some, nn_s]) (fun n m _ => by
      rw [fX11_layTold_c2]
      dsimp only
      rw [if_neg (show ¬ Int32.ofNat (0 + 4) < 4 by decide)]) (m := m) trivial fu (by unfold fu; omega)
  have hx : (cpM m 623 (6 * b) 4 622 (4 * b)).1 623 (6 * b + 2) = m.1 622 (4 * b + 2) := cpM_in (by decide)
  generalize hM : cpM m 623 (6 * b) 4 622 (4 * b) = M at hloop hx ⊢
  have e4 : ∀ v, fX11_layTold_c47 M (Int32.ofNat b) (Int32.ofNat b) 4 v = some (wI (wI M 623 (6 * b + 4) v) 623 (6 * b + 5) 1) := fun v => by
    simp only [fX11_layTold_c47, r_set4 M v hb, Option.bind_some, r_set5 _ 1 hb]
  have hloop : fX11_layTold m (Int32.ofNat b) = _ := hloop
  rw [hloop]
  simp only [r_of2 M hb, Option.bind_some]
  rw [hx]
  by_cases c : m.1 622 (4 * b + 2) = -1
  · rw [if_pos c, if_pos c, e4]
  · rw [if_neg c, if_neg c, e4]
theorem tk_z : ∀ (k i g : Nat) (m : mm_MM), i + k = 231 → k < g → ∃ m', fX11_takeField_c91 g m (Int32.ofNat i) = fX11_takeField_c113 fu m' 0 ∧ (∀ a j, ¬ a = 623 → m'.1 a j = m.1 a j) ∧ (∀ r, i ≤ r → r < 231 → m'.1 623 r = 0) ∧ ∀ r, r < i → m'.1 623 r = m.1 623 r := by
  intro k
  induction k with
  | zero =>
    intro i g m hi hg
    obtain ⟨g, rfl⟩ : ∃ h, g = h + 1 := ⟨g - 1, by omega⟩
    obtain rfl : i = 231 := by omega
    refine ⟨m, ?_, fun a j z => rfl, fun b h1 h2 => absurd h1 (by omega), fun _ _ => rfl⟩
    rw [fX11_takeField_c91]
    exact if_neg (by decide)
  | succ k ih =>
    intro i g m hi hg
    obtain ⟨g, rfl⟩ : ∃ h, g = h + 1 := ⟨g - 1, by omega⟩
    have hi4 : i < 231 := by omega
    obtain ⟨m', e, f1, f3, f4⟩ := ih (i + 1) g (wI m 623 i 0) (by omega) (by omega)
    refine ⟨m', ?_, fun a j z => (f1 a j z).trans (wI_ne z), fun r h1 h2 => ?_, fun r h => (f4 r (by omega)).trans (wI_nk (by omega))⟩
    · rw [fX11_takeField_c91]
      dsimp only
      rw [if_pos (show Int32.ofNat i < 231 from (nn_lt (k := 231) (by omega) (by decide)).mpr hi4), nn_go (by omega) hi4, nn_tn (by omega), nn_s]
      exact e
    · by_cases c : r = i
      · subst c; exact (f4 r (by omega)).trans wI_eq
      · exact f3 r (by omega) h2
theorem tk_l {m0 : mm_MM} {nt : Nat} (hn : nt ≤ 8) (h25 : m0.1 606 25 = Int32.ofNat nt) (hz : ∀ r, r < 231 → m0.1 623 r = 0) : ∀ (k i g : Nat) (m : mm_MM), i + k = nt → k < g → (∀ a j, ¬ a = 623 → m.1 a j = m0.1 a j) → (∀ j, 6 * i ≤ j → j < 231 → m.1 623 j = 0) → (∀ b, b < i → (∀ k, k < 4 → m.1 623 (6 * b + k) = m0.1 622 (4 * b + k)) ∧ m.1 623 (6 * b + 4) = (if m0.1 622 (4 * b + 2) = -1 then 0 else 1) ∧ m.1 623 (6 * b + 5) = 1) →
    ∃ m', fX11_takeField_c113 g m (Int32.ofNat i) = some (Int32.ofNat nt, wI (wI (wI (wI m' 623 48 (m0.1 620 4)) 606 47 0) 606 34 0) 606 51 0) ∧ (∀ a j, ¬ a = 623 → m'.1 a j = m0.1 a j) ∧ (∀ j, 6 * nt ≤ j → j < 231 → m'.1 623 j = 0) ∧ ∀ b, b < nt → (∀ k, k < 4 → m'.1 623 (6 * b + k) = m0.1 622 (4 * b + k)) ∧ m'.1 623 (6 * b + 4) = (if m0.1 622 (4 * b + 2) = -1 then 0 else 1) ∧ m'.1 623 (6 * b + 5) = 1 := by
  intro k
  induction k with
  | zero =>
    intro i g m hi hg h1 h2 h3
    obtain ⟨g, rfl⟩ : ∃ h, g = h + 1 := ⟨g - 1, by omega⟩
    obtain rfl : i = nt := by omega
    refine ⟨m, ?_, h1, h2, h3⟩
    rw [fX11_takeField_c113]
    dsimp only
    rw [h1 606 25 (by decide), h25, if_neg (fun z => by have := (nn_lt (by omega) (by omega)).mp z; omega), h1 620 4 (by decide)]
  | succ k ih =>
    intro i g m hi hg h1 h2 h3
    obtain ⟨g, rfl⟩ : ∃ h, g = h + 1 := ⟨g - 1, by omega⟩
    have hi8 : i < 8 := by omega
    rw [fX11_takeField_c113]
    dsimp only
    rw [h1 606 25 (by decide), h25, if_pos ((nn_lt (by omega) (by omega)).mpr (by omega)), r_layTold2 m hi8]
    simp only [Option.bind_some, nn_s]
    have c : ∀ j, (cpM m 623 (6 * i) 4 622 (4 * i)).1 623 j = if 6 * i ≤ j ∧ j < 6 * i + 4 then m.1 622 (4 * i + (j - 6 * i)) else m.1 623 j := fun j => by
      by_cases z : 6 * i ≤ j ∧ j < 6 * i + 4
      · rw [if_pos z]
        exact if_pos ⟨rfl, z.1, z.2⟩
      · rw [if_neg z]; exact cpM_out z
    refine ih (i + 1) g _ (by omega) (by omega) (fun a j z => ?_) (fun j z1 z2 => ?_) (fun b hb => ?_)
    · rw [wI_ne z, wI_ne z, cpM_ne z]; exact h1 a j z
    · rw [wI_nk (by omega), wI_nk (by omega), c, if_neg (by omega)]; exact h2 j (by omega) z2
    · by_cases e : b = i
      · subst e
        refine ⟨fun k hk => ?_, ?_, wI_eq⟩
        · rw [wI_nk (by omega), wI_nk (by omega), c, if_pos (by omega), show 4 * b + (6 * b + k - 6 * b) = 4 * b + k by omega]
          exact h1 622 _ (by decide)
        · rw [wI_nk (by omega), wI_eq, h1 622 _ (by decide)]
      · obtain ⟨a1, a2, a3⟩ := h3 b (by omega)
        have q : ∀ k, k < 6 → (wI (wI (cpM m 623 (6 * i) 4 622 (4 * i)) 623 (6 * i + 4) (if m.1 622 (4 * i + 2) = -1 then 0 else 1)) 623 (6 * i + 5) 1).1 623 (6 * b + k) = m.1 623 (6 * b + k) := fun k hk => by
          rw [wI_nk (by omega), wI_nk (by omega), c, if_neg (by omega)]
        exact ⟨fun k hk => (q k (by omega)).trans (a1 k hk), (q 4 (by omega)).trans a2, (q 5 (by omega)).trans a3⟩
theorem r_take (m : mm_MM) {nt : Nat} (hn : nt ≤ 8) (h21 : m.1 606 21 = Int32.ofNat nt) : ∃ m', fX11_takeField m = some (Int32.ofNat nt, m') ∧ (m'.1 606 26 = 1 ∧ m'.1 606 25 = Int32.ofNat nt ∧ m'.1 606 47 = 0 ∧ m'.1 606 34 = 0 ∧ m'.1 606 51 = 0) ∧ (∀ k, k < 5 → m'.1 620 k = m.1 617 k) ∧ (∀ r, r < 4 → m'.1 621 r = m.1 618 r) ∧ (∀ j, j < 32 → m'.1 622 j = m.1 619 j) ∧
    (∀ b, b < nt → (∀ k, k < 4 → m'.1 623 (6 * b + k) = m.1 619 (4 * b + k)) ∧ m'.1 623 (6 * b + 4) = (if m.1 619 (4 * b + 2) = -1 then 0 else 1) ∧ m'.1 623 (6 * b + 5) = 1) ∧ (∀ b, nt ≤ b → b < 8 → m'.1 623 (6 * b + 5) = 0) ∧ (m'.1 623 48 = m.1 617 4 ∧ m'.1 623 49 = 0 ∧ m'.1 623 50 = 0) ∧
    ∀ a k, ¬ ((a = 606 ∧ (k = 25 ∨ k = 26 ∨ k = 47 ∨ k = 34 ∨ k = 51)) ∨ (620 ≤ a ∧ a ≤ 623)) → m'.1 a k = m.1 a k := by
  generalize h0 : wI (wI m 606 26 1) 606 25 (m.1 606 21) = m0
  have q0 : ∀ a k, ¬ (a = 606 ∧ (k = 25 ∨ k = 26)) → m0.1 a k = m.1 a k := fun a k z => by
    rw [← h0]; simp only [wI_1]; rw [if_neg (by omega), if_neg (by omega)]
  have g25 : m0.1 606 25 = Int32.ofNat nt := by rw [← h0, wI_eq, h21]
  have g26 : m0.1 606 26 = 1 := by rw [← h0, wI_nk (by decide), wI_eq]
  have e1 := cp_l (F := fX11_takeField_c15) (fin := fun m => fX11_takeField_c40 fu m 0) (I := fun _ => True) (A := 617) (B := 620) (o := 0) (p := 0) (c := 0) (N := 5) (Or.inl (by decide)) (fun _ _ _ _ => trivial) (fun k m z hz _ => by
      rw [fX11_takeField_c15]
      dsimp only
      rw [if_pos (nn_ll 5 (by omega) (by decide)), nn_go (by omega) (by omega), nn_go (by omega) (by omega), nn_tn (by omega), nn_s]) (fun k m _ => by
      rw [fX11_takeField_c15]
      dsimp only
      rw [if_neg (by decide)]) (m := m0) trivial fu (by unfold fu; omega)
  generalize hm1 : cpM m0 620 0 5 617 0 = m1 at e1
  have e2 := cp_l (F := fX11_takeField_c40) (fin := fun m => fX11_takeField_c65 fu m 0) (I := fun _ => True) (A := 618) (B := 621) (o := 0) (p := 0) (c := 0) (N := 4) (Or.inl (by decide)) (fun _ _ _ _ => trivial) (fun k m z hz _ => by
      rw [fX11_takeField_c40]
      dsimp only
      rw [if_pos (nn_ll 4 (by omega) (by decide)), nn_go (by omega) (by omega), nn_go (by omega) (by omega), nn_tn (by omega), nn_s]) (fun k m _ => by
      rw [fX11_takeField_c40]
      dsimp only
      rw [if_neg (by decide)]) (m := m1) trivial fu (by unfold fu; omega)
  generalize hm2 : cpM m1 621 0 4 618 0 = m2 at e2
  have e3 := cp_l (F := fX11_takeField_c65) (fin := fun m => fX11_takeField_c91 fu m 0) (I := fun _ => True) (A := 619) (B := 622) (o := 0) (p := 0) (c := 0) (N := 32) (Or.inl (by decide)) (fun _ _ _ _ => trivial) (fun k m z hz _ => by
      rw [fX11_takeField_c65]
      dsimp only
      rw [if_pos (nn_ll 32 (by omega) (by decide)), nn_go (by omega) (by omega), nn_go (by omega) (by omega), nn_tn (by omega), nn_s]) (fun k m _ => by
      rw [fX11_takeField_c65]
      dsimp only
      rw [if_neg (by decide)]) (m := m2) trivial fu (by unfold fu; omega)
  generalize hm3 : cpM m2 622 0 32 619 0 = m3 at e3
  obtain ⟨m4, e4, f4, z4, -⟩ := tk_z 231 0 fu m3 rfl (by unfold fu; omega)
  have p1 : ∀ a k, ¬ a = 620 → m1.1 a k = m0.1 a k := fun a k z => by rw [← hm1, cpM_ne z]
  have p2 : ∀ a k, ¬ a = 621 → m2.1 a k = m1.1 a k := fun a k z => by rw [← hm2, cpM_ne z]
  have p3 : ∀ a k, ¬ a = 622 → m3.1 a k = m2.1 a k := fun a k z => by rw [← hm3, cpM_ne z]
  have p : ∀ a k, ¬ (620 ≤ a ∧ a ≤ 623) → m4.1 a k = m0.1 a k := fun a k z => by rw [f4 a k (by omega), p3 a k (by omega), p2 a k (by omega), p1 a k (by omega)]
  have t0 : ∀ k, k < 5 → m4.1 620 k = m.1 617 k := fun k hk => by
    have := cpM_in (m := m0) (B := 620) (o := 0) (N := 5) (A := 617) (p := 0) hk
    rw [Nat.zero_add, hm1] at this
    rw [f4 _ _ (by decide), p3 _ _ (by decide), p2 _ _ (by decide), this, q0 _ _ (by omega)]
  have t1 : ∀ k, k < 4 → m4.1 621 k = m.1 618 k := fun k hk => by
    have := cpM_in (m := m1) (B := 621) (o := 0) (N := 4) (A := 618) (p := 0) hk
    rw [Nat.zero_add, hm2] at this
    rw [f4 _ _ (by decide), p3 _ _ (by decide), this, p1 _ _ (by decide), q0 _ _ (by omega)]
  have t2 : ∀ k, k < 32 → m4.1 622 k = m.1 619 k := fun k hk => by
    have := cpM_in (m := m2) (B := 622) (o := 0) (N := 32) (A := 619) (p := 0) hk
    rw [Nat.zero_add, hm3] at this
    rw [f4 _ _ (by decide), this, p2 _ _ (by decide), p1 _ _ (by decide), q0 _ _ (by omega)]
  obtain ⟨m5, e5, f5, z5, g5⟩ := tk_l (m0 := m4) hn ((p _ _ (by omega)).trans g25) (fun r hr => z4 r (by omega) hr) nt 0 fu m4 (by omega) (by unfold fu; omega) (fun _ _ _ => rfl) (fun j _ h => z4 j (by omega) h) (fun b hb => by omega)
  generalize hm6 : wI (wI (wI (wI m5 623 48 (m4.1 620 4)) 606 47 0) 606 34 0) 606 51 0 = m6 at e5
  have p6 : ∀ a k, ¬ (a = 623 ∧ k = 48) → ¬ (a = 606 ∧ (k = 47 ∨ k = 34 ∨ k = 51)) → m6.1 a k = m5.1 a k := fun a k z1 z2 => by
    rw [← hm6]; simp only [wI_1]; rw [if_neg (by omega), if_neg (by omega), if_neg (by omega), if_neg z1]
  refine ⟨m6, ?_, ⟨?_, ?_, ?_, ?_, ?_⟩, fun k hk => ?_, fun k hk => ?_, fun k hk => ?_, fun b hb => ?_, fun b hb1 hb2 => ?_, ⟨?_, ?_, ?_⟩, fun a k z => ?_⟩
  · unfold fX11_takeField
    rw [h0]
    exact Eq.trans e1 (Eq.trans e2 (Eq.trans e3 (Eq.trans e4 e5)))
  · rw [p6 _ _ (by omega) (by omega), f5 _ _ (by decide), p _ _ (by omega), g26]
  · rw [p6 _ _ (by omega) (by omega), f5 _ _ (by decide), p _ _ (by omega), g25]
  · rw [← hm6]; simp [wI_1]
  · rw [← hm6]; simp [wI_1]
  · rw [← hm6]; simp [wI_1]
  · rw [p6 _ _ (by omega) (by omega), f5 _ _ (by decide), t0 k hk]
  · rw [p6 _ _ (by omega) (by omega), f5 _ _ (by decide), t1 k hk]
  · rw [p6 _ _ (by omega) (by omega), f5 _ _ (by decide), t2 k hk]
  · obtain ⟨a1, a2, a3⟩ := g5 b hb
    refine ⟨fun k hk => ?_, ?_, ?_⟩
    · rw [p6 _ _ (by omega) (by omega), a1 k hk, t2 _ (by omega)]
    · rw [p6 _ _ (by omega) (by omega), a2, t2 _ (by omega)]
    · rw [p6 _ _ (by omega) (by omega), a3]
  · rw [p6 _ _ (by omega) (by omega), z5 _ (by omega) (by omega)]
  · rw [← hm6, wI_ne (by decide), wI_ne (by decide), wI_ne (by decide), wI_eq, t0 4 (by decide)]
  · rw [p6 _ _ (by omega) (by omega), z5 _ (by omega) (by omega)]
  · rw [p6 _ _ (by omega) (by omega), z5 _ (by omega) (by omega)]
  · rw [p6 _ _ (by omega) (by omega), f5 _ _ (by omega), p _ _ (by omega), q0 _ _ (by omega)]
end TAK
