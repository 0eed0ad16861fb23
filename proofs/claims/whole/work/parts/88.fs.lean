/-! A FIELD AS BOTH SIDES READ IT -/
section FSS
variable {B : Nat → Int32} {n : Nat}
def usS (k : Nat) : Int32 := if k = 0 then 4 else if k = 1 then 3 else if k = 2 then 12 else if k = 3 then 2 else 30
def thS (mc mr : mm_MM) (i : Nat) : Prop := mc.1 (6 + i) 0 = 1 ∧ (∀ k, k < 4 → mc.1 (6 + i) (k + 1) = mr.1 619 (4 * i + k)) ∧ (0 ≤ mr.1 619 (4 * i) ∧ mr.1 619 (4 * i) ≤ 200) ∧ (0 ≤ mr.1 619 (4 * i + 1) ∧ mr.1 619 (4 * i + 1) ≤ 5) ∧ (mr.1 619 (4 * i + 2) = -1 ∨ ∃ Q, Q < 24 ∧ mr.1 619 (4 * i + 2) = Int32.ofNat Q) ∧ (0 ≤ mr.1 619 (4 * i + 3) ∧ mr.1 619 (4 * i + 3) ≤ 99) ∧ mc.1 (6 + i) 5 = if mr.1 619 (4 * i + 2) = -1 then 0 else 1
def clS (mc : mm_MM) (i : Nat) : Prop := mc.1 (6 + i) 0 = 0 ∧ mc.1 (6 + i) 1 = 0 ∧ mc.1 (6 + i) 2 = 0 ∧ mc.1 (6 + i) 3 = -1 ∧ mc.1 (6 + i) 4 = 0 ∧ mc.1 (6 + i) 5 = 0
def FS (mc mr : mm_MM) (ru : Int32) (cr ct rr rt : Nat) : Prop := (mc.1 3 2 = ru ∧ (ru = 0 → ∀ k, k < 5 → mr.1 617 k = usS k)) ∧ (∀ k, k < 5 → mc.1 3 (3 + k) = mr.1 617 k ∧ ∃ z, loO 115 k ≤ z ∧ z ≤ hiO 115 k ∧ mr.1 617 k = Int32.ofNat z) ∧ (mc.1 3 8 = Int32.ofNat cr ∧ mr.1 606 20 = Int32.ofNat rr ∧ cr ≤ 4) ∧ (∀ r, r < 4 → mc.1 4 r = mr.1 618 r ∧ (0 ≤ mr.1 618 r ∧ mr.1 618 r ≤ 9) ∧ (cr ≤ r → mr.1 618 r = 3)) ∧ (mc.1 3 9 = Int32.ofNat ct ∧ mr.1 606 21 = Int32.ofNat rt ∧ ct ≤ 8) ∧ (∀ i, i < ct → thS mc mr i) ∧ ∀ i, ct ≤ i → i < 8 → clS mc i
theorem FS_f {mc mr mc' mr' : mm_MM} {ru : Int32} {cr ct rr rt : Nat} (hc : ∀ a k, 3 ≤ a → a ≤ 13 → mc'.1 a k = mc.1 a k) (hr : ∀ a k, (617 ≤ a ∧ a ≤ 619) ∨ (a = 606 ∧ (k = 20 ∨ k = 21)) → mr'.1 a k = mr.1 a k) (h : FS mc mr ru cr ct rr rt) : FS mc' mr' ru cr ct rr rt := by
  obtain ⟨⟨h1, h1'⟩, h2, ⟨h3, h4, h5⟩, h6, ⟨h7, h8, h9⟩, h10, h11⟩ := h
  refine ⟨⟨(hc _ _ (by omega) (by omega)).trans h1, fun z k hk => (hr _ _ (by omega)).trans (h1' z k hk)⟩, fun k hk => ?_, ⟨(hc _ _ (by omega) (by omega)).trans h3, (hr _ _ (by omega)).trans h4, h5⟩, fun r hrr => ?_, ⟨(hc _ _ (by omega) (by omega)).trans h7, (hr _ _ (by omega)).trans h8, h9⟩, fun i hi => ?_, fun i h1 h2 => ?_⟩
  · rw [hc _ _ (by omega) (by omega), hr 617 k (by omega)]; exact h2 k hk
  · rw [hc _ _ (by omega) (by omega), hr 618 r (by omega)]; exact h6 r hrr
  · unfold thS
    have := h10 i hi
    unfold thS at this
    have hr9 : ∀ k, mr'.1 619 k = mr.1 619 k := fun k => hr 619 k (by omega)
    have hc9 : ∀ k, mc'.1 (6 + i) k = mc.1 (6 + i) k := fun k => hc (6 + i) k (by omega) (by omega)
    simp only [hc9, hr9]
    exact this
  · unfold clS
    simp only [hc (6 + i) _ (by omega) (by omega)]
    exact h11 i h1 h2
def inC (cl cr ct rr rt : Nat) : Prop := (cl = 115 ∧ cr = rr ∧ ct = rt) ∨ (cl = 114 ∧ cr = rr + 1 ∧ ct = rt) ∨ (cl = 116 ∧ cr = rr ∧ ct = rt + 1)
def ofO (cl rr rt : Nat) : Nat := if cl = 115 then 0 else if cl = 114 then rr else 4 * rt
theorem inC_c {cl cr ct rr rt : Nat} (h : inC cl cr ct rr rt) : isCl cl := by
  rcases h with h | h | h
  · exact Or.inl h.1
  · exact Or.inr (Or.inl h.1)
  · exact Or.inr (Or.inr h.1)
theorem kd_d {i : Nat} (hi : i < 8) : mm_kd (6 + i) = (9, 6) := kd_Le (s := 3) rfl hi
theorem thAt (M : mm_MM) {i : Nat} (hi : i < 8) : fX1_thingAt M 3 (Int32.ofNat i) = some (some (6 + i), M) := by
  unfold fX1_thingAt fX1_thingAt_c23
  have hkd : mm_kd (6 + i) = (9, 6) := kd_d hi
  rw [if_neg (nn_n0 (by omega)), if_pos (show Int32.ofNat i < 8 from (nn_lt (k := 8) (by omega) (by decide)).mpr hi), nn_go (by omega) hi, nn_tn (by omega)]
  show (if mm_kd (6 + i) = (9, 6) then _ else _) = _
  rw [if_pos hkd]
theorem le_n {a b : Nat} (ha : a < 2 ^ 31) (hb : b < 2 ^ 31) (h : a ≤ b) : Int32.ofNat a ≤ Int32.ofNat b := (nn_le ha hb).mpr h
theorem tell_cl {M R : mm_MM} {ru : Int32} {cl cr ct rr rt k z : Nat} (hin : inC cl cr ct rr rt) (hk : k < mnO cl) (hz : loO cl k ≤ z ∧ z ≤ hiO cl k) (hS : FS M R ru cr ct rr rt) (hru : cl = 115 → ¬ ru = 0) : ∃ M', fX1_tell M 3 (Int32.ofNat (bsO cl + k)) (Int32.ofNat z) = some M' ∧ FS M' (wI R (t2O cl) (ofO cl rr rt + k) (Int32.ofNat z)) ru cr ct rr rt ∧ (∀ a j, ¬ (3 ≤ a ∧ a ≤ 13) → M'.1 a j = M.1 a j) ∧ M'.2 = M.2 := by
  obtain ⟨⟨h1, h1'⟩, h2, ⟨h3, h4, h5⟩, h6, ⟨h7, h8, h9⟩, h10, h11⟩ := hS
  rcases hin with ⟨rfl, rfl, rfl⟩ | ⟨rfl, rfl, rfl⟩ | ⟨rfl, rfl, rfl⟩
  · have hk : k < 5 := hk
    refine ⟨wI M 3 (3 + k) (Int32.ofNat z), ?_, ?_, fun a j h => wI_ne (by omega), rfl⟩
    · obtain rfl | rfl | rfl | rfl | rfl : k = 0 ∨ k = 1 ∨ k = 2 ∨ k = 3 ∨ k = 4 := by omega
      all_goals rfl
    · show FS _ (wI R 617 (0 + k) _) ru cr ct cr ct
      rw [Nat.zero_add]
      refine ⟨⟨by rw [wI_nk (by omega)]; exact h1, fun e => absurd e (hru rfl)⟩, fun j hj => ?_, ⟨by rw [wI_nk (by omega)]; exact h3, by rw [wI_ne (by decide)]; exact h4, h5⟩, fun r hr => by rw [wI_ne (by decide), wI_ne (by decide)]; exact h6 r hr, ⟨by rw [wI_nk (by omega)]; exact h7, by rw [wI_ne (by decide)]; exact h8, h9⟩, fun i hi => ?_, fun i g1 g2 => ?_⟩
      · by_cases c : j = k
        · subst c
          rw [wI_eq, wI_eq]
          exact ⟨rfl, z, hz.1, hz.2, rfl⟩
        · rw [wI_nk (by omega), wI_nk c]; exact h2 j hj
      · have := h10 i hi
        unfold thS at this ⊢
        simp only [wI_ne (show ¬ 6 + i = 3 by omega), wI_ne (show ¬ 619 = 617 by decide)]
        exact this
      · unfold clS
        simp only [wI_ne (show ¬ 6 + i = 3 by omega)]
        exact h11 i g1 g2
  · have hk : k < 1 := hk
    obtain rfl : k = 0 := by omega
    have hr4 : rr < 4 := by omega
    refine ⟨wI M 4 rr (Int32.ofNat z), ?_, ?_, fun a j h => wI_ne (by omega), rfl⟩
    · show fX1_tell M 3 5 (Int32.ofNat z) = _
      unfold fX1_tell fX1_tell_c112
      rw [if_neg (by decide), if_neg (by decide), if_neg (by decide), if_neg (by decide), if_neg (by decide), if_pos rfl, h3, nn_p]
      exact bs (c_place_n M 4 _ (n := 4) rfl (by decide) hr4) rfl
    · show FS _ (wI R 618 (rr + 0) _) ru (rr + 1) ct rr ct
      rw [Nat.add_zero]
      have hz9 : z ≤ 9 := hz.2
      refine ⟨⟨by rw [wI_ne (by decide)]; exact h1, fun e j hj => by rw [wI_ne (by decide)]; exact h1' e j hj⟩, fun j hj => by rw [wI_ne (by decide), wI_ne (by decide)]; exact h2 j hj, ⟨by rw [wI_ne (by decide)]; exact h3, by rw [wI_ne (by decide)]; exact h4, h5⟩, fun r hr => ?_, ⟨by rw [wI_ne (by decide)]; exact h7, by rw [wI_ne (by decide)]; exact h8, h9⟩, fun i hi => ?_, fun i g1 g2 => ?_⟩
      · by_cases c : r = rr
        · subst c
          rw [wI_eq, wI_eq]
          exact ⟨rfl, ⟨Int32.not_lt.mp (nn_n0 (by omega)), le_n (b := 9) (by omega) (by decide) hz9⟩, fun e => by omega⟩
        · rw [wI_nk c, wI_nk c]; exact h6 r hr
      · have := h10 i hi
        unfold thS at this ⊢
        simp only [wI_ne (show ¬ 6 + i = 4 by omega), wI_ne (show ¬ 619 = 618 by decide)]
        exact this
      · unfold clS
        simp only [wI_ne (show ¬ 6 + i = 4 by omega)]
        exact h11 i g1 g2
  · have hk : k < 4 := hk
    have ht8 : rt < 8 := by omega
    have hkd : mm_kd (6 + rt) = (9, 6) := kd_d ht8
    have eth : fX1_thingAt M 3 (M.1 3 9 - 1) = some (some (6 + rt), M) := by rw [h7, nn_p]; exact thAt M ht8
    obtain ⟨t0, t1, t2, t3, t4, t5, t6⟩ := h10 rt (by omega)
    -- the class's write
    have wr : ∃ M', fX1_tell M 3 (Int32.ofNat (bsO 116 + k)) (Int32.ofNat z) = some M' ∧ M'.1 (6 + rt) (k + 1) = Int32.ofNat z ∧ (∀ j, ¬ j = k + 1 → ¬ (k = 2 ∧ j = 5) → M'.1 (6 + rt) j = M.1 (6 + rt) j) ∧ (k = 2 → M'.1 (6 + rt) 5 = 1) ∧ (∀ a j, ¬ a = 6 + rt → M'.1 a j = M.1 a j) ∧ M'.2 = M.2 := by
      have e0 : ∀ x, ¬ x = (0 : Int32) → ¬ x = 1 → ¬ x = 2 → ¬ x = 3 → ¬ x = 4 → ¬ x = 5 → fX1_tell M 3 x (Int32.ofNat z) = (fX1_tellThing M (some (6 + rt)) x (Int32.ofNat z)).bind fun r => some r := fun x z0 z1 z2 z3 z4 z5 => by
        unfold fX1_tell fX1_tell_c112
        rw [if_neg z0, if_neg z1, if_neg z2, if_neg z3, if_neg z4, if_neg z5, eth]
        simp only [Option.bind_some, if_pos hkd]
      obtain rfl | rfl | rfl | rfl : k = 0 ∨ k = 1 ∨ k = 2 ∨ k = 3 := by omega
      · refine ⟨wI M (6 + rt) 1 (Int32.ofNat z), (e0 6 (by decide) (by decide) (by decide) (by decide) (by decide) (by decide)).trans ?_, wI_eq, fun j h1 h2 => wI_nk h1, fun e => absurd e (by decide), fun a j h => wI_ne h, rfl⟩
        unfold fX1_tellThing fX1_tellThing_c66
        simp only [if_pos hkd]
        simp only [if_true]; rfl
      · refine ⟨wI M (6 + rt) 2 (Int32.ofNat z), (e0 7 (by decide) (by decide) (by decide) (by decide) (by decide) (by decide)).trans ?_, wI_eq, fun j h1 h2 => wI_nk h1, fun e => absurd e (by decide), fun a j h => wI_ne h, rfl⟩
        unfold fX1_tellThing fX1_tellThing_c66
        simp only [if_pos hkd]
        rw [if_neg (show ¬ (7 : Int32) = 6 by decide)]; simp only [if_true]; rfl
      · refine ⟨wI (wI M (6 + rt) 3 (Int32.ofNat z)) (6 + rt) 5 1, (e0 8 (by decide) (by decide) (by decide) (by decide) (by decide) (by decide)).trans ?_, by rw [wI_nk (by decide), wI_eq], fun j h1 h2 => by rw [wI_nk (by omega), wI_nk h1], fun _ => wI_eq, fun a j h => by rw [wI_ne h, wI_ne h], rfl⟩
        unfold fX1_tellThing fX1_tellThing_c66
        simp only [if_pos hkd]
        rw [if_neg (show ¬ (8 : Int32) = 6 by decide), if_neg (show ¬ (8 : Int32) = 7 by decide)]; simp only [if_true]; rfl
      · refine ⟨wI M (6 + rt) 4 (Int32.ofNat z), (e0 9 (by decide) (by decide) (by decide) (by decide) (by decide) (by decide)).trans ?_, wI_eq, fun j h1 h2 => wI_nk h1, fun e => absurd e (by decide), fun a j h => wI_ne h, rfl⟩
        unfold fX1_tellThing fX1_tellThing_c66
        simp only [if_pos hkd]
        rw [if_neg (show ¬ (9 : Int32) = 6 by decide), if_neg (show ¬ (9 : Int32) = 7 by decide), if_neg (show ¬ (9 : Int32) = 8 by decide)]; rfl
    obtain ⟨M', e, w1, w2, w3, w4, w5⟩ := wr
    refine ⟨M', e, ?_, fun a j h => w4 a j (by omega), w5⟩
    show FS M' (wI R 619 (4 * rt + k) (Int32.ofNat z)) ru cr (rt + 1) cr rt
    refine ⟨⟨(w4 _ _ (by omega)).trans h1, fun e j hj => by rw [wI_ne (by decide)]; exact h1' e j hj⟩, fun j hj => by rw [w4 _ _ (by omega), wI_ne (by decide)]; exact h2 j hj, ⟨(w4 _ _ (by omega)).trans h3, by rw [wI_ne (by decide)]; exact h4, h5⟩, fun r hr => by rw [w4 _ _ (by omega), wI_ne (by decide)]; exact h6 r hr, ⟨(w4 _ _ (by omega)).trans h7, by rw [wI_ne (by decide)]; exact h8, h9⟩, fun i hi => ?_, fun i g1 g2 => ?_⟩
    · by_cases c : i = rt
      · subst c
        have hzn : 0 ≤ Int32.ofNat z := Int32.not_lt.mp (nn_n0 (by
          have : z ≤ 99 := by
            have := hz.2; unfold hiO at this
            simp only [if_neg (show ¬ 116 = 115 by decide), if_neg (show ¬ 116 = 114 by decide)] at this
            split at this
            · omega
            · split at this <;> omega
          omega))
        have rd : ∀ j, (wI R 619 (4 * i + k) (Int32.ofNat z)).1 619 (4 * i + j) = if j = k then Int32.ofNat z else R.1 619 (4 * i + j) := fun j => by
          by_cases c : j = k
          · subst c; rw [if_pos rfl, wI_eq]
          · rw [if_neg c, wI_nk (by omega)]
        have rd0 : (wI R 619 (4 * i + k) (Int32.ofNat z)).1 619 (4 * i) = if 0 = k then Int32.ofNat z else R.1 619 (4 * i) := rd 0
        unfold thS
        rw [rd0, rd 1, rd 2, rd 3]
        refine ⟨by rw [w2 0 (by omega) (by omega)]; exact t0, fun j hj => ?_, ?_, ?_, ?_, ?_, ?_⟩
        · rw [rd j]
          by_cases c : j = k
          · subst c; rw [if_pos rfl]; exact w1
          · rw [if_neg c, w2 (j + 1) (by omega) (by omega)]; exact t1 j hj
        · by_cases c : 0 = k
          · subst c
            rw [if_pos rfl]
            have hz9 : z ≤ 99 := hz.2
            exact ⟨hzn, le_n (b := 200) (by omega) (by decide) (by omega)⟩
          · rw [if_neg c]; exact t2
        · by_cases c : 1 = k
          · subst c
            rw [if_pos rfl]
            have hz9 : z ≤ 5 := hz.2
            exact ⟨hzn, le_n (b := 5) (by omega) (by decide) (by omega)⟩
          · rw [if_neg c]; exact t3
        · by_cases c : 2 = k
          · subst c
            rw [if_pos rfl]
            have hz9 : z ≤ 23 := hz.2
            exact Or.inr ⟨z, by omega, rfl⟩
          · rw [if_neg c]; exact t4
        · by_cases c : 3 = k
          · subst c
            rw [if_pos rfl]
            have hz9 : z ≤ 99 := hz.2
            exact ⟨hzn, le_n (b := 99) (by omega) (by decide) (by omega)⟩
          · rw [if_neg c]; exact t5
        · by_cases c : 2 = k
          · subst c
            have hz9 : z ≤ 23 := hz.2
            rw [if_pos rfl, w3 rfl, if_neg (ofN_ne (by omega))]
          · rw [if_neg c, w2 5 (by omega) (by omega)]; exact t6
      · have := h10 i (by omega)
        unfold thS at this ⊢
        simp only [w4 (6 + i) _ (by omega)]
        have rd : ∀ j, j < 4 → (wI R 619 (4 * rt + k) (Int32.ofNat z)).1 619 (4 * i + j) = R.1 619 (4 * i + j) := fun j hj => wI_nk (by omega)
        have rd0 : (wI R 619 (4 * rt + k) (Int32.ofNat z)).1 619 (4 * i) = R.1 619 (4 * i) := wI_nk (by omega)
        rw [rd0, rd 1 (by decide), rd 2 (by decide), rd 3 (by decide)]
        exact ⟨this.1, fun j hj => by rw [rd j hj]; exact this.2.1 j hj, this.2.2⟩
    · unfold clS
      simp only [w4 (6 + i) _ (by omega)]
      exact h11 i g1 g2
end FSS
