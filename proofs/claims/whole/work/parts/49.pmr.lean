/-! A MONTH WITH ITS LOG, the reference -/
theorem thr_now {m m' : mm_MM} (h : ∀ k, k < 48 → m'.1 623 k = m.1 623 k) : thr m' 623 0 = thr m 623 0 := thr_congr (fun k hk => by rw [Nat.zero_add]; exact h k hk)
theorem r_c62 {m : mm_MM} {L : Nat} (h50 : m.1 623 50 = Int32.ofNat L) (hL : L < 60) : ∃ m', fX11_passMonth_c62 m = some m' ∧ (∀ k, ¬ k = 50 → ¬ (51 + 3 * L ≤ k ∧ k < 51 + 3 * L + 3) → m'.1 623 k = m.1 623 k) ∧ m'.1 623 50 = Int32.ofNat (L + 1) ∧ (∀ w, w < 3 → m'.1 623 (51 + 3 * L + w) = tri (suN (lyB (thr m 623 0)) (thr m 623 0) 8 0 0) (cnN (lyB (thr m 623 0)) 8 0 0) (m.1 606 32) w) ∧ fr (fun a _ => a == 623) m m' := by
  have e51 : (51 : Int32) + 3 * m.1 623 50 = Int32.ofNat (51 + 3 * L) := by
    rw [h50, show (51 : Int32) = Int32.ofNat 51 from rfl, show (3 : Int32) = Int32.ofNat 3 from rfl, ← Int32.ofNat_mul, ← Int32.ofNat_add]
  have e52 : Int32.ofNat (51 + 3 * L) + 1 = Int32.ofNat (51 + 3 * L + 1) := nn_s _
  have e53 : Int32.ofNat (51 + 3 * L) + 2 = Int32.ofNat (51 + 3 * L + 2) := by
    rw [show (2 : Int32) = Int32.ofNat 2 from rfl, ← Int32.ofNat_add]
  have hv := r_valueOf m (lyB (thr m 623 0)) (fun b _ hb => (of_decide_eq_true hb).1)
  generalize hs : suN (lyB (thr m 623 0)) (thr m 623 0) 8 0 0 = s at hv
  have ht : thr (wI m 623 (51 + 3 * L) s) 623 0 = thr m 623 0 := thr_now (fun k hk => wI_nk (by omega))
  have ho := r_ones1 (wI m 623 (51 + 3 * L) s)
  rw [ht] at ho
  have hc := mk8_bit (lyB (thr m 623 0))
  generalize cnN (lyB (thr m 623 0)) 8 0 0 = c at hc
  refine ⟨wI (wI (wI (wI m 623 (51 + 3 * L) s) 623 (51 + 3 * L + 1) c) 623 (51 + 3 * L + 2) (m.1 606 32)) 623 50 (Int32.ofNat (L + 1)), ?_, ?_, ?_, ?_, ?_⟩
  · unfold fX11_passMonth_c62
    simp only [r_ones1, Option.bind_some, hv, e51, e52, e53]
    rw [nn_go (by omega) (by omega), nn_tn (by omega), ht]
    simp only [Option.bind_some, j_bit, hc]
    rw [nn_go (by omega) (by omega), nn_go (by omega) (by omega), nn_tn (by omega), nn_tn (by omega)]
    rw [wI_ne (show ¬ (606 : Nat) = 623 by decide), wI_nk (show ¬ 50 = 51 + 3 * L + 2 by omega), wI_nk (show ¬ 50 = 51 + 3 * L + 1 by omega), wI_nk (show ¬ 50 = 51 + 3 * L by omega), h50, nn_s]
  · intro k h1 h2
    rw [wI_nk h1, wI_nk (by omega), wI_nk (by omega), wI_nk (by omega)]
  · exact wI_eq
  · intro w hw
    rw [wI_nk (by omega)]
    obtain rfl | rfl | rfl : w = 0 ∨ w = 1 ∨ w = 2 := by omega
    · rw [wI_nk (by omega), wI_nk (by omega), Nat.add_zero, wI_eq]; rfl
    · rw [wI_nk (by omega), wI_eq]; rfl
    · rw [wI_eq]; rfl
  · exact fr_wI (fr_wI (fr_wI (fr_wI (fr_refl _ _) rfl) rfl) rfl) rfl
def Wrm : Nat → Nat → Bool := fun a k => a == 615 || a == 616 || a == 625 || a == 623 || (a == 606 && k == 32)
theorem Wrm_2 : ∀ a k, Wrm a k = false → W2 a k = false := by
  intro a k h
  simp only [Wrm, Bool.or_eq_false_iff] at h
  simp only [W2, Bool.or_eq_false_iff, Bool.and_eq_false_iff]
  exact ⟨⟨⟨⟨h.1.1.1.1, h.1.1.1.2⟩, h.1.1.2⟩, Bool.and_eq_false_iff.mp h.2⟩, Or.inl h.1.2⟩
theorem Wrm_623 : ∀ a k, Wrm a k = false → (a == 623) = false := by
  intro a k h
  simp only [Wrm, Bool.or_eq_false_iff] at h
  exact h.1.2
theorem r_passMonth {m : mm_MM} {W H : Nat} {o : Option (List Cla)} {t : Nat} (E : EnvR m W H o t) (hok : rOK m 623 0) (ht1 : t + 1 < 10000) : ∃ m', fX11_passMonth m = some m' ∧ rV m' 623 0 = pmA o (m.1 620 2) (m.1 620 3) (m.1 620 0) (m.1 621) (rV m 623 0) t ∧ rOK m' 623 0 ∧ EnvR m' W H o (t + 1) ∧ fr Wrm m m' := by
  obtain ⟨m1, e1, f1, T1, c48, h32, E1⟩ := r_live E ht1
  obtain ⟨L, h50, hL⟩ := hok
  rw [Nat.zero_add] at h50
  have k50 : ∀ k, 50 ≤ k → m1.1 623 k = m.1 623 k := fun k hk => f1.1 623 k (by simp [W2]; omega)
  have h50' : m1.1 623 50 = Int32.ofNat L := (k50 50 (by decide)).trans h50
  have c49 := E1.2.2.2.2.2.2.2.1
  have hV : rV m 623 0 = (thr m 623 0, m.1 623 48, m.1 623 49, L, lgR m 623 0 L) := by
    unfold rV; rw [Nat.zero_add, Nat.zero_add, Nat.zero_add, h50, nn_tn (by omega)]
  -- the memory at the writing, and its log
  have key : ∃ m2 L2, fX11_passMonth m = fX11_passMonth_c62 m2 ∧ m2.1 623 50 = Int32.ofNat L2 ∧ L2 < 60 ∧ L2 + 1 = min 60 (L + 1) ∧ fr (fun a _ => a == 623) m1 m2 ∧ (∀ k, k < 50 → m2.1 623 k = m1.1 623 k) ∧ (∀ j w, j < L2 → w < 3 → m2.1 623 (51 + 3 * j + w) = (if L < 60 then lgR m 623 0 L j w else lgR m 623 0 L (j + 1) w)) := by
    by_cases h60 : L = 60
    · subst h60
      have cp := cp_l (F := fX11_passMonth_c18) (fin := fun m => fX11_passMonth_c62 (wI m 623 50 (m.1 623 50 - 1))) (I := fun _ => True) (A := 623) (B := 623) (o := 51) (p := 54) (c := 3) (N := 177) (Or.inr (by decide)) (fun _ _ _ _ => trivial) (fun k m z hz _ => by
        rw [fX11_passMonth_c18]
        dsimp only
        have a1 : (51 : Int32) + Int32.ofNat (3 + z) = Int32.ofNat (54 + z) := by
          rw [show (51 : Int32) = Int32.ofNat 51 from rfl, ← Int32.ofNat_add]
          exact congrArg Int32.ofNat (by omega)
        have a2 : Int32.ofNat (54 + z) - 3 = Int32.ofNat (51 + z) := by
          rw [show (3 : Int32) = Int32.ofNat 3 from rfl, ← Int32.ofNat_sub _ _ (by omega)]
          exact congrArg Int32.ofNat (by omega)
        rw [if_pos (nn_ll 180 (by omega) (by decide)), a1, a2, nn_go (by omega) (by omega), nn_go (by omega) (by omega), nn_tn (by omega), nn_tn (by omega), nn_s]) (fun k m _ => by
        rw [fX11_passMonth_c18]
        dsimp only
        rw [if_neg (by decide)]) (m := m1) trivial fu (by unfold fu; omega)
      have q50 : (cpM m1 623 51 177 623 54).1 623 50 = Int32.ofNat (59 + 1) := by rw [cpM_out (by omega), h50']
      rw [q50, nn_p] at cp
      refine ⟨wI (cpM m1 623 51 177 623 54) 623 50 (Int32.ofNat 59), 59, ?_, wI_eq, by decide, by decide, fr_wI (fr_cpM (fr_refl _ _) (fun _ _ _ => rfl)) rfl, fun k hk => by rw [wI_nk (by omega), cpM_out (by omega)], fun j w hj hw => ?_⟩
      · unfold fX11_passMonth
        rw [e1]
        simp only [Option.bind_some]
        rw [if_pos (by rw [h50']; rfl)]
        exact cp
      · rw [if_neg (by decide), wI_nk (by omega)]
        have z := cpM_in (m := m1) (B := 623) (o := 51) (N := 177) (A := 623) (p := 54) (j := 3 * j + w) (by omega)
        rw [show 51 + 3 * j + w = 51 + (3 * j + w) by omega, z, k50 _ (by omega)]
        unfold lgR
        rw [if_pos ⟨by omega, hw⟩]
        exact congrArg (m.1 623) (by omega)
    · refine ⟨m1, L, ?_, h50', by omega, by omega, fr_refl _ _, fun _ _ => rfl, fun j w hj hw => ?_⟩
      · unfold fX11_passMonth
        rw [e1]
        simp only [Option.bind_some]
        rw [if_neg (fun z => by rw [h50'] at z; have := nn_inj (k := 60) (by omega) (by decide) z; omega)]
      · rw [if_pos (by omega), k50 _ (by omega)]
        unfold lgR
        rw [if_pos ⟨hj, hw⟩, Nat.zero_add]
  obtain ⟨m2, L2, e2, q50, hL2, hLL, f2, lo2, lg2⟩ := key
  obtain ⟨m3, e3, o3, p50, w3, f3⟩ := r_c62 q50 hL2
  have T2 : thr m2 623 0 = thr m1 623 0 := thr_now (fun k hk => lo2 k (by omega))
  have T3 : thr m3 623 0 = thr m1 623 0 := (thr_now (fun k hk => o3 k (by omega) (by omega))).trans T2
  have fa : fr Wrm m m3 := fr_trans (fr_mono Wrm_2 f1) (fr_trans (fr_mono Wrm_623 f2) (fr_mono Wrm_623 f3))
  have lo3 : ∀ k, k < 50 → m3.1 623 k = m1.1 623 k := fun k hk => (o3 k (by omega) (by omega)).trans (lo2 k hk)
  have h32' : m2.1 606 32 = ripM (m.1 620 2) (frL (m.1 620 3) t) (thr m 623 0) 8 0 0 := (f2.1 606 32 rfl).trans h32
  refine ⟨m3, e2.trans e3, ?_, ⟨L2 + 1, by rw [Nat.zero_add]; exact p50, by omega⟩, ?_, fa⟩
  · have hl : lgR m3 623 0 (L2 + 1) = lgn L (lgR m 623 0 L) (tri (suN (lyB (thr m1 623 0)) (thr m1 623 0) 8 0 0) (cnN (lyB (thr m1 623 0)) 8 0 0) (ripM (m.1 620 2) (frL (m.1 620 3) t) (thr m 623 0) 8 0 0)) := by
      funext j w
      unfold lgn
      rw [← hLL]
      show (if j < L2 + 1 ∧ w < 3 then _ else _) = _
      by_cases hj : j < L2 + 1 ∧ w < 3
      · rw [if_pos hj, if_pos hj, Nat.zero_add]
        by_cases hjl : j < L2
        · rw [o3 _ (by omega) (by omega), lg2 j w hjl hj.2]
          by_cases hL6 : L < 60
          · rw [if_pos hL6, if_pos hL6, if_pos (by omega)]
          · rw [if_neg hL6, if_neg hL6, if_pos (by omega)]
        · have ej : j = L2 := by omega
          rw [ej, w3 w hj.2, T2, h32']
          by_cases hL6 : L < 60
          · rw [if_pos hL6, if_neg (by omega)]
          · rw [if_neg hL6, if_neg (by omega)]
      · rw [if_neg hj, if_neg hj]
    rw [hV]
    unfold rV pmA
    rw [Nat.zero_add, Nat.zero_add, Nat.zero_add, p50, nn_tn (by omega), hl, T3, lo3 48 (by decide), lo3 49 (by decide), c48, c49, T1, hLL]
  · refine EnvR_fr fa (by decide) (fun a k ha => by rcases ha with rfl | rfl | rfl | rfl | rfl | rfl <;> rfl) (fun k => rfl) (fun k => rfl) ?_ ((lo3 49 (by decide)).trans c49) ht1 E
    rw [T3]; exact E1.2.2.2.2.2.1
