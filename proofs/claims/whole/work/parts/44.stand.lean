/-! STANDS OF THE CLASS: copied, kept, had back -/
def WSt (t : Nat) : Nat → Nat → Bool := fun a _ => Nat.ble t a && Nat.blt a (t + 13)
theorem WSt_t {t a : Nat} (h1 : t ≤ a) (h2 : a < t + 13) (k : Nat) : WSt t a k = true := by
  simp only [WSt, Nat.ble_eq, Nat.blt_eq, Bool.and_eq_true]; omega
theorem WSt_f {t a : Nat} (h : a < t ∨ t + 13 ≤ a) (k : Nat) : WSt t a k = false := by
  cases hb : WSt t a k with
  | false => rfl
  | true => simp only [WSt, Nat.ble_eq, Nat.blt_eq, Bool.and_eq_true] at hb; omega
theorem WT_St {t i : Nat} (h1 : t ≤ i) (h2 : i < t + 13) : ∀ a k, WSt t a k = false → WT i a k = false := by
  intro a k h
  cases hb : WT i a k with
  | false => rfl
  | true =>
    simp only [WT, beq_iff_eq] at hb
    rw [hb, WSt_t h1 h2] at h; cases h
theorem c_slot_n (m : mm_MM) {t b : Nat} (ht : mm_kd t = (7, 8)) (hb : b < 8) : fX7_slot m t (Int32.ofNat b) = some (some (t + 5 + b), m) := by
  have hk := kd_Se ht hb
  have h8 : Int32.ofNat b < 8 := (nn_lt (k := 8) (by omega) (by decide)).mpr hb
  unfold fX7_slot fX7_slot_c23
  rw [if_neg (nn_n0 (by omega)), if_pos h8, nn_go (by omega) hb, nn_tn (by omega)]
  simp [hk]
theorem c_standCopy_l {m0 : mm_MM} {t u : Nat} (ht : mm_kd t = (7, 8)) (hu : mm_kd u = (7, 8)) (hd : t + 13 ≤ u ∨ u + 13 ≤ t) (hok : ∀ b, b < 8 → (m0.1 (u + 5 + b) 0 = 0 ∨ m0.1 (u + 5 + b) 0 = 1) ∧ (m0.1 (u + 5 + b) 5 = 0 ∨ m0.1 (u + 5 + b) 5 = 1)) : ∀ (n b : Nat) (m : mm_MM) (f : Nat), b + n = 8 → n < f → fr (WSt t) m0 m → (∀ i, i < b → ∀ k, k < 6 → m.1 (t + 5 + i) k = m0.1 (u + 5 + i) k) →
    ∃ m1, (∀ i, i < 8 → ∀ k, k < 6 → m1.1 (t + 5 + i) k = m0.1 (u + 5 + i) k) ∧ fr (WSt t) m0 m1 ∧ fX7_copy_c2 f m t u (Int32.ofNat b) = fX7_copy_c2 1 m1 t u 8 := by
  intro n
  induction n with
  | zero =>
    intro b m f hb hf hfr hi
    obtain ⟨f, rfl⟩ : ∃ g, f = g + 1 := ⟨f - 1, by omega⟩
    obtain rfl : b = 8 := by omega
    refine ⟨m, hi, hfr, ?_⟩
    show fX7_copy_c2 (f + 1) m t u 8 = fX7_copy_c2 (0 + 1) m t u 8
    rw [fX7_copy_c2, fX7_copy_c2]
    dsimp only
    rw [if_neg (by decide), if_neg (by decide)]
  | succ n ih =>
    intro b m f hb hf hfr hi
    obtain ⟨f, rfl⟩ : ∃ g, f = g + 1 := ⟨f - 1, by omega⟩
    have hb8 : b < 8 := by omega
    have h8 : Int32.ofNat b < 8 := (nn_lt (k := 8) (by omega) (by decide)).mpr hb8
    have hu' : ∀ k, m.1 (u + 5 + b) k = m0.1 (u + 5 + b) k := fun k => hfr.1 _ _ (WSt_f (by omega) k)
    obtain ⟨m1, e1, g1, f1⟩ := c_copyT m (t := t + 5 + b) (u := u + 5 + b) (by omega) (by rw [hu']; exact (hok b hb8).1) (by rw [hu']; exact (hok b hb8).2)
    obtain ⟨m2, g2, f2, e2⟩ := ih (b + 1) m1 f (by omega) (by omega) (fr_trans hfr (fr_mono (WT_St (by omega) (by omega)) f1)) (fun i hi8 k hk => by
      by_cases hib : i = b
      · subst hib; rw [g1 k hk, hu']
      · rw [f1.1 _ _ (by simp [WT]; omega)]; exact hi i (by omega) k hk)
    refine ⟨m2, g2, f2, ?_⟩
    rw [← e2, fX7_copy_c2]
    dsimp only
    rw [if_pos h8, c_slot_n m ht hb8]
    simp only [Option.bind_some, if_pos (kd_Se ht hb8), c_slot_n m hu hb8, if_pos (kd_Se hu hb8), e1, fX7_copy_c36, nn_s]
theorem c_standCopy (m : mm_MM) {t u : Nat} (ht : mm_kd t = (7, 8)) (hu : mm_kd u = (7, 8)) (hd : t + 13 ≤ u ∨ u + 13 ≤ t) (hok : cOK m u) : ∃ m', fX7_copy m t u = some m' ∧ cV m' t = cV m u ∧ cOK m' t ∧ fr (WSt t) m m' := by
  obtain ⟨m1, g1, f1, e1⟩ := c_standCopy_l ht hu hd hok.2 8 0 m fu (by omega) (by unfold fu; omega) (fr_refl _ _) (fun i hi => by omega)
  have d2 : ∀ {s : Nat}, mm_kd s = (7, 8) → (mm_kd (s + 2)).2 = 60 ∧ (mm_kd (s + 3)).2 = 60 ∧ (mm_kd (s + 4)).2 = 60 := fun h => ⟨by rw [kd_S2 h], by rw [kd_S3 h], by rw [kd_S4 h]⟩
  have q1 := c_copyRow m1 (A := u + 2) (B := t + 2) (N := 60) (d2 hu).1 (d2 ht).1 (by decide) (by omega)
  generalize hm2 : cpM m1 (t + 2) 0 60 (u + 2) 0 = m2 at q1
  have q2 := c_copyRow m2 (A := u + 3) (B := t + 3) (N := 60) (d2 hu).2.1 (d2 ht).2.1 (by decide) (by omega)
  generalize hm3 : cpM m2 (t + 3) 0 60 (u + 3) 0 = m3 at q2
  have q3 := c_copyRow m3 (A := u + 4) (B := t + 4) (N := 60) (d2 hu).2.2 (d2 ht).2.2 (by decide) (by omega)
  generalize hm4 : cpM m3 (t + 4) 0 60 (u + 4) 0 = m4 at q3
  have f2 : fr (WSt t) m m2 := by rw [← hm2]; exact fr_cpM f1 (fun j _ _ => WSt_t (by omega) (by omega) j)
  have f3 : fr (WSt t) m m3 := by rw [← hm3]; exact fr_cpM f2 (fun j _ _ => WSt_t (by omega) (by omega) j)
  have f4 : fr (WSt t) m m4 := by rw [← hm4]; exact fr_cpM f3 (fun j _ _ => WSt_t (by omega) (by omega) j)
  have hn : ∀ (m : mm_MM) (j k : Nat) (v : Int32), (wI m t j v).1 u k = m.1 u k := fun m j k v => wI_ne (by omega)
  have e : fX7_copy m t u = some (wI (wI (wI (wI m4 t 4 (m4.1 u 4)) t 5 (m4.1 u 5)) t 6 (m4.1 u 6)) t 7 (m4.1 u 7)) := by
    show fX7_copy_c2 fu m t u (Int32.ofNat 0) = _
    rw [e1, fX7_copy_c2]
    dsimp only
    rw [if_neg (by decide), q1]
    simp only [Option.bind_some, q2, q3, hn]
  generalize hm5 : wI (wI (wI (wI m4 t 4 (m4.1 u 4)) t 5 (m4.1 u 5)) t 6 (m4.1 u 6)) t 7 (m4.1 u 7) = m5 at e
  have f5 : fr (WSt t) m m5 := by rw [← hm5]; exact fr_wI (fr_wI (fr_wI (fr_wI f4 (WSt_t (by omega) (by omega) _)) (WSt_t (by omega) (by omega) _)) (WSt_t (by omega) (by omega) _)) (WSt_t (by omega) (by omega) _)
  have n5 : ∀ {i : Nat} (k : Nat), ¬ i = t → m5.1 i k = m4.1 i k := fun k h => by rw [← hm5, wI_ne h, wI_ne h, wI_ne h, wI_ne h]
  have r1 : ∀ b, b < 8 → ∀ k, k < 6 → m5.1 (t + 5 + b) k = m.1 (u + 5 + b) k := fun b hb k hk => by
    rw [n5 k (by omega), ← hm4, cpM_ne (by omega), ← hm3, cpM_ne (by omega), ← hm2, cpM_ne (by omega)]
    exact g1 b hb k hk
  have r2 : ∀ k, 4 ≤ k → k < 8 → m5.1 t k = m.1 u k := fun k h1 h2 => by
    have hu4 : ∀ k, m4.1 u k = m.1 u k := fun k => f4.1 u k (WSt_f (by omega) k)
    rw [← hm5]
    obtain rfl | rfl | rfl | rfl : k = 4 ∨ k = 5 ∨ k = 6 ∨ k = 7 := by omega
    all_goals simp [wI_1, hu4]
  have r3 : ∀ w, w < 3 → ∀ j, j < 60 → m5.1 (t + 2 + w) j = m.1 (u + 2 + w) j := fun w hw j hj => by
    rw [n5 j (by omega)]
    obtain rfl | rfl | rfl : w = 0 ∨ w = 1 ∨ w = 2 := by omega
    · have z := cpM_in (m := m1) (B := t + 2) (o := 0) (N := 60) (A := u + 2) (p := 0) hj
      rw [Nat.zero_add] at z
      rw [← hm4, cpM_ne (by omega), ← hm3, cpM_ne (by omega), ← hm2]
      exact z.trans (f1.1 _ _ (WSt_f (by omega) _))
    · have z := cpM_in (m := m2) (B := t + 3) (o := 0) (N := 60) (A := u + 3) (p := 0) hj
      rw [Nat.zero_add] at z
      rw [← hm4, cpM_ne (by omega), ← hm3]
      exact z.trans (f2.1 _ _ (WSt_f (by omega) _))
    · have z := cpM_in (m := m3) (B := t + 4) (o := 0) (N := 60) (A := u + 4) (p := 0) hj
      rw [Nat.zero_add] at z
      rw [← hm4]
      exact z.trans (f3.1 _ _ (WSt_f (by omega) _))
  exact ⟨m5, e, cV_congr r1 r2 r3, cOK_congr r1 r2 hok, f5⟩
/-- a stand that a frame leaves alone -/
theorem cV_fr {W : Nat → Nat → Bool} {m m' : mm_MM} {s : Nat} (hf : fr W m m') (h1 : ∀ a k, s + 2 ≤ a → a < s + 13 → W a k = false) (h2 : ∀ k, 4 ≤ k → k < 8 → W s k = false) : cV m' s = cV m s := cV_congr (fun b hb k hk => hf.1 _ _ (h1 _ _ (by omega) (by omega))) (fun k a b => hf.1 _ _ (h2 k a b)) (fun w hw j hj => hf.1 _ _ (h1 _ _ (by omega) (by omega)))
theorem cOK_fr {W : Nat → Nat → Bool} {m m' : mm_MM} {s : Nat} (hf : fr W m m') (h1 : ∀ a k, s + 2 ≤ a → a < s + 13 → W a k = false) (h2 : ∀ k, 4 ≤ k → k < 8 → W s k = false) (h : cOK m s) : cOK m' s := cOK_congr (fun b hb k hk => hf.1 _ _ (h1 _ _ (by omega) (by omega))) (fun k a b => hf.1 _ _ (h2 k a b)) h
/-! the past: forty stands, a ring -/
def stA (i : Nat) : Nat := 57 + 13 * i
theorem stA_kd {i : Nat} (h : i < 40) : mm_kd (stA i) = (7, 8) := by
  have : ∀ i, i < 40 → mm_kd (57 + 13 * i) = (7, 8) := by decide +kernel
  exact this i h
theorem c_at (m : mm_MM) {F i : Nat} (hF : m.1 55 1 = Int32.ofNat F) (hF4 : F < 40) (hi : i < 1000) : fX3_at m (Int32.ofNat i) = some (some (stA ((F + i) % 40)), m) := by
  have e : m.1 55 1 + Int32.ofNat i - (m.1 55 1 + Int32.ofNat i) / 40 * 40 = Int32.ofNat ((F + i) % 40) := by
    rw [hF, ← Int32.ofNat_add]
    exact rem_n (k := 40) (by omega) (by decide)
  have hm : (F + i) % 40 < 40 := Nat.mod_lt _ (by decide)
  have h40 : Int32.ofNat ((F + i) % 40) < 40 := (nn_lt (k := 40) (by omega) (by decide)).mpr hm
  unfold fX3_at fX3_at_c33
  rw [e, if_neg (nn_n0 (by omega)), if_pos h40, nn_go (by omega) hm, nn_tn (by omega)]
  have hk := stA_kd hm
  unfold stA at hk ⊢
  simp [hk]
