/-! A MONTH, with its log: both sides do this -/
def lgn (L : Nat) (g : Nat → Nat → Int32) (x : Nat → Int32) : Nat → Nat → Int32 := fun j w => if j < min 60 (L + 1) ∧ w < 3 then (if L < 60 then (if j < L then g j w else x w) else (if j < 59 then g (j + 1) w else x w)) else 0
def tri (a b c : Int32) : Nat → Int32 := fun w => if w = 0 then a else if w = 1 then b else c
def pmA (o : Option (List Cla)) (y f w : Int32) (D : Nat → Int32) (V : Vw) (t : Nat) : Vw :=
  (nxT o y f w D V.1 t, V.2.1, Int32.ofNat (t + 1), min 60 (V.2.2.2.1 + 1), lgn V.2.2.2.1 V.2.2.2.2 (tri (suN (lyB (nxT o y f w D V.1 t)) (nxT o y f w D V.1 t) 8 0 0) (cnN (lyB (nxT o y f w D V.1 t)) 8 0 0) (ripM y (frL f t) V.1 8 0 0)))
theorem mi60 {L : Nat} (h : L ≤ 60) : mi 60 (Int32.ofNat (L + 1)) = Int32.ofNat (min 60 (L + 1)) := by
  unfold mi
  rw [show (60 : Int32) = Int32.ofNat 60 from rfl]
  by_cases h1 : Int32.ofNat 60 ≤ Int32.ofNat (L + 1)
  · rw [if_pos h1]
    have := (nn_le (by decide) (by omega)).mp h1
    rw [show min 60 (L + 1) = 60 by omega]
  · rw [if_neg h1]
    have : ¬ 60 ≤ L + 1 := fun z => h1 ((nn_le (by decide) (by omega)).mpr z)
    rw [show min 60 (L + 1) = L + 1 by omega]
theorem c_write {m : mm_MM} {L N : Nat} (h4 : m.1 29 4 = Int32.ofNat L) (hL : L ≤ 60) (h5 : m.1 29 5 = Int32.ofNat N) (hN : N < 60) (a b c : Int32) : ∃ m', fX7_write m 29 a b c = some m' ∧ cV m' 29 = (thc m 34, m.1 29 6, m.1 29 7, min 60 (L + 1), lgn L (lgC m 29 L N) (tri a b c)) ∧ fr (WSt 29) m m' ∧ (∀ j k, 34 ≤ j → m'.1 j k = m.1 j k) ∧ m'.1 29 4 = Int32.ofNat (min 60 (L + 1)) ∧ m'.1 29 5 = Int32.ofNat ((N + 1) % 60) ∧ m'.1 29 6 = m.1 29 6 ∧ m'.1 29 7 = m.1 29 7 := by
  have e5 : Int32.ofNat (N + 1) - Int32.ofNat (N + 1) / 60 * 60 = Int32.ofNat ((N + 1) % 60) := rem_n (k := 60) (by omega) (by decide)
  generalize hm' : wI (wI (wI (wI (wI m 31 N a) 32 N b) 33 N c) 29 5 (Int32.ofNat ((N + 1) % 60))) 29 4 (Int32.ofNat (min 60 (L + 1))) = m'
  have e : fX7_write m 29 a b c = some m' := by
    unfold fX7_write
    rw [h5, c_place_n m 31 a (n := 60) rfl (by decide) hN]
    simp only [Option.bind_some]
    rw [wI_ne (show ¬ (29 : Nat) = 31 by decide), h5, c_place_n _ 32 b (n := 60) rfl (by decide) hN]
    simp only [Option.bind_some]
    rw [wI_ne (show ¬ (29 : Nat) = 32 by decide), wI_ne (show ¬ (29 : Nat) = 31 by decide), h5, c_place_n _ 33 c (n := 60) rfl (by decide) hN]
    simp only [Option.bind_some, wI_ne (show ¬ (29 : Nat) = 33 by decide), wI_ne (show ¬ (29 : Nat) = 32 by decide), wI_ne (show ¬ (29 : Nat) = 31 by decide), h5, nn_s, e5, j_min, wI_nk (show ¬ (4 : Nat) = 5 by decide), h4, mi60 hL]
    rw [hm']
  have hfr : fr (WSt 29) m m' := by rw [← hm']; exact fr_wI (fr_wI (fr_wI (fr_wI (fr_wI (fr_refl _ _) (WSt_t (by decide) (by decide) _)) (WSt_t (by decide) (by decide) _)) (WSt_t (by decide) (by decide) _)) (WSt_t (by decide) (by decide) _)) (WSt_t (by decide) (by decide) _)
  have hhi : ∀ j k, 34 ≤ j → m'.1 j k = m.1 j k := fun j k hj => by
    rw [← hm', wI_ne (by omega), wI_ne (by omega), wI_ne (by omega), wI_ne (by omega), wI_ne (by omega)]
  have g4 : m'.1 29 4 = Int32.ofNat (min 60 (L + 1)) := by rw [← hm', wI_eq]
  have g5 : m'.1 29 5 = Int32.ofNat ((N + 1) % 60) := by rw [← hm', wI_nk (by decide), wI_eq]
  have g6 : m'.1 29 6 = m.1 29 6 := by rw [← hm']; simp [wI_1]
  have g7 : m'.1 29 7 = m.1 29 7 := by rw [← hm']; simp [wI_1]
  have row : ∀ w, w < 3 → ∀ j, m'.1 (29 + 2 + w) j = if j = N then tri a b c w else m.1 (29 + 2 + w) j := fun w hw j => by
    rw [← hm', wI_ne (by omega), wI_ne (by omega)]
    obtain rfl | rfl | rfl : w = 0 ∨ w = 1 ∨ w = 2 := by omega
    · by_cases hj : j = N <;> simp [wI_1, tri, hj]
    · by_cases hj : j = N <;> simp [wI_1, tri, hj]
    · by_cases hj : j = N <;> simp [wI_1, tri, hj]
  refine ⟨m', e, ?_, hfr, hhi, g4, g5, g6, g7⟩
  have hmin : min 60 (L + 1) < 2 ^ 31 := by omega
  unfold cV
  rw [g4, g5, g6, g7, nn_tn hmin, nn_tn (by omega)]
  have ht : thc m' (29 + 5) = thc m 34 := thc_congr (s := 34) (s' := 34) (fun b hb k hk => hhi _ _ (by omega))
  have hl : lgC m' 29 (min 60 (L + 1)) ((N + 1) % 60) = lgn L (lgC m 29 L N) (tri a b c) := by
    funext j w
    unfold lgC lgn
    by_cases hj : j < min 60 (L + 1) ∧ w < 3
    · rw [if_pos hj, if_pos hj, row w hj.2]
      by_cases hL6 : L < 60
      · rw [if_pos hL6]
        have em : min 60 (L + 1) = L + 1 := by omega
        rw [em] at hj ⊢
        by_cases hjL : j < L
        · rw [if_pos hjL, if_neg (by omega)]
          refine Eq.trans ?_ (if_pos ⟨hjL, hj.2⟩).symm
          exact congrArg (m.1 (29 + 2 + w)) (by omega)
        · rw [if_neg hjL, if_pos (by omega)]
      · rw [if_neg hL6]
        have em : min 60 (L + 1) = 60 := by omega
        have eL : L = 60 := by omega
        rw [em] at hj ⊢
        subst eL
        by_cases hj9 : j < 59
        · rw [if_pos hj9, if_neg (by omega)]
          refine Eq.trans ?_ (if_pos ⟨by omega, hj.2⟩).symm
          exact congrArg (m.1 (29 + 2 + w)) (by omega)
        · rw [if_neg hj9, if_pos (by omega)]
    · rw [if_neg hj, if_neg hj]
  rw [ht, hl]
def Wcm : Nat → Nat → Bool := fun a k => WG a k || WSt 29 a k
theorem Wcm_f {a k : Nat} (h : ¬ (29 ≤ a ∧ a < 42)) (hg : WG a k = false) : Wcm a k = false := by
  simp only [Wcm, Bool.or_eq_false_iff]
  exact ⟨hg, WSt_f (by omega) k⟩
theorem WG_lo {a k : Nat} (h : a < 583) : WG a k = false := by
  cases hb : WG a k with
  | false => rfl
  | true => simp only [WG, WS, Bool.and_eq_true, Bool.or_eq_true, beq_iff_eq] at hb; omega
theorem Wcm_pm : ∀ a k, Wcm a k = false → Wpm a k = false := by
  intro a k h
  simp only [Wcm, Bool.or_eq_false_iff] at h
  cases hb : Wpm a k with
  | false => rfl
  | true =>
    simp only [Wpm, Nat.ble_eq, Nat.blt_eq, Bool.and_eq_true, Bool.or_eq_true] at hb
    rcases hb with hb | hb
    · rw [hb] at h; cases h.1
    · rw [WSt_t (by omega) (by omega)] at h; cases h.2
theorem EnvC_fr {W : Nat → Nat → Bool} {m m' : mm_MM} {W' H : Nat} {o : Option (List Cla)} {t t' : Nat} (hf : fr W m m') (h0 : W 0 17 = false) (hW1 : ∀ h k, h < 4 → W (595 + 3 * h) k = false) (hW2 : ∀ h, h < 4 → W (594 + 3 * h) 2 = false) (h14 : ∀ k, W 14 k = false) (h15 : ∀ k, W 15 k = false) (hT : TB W' H (thc m' 34)) (ht : m'.1 29 7 = Int32.ofNat t') (ht' : t' < 10000) (E : EnvC m W' H o t) : EnvC m' W' H o t' := by
  obtain ⟨hL, e0, e1, hy, hH, hTB, hD, h49, -⟩ := E
  exact ⟨hL, (hf.1 _ _ (h14 3)).trans e0, (hf.1 _ _ (h14 4)).trans e1, by rw [hf.1 _ _ (h14 5)]; exact hy, HoldC_fr h0 hW1 hW2 hf hH, hT, fun r hr => by rw [hf.1 _ _ (h15 r)]; exact hD r hr, ht, ht'⟩
theorem Wcm_l1 : ∀ h k, h < 4 → Wcm (595 + 3 * h) k = false := fun h k hh => Wcm_f (by omega) (WG_1 h k hh)
theorem Wcm_l2 : ∀ h, h < 4 → Wcm (594 + 3 * h) 2 = false := fun h hh => Wcm_f (by omega) (WG_2 h hh)
theorem c_passMonth {m : mm_MM} {W H : Nat} {o : Option (List Cla)} {t : Nat} (E : EnvC m W H o t) (hok : cOK m 29) (ht1 : t + 1 < 10000) : ∃ m', fX10_passMonth m = some m' ∧ cV m' 29 = pmA o (m.1 14 5) (m.1 14 6) (m.1 14 3) (m.1 15) (cV m 29) t ∧ cOK m' 29 ∧ EnvC m' W H o (t + 1) ∧ fr Wcm m m' := by
  obtain ⟨m1, e1, f1, g1⟩ := c_pm_l E ht1 8 0 m 0 0 0 fu (by omega) (by unfold fu; omega) (fr_refl _ _) (fun j hj => by omega) (fun _ _ _ _ => rfl)
  obtain ⟨⟨L, N, h4, hL, h5, hN⟩, hbool⟩ := hok
  have c29 : ∀ k, m1.1 29 k = m.1 29 k := fun k => f1.1 29 k (Wpm_lo (by decide))
  have hT1 : thc m1 34 = nx0 m o t := by
    funext b k
    by_cases hb : b < 8
    · by_cases hth : thc m 34 b 5 = 1
      · have hth1 : thc m1 34 b 5 = 1 := by
          unfold thc at hth ⊢
          rw [f1.1 (34 + b) 0 (Wpm_n hb (by decide) (by decide))]; exact hth
        by_cases hk : k < 5
        · rw [thc_k hth1 hk]
          by_cases k0 : k = 0
          · subst k0
            rw [(g1 b hb).1]
            by_cases hl : lyT (thc m 34) b
            · rw [if_pos hl]
            · rw [if_neg hl, ← thc_k hth (show 0 < 5 by decide)]; exact (nxT_n hl).symm
          · by_cases k3 : k = 3
            · subst k3
              rw [(g1 b hb).2]
              by_cases hl : lyT (thc m 34) b
              · rw [if_pos hl]
              · rw [if_neg hl, ← thc_k hth (show 3 < 5 by decide)]; exact (nxT_n hl).symm
            · rw [f1.1 (34 + b) (k + 1) (Wpm_n hb (by omega) (by omega)), ← thc_k hth hk]
              exact (nxT_o k0 k3).symm
        · refine Eq.trans ?_ (nxT_o (by omega) (by omega)).symm
          unfold thc
          rw [f1.1 (34 + b) 0 (Wpm_n hb (by decide) (by decide))]
          simp only [if_neg hk]
      · have hth1 : ¬ thc m1 34 b 5 = 1 := by
          unfold thc at hth ⊢
          rw [f1.1 (34 + b) 0 (Wpm_n hb (by decide) (by decide))]; exact hth
        rw [thc_n hth1]
        refine Eq.trans ?_ (nxT_n (fun z => hth z.1)).symm
        rw [thc_n hth]
    · have z1 : ¬ thc m1 34 b 5 = 1 := fun z => hb (thc_5 z).1
      have z2 : ¬ thc m 34 b 5 = 1 := fun z => hb (thc_5 z).1
      rw [thc_n z1]
      refine Eq.trans ?_ (nxT_n (fun z => z2 z.1)).symm
      rw [thc_n z2]
  obtain ⟨m2, e2, v2, f2, hi2, w4, w5, w6, w7⟩ := c_write (m := m1) ((c29 4).trans h4) hL ((c29 5).trans h5) hN (suN (lyB (nx0 m o t)) (nx0 m o t) 8 0 0) (cnN (lyB (nx0 m o t)) 8 0 0) (ripM (m.1 14 5) (frL (m.1 14 6) t) (thc m 34) 8 0 0)
  have h7 := E.2.2.2.2.2.2.2.1
  generalize hm3 : wI m2 29 7 (Int32.ofNat (t + 1)) = m3
  have e3 : fX10_passMonth m = some m3 := by
    show fX10_passMonth_c9 fu m 0 0 0 (Int32.ofNat 0) = some m3
    rw [e1]
    show fX10_passMonth_c9 (0 + 1) m1 _ _ _ 8 = some m3
    rw [fX10_passMonth_c9]
    dsimp only
    rw [if_neg (by decide), e2]
    simp only [Option.bind_some]
    rw [w7, c29, h7, nn_s, hm3]
  have f3 : fr Wcm m m3 := by
    rw [← hm3]
    refine fr_wI (fr_trans (fr_mono Wcm_pm f1) (fr_mono (fun a k h => ?_) f2)) ?_
    · simp only [Wcm, Bool.or_eq_false_iff] at h; exact h.2
    · simp only [Wcm, WSt_t (show 29 ≤ 29 by decide) (show 29 < 29 + 13 by decide), Bool.or_true]
  have n3 : ∀ {i : Nat} (k : Nat), ¬ i = 29 → m3.1 i k = m2.1 i k := fun k h => by rw [← hm3, wI_ne h]
  have v3 : cV m3 29 = ((cV m2 29).1, (cV m2 29).2.1, Int32.ofNat (t + 1), (cV m2 29).2.2.2.1, (cV m2 29).2.2.2.2) := by
    have k4 : ∀ k, ¬ k = 7 → m3.1 29 k = m2.1 29 k := fun k hk => by rw [← hm3, wI_nk hk]
    have k7 : m3.1 29 7 = Int32.ofNat (t + 1) := by rw [← hm3, wI_eq]
    unfold cV
    rw [k4 4 (by decide), k4 5 (by decide), k4 6 (by decide), k7, thc_congr (m := m2) (s := 29 + 5) (s' := 29 + 5) (fun b hb k hk => n3 k (by omega))]
    have : lgC m3 29 = lgC m2 29 := by
      funext L N j w
      unfold lgC
      by_cases hj : j < L ∧ w < 3
      · rw [if_pos hj, if_pos hj, n3 _ (by omega)]
      · rw [if_neg hj, if_neg hj]
    rw [this]
  have V3 : cV m3 29 = pmA o (m.1 14 5) (m.1 14 6) (m.1 14 3) (m.1 15) (cV m 29) t := by
    rw [v3, v2, hT1]
    have hV : cV m 29 = (thc m 34, m.1 29 6, m.1 29 7, L, lgC m 29 L N) := by
      unfold cV; rw [h4, h5, nn_tn (by omega), nn_tn (by omega)]
    rw [hV]
    have hlg : lgC m1 29 L N = lgC m 29 L N := by
      funext j w
      unfold lgC
      by_cases hj : j < L ∧ w < 3
      · rw [if_pos hj, if_pos hj, f1.1 _ _ (Wpm_lo (by omega))]
      · rw [if_neg hj, if_neg hj]
    rw [hlg, c29 6]
    rfl
  have hT3 : thc m3 34 = nx0 m o t := by
    rw [← hT1]
    exact thc_congr (s := 34) (s' := 34) (fun b hb k hk => (n3 k (by omega)).trans (hi2 _ _ (by omega)))
  refine ⟨m3, e3, V3, ⟨⟨min 60 (L + 1), (N + 1) % 60, by rw [← hm3, wI_nk (by decide), w4], by omega, by rw [← hm3, wI_nk (by decide), w5], Nat.mod_lt _ (by decide)⟩, fun b hb => ?_⟩, ?_, f3⟩
  · have q : ∀ k, ¬ k = 1 → ¬ k = 4 → m3.1 (34 + b) k = m.1 (34 + b) k := fun k k1 k4 => (n3 k (by omega)).trans ((hi2 _ _ (by omega)).trans (f1.1 _ _ (Wpm_n hb k1 k4)))
    show (m3.1 (34 + b) 0 = 0 ∨ m3.1 (34 + b) 0 = 1) ∧ (m3.1 (34 + b) 5 = 0 ∨ m3.1 (34 + b) 5 = 1)
    rw [q 0 (by decide) (by decide), q 5 (by decide) (by decide)]
    exact hbool b hb
  · refine EnvC_fr f3 (Wcm_f (by decide) (WG_lo (by decide))) Wcm_l1 Wcm_l2 (fun k => Wcm_f (by decide) (WG_lo (by decide))) (fun k => Wcm_f (by decide) (WG_lo (by decide))) ?_ (by rw [← hm3, wI_eq]) ht1 E
    rw [hT3]
    exact nxT_TB E.2.2.2.2.2.1
