/-! SEARCHED, SOLD, BOUGHT -/
section ACTS
variable {m m1 : mm_MM} {W H : Nat} {P P1 : List Vw} {ls : Nat → List Cla} {V1 : Vw}
theorem inPl_s (T : TT) (l : Int32) : ∀ (n b : Nat), b + n = 8 → inPl T l n b = -1 ∨ ∃ c, c < 8 ∧ inPl T l n b = Int32.ofNat c ∧ lyT T c ∧ T c 2 = l
  | 0, _, _ => Or.inl rfl
  | n + 1, b, hb => by
    unfold inPl
    by_cases h : lyT T b ∧ T b 2 = l
    · rw [if_pos h]; exact Or.inr ⟨b, by omega, rfl, h.1, h.2⟩
    · rw [if_neg h]; exact inPl_s T l n (b + 1) (by omega)
theorem freP_s (T : TT) : ∀ (n b : Nat), b + n = 8 → freP T n b = -1 ∨ ∃ c, c < 8 ∧ freP T n b = Int32.ofNat c ∧ ¬ T c 5 = 1
  | 0, _, _ => Or.inl rfl
  | n + 1, b, hb => by
    unfold freP
    by_cases h : T b 5 = 1
    · rw [if_pos h]; exact freP_s T n (b + 1) (by omega)
    · rw [if_neg h]; exact Or.inr ⟨b, by omega, rfl, h⟩
theorem c_find_m1 (m : mm_MM) : fX7_find m 29 (-1) = some (none, m) := by
  rw [c_find]; rfl
theorem inPl_congr {T T' : TT} {l : Int32} (h : ∀ b, T' b 5 = T b 5 ∧ T' b 2 = T b 2) : ∀ (n b : Nat), inPl T' l n b = inPl T l n b
  | 0, _ => rfl
  | n + 1, b => by
    unfold inPl
    simp only [lyT, (h b).1, (h b).2, inPl_congr h n (b + 1)]
theorem q_search (hi : Inv m) (x : Int32) : EQ m (fun m => fX10_search m x) (fun m => fX11_search m x) := by
  obtain ⟨W, H, P, ls, h⟩ := hi
  by_cases hk : m.1 0 14 = 0
  · refine EQ_refuse (v := -1000000) h 0 ?_ ?_
    · simp only [fX10_search, fX10_search_c26, fX10_search_c51, if_pos hk, (c_ref m).1, Option.bind_some, mR]
    · have hs := seeR h 0
      simp only [fX11_search, fX11_search_c40, hs.2.1, if_pos hk, (r_ref _).1, Option.bind_some, if_neg (show ¬ (1 : Int32) = 0 by decide)]
  · have hk1 : m.1 0 14 = 1 := h.1.2.1.resolve_left hk
    obtain ⟨hpp, hh⟩ := plots_pos h hk1
    have rIP : ∀ {m1 : mm_MM}, SeeR m m1 → fX11_isPlot m1 x = some (if isPl (m.1 0 14) (m.1 14 3) (m.1 14 4) x then 1 else 0, m1) := fun {m1} hs => by
      rw [r_isPlot m1 x (by rw [hs.2.2.1, hs.2.2.2.1]; exact hpp), hs.2.1, hs.2.2.1, hs.2.2.2.1]
    by_cases hp : isPl (m.1 0 14) (m.1 14 3) (m.1 14 4) x
    · by_cases hc : m.1 29 6 < 1
      · refine EQ_refuse (v := -1000000) h 3 ?_ ?_
        · simp only [fX10_search, fX10_search_c26, fX10_search_c51, if_neg hk, c_isPlot, if_pos hp, Option.bind_some, if_neg (show ¬ (1 : Int32) = 0 by decide), if_pos hc, (c_ref m).2.2.2.1, mR]
        · have hs := seeR h 3
          simp only [fX11_search, fX11_search_c40, hs.2.1, if_neg hk, rIP hs, if_pos hp, Option.bind_some, if_neg (show ¬ (1 : Int32) = 0 by decide), hs.2.2.2.2.2.2.1, if_pos hc, (r_ref _).2.2.2.1]
      · obtain ⟨mc, e, sc, qc⟩ := StepC_keep h
        have n6 := qc 29 6 (by omega)
        have sc1 := StepC_coin (v := m.1 29 6 - 1) sc
        obtain ⟨v1, v2, v3⟩ := h.2.1.2.2.2.1
        have hd := coin_dn v2 hc
        have ht1 : thc (wI mc 29 6 (m.1 29 6 - 1)) 34 = thc m 34 := congrArg Prod.fst sc1.2.2.1
        rcases inPl_s (thc m 34) x 8 0 rfl with hn | ⟨b, hb8, eb, hly, h2⟩
        · obtain ⟨mr, er, sr, qr⟩ := StepR_keep h sc1.1
          have hs := see h sc1.1
          have n48 := (qr 623 48 (by decide) (by omega)).trans hs.2.2.2.2.2.2.1
          have sr1 := StepR_coin (v := m.1 29 6 - 1) sr
          have tr1 : thr (wI mr 623 48 (m.1 29 6 - 1)) 623 0 = thc m 34 := congrArg Prod.fst sr1.2.2.1
          refine EQ_act (v := -1) h hk1 sc1 sr1 ⟨v1, hd, v3⟩ (kp_P h) ?_ ?_
          · simp only [fX10_search, fX10_search_c111, if_neg hk, c_isPlot, if_pos hp, Option.bind_some, if_neg (show ¬ (1 : Int32) = 0 by decide), if_neg hc, e, n6, c_placeOfPlot, ht1, hn, c_find_m1]
          · simp only [fX11_search, fX11_search_c40, fX11_search_c86, hs.2.1, if_neg hk, rIP hs, if_pos hp, Option.bind_some, if_neg (show ¬ (1 : Int32) = 0 by decide), hs.2.2.2.2.2.2.1, if_neg hc, r_ref0, if_true, er, n48, r_inPlot, tr1, hn]
        · have hkd : mm_kd (34 + b) = (9, 6) := kd_p hb8
          have hT5 := hly.1
          have hn1 : ¬ Int32.ofNat b = -1 := ofN_ne (by omega)
          have e4 : (wI mc 29 6 (m.1 29 6 - 1)).1 (34 + b) 5 = thc m 34 b 4 := by
            rw [wI_ne (by omega), qc _ _ (by omega)]; exact (thc_k hT5 (show 4 < 5 by decide)).symm
          by_cases h4 : thc m 34 b 4 = 0
          · have sc2 := StepC_fld (b := b) (k := 4) (v := 1) sc1 hT5 (by decide) (fun _ => Or.inr rfl)
            obtain ⟨mr, er, sr, qr⟩ := StepR_keep h sc2.1
            have hs := see h sc2.1
            have n48 := (qr 623 48 (by decide) (by omega)).trans hs.2.2.2.2.2.2.1
            have sr1 := StepR_coin (v := m.1 29 6 - 1) sr
            have tr1 : thr (wI mr 623 48 (m.1 29 6 - 1)) 623 0 = thc m 34 := congrArg Prod.fst sr1.2.2.1
            have sr2 := StepR_fld (b := b) (k := 4) (v := 1) sr1 hT5 (by decide)
            have r4 : (wI mr 623 48 (m.1 29 6 - 1)).1 623 (6 * b + 4) = thc m 34 b 4 := by
              rw [← tr1, thr_k0 (by rw [tr1]; exact hT5) (by decide)]
            refine EQ_act (v := Int32.ofNat b) h hk1 sc2 sr2 ⟨?_, hd, v3⟩ (kp_P h) ?_ ?_
            · obtain ⟨b0, b1, b2, b3, -⟩ := v1 b hT5
              show TB W H (upT (cV m 29).1 b 4 1)
              refine TB_row v1 b (fun i k hib => by unfold upT; rw [if_neg (by omega)]) (fun _ => ?_)
              unfold rowOK
              rw [up_ne (show ¬ 0 = 4 by decide), up_ne (show ¬ 1 = 4 by decide), up_ne (show ¬ 2 = 4 by decide), up_ne (show ¬ 3 = 4 by decide), up_eq]
              exact ⟨b0, b1, b2, b3, Or.inr rfl, fun z => absurd z hly.2⟩
            · simp only [fX10_search, if_neg hk, c_isPlot, if_pos hp, Option.bind_some, if_neg (show ¬ (1 : Int32) = 0 by decide), if_neg hc, e, n6, c_placeOfPlot, ht1, eb, c_find_n _ hb8, if_pos hT5, if_pos hkd, e4, if_pos h4]
            · simp only [fX11_search, fX11_search_c40, hs.2.1, if_neg hk, rIP hs, if_pos hp, Option.bind_some, if_neg (show ¬ (1 : Int32) = 0 by decide), hs.2.2.2.2.2.2.1, if_neg hc, r_ref0, if_true, er, n48, r_inPlot, tr1, eb, if_neg hn1, r_of4 _ hb8, r4, h4, if_neg (show ¬ (0 : Int32) = 1 by decide), r_set4 _ _ hb8]
          · have h41 : thc m 34 b 4 = 1 := (v1 b hT5).2.2.2.2.1.resolve_left h4
            obtain ⟨mr, er, sr, qr⟩ := StepR_keep h sc1.1
            have hs := see h sc1.1
            have n48 := (qr 623 48 (by decide) (by omega)).trans hs.2.2.2.2.2.2.1
            have sr1 := StepR_coin (v := m.1 29 6 - 1) sr
            have tr1 : thr (wI mr 623 48 (m.1 29 6 - 1)) 623 0 = thc m 34 := congrArg Prod.fst sr1.2.2.1
            have r4 : (wI mr 623 48 (m.1 29 6 - 1)).1 623 (6 * b + 4) = thc m 34 b 4 := by
              rw [← tr1, thr_k0 (by rw [tr1]; exact hT5) (by decide)]
            refine EQ_act (v := -1) h hk1 sc1 sr1 ⟨v1, hd, v3⟩ (kp_P h) ?_ ?_
            · simp only [fX10_search, fX10_search_c111, if_neg hk, c_isPlot, if_pos hp, Option.bind_some, if_neg (show ¬ (1 : Int32) = 0 by decide), if_neg hc, e, n6, c_placeOfPlot, ht1, eb, c_find_n _ hb8, if_pos hT5, if_pos hkd, e4, if_neg h4]
            · simp only [fX11_search, fX11_search_c40, fX11_search_c86, hs.2.1, if_neg hk, rIP hs, if_pos hp, Option.bind_some, if_neg (show ¬ (1 : Int32) = 0 by decide), hs.2.2.2.2.2.2.1, if_neg hc, r_ref0, if_true, er, n48, r_inPlot, tr1, eb, if_neg hn1, r_of4 _ hb8, r4, h41]
    · refine EQ_refuse (v := -1000000) h 1 ?_ ?_
      · simp only [fX10_search, fX10_search_c26, fX10_search_c51, if_neg hk, c_isPlot, if_neg hp, Option.bind_some, if_true, (c_ref m).2.1, mR]
      · have hs := seeR h 1
        simp only [fX11_search, fX11_search_c40, hs.2.1, if_neg hk, rIP hs, if_neg hp, Option.bind_some, if_true, (r_ref _).2.1, if_neg (show ¬ (1 : Int32) = 0 by decide)]
/-- a place with none -/
def dropT (T : TT) (b : Nat) : TT := fun i k => if i = b then 0 else T i k
theorem StepC_drop {b : Nat} (h : StepC m m1 V1 P1) (hb8 : b < 8) : ∃ m2, fX9_clear m1 (34 + b) = some m2 ∧ StepC m m2 (dropT V1.1 b, V1.2) P1 ∧ (∀ a k, ¬ a = 34 + b → m2.1 a k = m1.1 a k) ∧ m2.1 (34 + b) 0 = 0 ∧ m2.1 (34 + b) 3 = -1 ∧ m2.1 (34 + b) 4 = 0 ∧ m2.1 (34 + b) 5 = 0 := by
  obtain ⟨a1, a2, a3, a4, a5⟩ := h
  generalize hm2 : wI (wI (wI (wI (wI (wI m1 (34 + b) 0 0) (34 + b) 1 0) (34 + b) 2 0) (34 + b) 3 (-1)) (34 + b) 4 0) (34 + b) 5 0 = m2
  have q : ∀ a k, ¬ a = 34 + b → m2.1 a k = m1.1 a k := fun a k h => by rw [← hm2, wI_ne h, wI_ne h, wI_ne h, wI_ne h, wI_ne h, wI_ne h]
  have q0 : m2.1 (34 + b) 0 = 0 := by rw [← hm2]; simp [wI_1]
  have q3 : m2.1 (34 + b) 3 = -1 := by rw [← hm2]; simp [wI_1]
  have q4 : m2.1 (34 + b) 4 = 0 := by rw [← hm2]; simp [wI_1]
  have q5 : m2.1 (34 + b) 5 = 0 := by rw [← hm2]; simp [wI_1]
  have hW : ∀ k, WAc (34 + b) k = true := fun k => WAc_t (WA_29 (by omega) (by omega) k) (by omega)
  have hf : fr WAc m (m2.1, m.2) := by
    have : fr WAc m (wI (wI (wI (wI (wI (wI (m1.1, m.2) (34 + b) 0 0) (34 + b) 1 0) (34 + b) 2 0) (34 + b) 3 (-1)) (34 + b) 4 0) (34 + b) 5 0) := fr_wI (fr_wI (fr_wI (fr_wI (fr_wI (fr_wI a1 (hW _)) (hW _)) (hW _)) (hW _)) (hW _)) (hW _)
    rw [← hm2]; exact this
  refine ⟨m2, by rw [← hm2]; rfl, ⟨hf, fun k => (q _ _ (by omega)).trans (a2 k), ?_, ?_, ?_⟩, q, q0, q3, q4, q5⟩
  · have ht : thc m2 34 = dropT (thc m1 34) b := by
      funext i k
      unfold dropT
      by_cases e : i = b
      · subst e
        rw [if_pos rfl]
        unfold thc
        rw [q0, if_neg (fun z => z.2 rfl)]
      · rw [if_neg e]
        exact thc_at (m := m1) (s := 34) (b := i) (fun k _ => q _ _ (by omega)) k
    have hl : ∀ L N, lgC m2 29 L N = lgC m1 29 L N := fun L N => by
      funext j w
      unfold lgC
      by_cases hj : j < L ∧ w < 3
      · rw [if_pos hj, if_pos hj, q _ _ (by omega)]
      · rw [if_neg hj, if_neg hj]
    rw [← a3]
    unfold cV
    rw [show (29 + 5 : Nat) = 34 from rfl, ht, q _ _ (by omega), q _ _ (by omega), q _ _ (by omega), q _ _ (by omega), hl]
  · obtain ⟨⟨L, N, b1, b2, b3, b4⟩, hb⟩ := a4
    refine ⟨⟨L, N, (q _ _ (by omega)).trans b1, b2, (q _ _ (by omega)).trans b3, b4⟩, fun i hi => ?_⟩
    show (m2.1 (34 + i) 0 = 0 ∨ m2.1 (34 + i) 0 = 1) ∧ (m2.1 (34 + i) 5 = 0 ∨ m2.1 (34 + i) 5 = 1)
    by_cases e : i = b
    · subst e; rw [q0, q5]; exact ⟨Or.inl rfl, Or.inl rfl⟩
    · rw [q _ _ (by omega), q _ _ (by omega)]; exact hb i hi
  · exact PC_fr (m := m1) (m' := (m2.1, m1.2)) (W := fun a _ => a == 34 + b) ⟨fun a k z => q a k (by simpa using z), fun _ _ _ => rfl⟩ (fun a k ha => by simp only [beq_eq_false_iff_ne]; omega) a5
theorem StepR_drop {b : Nat} (h : StepR m m1 V1 P1) (hb8 : b < 8) : StepR m (wI m1 623 (6 * b + 5) 0) (dropT V1.1 b, V1.2) P1 := by
  obtain ⟨a1, a2, a3, a4, a5⟩ := h
  refine ⟨fr_wI (m := (m1.1, m.2)) a1 (WAr_t (by simp [WA]) (by decide)), fun k => (wI_ne (by decide)).trans (a2 k), ?_, rOK_w (by omega) a4, PR_w a5⟩
  have ht : thr (wI m1 623 (6 * b + 5) 0) 623 0 = dropT (thr m1 623 0) b := by
    funext i k
    unfold dropT
    by_cases e : i = b
    · subst e
      rw [if_pos rfl]
      unfold thr
      rw [Nat.zero_add, wI_eq, if_neg (fun z => absurd z.2 (by decide))]
    · rw [if_neg e]
      unfold thr
      by_cases hi : i < 8
      · rw [wI_nk (show ¬ 0 + (6 * i + 5) = 6 * b + 5 by omega)]
        by_cases hk : k < 6
        · rw [wI_nk (show ¬ 0 + (6 * i + k) = 6 * b + 5 by omega)]
        · simp only [if_neg hk]
      · simp [hi]
  have hl : ∀ L, lgR (wI m1 623 (6 * b + 5) 0) 623 0 L = lgR m1 623 0 L := fun L => by
    funext j w
    unfold lgR
    by_cases hj : j < L ∧ w < 3
    · rw [if_pos hj, if_pos hj, wI_nk (by omega)]
    · rw [if_neg hj, if_neg hj]
  rw [← a3]
  unfold rV
  rw [ht, hl, wI_nk (by omega), wI_nk (by omega), wI_nk (by omega)]
theorem q_sell (hi : Inv m) (x : Int32) : EQ m (fun m => fX10_sell m x) (fun m => fX11_sell m x) := by
  obtain ⟨W, H, P, ls, h⟩ := hi
  by_cases hx : tx (thc m 34) x 5 = 1
  · obtain ⟨h0, ex, hT5, htx⟩ := tx_b hx
    generalize x.toNatClampNeg = b at ex hT5 htx
    subst ex
    have hk := IA_known h hT5
    have hb8 := (thc_5 hT5).1
    have hkd : mm_kd (34 + b) = (9, 6) := kd_p hb8
    have e0 := thc_k hT5 (show 0 < 5 by decide)
    have e2 := thc_k hT5 (show 2 < 5 by decide)
    have rR : ∀ {m1 : mm_MM}, SeeR m m1 → fX11_isRipe m1 (Int32.ofNat b) = some (if thc m 34 b 3 < m.1 14 5 then 0 else 1, m1) := fun {m1} hs => by
      rw [r_isRipe_n m1 hb8, hs.1, hs.2.2.2.2.1]
      by_cases z : thc m 34 b 3 < m.1 14 5 <;> simp [z, hT5]
    by_cases hl : thc m 34 b 2 = -1
    · have hnl : ¬ lyT (thc m 34) b := fun z => z.2 hl
      by_cases hr : thc m 34 b 3 < m.1 14 5
      · refine EQ_refuse (v := -1) h 3 ?_ ?_
        · simp only [fX10_sell, c_find_n m hb8, if_pos hT5, Option.bind_some, if_pos hkd, ← e2, if_pos hl, c_ripe m hT5, if_pos hr, if_true, (c_ref m).2.2.2.1, mR]
        · have hs := seeR h 3
          simp only [fX11_sell, fX11_sell_c38, r_isThere_n _ hb8, hs.1, if_pos hT5, Option.bind_some, if_neg (show ¬ (1 : Int32) = 0 by decide), r_doesLie_n _ hb8, if_neg hnl, if_true, rR hs, if_pos hr, (r_ref _).2.2.2.1]
      · obtain ⟨mc, e, sc, qc⟩ := StepC_keep h
        have sc1 := StepC_coin (v := mi 999 (m.1 29 6 + thc m 34 b 0)) sc
        obtain ⟨mc2, ec2, sc2, -⟩ := StepC_drop sc1 hb8
        obtain ⟨mr, er, sr, qr⟩ := StepR_keep h sc2.1
        have hs := see h sc2.1
        have n48 := (qr 623 48 (by decide) (by omega)).trans hs.2.2.2.2.2.2.1
        have n0 : mr.1 623 (6 * b + 0) = thc m 34 b 0 := by
          rw [qr 623 _ (by decide) (by omega), ← hs.1, thr_k0 (by rw [hs.1]; exact hT5) (by decide)]
        have sr2 := StepR_drop (StepR_coin (v := mi 999 (m.1 29 6 + thc m 34 b 0)) sr) hb8
        obtain ⟨v1, ⟨c, v2, v2'⟩, v3⟩ := h.2.1.2.2.2.1
        refine EQ_act (v := thc m 34 b 0) h hk sc2 sr2 ⟨?_, ?_, v3⟩ (kp_P h) ?_ ?_
        · show TB W H (dropT (cV m 29).1 b)
          exact TB_row v1 b (fun i k hib => by unfold dropT; rw [if_neg hib]) (fun z => by unfold dropT at z; rw [if_pos rfl] at z; exact absurd z (by decide))
        · show ∃ c, mi 999 (m.1 29 6 + thc m 34 b 0) = Int32.ofNat c ∧ c ≤ 999
          have v2 : m.1 29 6 = Int32.ofNat c := v2
          obtain ⟨⟨b0, b0'⟩, -⟩ := v1 b hT5
          have b0 : 0 ≤ thc m 34 b 0 := b0
          have b0' : thc m 34 b 0 ≤ 200 := b0'
          have z0 : ¬ thc m 34 b 0 < 0 := Int32.not_lt.mpr b0
          have z2 : (thc m 34 b 0).toNatClampNeg ≤ 200 := (nn_lek (k := 200) z0 (by decide)).mp b0'
          rw [v2, nn_of z0, ← Int32.ofNat_add]
          unfold mi
          by_cases hc : (999 : Int32) ≤ Int32.ofNat (c + (thc m 34 b 0).toNatClampNeg)
          · rw [if_pos hc]; exact ⟨999, rfl, by decide⟩
          · rw [if_neg hc]
            refine ⟨_, rfl, ?_⟩
            have : ¬ 999 ≤ c + (thc m 34 b 0).toNatClampNeg := fun z => hc ((nn_le (n := 999) (by decide) (by omega)).mpr z)
            omega
        · simp only [fX10_sell, c_find_n m hb8, if_pos hT5, Option.bind_some, if_pos hkd, ← e2, if_pos hl, c_ripe m hT5, if_neg hr, if_neg (show ¬ (1 : Int32) = 0 by decide), e, qc 29 6 (by omega), qc (34 + b) 1 (by omega), ← e0, j_min, ec2]
        · simp only [fX11_sell, fX11_sell_c38, r_isThere_n _ hb8, hs.1, if_pos hT5, Option.bind_some, if_neg (show ¬ (1 : Int32) = 0 by decide), r_doesLie_n _ hb8, if_neg hnl, if_true, rR hs, if_neg hr, r_ref0, er, r_of0 _ hb8, n0, n48, j_min, r_set5 _ _ hb8]
          rw [wI_nk (show ¬ 6 * b + 0 = 6 * b + 5 by omega), wI_nk (show ¬ 6 * b + 0 = 48 by omega), n0]
    · have hly : lyT (thc m 34) b := ⟨hT5, hl⟩
      refine EQ_refuse (v := -1) h 2 ?_ ?_
      · simp only [fX10_sell, c_find_n m hb8, if_pos hT5, Option.bind_some, if_pos hkd, ← e2, if_neg hl, (c_ref m).2.2.1, mR]
      · have hs := seeR h 2
        simp only [fX11_sell, fX11_sell_c38, r_isThere_n _ hb8, hs.1, if_pos hT5, Option.bind_some, if_neg (show ¬ (1 : Int32) = 0 by decide), r_doesLie_n _ hb8, if_pos hly, (r_ref _).2.2.1]
  · refine EQ_refuse (v := -1) h 0 ?_ ?_
    · simp only [fX10_sell, c_find, if_neg hx, Option.bind_some, (c_ref m).1, mR]
    · have hs := seeR h 0
      simp only [fX11_sell, fX11_sell_c38, r_isThere, hs.1, if_neg hx, Option.bind_some, if_true, (r_ref _).1, if_neg (show ¬ (1 : Int32) = 0 by decide)]
end ACTS
