/-! TAKEN UP, LOST, SOLD, GIVEN, SEARCHED, BOUGHT -/
section ACTS
variable {m m1 : mm_MM} {W H : Nat} {P : List Vw} {ls : Nat → List Cla}
theorem c_why {b : Nat} (h : thc m 34 b 5 = 1) : fX10_whyNotAtStake m (some (34 + b)) = some (if thc m 34 b 2 = -1 then 2 else if thc m 34 b 4 = 0 then 3 else -1, m) := by
  have hkd : mm_kd (34 + b) = (9, 6) := kd_p (thc_5 h).1
  rw [thc_k h (show 2 < 5 by decide), thc_k h (show 4 < 5 by decide)]
  unfold fX10_whyNotAtStake fX10_whyNotAtStake_c28
  simp only [if_pos hkd]
  by_cases h2 : m.1 (34 + b) 3 = -1
  · simp [h2]
  · by_cases h4 : m.1 (34 + b) 5 = 0 <;> simp [h2, h4]
/-- a place of the kind that takes and lose ask for -/
theorem q_takes (hi : Inv m) (x : Int32) : EQ m (fun m => fX10_takes m x) (fun m => fX11_takes m x) := by
  obtain ⟨W, H, P, ls, h⟩ := hi
  by_cases hx : tx (thc m 34) x 5 = 1
  · obtain ⟨h0, ex, hT5, htx⟩ := tx_b hx
    generalize x.toNatClampNeg = b at ex hT5 htx
    subst ex
    have hk := IA_known h hT5
    have hb8 := (thc_5 hT5).1
    have hkd : mm_kd (34 + b) = (9, 6) := kd_p hb8
    have e2 := thc_k hT5 (show 2 < 5 by decide)
    by_cases hl : thc m 34 b 2 = -1
    · refine EQ_refuse (v := -1) h 2 ?_ ?_
      · simp only [fX10_takes, fX10_takes_c23, c_find_n m hb8, if_pos hT5, Option.bind_some, if_pos hkd, c_why hT5, if_pos hl, if_neg (show ¬ (2 : Int32) = -1 by decide), (c_ref m).2.2.1, mR]
      · have hs := seeR h 2
        have hnl : ¬ lyT (thc m 34) b := fun z => z.2 hl
        simp only [fX11_takes, fX11_takes_c39, r_isThere_n _ hb8, hs.1, if_pos hT5, Option.bind_some, if_neg (show ¬ (1 : Int32) = 0 by decide), r_doesLie_n _ hb8, if_neg hnl, if_true, (r_ref _).2.2.1]
    · have hly : lyT (thc m 34) b := ⟨hT5, hl⟩
      have r4 : ∀ {m1 : mm_MM}, SeeR m m1 → m1.1 623 (6 * b + 4) = thc m 34 b 4 := fun {m1} hs => by
        rw [← hs.1, thr_k0 (by rw [hs.1]; exact hT5) (by decide)]
      by_cases h4 : thc m 34 b 4 = 0
      · refine EQ_refuse (v := -1) h 3 ?_ ?_
        · simp only [fX10_takes, fX10_takes_c23, c_find_n m hb8, if_pos hT5, Option.bind_some, if_pos hkd, c_why hT5, if_neg hl, if_pos h4, if_neg (show ¬ (3 : Int32) = -1 by decide), (c_ref m).2.2.2.1, mR]
        · have hs := seeR h 3
          simp only [fX11_takes, fX11_takes_c39, r_isThere_n _ hb8, hs.1, if_pos hT5, Option.bind_some, if_neg (show ¬ (1 : Int32) = 0 by decide), r_doesLie_n _ hb8, if_pos hly, r_of4 _ hb8, r4 hs, if_pos h4, (r_ref _).2.2.2.1]
      · obtain ⟨mc, e, sc, qc⟩ := StepC_keep h
        have sc2 := StepC_fld (b := b) (k := 4) (v := 0) (StepC_fld (b := b) (k := 2) (v := -1) sc hT5 (by decide) (fun z => absurd z (by decide))) ((up_ne (by decide)).trans hT5) (by decide) (fun _ => Or.inl rfl)
        obtain ⟨mr, er, sr, qr⟩ := StepR_keep h sc2.1
        have hs := see h sc2.1
        have sr2 := StepR_fld (b := b) (k := 4) (v := 0) (StepR_fld (b := b) (k := 2) (v := -1) sr hT5 (by decide)) ((up_ne (by decide)).trans hT5) (by decide)
        refine EQ_act (v := thc m 34 b 2) h hk sc2 sr2 ?_ (kp_P h) ?_ ?_
        · obtain ⟨v1, v2, v3⟩ := h.2.1.2.2.2.1
          refine ⟨?_, v2, v3⟩
          obtain ⟨b0, b1, -, b3, -⟩ := v1 b hT5
          show TB W H (upT (upT (cV m 29).1 b 2 (-1)) b 4 0)
          refine TB_row v1 b (fun i k hib => by unfold upT; rw [if_neg (by omega), if_neg (by omega)]) (fun _ => ?_)
          have u : ∀ k, ¬ k = 2 → ¬ k = 4 → upT (upT (cV m 29).1 b 2 (-1)) b 4 0 b k = (cV m 29).1 b k := fun k k2 k4 => by rw [up_ne k4, up_ne k2]
          have u2 : upT (upT (cV m 29).1 b 2 (-1)) b 4 0 b 2 = -1 := by rw [up_ne (by decide), up_eq]
          unfold rowOK
          rw [u 0 (by decide) (by decide), u 1 (by decide) (by decide), u 3 (by decide) (by decide), u2, up_eq]
          exact ⟨b0, b1, Or.inl rfl, b3, Or.inl rfl, fun _ => rfl⟩
        · simp only [fX10_takes, c_find_n m hb8, if_pos hT5, Option.bind_some, if_pos hkd, c_why hT5, if_neg hl, if_neg h4, if_true, e, qc (34 + b) 3 (by omega), ← e2]
        · have n2 : mr.1 623 (6 * b + 2) = thc m 34 b 2 := by
            rw [qr 623 _ (by decide) (by omega), ← hs.1, thr_k0 (by rw [hs.1]; exact hT5) (by decide)]
          simp only [fX11_takes, fX11_takes_c39, r_isThere_n _ hb8, hs.1, if_pos hT5, Option.bind_some, if_neg (show ¬ (1 : Int32) = 0 by decide), r_doesLie_n _ hb8, if_pos hly, r_of4 _ hb8, r4 hs, if_neg h4, r_ref0, if_true, er, r_of2 _ hb8, n2, r_set2 _ _ hb8, r_set4 _ _ hb8]
  · refine EQ_refuse (v := -1) h 0 ?_ ?_
    · simp only [fX10_takes, fX10_takes_c23, c_find, if_neg hx, Option.bind_some, fX10_whyNotAtStake, (c_ref m).1, mR]
    · have hs := seeR h 0
      simp only [fX11_takes, fX11_takes_c39, r_isThere, hs.1, if_neg hx, Option.bind_some, if_true, (r_ref _).1, if_neg (show ¬ (1 : Int32) = 0 by decide)]
theorem q_lose (hi : Inv m) (x : Int32) : EQ m (fun m => fX10_lose m x) (fun m => fX11_lose m x) := by
  obtain ⟨W, H, P, ls, h⟩ := hi
  by_cases hx : tx (thc m 34) x 5 = 1
  · obtain ⟨h0, ex, hT5, htx⟩ := tx_b hx
    generalize x.toNatClampNeg = b at ex hT5 htx
    subst ex
    have hk := IA_known h hT5
    have hb8 := (thc_5 hT5).1
    have hkd : mm_kd (34 + b) = (9, 6) := kd_p hb8
    have e2 := thc_k hT5 (show 2 < 5 by decide)
    by_cases hl : thc m 34 b 2 = -1
    · refine EQ_refuse (v := -1) h 2 ?_ ?_
      · simp only [fX10_lose, fX10_lose_c23, c_find_n m hb8, if_pos hT5, Option.bind_some, if_pos hkd, c_why hT5, if_pos hl, if_neg (show ¬ (2 : Int32) = -1 by decide), (c_ref m).2.2.1, mR]
      · have hs := seeR h 2
        have hnl : ¬ lyT (thc m 34) b := fun z => z.2 hl
        simp only [fX11_lose, fX11_lose_c39, r_isThere_n _ hb8, hs.1, if_pos hT5, Option.bind_some, if_neg (show ¬ (1 : Int32) = 0 by decide), r_doesLie_n _ hb8, if_neg hnl, if_true, (r_ref _).2.2.1]
    · have hly : lyT (thc m 34) b := ⟨hT5, hl⟩
      have r4 : ∀ {m1 : mm_MM}, SeeR m m1 → m1.1 623 (6 * b + 4) = thc m 34 b 4 := fun {m1} hs => by
        rw [← hs.1, thr_k0 (by rw [hs.1]; exact hT5) (by decide)]
      by_cases h4 : thc m 34 b 4 = 0
      · refine EQ_refuse (v := -1) h 3 ?_ ?_
        · simp only [fX10_lose, fX10_lose_c23, c_find_n m hb8, if_pos hT5, Option.bind_some, if_pos hkd, c_why hT5, if_neg hl, if_pos h4, if_neg (show ¬ (3 : Int32) = -1 by decide), (c_ref m).2.2.2.1, mR]
        · have hs := seeR h 3
          simp only [fX11_lose, fX11_lose_c39, r_isThere_n _ hb8, hs.1, if_pos hT5, Option.bind_some, if_neg (show ¬ (1 : Int32) = 0 by decide), r_doesLie_n _ hb8, if_pos hly, r_of4 _ hb8, r4 hs, if_pos h4, (r_ref _).2.2.2.1]
      · obtain ⟨mc, e, sc, qc⟩ := StepC_keep h
        have sc2 := StepC_fld (b := b) (k := 4) (v := 0) sc hT5 (by decide) (fun _ => Or.inl rfl)
        obtain ⟨mr, er, sr, qr⟩ := StepR_keep h sc2.1
        have hs := see h sc2.1
        have sr2 := StepR_fld (b := b) (k := 4) (v := 0) sr hT5 (by decide)
        refine EQ_act (v := thc m 34 b 2) h hk sc2 sr2 ?_ (kp_P h) ?_ ?_
        · obtain ⟨v1, v2, v3⟩ := h.2.1.2.2.2.1
          refine ⟨?_, v2, v3⟩
          obtain ⟨b0, b1, b2, b3, -⟩ := v1 b hT5
          show TB W H (upT (cV m 29).1 b 4 0)
          refine TB_row v1 b (fun i k hib => by unfold upT; rw [if_neg (by omega)]) (fun _ => ?_)
          unfold rowOK
          rw [up_ne (show ¬ 0 = 4 by decide), up_ne (show ¬ 1 = 4 by decide), up_ne (show ¬ 2 = 4 by decide), up_ne (show ¬ 3 = 4 by decide), up_eq]
          exact ⟨b0, b1, b2, b3, Or.inl rfl, fun _ => rfl⟩
        · simp only [fX10_lose, c_find_n m hb8, if_pos hT5, Option.bind_some, if_pos hkd, c_why hT5, if_neg hl, if_neg h4, if_true, e]
          rw [wI_nk (show ¬ 3 = 5 by decide), qc (34 + b) 3 (by omega), e2]
        · have n2 : mr.1 623 (6 * b + 2) = thc m 34 b 2 := by
            rw [qr 623 _ (by decide) (by omega), ← hs.1, thr_k0 (by rw [hs.1]; exact hT5) (by decide)]
          simp only [fX11_lose, fX11_lose_c39, r_isThere_n _ hb8, hs.1, if_pos hT5, Option.bind_some, if_neg (show ¬ (1 : Int32) = 0 by decide), r_doesLie_n _ hb8, if_pos hly, r_of4 _ hb8, r4 hs, if_neg h4, r_ref0, if_true, er, r_set4 _ _ hb8, r_of2 _ hb8]
          rw [wI_nk (show ¬ 6 * b + 2 = 6 * b + 4 by omega), n2]
  · refine EQ_refuse (v := -1) h 0 ?_ ?_
    · simp only [fX10_lose, fX10_lose_c23, c_find, if_neg hx, Option.bind_some, fX10_whyNotAtStake, (c_ref m).1, mR]
    · have hs := seeR h 0
      simp only [fX11_lose, fX11_lose_c39, r_isThere, hs.1, if_neg hx, Option.bind_some, if_true, (r_ref _).1, if_neg (show ¬ (1 : Int32) = 0 by decide)]
theorem q_give (hi : Inv m) (x : Int32) : EQ m (fun m => fX10_give m x) (fun m => fX11_give m x) := by
  obtain ⟨W, H, P, ls, h⟩ := hi
  by_cases hk : m.1 0 14 = 0
  · refine EQ_refuse (v := -1) h 0 ?_ ?_
    · simp only [fX10_give, if_pos hk, (c_ref m).1, Option.bind_some, mR]
    · have hs := seeR h 0
      simp only [fX11_give, fX11_give_c46, hs.2.1, if_pos hk, (r_ref _).1, Option.bind_some, if_neg (show ¬ (1 : Int32) = 0 by decide)]
  · have hk1 : m.1 0 14 = 1 := h.1.2.1.resolve_left hk
    by_cases hn : x < 1 ∨ ¬ x ≤ 50
    · have hin : (if x < 1 then (0 : Int32) else if x ≤ 50 then 1 else 0) = 0 := by
        by_cases h1 : x < 1
        · rw [if_pos h1]
        · rw [if_neg h1, if_neg (hn.resolve_left h1)]
      refine EQ_refuse (v := -1) h 1 ?_ ?_
      · by_cases h1 : x < 1
        · simp only [fX10_give, fX10_give_c24, if_neg hk, if_pos h1, (c_ref m).2.1, Option.bind_some, mR]
        · simp only [fX10_give, fX10_give_c24, if_neg hk, if_neg h1, if_neg (hn.resolve_left h1), (c_ref m).2.1, Option.bind_some, mR]
      · have hs := seeR h 1
        simp only [fX11_give, fX11_give_c46, hs.2.1, if_neg hk, r_in, hin, if_true, (r_ref _).2.1, Option.bind_some, if_neg (show ¬ (1 : Int32) = 0 by decide)]
    · have h1 : ¬ x < 1 := fun z => hn (Or.inl z)
      have h2 : x ≤ 50 := Classical.not_not.mp fun z => hn (Or.inr z)
      have hin : (if x < 1 then (0 : Int32) else if x ≤ 50 then 1 else 0) = 1 := by rw [if_neg h1, if_pos h2]
      by_cases hc : m.1 29 6 + x ≤ 999
      · obtain ⟨mc, e, sc, qc⟩ := StepC_keep h
        have sc2 := StepC_coin (v := m.1 29 6 + x) sc
        obtain ⟨mr, er, sr, qr⟩ := StepR_keep h sc2.1
        have hs := see h sc2.1
        have sr2 := StepR_coin (v := m.1 29 6 + x) sr
        refine EQ_act (v := m.1 29 6 + x) h hk1 sc2 sr2 ?_ (kp_P h) ?_ ?_
        · obtain ⟨v1, ⟨c, v2, v2'⟩, v3⟩ := h.2.1.2.2.2.1
          refine ⟨v1, ?_, v3⟩
          show ∃ c, m.1 29 6 + x = Int32.ofNat c ∧ c ≤ 999
          have v2 : m.1 29 6 = Int32.ofNat c := v2
          have hx0 : ¬ x < 0 := by grind
          have hx50 : x.toNatClampNeg ≤ 50 := (nn_lek (k := 50) hx0 (by decide)).mp h2
          rw [v2, nn_of hx0, ← Int32.ofNat_add] at hc ⊢
          exact ⟨c + x.toNatClampNeg, rfl, (nn_le (k := 999) (by omega) (by decide)).mp hc⟩
        · simp only [fX10_give, if_neg hk, if_neg h1, if_pos h2, if_pos hc, e, Option.bind_some, qc 29 6 (by omega)]
        · have n48 := (qr 623 48 (by decide) (by omega)).trans hs.2.2.2.2.2.2.1
          simp only [fX11_give, fX11_give_c46, hs.2.1, if_neg hk, r_in, hin, if_neg (show ¬ (1 : Int32) = 0 by decide), Option.bind_some, hs.2.2.2.2.2.2.1, if_pos hc, r_ref0, if_true, er, n48]
      · refine EQ_refuse (v := -1) h 3 ?_ ?_
        · simp only [fX10_give, if_neg hk, if_neg h1, if_pos h2, if_neg hc, (c_ref m).2.2.2.1, Option.bind_some, mR]
        · have hs := seeR h 3
          simp only [fX11_give, fX11_give_c46, hs.2.1, if_neg hk, r_in, hin, if_neg (show ¬ (1 : Int32) = 0 by decide), Option.bind_some, hs.2.2.2.2.2.2.1, if_neg hc, (r_ref _).2.2.2.1]
end ACTS
