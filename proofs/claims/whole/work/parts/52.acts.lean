/-! THE ACTS BY HAND -/
section ACTS
variable {m m1 : mm_MM} {W H : Nat} {P : List Vw} {ls : Nat → List Cla}
theorem tx_b {T : TT} {x : Int32} (h : tx T x 5 = 1) : ¬ x < 0 ∧ x = Int32.ofNat x.toNatClampNeg ∧ T x.toNatClampNeg 5 = 1 ∧ ∀ k, tx T x k = T x.toNatClampNeg k := by
  have h0 : ¬ x < 0 := fun z => by rw [tx, if_pos z] at h; exact absurd h (by decide)
  refine ⟨h0, nn_of h0, ?_, fun k => by rw [tx, if_neg h0]⟩
  rw [tx, if_neg h0] at h; exact h
theorem EQ_act {f g : mm_MM → Option (Int32 × mm_MM)} {v : Int32} {m2 : mm_MM} {V1 : Vw} {P1 : List Vw} (h : InvA m W H P ls) (hk : m.1 0 14 = 1) (hc : StepC m m1 V1 P1) (hr : StepR m1 m2 V1 P1) (hV : VB W H V1) (hP : ∀ V ∈ P1, VB W H V) (hf : f m = some (v, m1)) (hg : g m1 = some (v, m2)) : EQ m f g := ⟨v, m1, m2, hf, hg, Inv_step h hk hc hr hV hP⟩
theorem kp_P (h : InvA m W H P ls) : ∀ V' ∈ kp (cV m 29) P, VB W H V' := kp_mem h.2.1.2.2.2.2.2.2.1 h.2.1.2.2.2.1
/-- what the reference sees behind the class -/
def SeeR (m m1 : mm_MM) : Prop := thr m1 623 0 = thc m 34 ∧ m1.1 606 26 = m.1 0 14 ∧ m1.1 620 0 = m.1 14 3 ∧ m1.1 620 1 = m.1 14 4 ∧ m1.1 620 2 = m.1 14 5 ∧ m1.1 620 3 = m.1 14 6 ∧ m1.1 623 48 = m.1 29 6 ∧ m1.1 623 49 = m.1 29 7
theorem see (h : InvA m W H P ls) (hc : fr WAc m (m1.1, m.2)) : SeeR m m1 := by
  obtain ⟨a1, a2, ⟨e3, e4, e5, e6⟩, -⟩ := h.1
  have hv := h.2.1.1
  refine ⟨(thr_c hc).trans (IA_T h), (hi_c hc (by decide)).trans a1.symm, (hi_c hc (by decide)).trans e3.symm, (hi_c hc (by decide)).trans e4.symm, (hi_c hc (by decide)).trans e5.symm, (hi_c hc (by decide)).trans e6.symm, ?_, ?_⟩
  · exact (hi_c hc (by decide)).trans (congrArg (fun V : Vw => V.2.1) hv).symm
  · exact (hi_c hc (by decide)).trans (congrArg (fun V : Vw => V.2.2.1) hv).symm
theorem see0 (h : InvA m W H P ls) : SeeR m m := see h (fr_refl _ _)
theorem seeR (h : InvA m W H P ls) (k : Nat) : SeeR m (mR m k) := see h mR_c
theorem plots_pos (h : InvA m W H P ls) (hk : m.1 0 14 = 1) : 0 < m.1 14 3 * m.1 14 4 ∧ 0 < m.1 14 4 := by
  obtain ⟨⟨l1, l2, l3, l4⟩, d2, d3, -⟩ := h.1.2.2.2.2.1 hk
  have hW : 1 * 1 ≤ W * H := Nat.mul_le_mul l1 l3
  have hW2 : W * H ≤ 6 * 4 := Nat.mul_le_mul l2 l4
  rw [d2, d3, ← Int32.ofNat_mul, show (0 : Int32) = Int32.ofNat 0 from rfl, nn_lt (by decide) (by omega), nn_lt (by decide) (by omega)]
  omega
theorem kn_ne (hk : m.1 0 14 = 1) : ¬ m.1 0 14 = 0 := fun z => by rw [z] at hk; exact absurd hk (by decide)
theorem isPl_P (h : InvA m W H P ls) {l : Int32} (hl : isPl (m.1 0 14) (m.1 14 3) (m.1 14 4) l) : ∃ Q, Q < W * H ∧ l = Int32.ofNat Q := by
  obtain ⟨h1, h2, h3⟩ := hl
  have hk : m.1 0 14 = 1 := h.1.2.1.resolve_left h1
  obtain ⟨⟨l1, l2, l3, l4⟩, d2, d3, -⟩ := h.1.2.2.2.2.1 hk
  have hW2 : W * H ≤ 6 * 4 := Nat.mul_le_mul l2 l4
  rw [d2, d3, ← Int32.ofNat_mul] at h3
  exact ⟨l.toNatClampNeg, (nn_ltk h2 (by omega)).mp h3, nn_of h2⟩
/-- one place anew -/
def rowOK (W H : Nat) (r : Nat → Int32) : Prop := (0 ≤ r 0 ∧ r 0 ≤ 200) ∧ (0 ≤ r 1 ∧ r 1 ≤ 5) ∧ (r 2 = -1 ∨ ∃ P, P < W * H ∧ r 2 = Int32.ofNat P) ∧ (0 ≤ r 3 ∧ r 3 ≤ 99) ∧ (r 4 = 0 ∨ r 4 = 1) ∧ (r 2 = -1 → r 4 = 0)
theorem TB_row {W H : Nat} {T T' : TT} (h : TB W H T) (b : Nat) (hne : ∀ i k, ¬ i = b → T' i k = T i k) (hb : T' b 5 = 1 → rowOK W H (T' b)) : TB W H T' := by
  intro i hi
  by_cases e : i = b
  · subst e; exact hb hi
  · rw [hne i 5 e] at hi
    rw [hne i 0 e, hne i 1 e, hne i 2 e, hne i 3 e, hne i 4 e]
    exact h i hi
theorem ofN_ne {Q : Nat} (h : Q < 2 ^ 31) : ¬ Int32.ofNat Q = -1 := fun z => nn_n0 h (by rw [z]; decide)
theorem up_eq {T : TT} {b k : Nat} {v : Int32} : upT T b k v b k = v := if_pos ⟨rfl, rfl⟩
theorem up_ne {T : TT} {b k k' : Nat} {v : Int32} (h : ¬ k' = k) : upT T b k v b k' = T b k' := if_neg (fun z => h z.2)
theorem coin_dn {c : Int32} (hc : ∃ n, c = Int32.ofNat n ∧ n ≤ 999) (h1 : ¬ c < 1) : ∃ n, c - 1 = Int32.ofNat n ∧ n ≤ 999 := by
  obtain ⟨n, rfl, hn⟩ := hc
  have : ¬ n < 1 := fun z => h1 ((nn_lt (k := 1) (by omega) (by decide)).mpr z)
  obtain ⟨j, rfl⟩ : ∃ j, n = j + 1 := ⟨n - 1, by omega⟩
  exact ⟨j, nn_p j, by omega⟩
theorem q_lay (hi : Inv m) (x l : Int32) : EQ m (fun m => fX10_lay m x l) (fun m => fX11_lay m x l) := by
  obtain ⟨W, H, P, ls, h⟩ := hi
  by_cases hx : tx (thc m 34) x 5 = 1
  · obtain ⟨h0, ex, hT5, htx⟩ := tx_b hx
    generalize x.toNatClampNeg = b at ex hT5 htx
    subst ex
    have hk := IA_known h hT5
    have hb8 := (thc_5 hT5).1
    have hkd : mm_kd (34 + b) = (9, 6) := kd_p hb8
    obtain ⟨hpp, hh⟩ := plots_pos h hk
    have rIP : ∀ {m1 : mm_MM}, SeeR m m1 → fX11_isPlot m1 l = some (if isPl (m.1 0 14) (m.1 14 3) (m.1 14 4) l then 1 else 0, m1) := fun {m1} hs => by
      rw [r_isPlot m1 l (by rw [hs.2.2.1, hs.2.2.2.1]; exact hpp), hs.2.1, hs.2.2.1, hs.2.2.2.1]
    have e2 := thc_k hT5 (show 2 < 5 by decide)
    by_cases hp : isPl (m.1 0 14) (m.1 14 3) (m.1 14 4) l
    · by_cases hl : thc m 34 b 2 = -1 ∧ inPl (thc m 34) l 8 0 = -1
      · have hnl : ¬ lyT (thc m 34) b := fun z => z.2 hl.1
        by_cases hc : m.1 29 6 < 1
        · refine EQ_refuse (v := -1) h 3 ?_ ?_
          · simp only [fX10_lay, c_find_n m hb8, if_pos hT5, Option.bind_some, if_pos hkd, c_isPlot, if_pos hp, if_neg (show ¬ (1 : Int32) = 0 by decide), ← e2, hl.1, if_true, c_placeOfPlot, hl.2, if_pos hc, (c_ref m).2.2.2.1, mR]
          · have hs := seeR h 3
            simp only [fX11_lay, fX11_lay_c62, r_isThere_n _ hb8, hs.1, if_pos hT5, Option.bind_some, if_neg (show ¬ (1 : Int32) = 0 by decide), rIP hs, if_pos hp, r_doesLie_n _ hb8, if_neg hnl, if_true, r_inPlot, hl.2, hs.2.2.2.2.2.2.1, if_pos hc, (r_ref _).2.2.2.1]
        · obtain ⟨mc, e, sc, qc⟩ := StepC_keep h
          have n6 := qc 29 6 (by omega)
          have sc2 := StepC_fld (b := b) (k := 4) (v := 1) (StepC_fld (b := b) (k := 2) (v := l) (StepC_coin (v := m.1 29 6 - 1) sc) hT5 (by decide) (fun z => absurd z (by decide))) ((up_ne (by decide)).trans hT5) (by decide) (fun _ => Or.inr rfl)
          obtain ⟨mr, er, sr, qr⟩ := StepR_keep h sc2.1
          have hs := see h sc2.1
          have sr2 := StepR_fld (b := b) (k := 4) (v := 1) (StepR_fld (b := b) (k := 2) (v := l) (StepR_coin (v := m.1 29 6 - 1) sr) hT5 (by decide)) ((up_ne (by decide)).trans hT5) (by decide)
          refine EQ_act (v := m.1 29 6 - 1) h hk sc2 sr2 ?_ (kp_P h) ?_ ?_
          rotate_left
          · simp only [fX10_lay, c_find_n m hb8, if_pos hT5, Option.bind_some, if_pos hkd, c_isPlot, if_pos hp, if_neg (show ¬ (1 : Int32) = 0 by decide), ← e2, hl.1, if_true, c_placeOfPlot, hl.2, if_neg hc, e, n6]
            rw [wI_ne (show ¬ 29 = 34 + b by omega), wI_ne (show ¬ 29 = 34 + b by omega), wI_eq]
          · have n48 := (qr 623 48 (by decide) (by omega)).trans hs.2.2.2.2.2.2.1
            simp only [fX11_lay, fX11_lay_c62, r_isThere_n _ hb8, hs.1, if_pos hT5, Option.bind_some, if_neg (show ¬ (1 : Int32) = 0 by decide), rIP hs, if_pos hp, r_doesLie_n _ hb8, if_neg hnl, if_true, r_inPlot, hl.2, hs.2.2.2.2.2.2.1, if_neg hc, r_ref0, er, r_set2 _ _ hb8, r_set4 _ _ hb8, n48]
            rw [wI_nk (show ¬ 48 = 6 * b + 4 by omega), wI_nk (show ¬ 48 = 6 * b + 2 by omega), wI_eq]
          · obtain ⟨v1, v2, v3⟩ := h.2.1.2.2.2.1
            refine ⟨?_, coin_dn v2 hc, v3⟩
            obtain ⟨Q, hQ, eQ⟩ := isPl_P h hp
            have hQ24 : Q < 24 := (row_n (h.1.2.2.2.2.1 hk).1 hQ).2.2
            obtain ⟨b0, b1, -, b3, -⟩ := v1 b hT5
            show TB W H (upT (upT (cV m 29).1 b 2 l) b 4 1)
            refine TB_row v1 b (fun i k hib => by unfold upT; rw [if_neg (by omega), if_neg (by omega)]) (fun _ => ?_)
            have u : ∀ k, ¬ k = 2 → ¬ k = 4 → upT (upT (cV m 29).1 b 2 l) b 4 1 b k = (cV m 29).1 b k := fun k k2 k4 => by rw [up_ne k4, up_ne k2]
            have u2 : upT (upT (cV m 29).1 b 2 l) b 4 1 b 2 = l := by rw [up_ne (by decide), up_eq]
            unfold rowOK
            rw [u 0 (by decide) (by decide), u 1 (by decide) (by decide), u 3 (by decide) (by decide), u2, up_eq]
            exact ⟨b0, b1, Or.inr ⟨Q, hQ, eQ⟩, b3, Or.inr rfl, fun z => absurd (eQ ▸ z) (ofN_ne (by omega))⟩
      · refine EQ_refuse (v := -1) h 2 ?_ ?_
        · by_cases h2 : thc m 34 b 2 = -1
          · have h3 : ¬ inPl (thc m 34) l 8 0 = -1 := fun z => hl ⟨h2, z⟩
            simp only [fX10_lay, fX10_lay_c53, c_find_n m hb8, if_pos hT5, Option.bind_some, if_pos hkd, c_isPlot, if_pos hp, if_neg (show ¬ (1 : Int32) = 0 by decide), ← e2, h2, if_true, c_placeOfPlot, if_neg h3, (c_ref m).2.2.1, mR]
          · simp only [fX10_lay, fX10_lay_c53, c_find_n m hb8, if_pos hT5, Option.bind_some, if_pos hkd, c_isPlot, if_pos hp, if_neg (show ¬ (1 : Int32) = 0 by decide), ← e2, if_neg h2, (c_ref m).2.2.1, mR]
        · have hs := seeR h 2
          by_cases h2 : thc m 34 b 2 = -1
          · have h3 : ¬ inPl (thc m 34) l 8 0 = -1 := fun z => hl ⟨h2, z⟩
            have hnl : ¬ lyT (thc m 34) b := fun z => z.2 h2
            simp only [fX11_lay, fX11_lay_c42, fX11_lay_c62, r_isThere_n _ hb8, hs.1, if_pos hT5, Option.bind_some, if_neg (show ¬ (1 : Int32) = 0 by decide), rIP hs, if_pos hp, r_doesLie_n _ hb8, if_neg hnl, if_true, r_inPlot, if_neg h3, (r_ref _).2.2.1]
          · have hly : lyT (thc m 34) b := ⟨hT5, h2⟩
            simp only [fX11_lay, fX11_lay_c42, fX11_lay_c62, r_isThere_n _ hb8, hs.1, if_pos hT5, Option.bind_some, if_neg (show ¬ (1 : Int32) = 0 by decide), rIP hs, if_pos hp, r_doesLie_n _ hb8, if_pos hly, (r_ref _).2.2.1]
    · refine EQ_refuse (v := -1) h 1 ?_ ?_
      · simp only [fX10_lay, c_find_n m hb8, if_pos hT5, Option.bind_some, if_pos hkd, c_isPlot, if_neg hp, if_true, (c_ref m).2.1, mR]
      · have hs := seeR h 1
        simp only [fX11_lay, fX11_lay_c62, r_isThere_n _ hb8, hs.1, if_pos hT5, Option.bind_some, if_neg (show ¬ (1 : Int32) = 0 by decide), rIP hs, if_neg hp, if_true, (r_ref _).2.1]
  · refine EQ_refuse (v := -1) h 0 ?_ ?_
    · simp only [fX10_lay, c_find, if_neg hx, Option.bind_some, (c_ref m).1, mR]
    · have hs := seeR h 0
      simp only [fX11_lay, fX11_lay_c62, r_isThere, hs.1, if_neg hx, Option.bind_some, if_true, (r_ref _).1, if_neg (show ¬ (1 : Int32) = 0 by decide)]
end ACTS
