/-! QUESTIONS that read, and what is set at once -/
section ASK
variable {m m1 : mm_MM} {W H : Nat} {P P1 : List Vw} {ls : Nat → List Cla} {V V1 : Vw}
theorem EQ_0 {f g : mm_MM → Option (Int32 × mm_MM)} {v : Int32} (hi : Inv m) (hf : f m = some (v, m)) (hg : g m = some (v, m)) : EQ m f g := ⟨v, m, m, hf, hg, hi⟩
theorem i5 {x : Int32} (h : ¬ x < 0) (h4 : x ≤ 4) : x = 0 ∨ x = 1 ∨ x = 2 ∨ x = 3 ∨ x = 4 := by
  have e := nn_of h
  have a := (nn_lek (k := 4) h (by decide)).mp h4
  generalize x.toNatClampNeg = n at e a
  subst e
  obtain rfl | rfl | rfl | rfl | rfl : n = 0 ∨ n = 1 ∨ n = 2 ∨ n = 3 ∨ n = 4 := by omega
  all_goals decide
theorem q_rule (hi : Inv m) (x : Int32) : EQ m (fun m => fX10_rule m x) (fun m => fX11_rule m x) := by
  obtain ⟨W, H, P, ls, h⟩ := id hi
  have hs := see0 h
  obtain ⟨-, -, ⟨e3, e4, e5, e6⟩, -⟩ := h.1
  by_cases hk : m.1 0 14 = 0
  · refine EQ_0 (v := -1) hi ?_ ?_
    · simp only [fX10_rule, if_pos hk]
    · simp only [fX11_rule, hs.2.1, if_pos hk, fX11_rule_c16, fX11_rule_c41]
  · by_cases hx : x < 0 ∨ ¬ x ≤ 4
    · have n : ¬ x = 0 ∧ ¬ x = 1 ∧ ¬ x = 2 ∧ ¬ x = 3 ∧ ¬ x = 4 := by
        refine ⟨fun z => ?_, fun z => ?_, fun z => ?_, fun z => ?_, fun z => ?_⟩ <;> rw [z] at hx <;> exact absurd hx (by decide)
      have hz : (if x < 0 then (0 : Int32) else if x ≤ 4 then 1 else 0) = 0 := by
        by_cases h1 : x < 0
        · rw [if_pos h1]
        · rw [if_neg h1, if_neg (hx.resolve_left h1)]
      refine EQ_0 (v := -1) hi ?_ ?_
      · simp only [fX10_rule, if_neg hk, n.1, n.2.1, n.2.2.1, n.2.2.2.1, n.2.2.2.2, if_false]
      · simp only [fX11_rule, hs.2.1, if_neg hk, r_in, hz, Option.bind_some, if_true, fX11_rule_c16, fX11_rule_c41]
    · have h0 : ¬ x < 0 := fun z => hx (Or.inl z)
      have h4 : x ≤ 4 := Classical.not_not.mp fun z => hx (Or.inr z)
      rcases i5 h0 h4 with rfl | rfl | rfl | rfl | rfl
      · refine EQ_0 (v := m.1 14 3) hi (by simp [fX10_rule, hk]) ?_
        simp [fX11_rule, hs.2.1, hk, r_in, fX11_rule_c41, e3]
      · refine EQ_0 (v := m.1 14 4) hi (by simp [fX10_rule, hk]) ?_
        simp [fX11_rule, hs.2.1, hk, r_in, fX11_rule_c41, e4]
      · refine EQ_0 (v := m.1 14 5) hi (by simp [fX10_rule, hk]) ?_
        rw [e5]
        simp [fX11_rule, hs.2.1, hk, r_in, fX11_rule_c41]
      · refine EQ_0 (v := m.1 14 6) hi (by simp [fX10_rule, hk]) ?_
        rw [e6]
        simp [fX11_rule, hs.2.1, hk, r_in, fX11_rule_c41]
      · refine EQ_0 (v := m.1 29 6) hi (by simp [fX10_rule, hk]) ?_
        simp [fX11_rule, hs.2.1, hk, r_in, fX11_rule_c41, hs.2.2.2.2.2.2.1]
theorem rw_ok (h : InvA m W H P ls) {x : Int32} (hr : isRw (m.1 0 14) (m.1 14 4) x) : ¬ x < 0 ∧ x.toNatClampNeg < H ∧ H ≤ 4 := by
  obtain ⟨h1, h2, h3⟩ := hr
  have hk : m.1 0 14 = 1 := h.1.2.1.resolve_left h1
  obtain ⟨⟨l1, l2, l3, l4⟩, d2, d3, -⟩ := h.1.2.2.2.2.1 hk
  rw [d3] at h3
  exact ⟨h2, (nn_ltk h2 (by omega)).mp h3, l4⟩
theorem r_isRw (h : InvA m W H P ls) (hs : SeeR m m1) (x : Int32) : fX11_isRow m1 x = some (if isRw (m.1 0 14) (m.1 14 4) x then 1 else 0, m1) := by
  by_cases hk : m.1 0 14 = 0
  · have : ¬ isRw (m.1 0 14) (m.1 14 4) x := fun z => z.1 hk
    rw [if_neg this]
    simp only [fX11_isRow, hs.2.1, if_pos hk, fX11_isRow_c27, fX11_isRow_c28]
    rfl
  · rw [r_isRow m1 x (by rw [hs.2.2.2.1]; exact (plots_pos h (h.1.2.1.resolve_left hk)).2), hs.2.1, hs.2.2.2.1]
theorem r_isPl (h : InvA m W H P ls) (hs : SeeR m m1) (x : Int32) : fX11_isPlot m1 x = some (if isPl (m.1 0 14) (m.1 14 3) (m.1 14 4) x then 1 else 0, m1) := by
  by_cases hk : m.1 0 14 = 0
  · have : ¬ isPl (m.1 0 14) (m.1 14 3) (m.1 14 4) x := fun z => z.1 hk
    rw [if_neg this]
    simp only [fX11_isPlot, hs.2.1, if_pos hk, fX11_isPlot_c25, fX11_isPlot_c26]
    rfl
  · rw [r_isPlot m1 x (by rw [hs.2.2.1, hs.2.2.2.1]; exact (plots_pos h (h.1.2.1.resolve_left hk)).1), hs.2.1, hs.2.2.1, hs.2.2.2.1]
theorem q_damp (hi : Inv m) (x : Int32) : EQ m (fun m => fX10_damp m x) (fun m => fX11_damp m x) := by
  obtain ⟨W, H, P, ls, h⟩ := id hi
  have hs := see0 h
  by_cases hr : isRw (m.1 0 14) (m.1 14 4) x
  · obtain ⟨h0, h1, h4⟩ := rw_ok h hr
    refine EQ_0 (v := m.1 15 x.toNatClampNeg) hi ?_ ?_
    · simp only [fX10_damp, c_isRow, if_pos hr, Option.bind_some, if_neg (show ¬ (1 : Int32) = 0 by decide), c_pick m 15 x 4 rfl (by decide), if_neg h0, if_pos (show x.toNatClampNeg < 4 by omega), fX10_damp_c23]
    · simp only [fX11_damp, r_isRw h hs, if_pos hr, Option.bind_some, if_neg (show ¬ (1 : Int32) = 0 by decide), fX11_damp_c18]
      rw [nn_g h0 (show x.toNatClampNeg < 4 by omega), h.1.2.2.2.1 _ (by omega)]
  · refine EQ_0 (v := -1) hi ?_ ?_
    · simp only [fX10_damp, c_isRow, if_neg hr, Option.bind_some, if_true, fX10_damp_c23]
    · simp only [fX11_damp, r_isRw h hs, if_neg hr, Option.bind_some, if_true, fX11_damp_c18]
theorem q_lies (hi : Inv m) (x : Int32) : EQ m (fun m => fX10_lies m x) (fun m => fX11_lies m x) := by
  obtain ⟨W, H, P, ls, h⟩ := id hi
  have hs := see0 h
  by_cases hr : isPl (m.1 0 14) (m.1 14 3) (m.1 14 4) x
  · refine EQ_0 (v := inPl (thc m 34) x 8 0) hi ?_ ?_
    · simp only [fX10_lies, c_isPlot, if_pos hr, Option.bind_some, if_neg (show ¬ (1 : Int32) = 0 by decide), c_placeOfPlot, fX10_lies_c20]
    · simp only [fX11_lies, r_isPl h hs, if_pos hr, Option.bind_some, if_neg (show ¬ (1 : Int32) = 0 by decide), r_inPlot, hs.1, fX11_lies_c17]
  · refine EQ_0 (v := -1) hi ?_ ?_
    · simp only [fX10_lies, c_isPlot, if_neg hr, Option.bind_some, if_true, fX10_lies_c20]
    · simp only [fX11_lies, r_isPl h hs, if_neg hr, Option.bind_some, if_true, fX11_lies_c17]
theorem q_status (hi : Inv m) (x : Int32) : EQ m (fun m => fX10_status m x) (fun m => fX11_status m x) := by
  obtain ⟨W, H, P, ls, h⟩ := id hi
  by_cases hx : x < 0 ∨ ¬ x < 5
  · refine EQ_0 (v := -1) hi ?_ ?_
    · by_cases h0 : x < 0
      · simp only [fX10_status, if_pos h0, fX10_status_c20, fX10_status_c21]
      · simp only [fX10_status, if_neg h0, if_neg (hx.resolve_left h0), fX10_status_c20, fX10_status_c21]
    · have hz : (if x < 0 then (0 : Int32) else if x ≤ 4 then 1 else 0) = 0 := by
        by_cases h1 : x < 0
        · rw [if_pos h1]
        · rw [if_neg h1, if_neg (by have := hx.resolve_left h1; grind)]
      simp only [fX11_status, r_in, hz, Option.bind_some, if_true, fX11_status_c19]
  · have h0 : ¬ x < 0 := fun z => hx (Or.inl z)
    have h5 : x < 5 := Classical.not_not.mp fun z => hx (Or.inr z)
    have hn : x.toNatClampNeg < 5 := (nn_ltk (k := 5) h0 (by decide)).mp h5
    have h4 : x ≤ 4 := by grind
    refine EQ_0 (v := m.1 592 x.toNatClampNeg) hi ?_ ?_
    · simp only [fX10_status, if_neg h0, if_pos h5, c_pick m 592 x 5 rfl (by decide), if_pos hn, Option.bind_some, fX10_status_c21]
    · simp only [fX11_status, r_in, if_neg h0, if_pos h4, Option.bind_some, if_neg (show ¬ (1 : Int32) = 0 by decide), fX11_status_c19]
      rw [nn_g h0 hn, h.2.2.2.2.2.1.2 _ hn]
/-- the log's length on both sides -/
theorem log_L (h : InvA m W H P ls) : ∃ L N, L ≤ 60 ∧ N < 60 ∧ m.1 29 4 = Int32.ofNat L ∧ m.1 29 5 = Int32.ofNat N ∧ m.1 623 50 = Int32.ofNat L ∧ ∀ j w, j < L → w < 3 → m.1 (31 + w) ((N + 60 - L + j) % 60) = m.1 623 (51 + 3 * j + w) := by
  obtain ⟨s1, ⟨⟨L, N, a1, a2, a3, a4⟩, -⟩, ⟨L', b1, b2⟩, -⟩ := h.2.1
  have e : (m.1 29 4).toNatClampNeg = (m.1 623 (0 + 50)).toNatClampNeg := congrArg (fun V : Vw => V.2.2.2.1) s1
  rw [a1, b1, nn_tn (by omega), nn_tn (by omega)] at e
  subst e
  rw [Nat.zero_add] at b1
  refine ⟨L, N, a2, a4, a1, a3, b1, fun j w hj hw => ?_⟩
  have e2 : lgC m 29 (m.1 29 4).toNatClampNeg (m.1 29 5).toNatClampNeg j w = lgR m 623 0 (m.1 623 (0 + 50)).toNatClampNeg j w := congrFun (congrFun (congrArg (fun V : Vw => V.2.2.2.2) s1) j) w
  rw [Nat.zero_add, a1, a3, b1, nn_tn (by omega), nn_tn (by omega)] at e2
  unfold lgC lgR at e2
  rw [if_pos ⟨hj, hw⟩, if_pos ⟨hj, hw⟩, Nat.zero_add] at e2
  exact e2
theorem q_law (hi : Inv m) (x : Int32) : EQ m (fun m => fX10_law m x) (fun m => fX11_law m x) := by
  obtain ⟨W, H, P, ls, h⟩ := id hi
  obtain ⟨q, a1, a2, a3, a4, a5, a6⟩ := h.2.2.2.2.1
  have hq : ∀ x : Int32, x ≤ Int32.ofNat q - 1 ↔ x < Int32.ofNat q := fun x => by
    obtain rfl | rfl | rfl | rfl | rfl : q = 0 ∨ q = 1 ∨ q = 2 ∨ q = 3 ∨ q = 4 := by omega
    · have : Int32.ofNat 0 = 0 := rfl
      grind
    · have : Int32.ofNat 1 = 1 := rfl
      grind
    · have : Int32.ofNat 2 = 2 := rfl
      grind
    · have : Int32.ofNat 3 = 3 := rfl
      grind
    · have : Int32.ofNat 4 = 4 := rfl
      grind
  by_cases hx : x < -1 ∨ ¬ x < Int32.ofNat q
  · refine EQ_0 (v := 0) hi ?_ ?_
    · by_cases h0 : x < -1
      · simp only [fX10_law, if_pos h0, fX10_law_c13]
      · simp only [fX10_law, if_neg h0, a2, if_neg (hx.resolve_left h0), fX10_law_c13]
    · have hz : (if x < -1 then (0 : Int32) else if x ≤ Int32.ofNat q - 1 then 1 else 0) = 0 := by
        by_cases h1 : x < -1
        · rw [if_pos h1]
        · rw [if_neg h1, if_neg (fun z => (hx.resolve_left h1) ((hq x).mp z))]
      simp only [fX11_law, r_in, a3, hz, Option.bind_some, if_true]
  · have h0 : ¬ x < -1 := fun z => hx (Or.inl z)
    have h5 : x < Int32.ofNat q := Classical.not_not.mp fun z => hx (Or.inr z)
    have rr : ∀ a k, ¬ (a = 0 ∧ k = 17) → ¬ (a = 606 ∧ k = 29) → (wI (wI m 0 17 x) 606 29 x).1 a k = m.1 a k := fun a k z1 z2 => by
      rw [wI_1, if_neg z2, wI_1, if_neg z1]
    refine ⟨1, wI m 0 17 x, wI (wI m 0 17 x) 606 29 x, ?_, ?_, W, H, P, ls, InvF_c (fun a k z => rr _ _ (by omega) (by omega)) h.1, InvS_c (fun a k z => rr _ _ (by omega) (by omega)) h.2.1, InvI_c (fun a k z => rr _ _ (by omega) (by omega)) h.2.2.1, InvT_c (fun a k z => rr _ _ (by omega) (by omega)) h.2.2.2.1, ?_, InvM_c (fun a k z => rr _ _ (by omega) (by omega)) h.2.2.2.2.2.1, InvG_c (fun a k z => rr _ _ (by omega) (by omega)) h.2.2.2.2.2.2⟩
    · simp only [fX10_law, if_neg h0, a2, if_pos h5]
    · simp only [fX11_law, r_in]
      rw [wI_ne (show ¬ 606 = 0 by decide), a3, if_neg h0, if_pos ((hq x).mpr h5)]
      rfl
    · refine ⟨q, a1, (rr _ _ (by omega) (by omega)).trans a2, (rr _ _ (by omega) (by omega)).trans a3, fun i hi => ?_, ?_, ?_⟩
      · obtain ⟨b1, b2, b3⟩ := a4 i hi
        exact ⟨LawC_c (fun a k z => rr _ _ (by omega) (by omega)) b1, LawR_fr (fun a ha k => rr _ _ (by omega) (by omega)) b2, b3⟩
      · rw [wI_eq, wI_ne (by decide), wI_eq]
      · rw [wI_ne (by decide), wI_eq]
        by_cases h1 : x < 0
        · left; grind
        · right
          have := (nn_ltk h1 (by omega)).mp h5
          exact ⟨x.toNatClampNeg, this, nn_of h1⟩
theorem q_moles (hi : Inv m) (x : Int32) : EQ m (fun m => fX10_moles m x) (fun m => fX11_moles m x) := by
  obtain ⟨W, H, P, ls, h⟩ := id hi
  have e18 := h.2.2.2.2.2.1.1
  by_cases hx : x < 0 ∨ ¬ x ≤ 9 ∨ x = m.1 0 18
  · refine EQ_0 (v := 0) hi ?_ ?_
    · by_cases h0 : x < 0
      · simp only [fX10_moles, if_pos h0, fX10_moles_c18]
      · by_cases h9 : x ≤ 9
        · have h3 := (hx.resolve_left h0).resolve_left (fun z => z h9)
          simp only [fX10_moles, if_neg h0, if_pos h9, if_pos h3, fX10_moles_c18]
        · simp only [fX10_moles, if_neg h0, if_neg h9, fX10_moles_c18]
    · by_cases h0 : x < 0
      · simp only [fX11_moles, r_in, if_pos h0, Option.bind_some, if_true, fX11_moles_c18]
      · by_cases h9 : x ≤ 9
        · have h3 := (hx.resolve_left h0).resolve_left (fun z => z h9)
          simp only [fX11_moles, r_in, if_neg h0, if_pos h9, Option.bind_some, if_neg (show ¬ (1 : Int32) = 0 by decide), ← e18, if_pos h3, fX11_moles_c18]
        · simp only [fX11_moles, r_in, if_neg h0, if_neg h9, Option.bind_some, if_true, fX11_moles_c18]
  · have h0 : ¬ x < 0 := fun z => hx (Or.inl z)
    have h9 : x ≤ 9 := Classical.not_not.mp fun z => hx (Or.inr (Or.inl z))
    have h3 : ¬ x = m.1 0 18 := fun z => hx (Or.inr (Or.inr z))
    have rr : ∀ a k, ¬ (a = 0 ∧ k = 18) → ¬ (a = 606 ∧ k = 30) → (wI (wI m 0 18 x) 606 30 x).1 a k = m.1 a k := fun a k z1 z2 => by
      rw [wI_1, if_neg z2, wI_1, if_neg z1]
    refine ⟨1, wI m 0 18 x, wI (wI m 0 18 x) 606 30 x, ?_, ?_, W, H, P, ls, InvF_c (fun a k z => rr _ _ (by omega) (by omega)) h.1, InvS_c (fun a k z => rr _ _ (by omega) (by omega)) h.2.1, InvI_c (fun a k z => rr _ _ (by omega) (by omega)) h.2.2.1, InvT_c (fun a k z => rr _ _ (by omega) (by omega)) h.2.2.2.1, InvL_c (fun a k z => rr _ _ (by omega) (by omega)) h.2.2.2.2.1, ⟨by rw [wI_eq, wI_ne (by decide), wI_eq], fun k hk => by rw [rr _ _ (by omega) (by omega), rr _ _ (by omega) (by omega)]; exact h.2.2.2.2.2.1.2 k hk⟩, InvG_c (fun a k z => rr _ _ (by omega) (by omega)) h.2.2.2.2.2.2⟩
    · simp only [fX10_moles, if_neg h0, if_pos h9, if_neg h3]
    · simp only [fX11_moles, r_in, if_neg h0, if_pos h9, Option.bind_some, if_neg (show ¬ (1 : Int32) = 0 by decide)]
      rw [wI_ne (show ¬ 606 = 0 by decide), ← e18, if_neg h3]
theorem q_end (hi : Inv m) (x : Int32) : EQ m (fun m => fX10_end m x) (fun m => fX11_end m x) := by
  obtain ⟨W, H, P, ls, h⟩ := id hi
  obtain ⟨n, a1, a2, a3, a4⟩ := h.2.2.2.1
  by_cases hx : x < 0 ∨ ¬ x ≤ Int32.ofNat n
  · refine EQ_0 (v := 0) hi ?_ ?_
    · by_cases h0 : x < 0
      · simp only [fX10_end, if_pos h0, fX10_end_c15]
      · simp only [fX10_end, if_neg h0, fX8_size, a2, Option.bind_some, if_neg (hx.resolve_left h0), fX10_end_c15]
    · by_cases h0 : x < 0
      · simp only [fX11_end, if_pos h0, fX11_end_c12]
      · simp only [fX11_end, if_neg h0, a3, if_neg (hx.resolve_left h0), fX11_end_c12]
  · have h0 : ¬ x < 0 := fun z => hx (Or.inl z)
    have h5 : x ≤ Int32.ofNat n := Classical.not_not.mp fun z => hx (Or.inr z)
    have hk := (nn_lek h0 (by omega)).mp h5
    have rr : ∀ a k, ¬ (a = 1 ∧ k = 1) → ¬ (a = 606 ∧ k = 2) → (wI (wI m 1 1 x) 606 2 x).1 a k = m.1 a k := fun a k z1 z2 => by
      rw [wI_1, if_neg z2, wI_1, if_neg z1]
    refine ⟨1, wI m 1 1 x, wI (wI m 1 1 x) 606 2 x, ?_, ?_, W, H, P, ls, InvF_c (fun a k z => rr _ _ (by omega) (by omega)) h.1, InvS_c (fun a k z => rr _ _ (by omega) (by omega)) h.2.1, InvI_c (fun a k z => rr _ _ (by omega) (by omega)) h.2.2.1, ⟨x.toNatClampNeg, by omega, by rw [wI_ne (by decide), wI_eq]; exact nn_of h0, by rw [wI_eq]; exact nn_of h0, fun i hi => ?_⟩, InvL_c (fun a k z => rr _ _ (by omega) (by omega)) h.2.2.2.2.1, InvM_c (fun a k z => rr _ _ (by omega) (by omega)) h.2.2.2.2.2.1, InvG_c (fun a k z => rr _ _ (by omega) (by omega)) h.2.2.2.2.2.2⟩
    · simp only [fX10_end, if_neg h0, fX8_size, a2, Option.bind_some, if_pos h5, fX8_cut]
    · simp only [fX11_end, if_neg h0]
      rw [wI_ne (show ¬ 606 = 1 by decide), a3, if_pos h5]
    · rw [rr _ _ (by omega) (by omega), rr _ _ (by omega) (by omega)]
      exact a4 i (by omega)
end ASK
