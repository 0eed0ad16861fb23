/-! FAULTS AND TEXTS -/
section TXT
variable {m m' : mm_MM}
theorem LawR_t {t i : Nat} {cs : List Cla} (h : LFr t m m') (hi : ¬ i = t) (hl : LawR m i cs) : LawR m' i cs := by
  obtain ⟨a1, a2, a3, a4⟩ := hl
  refine ⟨(h 611 i (by omega)).trans a1, a2, a3, rowsR_up cs 0 0 139 519 (by omega) (by omega) (fun a z1 z2 k y1 y2 => h a k (by omega)) (fun a ha k y1 y2 => h a k (by omega)) a4⟩
/-- what the law's readers write, the slot's tokens aside -/
def LwZ (a k : Nat) : Prop := (a = 1 ∧ k = 2) ∨ (a = 25 ∧ k = 2) ∨ a = 26 ∨ (a = 606 ∧ (k = 3 ∨ k = 4 ∨ k = 5 ∨ k = 14)) ∨ (608 ≤ a ∧ a < 615)
theorem LwZ_CR {t : Nat} {m1 m2 : mm_MM} (hc : CF m m1 0) (hr : LFr t m1 m2) : ∀ a k, ¬ LwZ a k → m2.1 a k = m.1 a k := fun a k z => by
  unfold LwZ at z
  rw [hr a k (by omega), hc a k (by omega)]
theorem Inv_lw {t : Nat} {m1 m2 : mm_MM} (hi : Inv m) (hc : CF m m1 0) (hr : LFr t m1 m2) (ht : ∀ q, m.1 606 13 = Int32.ofNat q → q ≤ 4 → q ≤ t) : Inv m2 := by
  obtain ⟨W, H, P, ls, h⟩ := hi
  have c := LwZ_CR hc hr
  unfold LwZ at c
  refine ⟨W, H, P, ls, InvF_c (fun a k z => c _ _ (by omega)) h.1, InvS_c (fun a k z => c _ _ (by omega)) h.2.1, InvI_c (fun a k z => c _ _ (by omega)) h.2.2.1, InvT_c (fun a k z => c _ _ (by omega)) h.2.2.2.1, ?_, InvM_c (fun a k z => c _ _ (by omega)) h.2.2.2.2.2.1, InvG_c (fun a k z => c _ _ (by omega)) h.2.2.2.2.2.2⟩
  obtain ⟨q, a1, a2, a3, a4, a5, a6⟩ := h.2.2.2.2.1
  have hq := ht q a3 a1
  refine ⟨q, a1, (c _ _ (by omega)).trans a2, (c _ _ (by omega)).trans a3, fun i hi => ?_, by rw [c 0 17 (by omega), c 606 29 (by omega)]; exact a5, by rw [c 0 17 (by omega)]; exact a6⟩
  obtain ⟨b1, b2, b3⟩ := a4 i hi
  refine ⟨LawC_c (fun a k z => c _ _ (by omega)) b1, ?_, b3⟩
  have b2' : LawR m1 i (ls i) := LawR_fr (fun a ha k => hc a k (by omega)) b2
  exact LawR_t hr (by omega) b2'
theorem q_fault1 (hi : Inv m) : EQ m (fun m => fX10_fault m 1) (fun m => fX11_fault m 1) := by
  obtain ⟨W, H, P, ls, h⟩ := id hi
  obtain ⟨n, B, hn, -, hB, tC, tR⟩ := InvT_tp h.2.2.2.1
  obtain ⟨v, m1, e1, f1, g⟩ := law_read hn hB tC ⟨m, tR⟩
  obtain ⟨m2, e2, f2, -⟩ := g 4 (by decide) m1 ⟨(f1 606 2 (by omega)).trans tR.1, fun i hi => (f1 607 i (by omega)).trans (tR.2 i hi)⟩
  refine ⟨v, m1, m2, ?_, ?_, Inv_lw hi f1 f2 (fun q _ h => h)⟩
  · show fX10_fault m 1 = _
    unfold fX10_fault fX10_fault_c37
    rw [if_neg (by decide), if_pos rfl, e1]
    rfl
  · show fX11_fault m1 1 = _
    unfold fX11_fault fX11_fault_c26
    rw [if_neg (by decide), if_pos rfl]
    exact bs e2 rfl
theorem q_fault (hi : Inv m) (x : Int32) : EQ m (fun m => fX10_fault m x) (fun m => fX11_fault m x) := by
  by_cases h0 : x = 0
  · subst h0; exact q_fault0 hi
  · by_cases h1 : x = 1
    · subst h1; exact q_fault1 hi
    · refine EQ_0 (v := -2) hi ?_ ?_
      · show fX10_fault m x = _
        unfold fX10_fault fX10_fault_c37
        rw [if_neg h0, if_neg h1]
      · show fX11_fault m x = _
        unfold fX11_fault fX11_fault_c26
        rw [if_neg h0, if_neg h1]
theorem q_text1 (hi : Inv m) : EQ m (fun m => fX10_text m 1) (fun m => fX11_text m 1) := by
  obtain ⟨W, H, P, ls, h⟩ := id hi
  obtain ⟨n, B, hn, -, hB, tC, tR⟩ := InvT_tp h.2.2.2.1
  obtain ⟨q, a1, a2, a3, a4, a5, a6⟩ := h.2.2.2.2.1
  have c0 : ∀ res, fX10_text_c39 m 1 = res → fX10_text m 1 = res := fun res hr => by
    unfold fX10_text
    rw [if_neg (by decide)]; exact hr
  have r0 : ∀ M res, fX11_text_c22 M 1 = res → fX11_text M 1 = res := fun M res hr => by
    unfold fX11_text
    rw [if_neg (by decide)]; exact hr
  by_cases h4 : q < 4
  · have h4I : Int32.ofNat q < 4 := (nn_lt (k := 4) (by omega) (by decide)).mpr h4
    obtain ⟨v, m1, e1, f1, g⟩ := law_read hn hB tC ⟨m, tR⟩
    have tX : ∀ X, (∀ a k, 606 ≤ a → X.1 a k = m.1 a k) → tpeR X B n := fun X hX => ⟨(hX 606 2 (by omega)).trans tR.1, fun i hi => (hX 607 i (by omega)).trans (tR.2 i hi)⟩
    have r1 : ∀ M res, M.1 606 13 = Int32.ofNat q → ((fX11_readLaw M (Int32.ofNat q)).bind fun r3 => (if r3.1 = ((-1) : Int32) then some (((r3.2.1 606 13 + 1) - 1), (wI (wI r3.2 606 2 0) 606 13 (r3.2.1 606 13 + 1))) else fX11_text_c69 r3.2)) = res → fX11_text M 1 = res := fun M res h13 hr => r0 M res (by
      unfold fX11_text_c22
      rw [if_pos rfl, h13, if_pos h4I]; exact hr)
    have c1 : ∀ res, (if v = -1 then (fX8_cut m1 0).bind fun r5 => (fX10_keepLaw r5).bind fun r6 => some (r6.1, r6.2) else fX10_text_c80 m1) = res → fX10_text m 1 = res := fun res hr => c0 res (by
      unfold fX10_text_c39
      rw [if_pos rfl, a2, if_pos h4I, e1]
      exact hr)
    by_cases hv : v = -1
    · -- kept
      subst hv
      have f16 : m1.1 0 16 = Int32.ofNat q := (f1 0 16 (by omega)).trans a2
      have hkd : mm_kd (594 + 3 * q) = (2, 4) := by
        have : ∀ q, q < 4 → mm_kd (594 + 3 * q) = (2, 4) := by decide +kernel
        exact this q h4
      have hla : fX10_lawAt (wI m1 1 1 0) (Int32.ofNat q) = some (some (594 + 3 * q), wI m1 1 1 0) := by
        unfold fX10_lawAt fX10_lawAt_c23
        rw [if_neg (nn_n0 (by omega)), if_pos h4I, nn_go (by omega) h4, nn_tn (by omega)]
        show (if mm_kd (594 + 3 * q) = (2, 4) then _ else _) = _
        rw [if_pos hkd]
      have hcr := c_copyRow (wI m1 1 1 0) (A := 26) (B := 595 + 3 * q) (N := 240) rfl (by
        have := kd_W1 hkd
        rw [show 594 + 3 * q + 1 = 595 + 3 * q by omega] at this
        rw [this]) (by decide) (by omega)
      generalize hmc : cpM (wI m1 1 1 0) (595 + 3 * q) 0 240 26 0 = mc at hcr
      have qc : ∀ a k, ¬ a = 595 + 3 * q → ¬ (a = 1 ∧ k = 1) → mc.1 a k = m1.1 a k := fun a k z1 z2 => by rw [← hmc, cpM_ne z1, wI_1, if_neg z2]
      have qin : ∀ k, k < 240 → mc.1 (595 + 3 * q) k = m1.1 26 k := fun k hk => by
        have := cpM_in (m := wI m1 1 1 0) (B := 595 + 3 * q) (o := 0) (N := 240) (A := 26) (p := 0) hk
        rw [Nat.zero_add, hmc, wI_ne (by decide)] at this
        exact this
      have ecp : fX2_copy (wI m1 1 1 0) (594 + 3 * q) 25 = some (wI mc (594 + 3 * q) 2 (m1.1 25 2)) := by
        unfold fX2_copy
        rw [show 594 + 3 * q + 1 = 595 + 3 * q by omega]
        refine bs hcr ?_
        rw [qc 25 2 (by omega) (by omega)]
      have mkeep : ∀ a k, ¬ a = 595 + 3 * q → ¬ (a = 1 ∧ k = 1) → ¬ (a = 594 + 3 * q ∧ k = 2) → ¬ (a = 0 ∧ k = 16) → (wI (wI mc (594 + 3 * q) 2 (m1.1 25 2)) 0 16 (Int32.ofNat (q + 1))).1 a k = m1.1 a k := fun a k z1 z2 z3 z4 => by
        rw [wI_1, if_neg z4, wI_1, if_neg z3, qc a k z1 z2]
      generalize hme : wI (wI mc (594 + 3 * q) 2 (m1.1 25 2)) 0 16 (Int32.ofNat (q + 1)) = me at mkeep
      have e16 : me.1 0 16 = Int32.ofNat (q + 1) := by rw [← hme, wI_eq]
      have eL2 : me.1 (594 + 3 * q) 2 = m1.1 25 2 := by rw [← hme, wI_ne (by omega), wI_eq]
      have eLr : ∀ k, k < 240 → me.1 (595 + 3 * q) k = m1.1 26 k := fun k hk => by rw [← hme, wI_ne (by omega), wI_ne (by omega), qin k hk]
      have e11 : me.1 1 1 = 0 := by rw [← hme, wI_ne (by decide), wI_ne (by omega), ← hmc, cpM_ne (by omega), wI_eq]
      have hi6 : ∀ a k, 606 ≤ a → me.1 a k = m.1 a k := fun a k z => by rw [mkeep a k (by omega) (by omega) (by omega) (by omega), f1 a k (by omega)]
      obtain ⟨m2, e2, f2, hf⟩ := g q (by omega) me (tX me hi6)
      obtain ⟨cs, L1, L2, L3⟩ := hf rfl
      have e13 : m2.1 606 13 = Int32.ofNat q := by rw [f2 606 13 (by omega), hi6 606 13 (by omega), a3]
      have F : ∀ a k, ¬ LwZ a k → ¬ a = 595 + 3 * q → ¬ (a = 1 ∧ k = 1) → ¬ (a = 594 + 3 * q ∧ k = 2) → ¬ (a = 0 ∧ k = 16) → ¬ (a = 606 ∧ (k = 2 ∨ k = 13)) → (wI (wI m2 606 2 0) 606 13 (Int32.ofNat (q + 1))).1 a k = m.1 a k := fun a k z z1 z2 z3 z4 z5 => by
        unfold LwZ at z
        rw [wI_1, if_neg (by omega), wI_1, if_neg (by omega), f2 a k (by omega), mkeep a k z1 z2 z3 z4, f1 a k (by omega)]
      have F2 : ∀ a k, ¬ (a = 606 ∧ (k = 2 ∨ k = 13)) → (wI (wI m2 606 2 0) 606 13 (Int32.ofNat (q + 1))).1 a k = m2.1 a k := fun a k z5 => by
        rw [wI_1, if_neg (by omega), wI_1, if_neg (by omega)]
      have G13 : (wI (wI m2 606 2 0) 606 13 (Int32.ofNat (q + 1))).1 606 13 = Int32.ofNat (q + 1) := wI_eq
      have G2 : (wI (wI m2 606 2 0) 606 13 (Int32.ofNat (q + 1))).1 606 2 = 0 := by rw [wI_nk (by decide), wI_eq]
      refine ⟨Int32.ofNat q, me, wI (wI m2 606 2 0) 606 13 (Int32.ofNat (q + 1)), c1 _ ?_, r1 me _ ((hi6 606 13 (by omega)).trans a3) (bs e2 ?_), ?_⟩
      · rw [if_pos rfl]
        refine bs (show fX8_cut m1 0 = some (wI m1 1 1 0) from rfl) ?_
        have ek : fX10_keepLaw (wI m1 1 1 0) = some (Int32.ofNat q, me) := by
          unfold fX10_keepLaw
          rw [wI_ne (show ¬ 0 = 1 by decide), f16, hla]
          simp only [Option.bind_some, if_pos hkd, ecp]
          rw [wI_ne (show ¬ 0 = 594 + 3 * q by omega), qc 0 16 (by omega) (by omega), f16, nn_s, nn_p, hme]
        exact bs ek rfl
      · dsimp only
        rw [if_pos rfl, e13, nn_s, nn_p]
      · generalize wI (wI m2 606 2 0) 606 13 (Int32.ofNat (q + 1)) = Z at F F2 G13 G2
        unfold LwZ at F
        have lo : ∀ a k, a < 606 → Z.1 a k = me.1 a k := fun a k z => by rw [F2 a k (by omega), f2 a k (by omega)]
        refine ⟨W, H, P, fun i => if i = q then cs else ls i, InvF_c (fun a k z => F _ _ (by omega) (by omega) (by omega) (by omega) (by omega) (by omega)) h.1, InvS_c (fun a k z => F _ _ (by omega) (by omega) (by omega) (by omega) (by omega) (by omega)) h.2.1, InvI_c (fun a k z => F _ _ (by omega) (by omega) (by omega) (by omega) (by omega) (by omega)) h.2.2.1, ⟨0, by decide, ?_, G2, fun i hi => absurd hi (by omega)⟩, ⟨q + 1, h4, ?_, G13, fun i hi => ?_, ?_, ?_⟩, InvM_c (fun a k z => F _ _ (by omega) (by omega) (by omega) (by omega) (by omega) (by omega)) h.2.2.2.2.2.1, InvG_c (fun a k z => F _ _ (by omega) (by omega) (by omega) (by omega) (by omega) (by omega)) h.2.2.2.2.2.2⟩
        · rw [lo 1 1 (by decide)]; exact e11
        · rw [lo 0 16 (by decide)]; exact e16
        · by_cases ci : i = q
          · subst ci
            simp only [if_true]
            obtain ⟨b1, b2, b3⟩ := L1
            refine ⟨⟨?_, b2, ?_⟩, ?_, L3⟩
            · rw [lo _ _ (by omega), eL2, b1]
            · refine inR_up b3 (fun k hk => ?_)
              rw [show 594 + 3 * i + 1 = 595 + 3 * i by omega, lo _ _ (by omega), eLr k (by omega)]
            · exact LawR_fr (fun a ha k => F2 a k (by omega)) L2
          · simp only [if_neg ci]
            obtain ⟨b1, b2, b3⟩ := a4 i (by omega)
            refine ⟨LawC_c (fun a k z => F _ _ (by omega) (by omega) (by omega) (by omega) (by omega) (by omega)) b1, ?_, b3⟩
            have b2' : LawR me i (ls i) := LawR_fr (fun a ha k => hi6 a k (by omega)) b2
            exact LawR_fr (fun a ha k => F2 a k (by omega)) (LawR_t f2 ci b2')
        · rw [F 0 17 (by omega) (by omega) (by omega) (by omega) (by omega) (by omega), F 606 29 (by omega) (by omega) (by omega) (by omega) (by omega) (by omega)]; exact a5
        · rw [F 0 17 (by omega) (by omega) (by omega) (by omega) (by omega) (by omega)]
          rcases a6 with a6 | ⟨h', b1, b2⟩
          · exact Or.inl a6
          · exact Or.inr ⟨h', by omega, b2⟩
    · have hx : ∀ a k, 606 ≤ a → m1.1 a k = m.1 a k := fun a k z => f1 a k (by omega)
      obtain ⟨m2, e2, f2, -⟩ := g q (by omega) m1 (tX m1 hx)
      refine ⟨-1, m1, m2, c1 _ ?_, r1 m1 _ ((hx 606 13 (by omega)).trans a3) (bs e2 ?_), Inv_lw hi f1 f2 (fun q' h13 h' => ?_)⟩
      · rw [if_neg hv]; rfl
      · dsimp only
        rw [if_neg hv]; rfl
      · rw [a3] at h13
        have := nn_inj (by omega) (by omega) h13
        omega
  · have h4I : ¬ Int32.ofNat q < 4 := fun z => h4 ((nn_lt (k := 4) (by omega) (by decide)).mp z)
    refine EQ_0 (v := -1) hi (c0 _ ?_) (r0 m _ ?_)
    · unfold fX10_text_c39
      rw [if_pos rfl, a2, if_neg h4I]; rfl
    · unfold fX11_text_c22
      rw [if_pos rfl, a3, if_neg h4I]; rfl
theorem q_text (hi : Inv m) (x : Int32) : EQ m (fun m => fX10_text m x) (fun m => fX11_text m x) := by
  by_cases h0 : x = 0
  · subst h0; exact q_text0 hi
  · by_cases h1 : x = 1
    · subst h1; exact q_text1 hi
    · refine EQ_0 (v := -1) hi ?_ ?_
      · show fX10_text m x = _
        unfold fX10_text fX10_text_c39 fX10_text_c80
        rw [if_neg h0, if_neg h1]
      · show fX11_text m x = _
        unfold fX11_text fX11_text_c22 fX11_text_c69
        rw [if_neg h0, if_neg h1]
end TXT
