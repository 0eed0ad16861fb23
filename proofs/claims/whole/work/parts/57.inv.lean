/-! each part of what holds stands on cells of its own -/
section INC
variable {m m' : mm_MM} {W H : Nat} {P : List Vw} {ls : Nat → List Cla}
theorem InvF_c (c : ∀ a k, (a = 0 ∧ k = 14) ∨ (a = 606 ∧ (k = 25 ∨ k = 26)) ∨ a = 14 ∨ a = 15 ∨ (17 ≤ a ∧ a < 25) ∨ (620 ≤ a ∧ a < 623) → m'.1 a k = m.1 a k) (h : InvF m W H) : InvF m' W H := by
  have c14 : ∀ k, m'.1 14 k = m.1 14 k := fun k => c _ _ (by omega)
  have c15 : ∀ k, m'.1 15 k = m.1 15 k := fun k => c _ _ (by omega)
  have c620 : ∀ k, m'.1 620 k = m.1 620 k := fun k => c _ _ (by omega)
  have c621 : ∀ k, m'.1 621 k = m.1 621 k := fun k => c _ _ (by omega)
  have c0 : m'.1 0 14 = m.1 0 14 := c _ _ (by omega)
  obtain ⟨a1, a2, a3, a4, a5, n, b1, b2, b3, b4, b5⟩ := h
  refine ⟨?_, ?_, ?_, ?_, ?_, n, b1, (c14 9).trans b2, (c _ _ (by omega)).trans b3, ?_, fun i hi => ?_⟩
  · rw [c0, c 606 26 (by omega)]; exact a1
  · rw [c0]; exact a2
  · simp only [c14, c620]; exact a3
  · intro r hr; rw [c15, c621]; exact a4 r hr
  · intro h1
    rw [c0] at h1
    obtain ⟨d1, d2, d3, d4, d5⟩ := a5 h1
    refine ⟨d1, ?_, ?_, ?_, ?_⟩
    · rw [c14]; exact d2
    · rw [c14]; exact d3
    · rw [c14]; exact d4
    · intro r hr; rw [c15]; exact d5 r hr
  · rw [c0]; exact b4
  · have d : ∀ k, m'.1 (17 + i) k = m.1 (17 + i) k := fun k => c _ _ (by omega)
    obtain ⟨a1, a2, a3, a4, a5⟩ := b5 i hi
    refine ⟨(d 0).trans a1, fun k hk => ?_, ?_, ?_, ?_⟩
    · rw [d, a2 k hk, c 622 _ (by omega)]
    · rw [d]; exact a3
    · rw [d]; exact a4
    · rw [d]; exact a5
theorem PC_c (c : ∀ a k, a = 55 ∨ (57 ≤ a ∧ a < 577) → m'.1 a k = m.1 a k) (h : PC m P) : PC m' P := by
  have := PC_fr (m := m) (m' := (m'.1, m.2)) (W := fun a _ => !(a == 55 || (Nat.ble 57 a && Nat.blt a 577))) ⟨fun a k z => c a k (by simp only [Bool.not_eq_false', Nat.ble_eq, Nat.blt_eq, Bool.and_eq_true, Bool.or_eq_true, beq_iff_eq] at z; exact z), fun _ _ _ => rfl⟩ (fun a k z => by simp only [Bool.not_eq_false', Nat.ble_eq, Nat.blt_eq, Bool.and_eq_true, Bool.or_eq_true, beq_iff_eq]; exact z) h
  exact this
theorem PR_cc (c : ∀ a k, a = 626 ∨ (a = 606 ∧ k = 34) → m'.1 a k = m.1 a k) (h : PR m P) : PR m' P := by
  obtain ⟨a1, a2, a3⟩ := h
  refine ⟨(c _ _ (by omega)).trans a1, a2, fun i v hi => ?_⟩
  have := a3 i v hi
  exact ⟨(rV_congr (fun k _ => c _ _ (by omega)) this.2).trans this.1, rOK_congr (c _ _ (by omega)) this.2⟩
theorem InvS_c (c : ∀ a k, (29 ≤ a ∧ a < 42) ∨ (a = 55 ∨ (57 ≤ a ∧ a < 577)) ∨ a = 623 ∨ (a = 626 ∨ (a = 606 ∧ k = 34)) ∨ (a = 0 ∧ k = 14) → m'.1 a k = m.1 a k) (h : InvS m W H P) : InvS m' W H P := by
  obtain ⟨a1, a2, a3, a4, a5, a6, a7, a8⟩ := h
  have v1 : cV m' 29 = cV m 29 := cV_congr (fun b hb k hk => c _ _ (by omega)) (fun k _ _ => c _ _ (by omega)) (fun w hw j hj => c _ _ (by omega))
  have v2 : rV m' 623 0 = rV m 623 0 := rV_congr (fun k _ => c _ _ (by omega)) a3
  have vt : thc m' 34 = thc m 34 := congrArg Prod.fst v1
  refine ⟨by rw [v1, v2]; exact a1, cOK_congr (fun b hb k hk => c _ _ (by omega)) (fun k _ _ => c _ _ (by omega)) a2, rOK_congr (c _ _ (by omega)) a3, by rw [v1]; exact a4, PC_c (fun a k z => c _ _ (by omega)) a5, PR_cc (fun a k z => c _ _ (by omega)) a6, a7, ?_⟩
  rw [c 0 14 (by omega), vt]; exact a8
theorem InvI_c (c : ∀ a k, (42 ≤ a ∧ a < 55) ∨ a = 638 ∨ (a = 606 ∧ k = 51) ∨ (a = 0 ∧ (k = 14 ∨ k = 15)) → m'.1 a k = m.1 a k) (h : InvI m W H) : InvI m' W H := by
  obtain ⟨a1, a2⟩ := h
  refine ⟨by rw [c 0 15 (by omega), c 606 51 (by omega)]; exact a1, ?_⟩
  rcases a2 with a2 | ⟨b1, b2, b3, b4, b5, b6⟩
  · left; rw [c 0 15 (by omega)]; exact a2
  · have v1 : cV m' 42 = cV m 42 := cV_congr (fun b hb k hk => c _ _ (by omega)) (fun k _ _ => c _ _ (by omega)) (fun w hw j hj => c _ _ (by omega))
    have v2 : rV m' 638 0 = rV m 638 0 := rV_congr (fun k _ => c _ _ (by omega)) b5
    right
    rw [c 0 15 (by omega), c 0 14 (by omega), v1, v2]
    exact ⟨b1, b2, b3, cOK_congr (fun b hb k hk => c _ _ (by omega)) (fun k _ _ => c _ _ (by omega)) b4, rOK_congr (c _ _ (by omega)) b5, b6⟩
theorem InvT_c (c : ∀ a k, (a = 1 ∧ k = 1) ∨ a = 2 ∨ (a = 606 ∧ k = 2) ∨ a = 607 → m'.1 a k = m.1 a k) (h : InvT m) : InvT m' := by
  obtain ⟨n, a1, a2, a3, a4⟩ := h
  refine ⟨n, a1, (c _ _ (by omega)).trans a2, (c _ _ (by omega)).trans a3, fun i hi => ?_⟩
  rw [c 2 i (by omega), c 607 i (by omega)]
  exact a4 i hi
theorem LawC_c {u : Nat} {cs : List Cla} (c : ∀ a k, a = u + 1 ∨ (a = u ∧ k = 2) → m'.1 a k = m.1 a k) (h : LawC m u cs) : LawC m' u cs := by
  obtain ⟨a1, a2, a3⟩ := h
  refine ⟨(c _ _ (by omega)).trans a1, a2, fun j x hj => (c _ _ (by omega)).trans (a3 j x hj)⟩
theorem InvL_c (c : ∀ a k, (a = 0 ∧ (k = 16 ∨ k = 17)) ∨ (a = 606 ∧ (k = 13 ∨ k = 29)) ∨ (608 ≤ a ∧ a < 615) ∨ (∃ h, h < 4 ∧ (a = 595 + 3 * h ∨ (a = 594 + 3 * h ∧ k = 2))) → m'.1 a k = m.1 a k) (h : InvL m ls) : InvL m' ls := by
  obtain ⟨q, a1, a2, a3, a4, a5, a6⟩ := h
  refine ⟨q, a1, (c _ _ (by omega)).trans a2, (c _ _ (by omega)).trans a3, fun i hi => ?_, by rw [c 0 17 (by omega), c 606 29 (by omega)]; exact a5, by rw [c 0 17 (by omega)]; exact a6⟩
  obtain ⟨b1, b2, b3⟩ := a4 i hi
  exact ⟨LawC_c (fun a k z => c _ _ (Or.inr (Or.inr (Or.inr ⟨i, by omega, by omega⟩)))) b1, LawR_fr (fun a ha k => c a k (by omega)) b2, b3⟩
theorem InvM_c (c : ∀ a k, (a = 0 ∧ k = 18) ∨ (a = 606 ∧ k = 30) ∨ a = 592 ∨ a = 624 → m'.1 a k = m.1 a k) (h : InvM m) : InvM m' := by
  refine ⟨by rw [c 0 18 (by omega), c 606 30 (by omega)]; exact h.1, fun k hk => ?_⟩
  rw [c 592 k (by omega), c 624 k (by omega)]; exact h.2 k hk
theorem InvG_c (c : ∀ a k, (577 ≤ a ∧ a < 583) ∨ (a = 606 ∧ k = 47) ∨ (631 ≤ a ∧ a < 636) ∨ (a = 0 ∧ k = 14) ∨ a = 14 → m'.1 a k = m.1 a k) (h : InvG m) : InvG m' := by
  obtain ⟨s, a1, a2, a3, a4, a5⟩ := h
  refine ⟨s, a1, (c 577 5 (by omega)).trans a2, (c _ _ (by omega)).trans a3, by rw [c 0 14 (by omega)]; exact a4, fun i hi => ?_⟩
  have := a5 i hi
  unfold sigI at this ⊢
  rw [c 578 i (by omega), c 579 i (by omega), c 580 i (by omega), c 581 i (by omega), c 582 i (by omega), c 631 i (by omega), c 632 i (by omega), c 633 i (by omega), c 634 i (by omega), c 635 i (by omega), c 14 _ (by omega), c 14 _ (by omega)]
  exact this
end INC
section ACTS
variable {m m1 : mm_MM} {W H : Nat} {P P1 : List Vw} {ls : Nat → List Cla} {V V1 : Vw}
theorem q_undo (hi : Inv m) : EQ m (fun m => fX10_undo m) (fun m => fX11_undo m) := by
  obtain ⟨W, H, P, ls, h⟩ := hi
  obtain ⟨s1, s2, s3, s4, s5, s6, s7, s8⟩ := h.2.1
  by_cases hP : P = []
  · subst hP
    refine ⟨-1, m, m, ?_, r_undo0 s6, W, H, [], ls, h⟩
    simp only [fX10_undo, c_restore0 s5, Option.bind_some, if_true, fX10_undo_c25]
  · have hk1 : m.1 0 14 = 1 := h.1.2.1.resolve_left (fun z => hP (s8 z).1)
    obtain ⟨P', V, rfl⟩ : ∃ P' V, P = P' ++ [V] := ⟨P.dropLast, P.getLast hP, (List.dropLast_concat_getLast hP).symm⟩
    obtain ⟨mc, e, p, v, ok, f⟩ := c_restore s5
    have fA : fr WAc m (mc.1, m.2) := fr_2 (fr_mono (fun a k z => by
      cases hb : WN a k with
      | false => rfl
      | true =>
        have h1 : WA a k = true := by
          simp only [WN, Bool.or_eq_true, beq_iff_eq] at hb
          rcases hb with hb | hb
          · simp [WA, hb]
          · exact WA_P (WP_t (Or.inl hb))
        have h2 : a < 606 := by simp only [WN, WSt, Nat.ble_eq, Nat.blt_eq, Bool.and_eq_true, Bool.or_eq_true, beq_iff_eq] at hb; omega
        rw [WAc_t h1 h2] at z; cases z) f)
    obtain ⟨mr, er, pr, vr, orr, frr⟩ := r_undo (PR_c fA s6)
    have fR : fr WAr mc (mr.1, mc.2) := fr_2 (fr_mono (fun a k z => by
      cases hb : WU a k with
      | false => rfl
      | true =>
        simp only [WU, Bool.and_eq_true, Bool.or_eq_true, beq_iff_eq] at hb
        have h1 : WA a k = true := by simp only [WA, Bool.and_eq_true, Bool.or_eq_true, beq_iff_eq]; omega
        rw [WAr_t h1 (by omega)] at z; cases z) frr)
    obtain ⟨F, p1, p2, p3, p4, p5⟩ := p
    refine EQ_act (v := Int32.ofNat P'.length) h hk1 ⟨fA, fun k => f.1 _ _ rfl, v, ok, ⟨F, p1, p2, p3, p4, p5⟩⟩ ⟨fR, fun k => frr.1 _ _ rfl, vr, orr, pr⟩ (s7 V (by simp)) (fun V' hV' => s7 V' (by simp [hV'])) ?_ er
    simp only [fX10_undo, e, Option.bind_some, if_neg (show ¬ (1 : Int32) = 0 by decide), fX3_size, p3, fX10_undo_c25]
theorem q_image (hi : Inv m) : EQ m (fun m => fX10_image m) (fun m => fX11_image m) := by
  obtain ⟨W, H, P, ls, h⟩ := hi
  obtain ⟨s1, s2, s3, s4, s5, s6, s7, s8⟩ := h.2.1
  by_cases hk : m.1 0 14 = 0
  · refine ⟨-1, m, m, by simp only [fX10_image, if_pos hk], ?_, W, H, P, ls, h⟩
    simp only [fX11_image, (see0 h).2.1, if_pos hk]
  · have hk1 : m.1 0 14 = 1 := h.1.2.1.resolve_left hk
    obtain ⟨mc, e, v, ok, f⟩ := c_standCopy m (t := 42) (u := 29) rfl rfl (by omega) s2
    have q : ∀ a k, ¬ (42 ≤ a ∧ a < 55) → mc.1 a k = m.1 a k := fun a k z => f.1 _ _ (WSt_f (by omega) k)
    have rc : rV (wI mc 0 15 1) 623 0 = rV m 623 0 := rV_congr (fun k _ => (wI_ne (by decide)).trans (q _ _ (by omega))) s3
    have e11 := cp_l (F := fX11_image_c11) (fin := fun m => some (m.1 623 49, wI m 606 51 1)) (I := fun _ => True) (A := 623) (B := 638) (o := 0) (p := 0) (c := 0) (N := 231) (Or.inl (by decide)) (fun _ _ _ _ => trivial) (fun k m z hz _ => by
      rw [fX11_image_c11]
      dsimp only
      rw [if_pos (nn_ll 231 (by omega) (by decide)), nn_go (by omega) (by omega), nn_go (by omega) (by omega), nn_tn (by omega), nn_s]) (fun k m _ => by
      rw [fX11_image_c11]
      dsimp only
      rw [if_neg (by decide)]) (m := wI mc 0 15 1) trivial fu (by unfold fu; omega)
    generalize hmr : cpM (wI mc 0 15 1) 638 0 231 623 0 = mr at e11
    have r : ∀ a k, ¬ a = 638 → mr.1 a k = (wI mc 0 15 1).1 a k := fun a k z => by rw [← hmr, cpM_ne z]
    have rr : ∀ a k, ¬ a = 638 → ¬ (a = 0 ∧ k = 15) → ¬ (a = 606 ∧ k = 51) → ¬ (42 ≤ a ∧ a < 55) → (wI mr 606 51 1).1 a k = m.1 a k := fun a k z1 z2 z3 z4 => by
      rw [wI_1, if_neg z3, r _ _ z1, wI_1, if_neg z2, q _ _ z4]
    refine ⟨m.1 29 7, wI mc 0 15 1, wI mr 606 51 1, ?_, ?_, W, H, P, ls, InvF_c (fun a k z => rr _ _ (by omega) (by omega) (by omega) (by omega)) h.1, InvS_c (fun a k z => rr _ _ (by omega) (by omega) (by omega) (by omega)) h.2.1, ?_, InvT_c (fun a k z => rr _ _ (by omega) (by omega) (by omega) (by omega)) h.2.2.2.1, InvL_c (fun a k z => rr _ _ (by omega) (by omega) (by omega) (by omega)) h.2.2.2.2.1, InvM_c (fun a k z => rr _ _ (by omega) (by omega) (by omega) (by omega)) h.2.2.2.2.2.1, InvG_c (fun a k z => rr _ _ (by omega) (by omega) (by omega) (by omega)) h.2.2.2.2.2.2⟩
    · simp only [fX10_image, if_neg hk, e, Option.bind_some, q 29 7 (by omega)]
    · simp only [fX11_image]
      rw [wI_ne (by decide), q _ _ (by omega), (see0 h).2.1, if_neg hk, show (0 : Int32) = Int32.ofNat 0 from rfl, e11, r _ _ (by decide), wI_ne (by decide), q _ _ (by omega), (see0 h).2.2.2.2.2.2.2]
    · have h42 : cV (wI mr 606 51 1) 42 = cV m 29 := by
        rw [← v]
        exact cV_congr (fun b hb k hk => by rw [wI_ne (by omega), r _ _ (by omega), wI_ne (by omega)]) (fun k _ _ => by rw [wI_ne (by omega), r _ _ (by omega), wI_ne (by omega)]) (fun w hw j hj => by rw [wI_ne (by omega), r _ _ (by omega), wI_ne (by omega)])
      have h638 : ∀ k, k < 231 → (wI mr 606 51 1).1 638 (0 + k) = m.1 623 (0 + k) := fun k hk => by
        rw [wI_ne (by decide), ← hmr, cpM_in hk, wI_ne (by decide), q _ _ (by omega)]
      refine ⟨by rw [wI_ne (by decide), r _ _ (by decide), wI_eq, wI_eq], Or.inr ⟨by rw [wI_ne (by decide), r _ _ (by decide), wI_eq], (rr 0 14 (by omega) (by omega) (by omega) (by omega)).trans hk1, ?_, ?_, rOK_congr (h638 50 (by decide)) s3, by rw [h42]; exact s4⟩⟩
      · rw [h42, s1]; exact (rV_congr h638 s3).symm
      · exact cOK_congr (m := mc) (s := 42) (fun b hb k hk => by rw [wI_ne (by omega), r _ _ (by omega), wI_ne (by omega)]) (fun k _ _ => by rw [wI_ne (by omega), r _ _ (by omega), wI_ne (by omega)]) ok
theorem q_back (hi : Inv m) : EQ m (fun m => fX10_back m) (fun m => fX11_back m) := by
  obtain ⟨W, H, P, ls, h⟩ := hi
  obtain ⟨i1, i2⟩ := h.2.2.1
  rcases i2 with i2 | ⟨b1, b2, b3, b4, b5, b6⟩
  · refine ⟨-1, m, m, by simp only [fX10_back, if_pos i2], ?_, W, H, P, ls, h⟩
    simp only [fX11_back, ← i1, if_pos i2]
  · obtain ⟨mc, e, v, ok, f⟩ := c_standCopy m (t := 29) (u := 42) rfl rfl (by omega) b4
    have q : ∀ a k, ¬ (29 ≤ a ∧ a < 42) → mc.1 a k = m.1 a k := fun a k z => f.1 _ _ (WSt_f (by omega) k)
    have hne : ¬ m.1 0 15 = 0 := fun z => by rw [b1] at z; exact absurd z (by decide)
    have fA : fr WAc m ((wI mc 55 2 0).1, m.2) := fr_2 (fr_wI (fr_mono (fun a k z => by
      cases hb : WSt 29 a k with
      | false => rfl
      | true =>
        have h2 : a < 606 := by simp only [WSt, Nat.ble_eq, Nat.blt_eq, Bool.and_eq_true] at hb; omega
        rw [WAc_t (by simp [WA, hb]) h2] at z; cases z) f) (WAc_t (WA_P (WP_t (Or.inl rfl))) (by decide)))
    obtain ⟨F, p1, p2, p3, p4, p5⟩ := h.2.1.2.2.2.2.1
    have hv : cV (wI mc 55 2 0) 29 = cV m 42 := (cV_congr (m := mc) (s := 29) (s' := 29) (fun b hb k hk => wI_ne (by omega)) (fun k _ _ => wI_ne (by omega)) (fun w hw j hj => wI_ne (by omega))).trans v
    have hpc : PC (wI mc 55 2 0) [] := ⟨F, by rw [wI_nk (by decide), q _ _ (by omega)]; exact p1, p2, wI_eq, by decide, fun i v hi => by cases hi⟩
    have e11 := cp_l (F := fX11_back_c11) (fin := fun m => some (m.1 623 49, wI m 606 34 0)) (I := fun _ => True) (A := 638) (B := 623) (o := 0) (p := 0) (c := 0) (N := 231) (Or.inl (by decide)) (fun _ _ _ _ => trivial) (fun k m z hz _ => by
      rw [fX11_back_c11]
      dsimp only
      rw [if_pos (nn_ll 231 (by omega) (by decide)), nn_go (by omega) (by omega), nn_go (by omega) (by omega), nn_tn (by omega), nn_s]) (fun k m _ => by
      rw [fX11_back_c11]
      dsimp only
      rw [if_neg (by decide)]) (m := wI mc 55 2 0) trivial fu (by unfold fu; omega)
    generalize hmr : cpM (wI mc 55 2 0) 623 0 231 638 0 = mr at e11
    have r : ∀ a k, ¬ a = 623 → mr.1 a k = (wI mc 55 2 0).1 a k := fun a k z => by rw [← hmr, cpM_ne z]
    have h623 : ∀ k, k < 231 → (wI mr 606 34 0).1 623 (0 + k) = m.1 638 (0 + k) := fun k hk => by
      rw [wI_ne (by decide), ← hmr, cpM_in hk, wI_ne (by decide), q _ _ (by omega)]
    have fR : fr WAr (wI mc 55 2 0) ((wI mr 606 34 0).1, (wI mc 55 2 0).2) := by
      have : fr WAr (wI mc 55 2 0) (wI mr 606 34 0) := by
        rw [← hmr]; exact fr_wI (fr_cpM (fr_refl _ _) (fun j _ _ => WAr_t (by simp [WA]) (by decide))) (WAr_t (by simp [WA]) (by decide))
      exact fr_2 this
    have c7 : mc.1 29 7 = m.1 638 49 := by
      have e1 : mc.1 29 7 = m.1 42 7 := congrArg (fun V : Vw => V.2.2.1) v
      exact e1.trans (congrArg (fun V : Vw => V.2.2.1) b3)
    refine EQ_act (v := mc.1 29 7) h b2 ⟨fA, fun k => ?_, hv, ?_, hpc⟩ ⟨fR, fun k => ?_, ?_, ?_, ?_⟩ b6 (fun V hV => nomatch hV) ?_ ?_
    · rw [wI_ne (by decide), q _ _ (by omega)]
    · exact cOK_congr (m := mc) (s := 29) (s' := 29) (fun b hb k hk => wI_ne (by omega)) (fun k _ _ => wI_ne (by omega)) ok
    · rw [wI_ne (by decide), r _ _ (by decide)]
    · rw [b3]; exact rV_congr h623 b5
    · exact rOK_congr (h623 50 (by decide)) b5
    · exact ⟨wI_eq, by decide, fun i v hi => by cases hi⟩
    · simp only [fX10_back, if_neg hne, e, Option.bind_some, fX3_forget]
      rw [wI_ne (by decide)]
    · simp only [fX11_back]
      rw [wI_ne (by decide), q _ _ (by omega), ← i1, if_neg hne]
      refine Eq.trans e11 ?_
      have := cpM_in (m := wI mc 55 2 0) (B := 623) (o := 0) (N := 231) (A := 638) (p := 0) (j := 49) (by decide)
      rw [← hmr, show (49 : Nat) = 0 + 49 from rfl, this, wI_ne (by decide), q _ _ (by omega), c7]
end ACTS
