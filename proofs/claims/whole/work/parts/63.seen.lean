/-! WHAT WAS SEEN; A THING, told or there -/
section SEE
variable {m m1 : mm_MM} {W H : Nat} {P P1 : List Vw} {ls : Nat → List Cla} {V V1 : Vw}
theorem kd_t {i : Nat} (hi : i < 8) : mm_kd (17 + i) = (9, 6) := kd_Le (s := 14) rfl hi
theorem told_n (h : InvA m W H P ls) : ∃ n, n ≤ 8 ∧ m.1 14 9 = Int32.ofNat n ∧ m.1 606 25 = Int32.ofNat n ∧ (m.1 0 14 = 0 → n = 0) ∧ ∀ i, i < n → toldI m i := h.1.2.2.2.2.2
theorem c_toldThing (h : InvA m W H P ls) (x : Int32) : fX10_toldThing m x = some (if isRw (m.1 0 14) (m.1 14 9) x then some (17 + x.toNatClampNeg) else none, m) := by
  obtain ⟨n, n1, n2, -⟩ := told_n h
  unfold fX10_toldThing fX10_toldThing_c33 fX10_toldThing_c34
  by_cases hk : m.1 0 14 = 0
  · have : ¬ isRw (m.1 0 14) (m.1 14 9) x := fun z => z.1 hk
    rw [if_pos hk, if_neg this]
  · rw [if_neg hk]
    by_cases h0 : x < 0
    · have : ¬ isRw (m.1 0 14) (m.1 14 9) x := fun z => z.2.1 h0
      rw [if_pos h0, if_neg this]
    · rw [if_neg h0]
      by_cases hl : x < m.1 14 9
      · have hxn := (nn_ltk h0 (by omega)).mp (n2 ▸ hl)
        have h8 : x < 8 := (nn_ltk (k := 8) h0 (by decide)).mpr (by omega)
        have hkd := kd_t (i := x.toNatClampNeg) (by omega)
        have e : fX1_thingAt m 14 x = some (some (17 + x.toNatClampNeg), m) := by
          unfold fX1_thingAt fX1_thingAt_c23
          rw [if_neg h0, if_pos h8, nn_g h0 (show x.toNatClampNeg < 8 by omega)]
          simp only
          exact if_pos hkd
        rw [if_pos hl, e, if_pos (show isRw (m.1 0 14) (m.1 14 9) x from ⟨hk, h0, hl⟩)]
        simp only [Option.bind_some, if_pos hkd]
      · have : ¬ isRw (m.1 0 14) (m.1 14 9) x := fun z => hl z.2.2
        rw [if_neg hl, if_neg this]
theorem r_isTold (h : InvA m W H P ls) : ∀ {m1 : mm_MM}, m1.1 606 26 = m.1 0 14 → m1.1 606 25 = m.1 14 9 → ∀ x : Int32, fX11_isTold m1 x = some (if isRw (m.1 0 14) (m.1 14 9) x then 1 else 0, m1) := by
  intro m1 e26 e25 x
  obtain ⟨n, n1, n2, -⟩ := told_n h
  unfold fX11_isTold fX11_isTold_c25 fX11_isTold_c26
  rw [e26, e25, r_in]
  by_cases hk : m.1 0 14 = 0
  · have : ¬ isRw (m.1 0 14) (m.1 14 9) x := fun z => z.1 hk
    rw [if_pos hk, if_neg this]; rfl
  · rw [if_neg hk]
    by_cases h0 : x < 0
    · have : ¬ isRw (m.1 0 14) (m.1 14 9) x := fun z => z.2.1 h0
      rw [if_pos h0, if_neg this]; rfl
    · have hq : x ≤ m.1 14 9 - 1 ↔ x < m.1 14 9 := le_sub1' (by rw [n2]; exact Int32.not_lt.mp (nn_n0 (by omega)))
      rw [if_neg h0]
      by_cases hl : x < m.1 14 9
      · rw [if_pos (hq.mpr hl), if_pos (show isRw (m.1 0 14) (m.1 14 9) x from ⟨hk, h0, hl⟩)]; rfl
      · have : ¬ isRw (m.1 0 14) (m.1 14 9) x := fun z => hl z.2.2
        rw [if_neg (fun z => hl (hq.mp z)), if_neg this]; rfl
theorem q_seen (hi : Inv m) (x r n v b : Int32) (hb : b = 0 ∨ b = 1) : EQ m (fun m => fX10_seen m x r n v b) (fun m => fX11_seen m x r n v b) := by
  obtain ⟨W, H, P, ls, h⟩ := id hi
  have hs := see0 h
  obtain ⟨s, g1, g2, g3, g4, g5⟩ := h.2.2.2.2.2.2
  have e25 : m.1 606 25 = m.1 14 9 := by obtain ⟨n, -, n2, n3, -⟩ := told_n h; rw [n2, n3]
  have rT := r_isTold h hs.2.1 e25 x
  have rR := r_isRw h hs r
  have cT := c_toldThing h x
  by_cases ht : isRw (m.1 0 14) (m.1 14 9) x
  · have hkd : mm_kd (17 + x.toNatClampNeg) = (9, 6) := kd_t (by
      obtain ⟨n, n1, n2, -⟩ := told_n h
      have := (nn_ltk ht.2.1 (by omega)).mp (n2 ▸ ht.2.2)
      omega)
    rw [if_pos ht] at rT cT
    by_cases hr : isRw (m.1 0 14) (m.1 14 4) r
    · rw [if_pos hr] at rR
      by_cases hbd : n < 1 ∨ ¬ n ≤ 24 ∨ v < 0 ∨ ¬ v ≤ 200
      · refine EQ_0 (v := -1) hi ?_ ?_
        · have key : fX10_seen_c28 m x r n v b = some (-1, m) := by
            simp only [fX10_seen_c28, fX10_seen_c29, fX10_seen_c64, cT, Option.bind_some, if_pos hkd, c_isRow, if_pos hr, if_neg (show ¬ (1 : Int32) = 0 by decide), if_true]
          by_cases c1 : n < 1
          · simp only [fX10_seen, if_pos c1, key]
          · by_cases c2 : n ≤ 24
            · by_cases c3 : v < 0
              · simp only [fX10_seen, if_neg c1, if_pos c2, if_pos c3, key]
              · have c4 := ((hbd.resolve_left c1).resolve_left (fun z => z c2)).resolve_left c3
                simp only [fX10_seen, if_neg c1, if_pos c2, if_neg c3, if_neg c4, key]
            · simp only [fX10_seen, if_neg c1, if_neg c2, key]
        · by_cases c1 : n < 1
          · simp only [fX11_seen, fX11_seen_c47, rT, rR, r_in, Option.bind_some, if_neg (show ¬ (1 : Int32) = 0 by decide), if_pos c1, if_true]
          · by_cases c2 : n ≤ 24
            · have hz : (if v < 0 then (0 : Int32) else if v ≤ 200 then 1 else 0) = 0 := by
                by_cases c3 : v < 0
                · rw [if_pos c3]
                · rw [if_neg c3, if_neg (((hbd.resolve_left c1).resolve_left (fun z => z c2)).resolve_left c3)]
              simp only [fX11_seen, fX11_seen_c47, rT, rR, r_in, Option.bind_some, if_neg (show ¬ (1 : Int32) = 0 by decide), if_neg c1, if_pos c2, hz, if_true]
            · simp only [fX11_seen, fX11_seen_c47, rT, rR, r_in, Option.bind_some, if_neg (show ¬ (1 : Int32) = 0 by decide), if_neg c1, if_neg c2, if_true]
      · have c1 : ¬ n < 1 := fun z => hbd (Or.inl z)
        have c2 : n ≤ 24 := Classical.not_not.mp fun z => hbd (Or.inr (Or.inl z))
        have c3 : ¬ v < 0 := fun z => hbd (Or.inr (Or.inr (Or.inl z)))
        have c4 : v ≤ 200 := Classical.not_not.mp fun z => hbd (Or.inr (Or.inr (Or.inr z)))
        by_cases hs10 : s = 10
        · have e10 : Int32.ofNat s = 10 := by rw [hs10]; rfl
          refine EQ_0 (v := -1) hi ?_ ?_
          · simp only [fX10_seen, fX10_seen_c29, fX10_seen_c64, if_neg c1, if_pos c2, if_neg c3, if_pos c4, cT, Option.bind_some, if_pos hkd, c_isRow, if_pos hr, if_neg (show ¬ (1 : Int32) = 0 by decide), fX5_size, g2, e10, if_neg (show ¬ (10 : Int32) < 10 by decide)]
          · simp only [fX11_seen, fX11_seen_c47, rT, rR, r_in, Option.bind_some, if_neg (show ¬ (1 : Int32) = 0 by decide), if_neg c1, if_pos c2, if_neg c3, if_pos c4, g3, e10, if_true]
        · have hlt : s < 10 := by omega
          have ne10 : ¬ Int32.ofNat s = 10 := fun z => hs10 (nn_inj (k := 10) (by omega) (by decide) z)
          have l10 := nn_ll 10 hlt (by decide)
          generalize hmc : wI (wI (wI (wI (wI (wI m 578 s x) 579 s r) 580 s n) 581 s v) 582 s b) 577 5 (Int32.ofNat (s + 1)) = mc
          generalize hmr : wI (wI (wI (wI (wI (wI mc 631 s x) 632 s r) 633 s n) 634 s v) 635 s b) 606 47 (Int32.ofNat (s + 1)) = mr
          have qc : ∀ a k, ¬ (577 ≤ a ∧ a < 583) → mc.1 a k = m.1 a k := fun a k z => by
            rw [← hmc, wI_ne (by omega), wI_ne (by omega), wI_ne (by omega), wI_ne (by omega), wI_ne (by omega), wI_ne (by omega)]
          have qr : ∀ a k, ¬ (577 ≤ a ∧ a < 583) → ¬ (631 ≤ a ∧ a < 636) → ¬ (a = 606 ∧ k = 47) → mr.1 a k = m.1 a k := fun a k z1 z2 z3 => by
            rw [← hmr, wI_1, if_neg z3, wI_ne (by omega), wI_ne (by omega), wI_ne (by omega), wI_ne (by omega), wI_ne (by omega), qc _ _ z1]
          refine ⟨Int32.ofNat (s + 1), mc, mr, ?_, ?_, W, H, P, ls, InvF_c (fun a k z => qr _ _ (by omega) (by omega) (by omega)) h.1, InvS_c (fun a k z => qr _ _ (by omega) (by omega) (by omega)) h.2.1, InvI_c (fun a k z => qr _ _ (by omega) (by omega) (by omega)) h.2.2.1, InvT_c (fun a k z => qr _ _ (by omega) (by omega) (by omega)) h.2.2.2.1, InvL_c (fun a k z => qr _ _ (by omega) (by omega) (by omega)) h.2.2.2.2.1, InvM_c (fun a k z => qr _ _ (by omega) (by omega) (by omega)) h.2.2.2.2.2.1, ?_⟩
          · have hadd : fX5_add m x r n v b = some mc := by
              unfold fX5_add fX5_add_c67
              rw [g2, c_place_n m 578 x (n := 10) rfl (by decide) hlt]
              simp only [Option.bind_some]
              rw [wI_ne (show ¬ 577 = 578 by decide), g2, c_place_n _ 579 r (n := 10) rfl (by decide) hlt]
              simp only [Option.bind_some]
              rw [wI_ne (show ¬ 577 = 579 by decide), wI_ne (show ¬ 577 = 578 by decide), g2, c_place_n _ 580 n (n := 10) rfl (by decide) hlt]
              simp only [Option.bind_some]
              rw [wI_ne (show ¬ 577 = 580 by decide), wI_ne (show ¬ 577 = 579 by decide), wI_ne (show ¬ 577 = 578 by decide), g2, c_place_n _ 581 v (n := 10) rfl (by decide) hlt]
              simp only [Option.bind_some]
              rw [wI_ne (show ¬ 577 = 581 by decide), wI_ne (show ¬ 577 = 580 by decide), wI_ne (show ¬ 577 = 579 by decide), wI_ne (show ¬ 577 = 578 by decide), g2]
              rcases hb with rfl | rfl
              · rw [if_pos rfl, c_place_n _ 582 0 (n := 10) rfl (by decide) hlt]
                simp only [Option.bind_some]
                rw [wI_ne (show ¬ 577 = 582 by decide), wI_ne (show ¬ 577 = 581 by decide), wI_ne (show ¬ 577 = 580 by decide), wI_ne (show ¬ 577 = 579 by decide), wI_ne (show ¬ 577 = 578 by decide), g2, nn_s, hmc]
              · rw [if_neg (by decide), c_place_n _ 582 1 (n := 10) rfl (by decide) hlt]
                simp only [Option.bind_some]
                rw [wI_ne (show ¬ 577 = 582 by decide), wI_ne (show ¬ 577 = 581 by decide), wI_ne (show ¬ 577 = 580 by decide), wI_ne (show ¬ 577 = 579 by decide), wI_ne (show ¬ 577 = 578 by decide), g2, nn_s, hmc]
            have c5 : mc.1 577 5 = Int32.ofNat (s + 1) := by rw [← hmc, wI_eq]
            simp only [fX10_seen, fX10_seen_c29, if_neg c1, if_pos c2, if_neg c3, if_pos c4, cT, Option.bind_some, if_pos hkd, c_isRow, if_pos hr, if_neg (show ¬ (1 : Int32) = 0 by decide), fX5_size, g2, if_pos l10, hadd, c5]
          · have hsc : SeeR m mc := by
              refine ⟨(thr_now (fun k _ => qc _ _ (by omega))).trans hs.1, (qc _ _ (by omega)).trans hs.2.1, (qc _ _ (by omega)).trans hs.2.2.1, (qc _ _ (by omega)).trans hs.2.2.2.1, (qc _ _ (by omega)).trans hs.2.2.2.2.1, (qc _ _ (by omega)).trans hs.2.2.2.2.2.1, (qc _ _ (by omega)).trans hs.2.2.2.2.2.2.1, (qc _ _ (by omega)).trans hs.2.2.2.2.2.2.2⟩
            have rT' := r_isTold h hsc.2.1 ((qc 606 25 (by omega)).trans e25) x
            have rR' := r_isRw h hsc r
            rw [if_pos ht] at rT'
            rw [if_pos hr] at rR'
            have g3' : mc.1 606 47 = Int32.ofNat s := (qc _ _ (by omega)).trans g3
            have etn : (Int32.ofNat s).toNatClampNeg = s := nn_tn (by omega)
            have hgo : ∀ {α : Type} {A : Option α}, (if Int32.ofNat s < 0 ∨ 10 ≤ s then none else A) = A := fun {α A} => nn_gn (by omega) hlt
            simp only [fX11_seen, rT', rR', r_in, Option.bind_some, if_neg (show ¬ (1 : Int32) = 0 by decide), if_neg c1, if_pos c2, if_neg c3, if_pos c4, g3', if_neg ne10, etn, hgo, if_pos hb]
            rw [nn_s, hmr]
          · have cc : ∀ a k, 577 ≤ a → a < 583 → mr.1 a k = mc.1 a k := fun a k z1 z2 => by
              rw [← hmr, wI_ne (by omega), wI_ne (by omega), wI_ne (by omega), wI_ne (by omega), wI_ne (by omega), wI_ne (by omega)]
            have cv : ∀ j, mr.1 578 j = (if j = s then x else m.1 578 j) ∧ mr.1 579 j = (if j = s then r else m.1 579 j) ∧ mr.1 580 j = (if j = s then n else m.1 580 j) ∧ mr.1 581 j = (if j = s then v else m.1 581 j) ∧ mr.1 582 j = (if j = s then b else m.1 582 j) := fun j => by
              rw [cc _ _ (by decide) (by decide), cc _ _ (by decide) (by decide), cc _ _ (by decide) (by decide), cc _ _ (by decide) (by decide), cc _ _ (by decide) (by decide), ← hmc]
              simp [wI_1]
            have rv : ∀ j, mr.1 631 j = (if j = s then x else m.1 631 j) ∧ mr.1 632 j = (if j = s then r else m.1 632 j) ∧ mr.1 633 j = (if j = s then n else m.1 633 j) ∧ mr.1 634 j = (if j = s then v else m.1 634 j) ∧ mr.1 635 j = (if j = s then b else m.1 635 j) := fun j => by
              have q : ∀ a, 631 ≤ a → a < 636 → mc.1 a j = m.1 a j := fun a h1 h2 => qc _ _ (by omega)
              rw [← q 631 (by decide) (by decide), ← q 632 (by decide) (by decide), ← q 633 (by decide) (by decide), ← q 634 (by decide) (by decide), ← q 635 (by decide) (by decide), ← hmr]
              simp [wI_1]
            refine ⟨s + 1, by omega, by rw [cc _ _ (by decide) (by decide), ← hmc, wI_eq], by rw [← hmr, wI_eq], fun z => absurd (qr 0 14 (by omega) (by omega) (by omega) ▸ z) ht.1, fun j hj => ?_⟩
            have q14 : ∀ k, mr.1 14 k = m.1 14 k := fun k => qr _ _ (by omega) (by omega) (by omega)
            unfold sigI
            obtain ⟨u1, u2, u3, u4, u5⟩ := cv j
            obtain ⟨w1, w2, w3, w4, w5⟩ := rv j
            rw [u1, u2, u3, u4, u5, w1, w2, w3, w4, w5, q14, q14]
            by_cases e : j = s
            · simp only [if_pos e]
              have n0 : ¬ n < 0 := by grind
              have en := nn_of n0
              have a2 := (nn_lek (k := 24) n0 (by decide)).mp c2
              have a1 : ¬ n.toNatClampNeg < 1 := fun z => c1 ((nn_ltk (k := 1) n0 (by decide)).mpr z)
              exact ⟨by simp, hb, ⟨n.toNatClampNeg, by omega, a2, en⟩, ht.2.1, ht.2.2, hr.2.1, hr.2.2⟩
            · simp only [if_neg e]
              exact g5 j (by omega)
    · rw [if_neg hr] at rR
      refine EQ_0 (v := -1) hi ?_ ?_
      · have key : ∀ w, fX10_seen_c29 m x r n v b w = some (-1, m) := fun w => by
          simp only [fX10_seen_c29, fX10_seen_c64, cT, Option.bind_some, if_pos hkd, c_isRow, if_neg hr, if_true]
        simp only [fX10_seen, fX10_seen_c28, key]
        by_cases c1 : n < 1 <;> by_cases c2 : n ≤ 24 <;> by_cases c3 : v < 0 <;> by_cases c4 : v ≤ 200 <;> simp [c1, c2, c3, c4]
      · simp only [fX11_seen, fX11_seen_c47, rT, rR, Option.bind_some, if_neg (show ¬ (1 : Int32) = 0 by decide), if_true]
  · rw [if_neg ht] at rT cT
    refine EQ_0 (v := -1) hi ?_ ?_
    · have key : ∀ w, fX10_seen_c29 m x r n v b w = some (-1, m) := fun w => by
        simp only [fX10_seen_c29, fX10_seen_c64, cT, Option.bind_some]
      simp only [fX10_seen, fX10_seen_c28, key]
      by_cases c1 : n < 1 <;> by_cases c2 : n ≤ 24 <;> by_cases c3 : v < 0 <;> by_cases c4 : v ≤ 200 <;> simp [c1, c2, c3, c4]
    · simp only [fX11_seen, fX11_seen_c47, rT, Option.bind_some, if_true]
/-! the reference's thing -/
theorem r_thing (m : mm_MM) (x y : Int32) : fX11_thing m x y = some (if tx (thr m 623 0) x 5 = 1 ∧ ¬ y < 0 ∧ y ≤ 4 then tx (thr m 623 0) x y.toNatClampNeg else 0, wI m 606 0 (if tx (thr m 623 0) x 5 = 1 ∧ ¬ y < 0 ∧ y ≤ 4 then 0 else 1)) := by
  unfold fX11_thing fX11_thing_c22 fX11_thing_c23 fX11_thing_c44
  rw [r_isThere]
  by_cases h : tx (thr m 623 0) x 5 = 1
  · obtain ⟨h0, ex, hT5, htx⟩ := tx_b h
    have hb8 := (thr_5 hT5).1
    rw [if_pos h]
    simp only [Option.bind_some, if_neg (show ¬ (1 : Int32) = 0 by decide), r_in]
    by_cases hy : ¬ y < 0 ∧ y ≤ 4
    · have hp : tx (thr m 623 0) x 5 = 1 ∧ ¬ y < 0 ∧ y ≤ 4 := ⟨h, hy⟩
      rw [if_pos hp, if_pos hp, if_neg hy.1, if_pos hy.2]
      have ey := nn_of hy.1
      have hyn := (nn_lek (k := 4) hy.1 (by decide)).mp hy.2
      generalize y.toNatClampNeg = Y at ey hyn
      subst ey
      have hof : fX11_of (wI m 606 0 0) x (Int32.ofNat Y) = some (m.1 623 (6 * x.toNatClampNeg + Y), wI m 606 0 0) := by
        have := r_of (wI m 606 0 0) hb8 (show Y < 6 by omega)
        rw [← ex] at this
        exact this
      rw [htx, thr_k0 hT5 (by omega)]
      simp only [if_neg (show ¬ (1 : Int32) = 0 by decide), if_neg (show ¬ (0 : Int32) = 1 by decide), hof, Option.bind_some]
    · have hn : ¬ (tx (thr m 623 0) x 5 = 1 ∧ ¬ y < 0 ∧ y ≤ 4) := fun z => hy z.2
      have hz : (if y < 0 then (0 : Int32) else if y ≤ 4 then 1 else 0) = 0 := by
        by_cases h1 : y < 0
        · rw [if_pos h1]
        · rw [if_neg h1, if_neg (fun z => hy ⟨h1, z⟩)]
      rw [if_neg hn, if_neg hn, hz, if_pos rfl]; simp only [if_true]
  · have hn : ¬ (tx (thr m 623 0) x 5 = 1 ∧ ¬ y < 0 ∧ y ≤ 4) := fun z => h z.1
    rw [if_neg h, if_neg hn, if_neg hn]
    rfl
end SEE
