/-! LAWS READ: the clause whole -/
section CLB
variable {B : Nat → Int32} {n tx : Nat}
theorem CG_up {M M1 M' R R1 R' : mm_MM} {p p1 p' len cnt j : Nat} {c : Cla} (h : CG B n tx M1 M' R1 R' p1 p' len cnt j c) (f : CF M M1 len) (g : GF tx j cnt R R1) (hp : p + 2 ≤ p1) : CG B n tx M M' R R' p p' len cnt j c ∧ p + 2 + (encB c).length ≤ p' := by
  obtain ⟨a1, a2, a3, a4, a5, a6, a7, a8, a9, a10⟩ := h
  exact ⟨⟨a1, CF_trans f a2 (Nat.le_refl _), a3, GF_trans g a4 (Nat.le_refl _), a5, a6, a7, a8, a9, by omega⟩, by omega⟩
theorem CE_up {M M1 M' R R1 R' : mm_MM} {len cnt j e : Nat} (h : CE n tx M1 M' R1 R' len cnt j e) (f : CF M M1 len) (g : GF tx j cnt R R1) : CE n tx M M' R R' len cnt j e := by
  obtain ⟨a1, a2, a3, a4, a5⟩ := h
  exact ⟨CF_trans f a1 (Nat.le_refl _), a2, a3, a4, GF_trans g a5 (Nat.le_refl _)⟩
theorem bs3 {α β γ δ : Type} {x : Option α} {f : α → Option β} {g : β → Option γ} {h : γ → Option δ} {r : γ} {res : Option δ} (e : (x.bind f).bind g = some r) (e2 : h r = res) : (x.bind fun a => (f a).bind fun b => (g b).bind h) = res := by
  cases x with
  | none => cases e
  | some a =>
    show ((f a).bind fun b => (g b).bind h) = res
    have e : (f a).bind g = some r := e
    cases hf : f a with
    | none => rw [hf] at e; cases e
    | some b =>
      rw [hf] at e
      have e : g b = some r := e
      show (g b).bind h = res
      rw [e]; exact e2
theorem cla_sim (ht : tx < 5) (hn : n ≤ 240) {j : Nat} (hj : j < 140) {M R : mm_MM} {p len cnt : Nat} (h : LwS B n tx M R p 0 len cnt) (h11 : R.1 611 tx = Int32.ofNat j) :
    (∃ M' R' p' c, fX2_readClause M 25 = some (1, M') ∧ fX11_clause R = some R' ∧ CG B n tx M M' R R' p p' len cnt j c ∧ p + 2 + (encB c).length ≤ p') ∨
    (∃ M' R' e, fX2_readClause M 25 = some (0, M') ∧ fX11_clause R = some R' ∧ CE n tx M M' R R' len cnt j e) := by
  have hX : 140 * tx + j < 700 := by omega
  have hp := h.2.2.2.2.2.2.1
  have hs := sk_n (B := B) hp
  have hle := sk_le B n p
  have eC := cTk h.1.1 hn h.2.1.1 (by omega) 121
  have eR := rLk h.1.2 hn h.2.1.2 (by omega)
  generalize hp2 : sk B n p = p2 at hs hle eC eR
  have xe : (140 : Int32) * Int32.ofNat tx + Int32.ofNat j = Int32.ofNat (140 * tx + j) := by rw [Int32.ofNat_add, Int32.ofNat_mul]; rfl
  have cR : ∀ res, (if sg B n p2 = 121 then fX11_clause_c40 (hR R p2) (Int32.ofNat (140 * tx + j)) else (fX11_bad (hR R p2)).bind (fun r4 => fX11_clause_c40 r4 (Int32.ofNat (140 * tx + j)))) = res → fX11_clause R = res := fun res hr => by
    unfold fX11_clause
    rw [h.2.2.2.2.1, nn_tn (by omega), nn_gn (by omega) ht, if_pos h.2.2.1, h11, xe]
    refine bs eR ?_
    exact hr
  have e4 : ∀ q, (hR R q).1 606 4 = -1 := fun q => (hR_n (by omega)).trans h.2.2.1
  generalize hXe : 140 * tx + j = X at hX cR
  by_cases cy : sg B n p2 = 121
  · rw [if_pos cy] at eC
    have hl : p2 < n := sg_lt (B := B) (by rw [cy]; decide)
    have o1 := OK_h (OK_0 h) (q := p2 + 1) (by omega) hl
    have h1 : LwS B n tx _ _ (p2 + 1) 0 len cnt := LwS_OK h o1
    have hs1 := sk_n (B := B) (n := n) (p := p2 + 1) hl
    have hle1 := sk_le B n (p2 + 1)
    have eC1 := cTk h1.1.1 hn h1.2.1.1 (by omega) 58
    have eR1 := rLk h1.1.2 hn h1.2.1.2 (by omega)
    generalize hp3 : sk B n (p2 + 1) = p3 at hs1 hle1 eC1 eR1
    rw [hR_2] at eR1
    rw [hC_2, hC_2] at eC1
    have cR1 : ∀ res, (if sg B n p3 = 58 then fX11_clause_c71 (hR R p3) (Int32.ofNat X) else (fX11_bad (hR R p3)).bind (fun r4 => fX11_clause_c71 r4 (Int32.ofNat X))) = res → fX11_clause R = res := fun res hr => cR res (by
      rw [if_pos cy]
      unfold fX11_clause_c40
      rw [if_pos (e4 p2), hR_s]
      exact bs eR1 hr)
    have cC1 : ∀ res, ((fX8_took (hC M (p2 + 1)) 58).bind fun r3 => (if r3.1 = 0 then fX2_readClause_c18 r3.2 else (fX8_sign r3.2).bind fun r5 => (fX2_nests r5.2 r5.1).bind fun r6 => (if r6.1 = 0 then (fX2_readSum 12 r6.2 25 0).bind fun r8 => (if r8.1 = 0 then some (0, r8.2) else (fX8_sign r8.2).bind fun r10 => (fX2_compares r10.2 r10.1).bind fun r11 => (if r11.1 = 0 then some (1, r11.2) else (fX2_readCondition (fX2_readUnit 12) r11.2 25 0 1).bind fun r13 => (if r13.1 = 0 then fX2_readClause_c75 r13.2 else (fX2_readGated r13.2 25).bind fun r15 => (if r15.1 = 0 then fX2_readClause_c75 r15.2 else fX2_readClause_c76 r15.2 1)))) else (fX2_readCondition (fX2_readUnit 12) r6.2 25 0 0).bind fun r17 => (if r17.1 = 0 then fX2_readClause_c99 r17.2 else (fX2_readGated r17.2 25).bind fun r19 => (if r19.1 = 0 then fX2_readClause_c99 r19.2 else fX2_readClause_c100 r19.2 1))))) = res → fX2_readClause M 25 = res := fun res hr => by
      unfold fX2_readClause
      refine bs eC ?_
      dsimp only
      rw [if_neg (show ¬ (1 : Int32) = 0 by decide)]
      exact hr
    by_cases cc : sg B n p3 = 58
    · rw [if_pos cc] at eC1
      have hl1 : p3 < n := sg_lt (B := B) (by rw [cc]; decide)
      have g0 : GF tx j cnt R (hR R (p3 + 1)) := GF_h (GF_refl R)
      have g1 : GF tx j cnt R (wI (hR R (p3 + 1)) 612 X (Int32.ofNat cnt)) := GF_w g0 (by omega)
      have o2 := OK_h (OK_0 h) (q := p3 + 1) (by omega) hl1
      have h2 : LwS B n tx (hC M (p3 + 1)) (hR R (p3 + 1)) (p3 + 1) 0 len cnt := LwS_OK h o2
      have w12 : (wI (hR R (p3 + 1)) 612 X (Int32.ofNat cnt)).1 612 X = Int32.ofNat cnt := wI_eq
      have w11 : (wI (hR R (p3 + 1)) 612 X (Int32.ofNat cnt)).1 611 tx = Int32.ofNat j := by rw [wI_ne (by decide), hR_n (by omega), h11]
      have h3 : LwS B n tx (hC M (p3 + 1)) (wI (hR R (p3 + 1)) 612 X (Int32.ofNat cnt)) (p3 + 1) 0 len cnt := LwS_r h2 (fun a k z => wI_ne (by omega))
      generalize hR1 : wI (hR R (p3 + 1)) 612 X (Int32.ofNat cnt) = R1 at g1 w12 w11 h3
      have hs4 := sk_n (B := B) (n := n) (p := p3 + 1) hl1
      have hle4 := sk_le B n (p3 + 1)
      have hss := sk_sk (B := B) (n := n) (p3 + 1)
      have eC2 := cSg h3.1.1 hn h3.2.1.1 (by omega)
      have eR2 := rLk h3.1.2 hn h3.2.1.2 (by omega)
      generalize hp4 : sk B n (p3 + 1) = p4 at hs4 hle4 hss eC2 eR2
      rw [hC_2] at eC2
      have o4 := OK_h (OK_0 h3) hle4 hs4
      rw [hC_2] at o4
      have h4 : LwS B n tx (hC M p4) (hR R1 p4) p4 0 len cnt := LwS_OK h3 o4
      have eR3 := rLk h4.1.2 hn h4.2.1.2 (by omega)
      rw [hss, hR_2] at eR3
      have g4 : GF tx j cnt R (hR R1 p4) := GF_h g1
      have f4 : CF M (hC M p4) len := CF_w (CF_refl M len) (by omega)
      have w12 : (hR R1 p4).1 612 X = Int32.ofNat cnt := (hR_n (by omega)).trans w12
      have w11 : (hR R1 p4).1 611 tx = Int32.ofNat j := (hR_n (by omega)).trans w11
      have h14 : (hR R p3).1 606 14 = Int32.ofNat tx := (hR_n (by omega)).trans h.2.2.2.2.1
      have h10 : (hR R p3).1 610 tx = Int32.ofNat cnt := (hR_n (by omega)).trans h.2.2.2.2.2.1.2
      generalize hsg : sg B n p4 = s at eC2 eR2 eR3
      have cR2 : ∀ res, fX11_clause_c128 (hR R1 p4) (Int32.ofNat X) (if s = 33 ∨ s = 40 then 1 else 0) = res → fX11_clause R = res := fun res hr => cR1 res (by
        rw [if_pos cc]
        unfold fX11_clause_c71
        rw [if_pos (e4 p3), h14, nn_tn (by omega), nn_gn (by omega) ht, nn_tn (by omega), nn_gn (by omega) hX, hR_s, h10, hR1]
        refine bs eR2 ?_
        dsimp only
        by_cases c33 : s = 33
        · rw [if_pos c33]
          rw [if_pos (Or.inl c33)] at hr
          exact hr
        · rw [if_neg c33]
          refine bs eR3 ?_
          dsimp only
          by_cases c40 : s = 40
          · rw [if_pos c40]
            rw [if_pos (Or.inr c40)] at hr
            exact hr
          · rw [if_neg c40]
            rw [if_neg (fun z => z.elim c33 c40)] at hr
            exact hr)
      have h14 : (hR R1 p4).1 606 14 = Int32.ofNat tx := h4.2.2.2.2.1
      by_cases cn : s = 33 ∨ s = 40
      · -- a test at once
        have cC2 : ∀ res, ((fX2_readCondition (fX2_readUnit 12) (hC M p4) 25 0 0).bind fun r17 => (if r17.1 = 0 then fX2_readClause_c99 r17.2 else (fX2_readGated r17.2 25).bind fun r19 => (if r19.1 = 0 then fX2_readClause_c99 r19.2 else fX2_readClause_c100 r19.2 1))) = res → fX2_readClause M 25 = res := fun res hr => cC1 res (by
          refine bs eC1 ?_
          dsimp only
          rw [if_neg (show ¬ (1 : Int32) = 0 by decide)]
          refine bs eC2 (bs (c_nests _ _) ?_)
          dsimp only
          rw [if_pos cn, if_neg (show ¬ (1 : Int32) = 0 by decide)]
          exact hr)
        rcases con_sim ht hn (d := 0) (b := 0) (unit12 ht hn) _ _ _ _ _ h4 with ⟨M3, R3, p5, ts, k1, k2, k3, k4⟩ | ⟨M3, R3, e, k1, k2, k3⟩
        · have cR3 : ∀ res, fX11_clause_c184 R3 (Int32.ofNat X) 1 = res → fX11_clause R = res := fun res hr => cR2 res (by
            rw [if_pos cn]
            unfold fX11_clause_c128
            rw [if_neg (show ¬ (1 : Int32) = 0 by decide)]
            exact bs k2 hr)
          rw [← hXe] at w12 cR3
          rcases tg_sim ht hn hj h4 k3 (k4 [] (Nat.zero_le _)) w12 w11 with ⟨M6, R6, p6, c, u1, u2, u3⟩ | ⟨M6, R6, e, u1, u2, u3⟩
          · obtain ⟨v1, v2⟩ := CG_up u3 f4 g4 (p := p) (by omega)
            refine Or.inl ⟨M6, R6, p6, c, cC2 _ (bs k1 ?_), cR3 _ u2, v1, v2⟩
            dsimp only
            rw [if_neg (show ¬ (1 : Int32) = 0 by decide)]
            refine bs u1 ?_
            dsimp only
            rw [if_neg (show ¬ (1 : Int32) = 0 by decide)]
            unfold fX2_readClause_c100
            rw [if_pos (Or.inr rfl)]
          · refine Or.inr ⟨M6, R6, e, cC2 _ (bs k1 ?_), cR3 _ u2, CE_up u3 f4 g4⟩
            dsimp only
            rw [if_neg (show ¬ (1 : Int32) = 0 by decide)]
            refine bs u1 ?_
            dsimp only
            rw [if_pos rfl]
            unfold fX2_readClause_c99 fX2_readClause_c100
            rw [if_pos (Or.inl rfl)]
        · have he := k3.2.2.1
          have e14 : R3.1 606 14 = Int32.ofNat tx := (k3.1.2 606 14 (by omega)).trans h14
          refine Or.inr ⟨M3, wI (wI (wI R3 613 X (R3.1 612 X)) 614 X (R3.1 610 tx)) 611 tx (R3.1 611 tx + 1), e, cC2 _ (bs k1 ?_), cR2 _ ?_, CF_trans f4 k3.1.1 (Nat.le_refl _), k3.2.1, he, ?_, ?_⟩
          · dsimp only
            rw [if_pos rfl]
            unfold fX2_readClause_c99 fX2_readClause_c100
            rw [if_pos (Or.inl rfl)]
          · rw [if_pos cn]
            unfold fX11_clause_c128
            rw [if_neg (show ¬ (1 : Int32) = 0 by decide)]
            exact bs k2 (r_c184_e ht e14 hX (by omega) k3.2.2.2.1)
          · rw [wI_ne (by decide), wI_ne (by decide), wI_ne (by decide)]; exact k3.2.2.2.1
          · exact GF_w (GF_w (GF_w (GF_trans g4 (GF_R k3.1.2 (Nat.le_refl _)) (Nat.le_refl _)) (by omega)) (by omega)) (by omega)
      · -- a sum first
        have cC2 : ∀ res, ((fX2_readSum 12 (hC M p4) 25 0).bind fun r8 => (if r8.1 = 0 then some (0, r8.2) else (fX8_sign r8.2).bind fun r10 => (fX2_compares r10.2 r10.1).bind fun r11 => (if r11.1 = 0 then some (1, r11.2) else (fX2_readCondition (fX2_readUnit 12) r11.2 25 0 1).bind fun r13 => (if r13.1 = 0 then fX2_readClause_c75 r13.2 else (fX2_readGated r13.2 25).bind fun r15 => (if r15.1 = 0 then fX2_readClause_c75 r15.2 else fX2_readClause_c76 r15.2 1))))) = res → fX2_readClause M 25 = res := fun res hr => cC1 res (by
          refine bs eC1 ?_
          dsimp only
          rw [if_neg (show ¬ (1 : Int32) = 0 by decide)]
          refine bs eC2 (bs (c_nests _ _) ?_)
          dsimp only
          rw [if_neg cn, if_pos rfl]
          exact hr)
        have cR3 : ∀ res, ((fX11_sum 12 (hR R1 p4)).bind fun r2 => (if r2.1 606 4 = ((-1) : Int32) then (fX11_look r2).bind fun r4 => (fX11_isSign r4.2 r4.1).bind fun r5 => (if r5.1 = 0 then fX11_clause_c166 r5.2 (Int32.ofNat X) else fX11_clause_c167 r5.2 (Int32.ofNat X) 1) else fX11_clause_c166 r2 (Int32.ofNat X))) = res → fX11_clause R = res := fun res hr => cR2 res (by
          rw [if_neg cn]
          unfold fX11_clause_c128
          rw [if_pos rfl]
          exact hr)
        rcases sum12 ht hn (d := 0) (by decide) _ _ _ _ _ h4 with ⟨M3, R3, p5, ts, k1, k2, k3, k4⟩ | ⟨M3, R3, e, k1, k2, k3⟩
        · have h5 := LwS_OK h4 k3
          have hp5 := k3.2.2.2.2.2.2.1
          have hs5 := sk_n (B := B) hp5
          have hle5 := sk_le B n p5
          have eC5 := cSg h5.1.1 hn h5.2.1.1 (by omega)
          have eR5 := rLk h5.1.2 hn h5.2.1.2 (by omega)
          generalize hq : sk B n p5 = q at hs5 hle5 eC5 eR5
          have k3' := OK_h k3 hle5 hs5
          have h6 := LwS_OK h4 k3'
          generalize hsg5 : sg B n q = s5 at eC5 eR5
          cases hcm : cmO s5 with
          | none =>
            have hmt : (ts.map encT).length = ts.length := List.length_map ..
            have k8 := k3'.2.2.2.2.2.2.2.1
            rw [hmt] at k8
            have hB : encB ([], ts) = ts.map encT := by
              unfold encB; rw [if_pos rfl]; rfl
            have e14 : (hR R3 q).1 606 14 = Int32.ofNat tx := h6.2.2.2.2.1
            have e10 : (hR R3 q).1 610 tx = Int32.ofNat (cnt + ts.length) := h6.2.2.2.2.2.1.2
            have e12 : (hR R3 q).1 612 X = Int32.ofNat cnt := by rw [k3'.1.2 612 X (by omega), w12]
            have e11 : (hR R3 q).1 611 tx = Int32.ofNat j := by rw [k3'.1.2 611 tx (by omega), w11]
            have f6 : ∀ a k, ¬ (a = 613 ∨ a = 614 ∨ a = 611) → (wI (wI (wI (hR R3 q) 613 X (Int32.ofNat cnt)) 614 X (Int32.ofNat (cnt + ts.length))) 611 tx (Int32.ofNat (j + 1))).1 a k = (hR R3 q).1 a k := fun a k z => by rw [wI_ne (by omega), wI_ne (by omega), wI_ne (by omega)]
            refine Or.inl ⟨hC M3 q, wI (wI (wI (hR R3 q) 613 X (Int32.ofNat cnt)) 614 X (Int32.ofNat (cnt + ts.length))) 611 tx (Int32.ofNat (j + 1)), q, ([], ts), cC2 _ (bs k1 ?_), cR3 _ (bs k2 ?_), ⟨?_, CF_trans f4 k3'.1.1 (Nat.le_refl _), ?_, ?_, ⟨?_, ?_, ?_⟩, wI_eq, ?_, ?_, ⟨Or.inl rfl, k4 [] (Nat.zero_le _)⟩, ?_⟩, ?_⟩
            · dsimp only
              rw [if_neg (show ¬ (1 : Int32) = 0 by decide)]
              refine bs eC5 (bs (c_cmps _ _) ?_)
              dsimp only
              rw [hcm, if_pos rfl, if_pos rfl]
            · rw [if_pos h5.2.2.1]
              refine bs eR5 (bs (r_sign _ _) ?_)
              dsimp only
              rw [hcm, if_pos rfl, if_pos rfl]
              unfold fX11_clause_c166 fX11_clause_c167
              rw [if_pos rfl, r_c184_0 ht e14 hX, e12, e10, e11, nn_s]
            · rw [hB]
              have := LwS_r (R' := wI (wI (wI (hR R3 q) 613 X (Int32.ofNat cnt)) 614 X (Int32.ofNat (cnt + ts.length))) 611 tx (Int32.ofNat (j + 1))) h6 (fun a k z => f6 a k (by omega))
              rw [show cnt + (([] : List Tok).length + ts.length) = cnt + ts.length by show cnt + (0 + ts.length) = _; omega]
              exact this
            · rw [hB]; exact k3'.2.1.2
            · exact GF_w (GF_w (GF_w (GF_trans g4 (GF_R k3'.1.2 (Nat.le_refl _)) (Nat.le_refl _)) (by omega)) (by omega)) (by omega)
            · rw [hXe, f6 _ _ (by decide), e12]
            · rw [hXe, wI_ne (by decide), wI_ne (by decide), wI_eq]; rfl
            · rw [hXe, wI_ne (by decide), wI_eq]; rfl
            · intro i x hi; cases hi
            · exact tokR_up k3'.2.2.1.2 (fun a ha k z1 z2 => f6 a k (by omega))
            · rw [hB, hmt]; omega
            · rw [hB, hmt]; omega
          | some cx =>
            have hne : ¬ (some cx = none) := fun z => by cases z
            have cC3 : ∀ res, ((fX2_readCondition (fX2_readUnit 12) (hC M3 q) 25 0 1).bind fun r13 => (if r13.1 = 0 then fX2_readClause_c75 r13.2 else (fX2_readGated r13.2 25).bind fun r15 => (if r15.1 = 0 then fX2_readClause_c75 r15.2 else fX2_readClause_c76 r15.2 1))) = res → fX2_readClause M 25 = res := fun res hr => cC2 res (bs k1 (by
              dsimp only
              rw [if_neg (show ¬ (1 : Int32) = 0 by decide)]
              refine bs eC5 (bs (c_cmps _ _) ?_)
              dsimp only
              rw [hcm, if_neg hne, if_neg (show ¬ (1 : Int32) = 0 by decide)]
              exact hr))
            have cR4 : ∀ res, fX11_clause_c167 (hR R3 q) (Int32.ofNat X) 1 = res → fX11_clause R = res := fun res hr => cR3 res (bs k2 (by
              rw [if_pos h5.2.2.1]
              refine bs eR5 (bs (r_sign _ _) ?_)
              dsimp only
              rw [hcm, if_neg hne, if_neg (show ¬ (1 : Int32) = 0 by decide)]
              exact hr))
            have cR5 : ∀ Rx res, ((fX11_compare (hR R3 q)).bind (fX11_goOnAnd (fX11_unit 12))).bind (fX11_goOnOr (fX11_unit 12)) = some Rx → fX11_clause_c184 Rx (Int32.ofNat X) 1 = res → fX11_clause R = res := fun Rx res h1 h2 => cR4 res (by
              unfold fX11_clause_c167
              rw [if_neg (show ¬ (1 : Int32) = 0 by decide)]
              exact bs3 h1 h2)
            rcases con1_sim ht hn (d := 0) (b := 0) (by decide) (by decide) (unit12 ht hn) _ _ _ _ _ h6 with ⟨M7, R7, p7, ts7, m1, m2, m3, m4⟩ | ⟨M7, R7, e, m1, m2, m3⟩
            · have o7 := OK_trans k3' m3
              rw [← List.map_append] at o7
              have ty7 : tyTs (ts ++ ts7) [] = some [true] := by
                rw [tyTs_app, show tyTs ts [] = some [false] from k4 [] (Nat.zero_le _)]
                exact m4 [] (Nat.zero_le _)
              have cR6 := fun res => cR5 R7 res m2
              rw [← hXe] at w12 cR6
              rcases tg_sim ht hn hj h4 o7 ty7 w12 w11 with ⟨M8, R8, p8, c, u1, u2, u3⟩ | ⟨M8, R8, e, u1, u2, u3⟩
              · obtain ⟨v1, v2⟩ := CG_up u3 f4 g4 (p := p) (by omega)
                refine Or.inl ⟨M8, R8, p8, c, cC3 _ (bs m1 ?_), cR6 _ u2, v1, v2⟩
                dsimp only
                rw [if_neg (show ¬ (1 : Int32) = 0 by decide)]
                refine bs u1 ?_
                dsimp only
                rw [if_neg (show ¬ (1 : Int32) = 0 by decide)]
                unfold fX2_readClause_c76
                rw [if_pos (Or.inr rfl)]
              · refine Or.inr ⟨M8, R8, e, cC3 _ (bs m1 ?_), cR6 _ u2, CE_up u3 f4 g4⟩
                dsimp only
                rw [if_neg (show ¬ (1 : Int32) = 0 by decide)]
                refine bs u1 ?_
                dsimp only
                rw [if_pos rfl]
                unfold fX2_readClause_c75 fX2_readClause_c76
                rw [if_pos (Or.inl rfl)]
            · have m3 := ER_trans k3' m3
              have he := m3.2.2.1
              have e14 : R7.1 606 14 = Int32.ofNat tx := (m3.1.2 606 14 (by omega)).trans h14
              refine Or.inr ⟨M7, wI (wI (wI R7 613 X (R7.1 612 X)) 614 X (R7.1 610 tx)) 611 tx (R7.1 611 tx + 1), e, cC3 _ (bs m1 ?_), cR5 R7 _ m2 (r_c184_e ht e14 hX (by omega) m3.2.2.2.1), CF_trans f4 m3.1.1 (Nat.le_refl _), m3.2.1, he, ?_, ?_⟩
              · dsimp only
                rw [if_pos rfl]
                unfold fX2_readClause_c75 fX2_readClause_c76
                rw [if_pos (Or.inl rfl)]
              · rw [wI_ne (by decide), wI_ne (by decide), wI_ne (by decide)]; exact m3.2.2.2.1
              · exact GF_w (GF_w (GF_w (GF_trans g4 (GF_R m3.1.2 (Nat.le_refl _)) (Nat.le_refl _)) (by omega)) (by omega)) (by omega)
        · have he := k3.2.2.1
          have e14 : R3.1 606 14 = Int32.ofNat tx := (k3.1.2 606 14 (by omega)).trans h14
          refine Or.inr ⟨M3, wI (wI (wI R3 613 X (R3.1 612 X)) 614 X (R3.1 610 tx)) 611 tx (R3.1 611 tx + 1), e, cC2 _ (bs k1 ?_), cR3 _ (bs k2 ?_), CF_trans f4 k3.1.1 (Nat.le_refl _), k3.2.1, he, ?_, ?_⟩
          · dsimp only
            rw [if_pos rfl]
          · rw [k3.2.2.2.1, if_neg (ofN_ne (by omega))]
            unfold fX11_clause_c166 fX11_clause_c167
            rw [if_pos rfl]
            exact r_c184_0 ht e14 hX
          · rw [wI_ne (by decide), wI_ne (by decide), wI_ne (by decide)]; exact k3.2.2.2.1
          · exact GF_w (GF_w (GF_w (GF_trans g4 (GF_R k3.1.2 (Nat.le_refl _)) (Nat.le_refl _)) (by omega)) (by omega)) (by omega)
    · rw [if_neg cc] at eC1
      refine Or.inr ⟨hC M p3, wI (wI (hR R p3) 606 4 (Int32.ofNat p3)) 606 3 (Int32.ofNat (p3 + 1)), p3, cC1 _ (bs eC1 ?_), cR1 _ ?_, CF_w (CF_refl M len) (by omega), hC_h _ _, hs1, ?_, GF_w (GF_w (GF_h (GF_refl R)) (by omega)) (by omega)⟩
      · dsimp only
        rw [if_pos rfl]; rfl
      · rw [if_neg cc]
        refine bs (rBad (hR_h R p3) (e4 p3)) ?_
        unfold fX11_clause_c71
        rw [wI_eq, if_neg (ofN_ne (by omega)), wI_nk (by decide), hR_h, nn_s]
      · rw [wI_nk (by decide), wI_eq]
  · rw [if_neg cy] at eC
    refine Or.inr ⟨hC M p2, wI (wI (wI (hR R p2) 606 4 (Int32.ofNat p2)) 606 3 (Int32.ofNat (p2 + 1))) 606 3 (Int32.ofNat (p2 + 1 + 1)), p2, ?_, cR _ ?_, CF_w (CF_refl M len) (by omega), hC_h _ _, hs, ?_, GF_w (GF_w (GF_w (GF_h (GF_refl R)) (by omega)) (by omega)) (by omega)⟩
    · unfold fX2_readClause
      refine bs eC ?_
      dsimp only
      rw [if_pos rfl]; rfl
    · rw [if_neg cy]
      refine bs (rBad (hR_h R p2) (e4 p2)) ?_
      have w4 : (wI (wI (hR R p2) 606 4 (Int32.ofNat p2)) 606 3 (Int32.ofNat (p2 + 1))).1 606 4 = Int32.ofNat p2 := by rw [wI_nk (by decide), wI_eq]
      unfold fX11_clause_c40
      rw [wI_eq, if_neg (ofN_ne (by omega)), wI_nk (show ¬ 3 = 4 by decide), hR_h, nn_s]
      unfold fX11_clause_c71
      rw [w4, if_neg (ofN_ne (by omega)), wI_eq, nn_s]
    · rw [wI_nk (by decide), wI_nk (by decide), wI_eq]
end CLB
