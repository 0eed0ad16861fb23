/-! LAWS READ: terms, sums -/
section SMS
variable {B : Nat → Int32} {n tx : Nat}
theorem ty_ne {ts : List Tok} {t : Bool} (h : tyTs ts ([] ++ []) = some ([t] ++ [])) : 1 ≤ ts.length := by
  cases ts with
  | nil => cases h
  | cons a l => exact Nat.succ_le_succ (Nat.zero_le _)
theorem ty_step {ts1 ts' : List Tok} {c : Nat} {s : List Bool} (hc : 2 ≤ c ∧ c ≤ 5) (h1 : tyTs ts1 ([] ++ (false :: s)) = some ([false] ++ (false :: s))) (h2 : tyTs ts' ([false] ++ s) = some ([false] ++ s)) : tyTs ((ts1 ++ [(c, 0)]) ++ ts') ([false] ++ s) = some ([false] ++ s) := by
  rw [tyTs_app, tyTs_app, show ([false] ++ s : List Bool) = [] ++ (false :: s) from rfl, h1]
  obtain rfl | rfl | rfl | rfl : c = 2 ∨ c = 3 ∨ c = 4 ∨ c = 5 := by omega
  all_goals exact h2
theorem term_l (ht : tx < 5) (hn : n ≤ 240) {kC : mm_MM → Nat → Int32 → Option (Int32 × mm_MM)} {kR : mm_MM → Option mm_MM} {d : Nat} (A : Sim B n tx (fun M => fX2_readAtom kC M 25 (Int32.ofNat d)) (fX11_atom kR) d [] [false] (32 + 2 * d)) : ∀ (N gC gR i : Nat) (M R : mm_MM) (p len cnt : Nat), n - p < N → N ≤ gC → N ≤ gR → 2 * i ≤ p → LwS B n tx M R p d len cnt →
    (∃ M' R' p' ts, fX2_readTerm_c13 kC gC M 25 (Int32.ofNat d) (Int32.ofNat i) = some (1, M') ∧ (fX11_look R).bind (fun r3 => fX11_term_c21 kR gR r3.2 r3.1) = some R' ∧ OKo n tx M M' R R' p p' d len cnt (ts.map encT) ts ∧ ∀ s, s.length ≤ 31 + 2 * d → tyTs ts ([false] ++ s) = some ([false] ++ s)) ∨
    (∃ M' R' e, fX2_readTerm_c13 kC gC M 25 (Int32.ofNat d) (Int32.ofNat i) = some (0, M') ∧ (fX11_look R).bind (fun r3 => fX11_term_c21 kR gR r3.2 r3.1) = some R' ∧ ERo n tx M M' R R' p e len cnt) := by
  intro N
  induction N with
  | zero => intro gC gR i M R p len cnt h; omega
  | succ N ih =>
    intro gC gR i M R p len cnt hN hgC hgR hi h
    obtain ⟨gC, rfl⟩ : ∃ q, gC = q + 1 := ⟨gC - 1, by omega⟩
    obtain ⟨gR, rfl⟩ : ∃ q, gR = q + 1 := ⟨gR - 1, by omega⟩
    have hp := h.2.2.2.2.2.2.1
    have hlen := h.2.2.2.2.2.2.2.1
    have hcnt := h.2.2.2.2.2.2.2.2
    have hs := sk_n (B := B) hp
    have hle := sk_le B n p
    have eC := cSg h.1.1 hn h.2.1.1 (by omega)
    have eR := rLk h.1.2 hn h.2.1.2 (by omega)
    generalize hp2 : sk B n p = p2 at hs hle eC eR
    have o1 := OK_h (OK_0 h) hle hs
    generalize hsg : sg B n p2 = s at eC eR
    have hi240 : Int32.ofNat i < 240 := (nn_lt (k := 240) (by omega) (by decide)).mpr (by omega)
    have step : ∀ c, (s = 42 ∧ c = 4) ∨ (s = 47 ∧ c = 5) → (∃ M' R' p' ts, fX2_readTerm_c13 kC (gC + 1) M 25 (Int32.ofNat d) (Int32.ofNat i) = some (1, M') ∧ (fX11_look R).bind (fun r3 => fX11_term_c21 kR (gR + 1) r3.2 r3.1) = some R' ∧ OKo n tx M M' R R' p p' d len cnt (ts.map encT) ts ∧ ∀ s, s.length ≤ 31 + 2 * d → tyTs ts ([false] ++ s) = some ([false] ++ s)) ∨
        (∃ M' R' e, fX2_readTerm_c13 kC (gC + 1) M 25 (Int32.ofNat d) (Int32.ofNat i) = some (0, M') ∧ (fX11_look R).bind (fun r3 => fX11_term_c21 kR (gR + 1) r3.2 r3.1) = some R' ∧ ERo n tx M M' R R' p e len cnt) := by
      intro c hc
      have hc5 : 2 ≤ c ∧ c ≤ 5 := by omega
      have hen : -s = encT (c, 0) := by rcases hc with ⟨rfl, rfl⟩ | ⟨rfl, rfl⟩ <;> rfl
      have hl : p2 < n := sg_lt (B := B) (by rw [hsg]; rcases hc with ⟨rfl, -⟩ | ⟨rfl, -⟩ <;> decide)
      have o2 := OK_h o1 (q := p2 + 1) (by omega) hl
      have h2 : LwS B n tx _ _ (p2 + 1) d len cnt := LwS_OK h o2
      have cC : ∀ res, ((fX2_readAtom kC (hC (hC M p2) (p2 + 1)) 25 (Int32.ofNat d)).bind fun r2 => (if r2.1 = 0 then some (0, r2.2) else (fX2_emit r2.2 25 (-s)).bind fun r4 => fX2_readTerm_c13 kC gC r4 25 (Int32.ofNat d) (Int32.ofNat (i + 1)))) = res → fX2_readTerm_c13 kC (gC + 1) M 25 (Int32.ofNat d) (Int32.ofNat i) = res := fun res hr => by
        rw [fX2_readTerm_c13]
        dsimp only
        rw [if_pos hi240]
        refine bs eC ?_
        dsimp only
        have hb : fX2_readTerm_c42 kC (fX2_readTerm_c13 kC gC) (hC M p2) 25 (Int32.ofNat d) (Int32.ofNat i) s = res := by
          unfold fX2_readTerm_c42
          refine bs (cSk (hC_h M p2)) ?_
          rw [nn_s]
          exact hr
        rcases hc with ⟨e, -⟩ | ⟨e, -⟩
        · rw [if_pos e]; exact hb
        · rw [if_neg (show ¬ s = 42 by rw [e]; decide), if_pos e]; exact hb
      have cR : ∀ res, ((fX11_atom kR (hR (hR R p2) (p2 + 1))).bind fun r1 => fX11_term_c59 kR (fX11_term_c21 kR gR) r1 (Int32.ofNat c)) = res → (fX11_look R).bind (fun r3 => fX11_term_c21 kR (gR + 1) r3.2 r3.1) = res := fun res hr => by
        refine bs eR ?_
        rw [fX11_term_c21]
        dsimp only
        have hb : fX11_term_c33 kR (fX11_term_c21 kR gR) (hR R p2) s = res := by
          unfold fX11_term_c33
          rw [hR_s, ← hR_2 R p2 (p2 + 1)]
          rcases hc with ⟨e, e'⟩ | ⟨e, e'⟩
          · subst e'; simp only [if_pos e]; exact hr
          · subst e'; simp only [if_neg (show ¬ s = 42 by rw [e]; decide)]; exact hr
        rcases hc with ⟨e, -⟩ | ⟨e, -⟩
        · rw [if_pos e]; exact hb
        · rw [if_neg (show ¬ s = 42 by rw [e]; decide), if_pos e]; exact hb
      rcases A _ _ _ _ _ h2 with ⟨M3, R3, p3, ts1, g1, g2, g3, g4⟩ | ⟨M3, R3, e, g1, g2, g3⟩
      · have o3 := OK_trans o2 g3
        rw [List.nil_append, List.nil_append] at o3
        have h3 := LwS_OK h o3
        have hp3 := g3.2.2.2.2.2.2.1
        have hp4 := g3.2.2.2.2.2.2.2.1
        have hne := ty_ne (g4 [] (Nat.zero_le _))
        have hml : (ts1.map encT).length = ts1.length := List.length_map ..
        rw [hml] at hp4
        have o4 := OK_pu (OK_emit o3 (by rw [hml]; omega) (-s)) (by rw [List.length_append, hml]; show ts1.length + 1 ≤ ts1.length + 1; omega) (by omega) (c, 0)
        rw [hen, show ts1.map encT ++ [encT (c, 0)] = (ts1 ++ [(c, 0)]).map encT by rw [List.map_append]; rfl] at o4
        have h4 := LwS_OK h o4
        have em1 := c_emit h3.2.2.2.2.2.1.1 (by rw [hml]; omega) (-s)
        have pu1 := r_put ht h3.2.2.2.2.1 h3.2.2.2.2.2.1.2 (by omega) (Int32.ofNat c) 0
        rw [hen] at em1
        have c5 : ∀ res, fX2_readTerm_c13 kC gC (em M3 (encT (c, 0)) (len + (ts1.map encT).length)) 25 (Int32.ofNat d) (Int32.ofNat (i + 1)) = res → fX2_readTerm_c13 kC (gC + 1) M 25 (Int32.ofNat d) (Int32.ofNat i) = res := fun res hr => cC res (bs g1 (by
          dsimp only
          rw [if_neg (show ¬ (1 : Int32) = 0 by decide), hen]
          exact bs em1 hr))
        have cR2 : ∀ res, (fX11_look (pu tx R3 (Int32.ofNat c) (Int32.ofNat 0) (cnt + ts1.length))).bind (fun r3 => fX11_term_c21 kR gR r3.2 r3.1) = res → (fX11_look R).bind (fun r3 => fX11_term_c21 kR (gR + 1) r3.2 r3.1) = res := fun res hr => cR res (bs g2 (by
          unfold fX11_term_c59
          refine bs pu1 ?_
          have w4 : (pu tx R3 (Int32.ofNat c) 0 (cnt + ts1.length)).1 606 4 = -1 := h4.2.2.1
          rw [if_pos w4]
          exact hr))
        rcases ih gC gR (i + 1) _ _ p3 _ _ (by omega) (by omega) (by omega) (by omega) h4 with ⟨M5, R5, p5, ts5, k1, k2, k3, k4⟩ | ⟨M5, R5, e, k1, k2, k3⟩
        · have o5 := OK_trans o4 k3
          rw [← List.map_append] at o5
          exact Or.inl ⟨M5, R5, p5, (ts1 ++ [(c, 0)]) ++ ts5, c5 _ k1, cR2 _ k2, o5, fun s hs => ty_step hc5 (g4 (false :: s) (by show s.length + 1 ≤ 32 + 2 * d; omega)) (k4 s hs)⟩
        · exact Or.inr ⟨M5, R5, e, c5 _ k1, cR2 _ k2, ER_trans o4 k3⟩
      · obtain ⟨R4, er, ee⟩ := ER_put ht hn h o2 (by show p + 0 + 1 ≤ p2 + 1; omega) g3 (Int32.ofNat c) 0
        refine Or.inr ⟨M3, R4, e, cC _ (bs g1 ?_), cR _ (bs g2 ?_), ee⟩
        · dsimp only
          rw [if_pos rfl]
        · unfold fX11_term_c59
          refine bs er ?_
          have he := ee.2.2.1
          obtain ⟨gR, rfl⟩ : ∃ q, gR = q + 1 := ⟨gR - 1, by omega⟩
          rw [ee.2.2.2.1, if_neg (ofN_ne (by omega))]
          unfold fX11_term_c79
          rw [fX11_term_c21]
          dsimp only
          rw [if_neg (show ¬ (-1 : Int32) = 42 by decide), if_neg (show ¬ (-1 : Int32) = 47 by decide)]
    by_cases c1 : s = 42
    · exact step 4 (Or.inl ⟨c1, rfl⟩)
    · by_cases c2 : s = 47
      · exact step 5 (Or.inr ⟨c2, rfl⟩)
      · refine Or.inl ⟨_, _, p2, [], ?_, ?_, o1, fun s _ => rfl⟩
        · rw [fX2_readTerm_c13]
          dsimp only
          rw [if_pos hi240]
          refine bs eC ?_
          dsimp only
          rw [if_neg c1, if_neg c2]
        · refine bs eR ?_
          rw [fX11_term_c21]
          dsimp only
          rw [if_neg c1, if_neg c2]
theorem term_sim (ht : tx < 5) (hn : n ≤ 240) {kC : mm_MM → Nat → Int32 → Option (Int32 × mm_MM)} {kR : mm_MM → Option mm_MM} {d : Nat} (A : Sim B n tx (fun M => fX2_readAtom kC M 25 (Int32.ofNat d)) (fX11_atom kR) d [] [false] (32 + 2 * d)) : Sim B n tx (fun M => fX2_readTerm kC M 25 (Int32.ofNat d)) (fX11_term kR) d [] [false] (31 + 2 * d) := by
  intro M R p len cnt h
  rcases A _ _ _ _ _ h with ⟨M3, R3, p3, ts1, g1, g2, g3, g4⟩ | ⟨M3, R3, e, g1, g2, g3⟩
  · have h3 := LwS_OK h g3
    have cC : ∀ res, fX2_readTerm_c13 kC fu M3 25 (Int32.ofNat d) (Int32.ofNat 0) = res → fX2_readTerm kC M 25 (Int32.ofNat d) = res := fun res hr => by
      unfold fX2_readTerm
      refine bs g1 ?_
      dsimp only
      rw [if_neg (show ¬ (1 : Int32) = 0 by decide)]
      exact hr
    have cR : ∀ res, (fX11_look R3).bind (fun r3 => fX11_term_c21 kR fu r3.2 r3.1) = res → fX11_term kR R = res := fun res hr => by
      unfold fX11_term
      refine bs g2 ?_
      rw [if_pos h3.2.2.1]
      exact hr
    have hp3 := g3.2.2.2.2.2.2.1
    rcases term_l ht hn A (n + 1) fu fu 0 _ _ p3 _ _ (by omega) (by unfold fu; omega) (by unfold fu; omega) (by omega) h3 with ⟨M5, R5, p5, ts5, k1, k2, k3, k4⟩ | ⟨M5, R5, e, k1, k2, k3⟩
    · have o5 := OK_trans g3 k3
      rw [← List.map_append] at o5
      refine Or.inl ⟨M5, R5, p5, ts1 ++ ts5, cC _ k1, cR _ k2, o5, fun s hs => ?_⟩
      rw [tyTs_app, g4 s (by omega)]
      exact k4 s hs
    · exact Or.inr ⟨M5, R5, e, cC _ k1, cR _ k2, ER_trans g3 k3⟩
  · have he := g3.2.2.1
    refine Or.inr ⟨M3, R3, e, ?_, ?_, g3⟩
    · show fX2_readTerm kC M 25 (Int32.ofNat d) = _
      unfold fX2_readTerm
      refine bs g1 ?_
      dsimp only
      rw [if_pos rfl]
    · unfold fX11_term
      refine bs g2 ?_
      rw [g3.2.2.2.1, if_neg (ofN_ne (by omega))]
      unfold fX11_term_c20
      obtain ⟨K, hK⟩ : ∃ K : Nat, fu = K + 1 := ⟨19999, rfl⟩
      rw [hK, fX11_term_c21]
      dsimp only
      rw [if_neg (show ¬ (-1 : Int32) = 42 by decide), if_neg (show ¬ (-1 : Int32) = 47 by decide)]
theorem sum_l (ht : tx < 5) (hn : n ≤ 240) {kC : mm_MM → Nat → Int32 → Option (Int32 × mm_MM)} {kR : mm_MM → Option mm_MM} {d : Nat} (A : Sim B n tx (fun M => fX2_readTerm kC M 25 (Int32.ofNat d)) (fX11_term kR) d [] [false] (31 + 2 * d)) : ∀ (N gC gR i : Nat) (M R : mm_MM) (p len cnt : Nat), n - p < N → N ≤ gC → N ≤ gR → 2 * i ≤ p → LwS B n tx M R p d len cnt →
    (∃ M' R' p' ts, fX2_readSum_b_c13 kC gC M 25 (Int32.ofNat d) (Int32.ofNat i) = some (1, M') ∧ (fX11_look R).bind (fun r3 => fX11_sum_b_c21 kR gR r3.2 r3.1) = some R' ∧ OKo n tx M M' R R' p p' d len cnt (ts.map encT) ts ∧ ∀ s, s.length ≤ 30 + 2 * d → tyTs ts ([false] ++ s) = some ([false] ++ s)) ∨
    (∃ M' R' e, fX2_readSum_b_c13 kC gC M 25 (Int32.ofNat d) (Int32.ofNat i) = some (0, M') ∧ (fX11_look R).bind (fun r3 => fX11_sum_b_c21 kR gR r3.2 r3.1) = some R' ∧ ERo n tx M M' R R' p e len cnt) := by
  intro N
  induction N with
  | zero => intro gC gR i M R p len cnt h; omega
  | succ N ih =>
    intro gC gR i M R p len cnt hN hgC hgR hi h
    obtain ⟨gC, rfl⟩ : ∃ q, gC = q + 1 := ⟨gC - 1, by omega⟩
    obtain ⟨gR, rfl⟩ : ∃ q, gR = q + 1 := ⟨gR - 1, by omega⟩
    have hp := h.2.2.2.2.2.2.1
    have hlen := h.2.2.2.2.2.2.2.1
    have hcnt := h.2.2.2.2.2.2.2.2
    have hs := sk_n (B := B) hp
    have hle := sk_le B n p
    have eC := cSg h.1.1 hn h.2.1.1 (by omega)
    have eR := rLk h.1.2 hn h.2.1.2 (by omega)
    generalize hp2 : sk B n p = p2 at hs hle eC eR
    have o1 := OK_h (OK_0 h) hle hs
    generalize hsg : sg B n p2 = s at eC eR
    have hi240 : Int32.ofNat i < 240 := (nn_lt (k := 240) (by omega) (by decide)).mpr (by omega)
    have step : ∀ c, (s = 43 ∧ c = 2) ∨ (s = 45 ∧ c = 3) → (∃ M' R' p' ts, fX2_readSum_b_c13 kC (gC + 1) M 25 (Int32.ofNat d) (Int32.ofNat i) = some (1, M') ∧ (fX11_look R).bind (fun r3 => fX11_sum_b_c21 kR (gR + 1) r3.2 r3.1) = some R' ∧ OKo n tx M M' R R' p p' d len cnt (ts.map encT) ts ∧ ∀ s, s.length ≤ 30 + 2 * d → tyTs ts ([false] ++ s) = some ([false] ++ s)) ∨
        (∃ M' R' e, fX2_readSum_b_c13 kC (gC + 1) M 25 (Int32.ofNat d) (Int32.ofNat i) = some (0, M') ∧ (fX11_look R).bind (fun r3 => fX11_sum_b_c21 kR (gR + 1) r3.2 r3.1) = some R' ∧ ERo n tx M M' R R' p e len cnt) := by
      intro c hc
      have hc5 : 2 ≤ c ∧ c ≤ 5 := by omega
      have hen : -s = encT (c, 0) := by rcases hc with ⟨rfl, rfl⟩ | ⟨rfl, rfl⟩ <;> rfl
      have hl : p2 < n := sg_lt (B := B) (by rw [hsg]; rcases hc with ⟨rfl, -⟩ | ⟨rfl, -⟩ <;> decide)
      have o2 := OK_h o1 (q := p2 + 1) (by omega) hl
      have h2 : LwS B n tx _ _ (p2 + 1) d len cnt := LwS_OK h o2
      have cC : ∀ res, ((fX2_readTerm kC (hC (hC M p2) (p2 + 1)) 25 (Int32.ofNat d)).bind fun r2 => (if r2.1 = 0 then some (0, r2.2) else (fX2_emit r2.2 25 (-s)).bind fun r4 => fX2_readSum_b_c13 kC gC r4 25 (Int32.ofNat d) (Int32.ofNat (i + 1)))) = res → fX2_readSum_b_c13 kC (gC + 1) M 25 (Int32.ofNat d) (Int32.ofNat i) = res := fun res hr => by
        rw [fX2_readSum_b_c13]
        dsimp only
        rw [if_pos hi240]
        refine bs eC ?_
        dsimp only
        have hb : fX2_readSum_b_c42 kC (fX2_readSum_b_c13 kC gC) (hC M p2) 25 (Int32.ofNat d) (Int32.ofNat i) s = res := by
          unfold fX2_readSum_b_c42
          refine bs (cSk (hC_h M p2)) ?_
          rw [nn_s]
          exact hr
        rcases hc with ⟨e, -⟩ | ⟨e, -⟩
        · rw [if_pos e]; exact hb
        · rw [if_neg (show ¬ s = 43 by rw [e]; decide), if_pos e]; exact hb
      have cR : ∀ res, ((fX11_term kR (hR (hR R p2) (p2 + 1))).bind fun r1 => fX11_sum_b_c59 kR (fX11_sum_b_c21 kR gR) r1 (Int32.ofNat c)) = res → (fX11_look R).bind (fun r3 => fX11_sum_b_c21 kR (gR + 1) r3.2 r3.1) = res := fun res hr => by
        refine bs eR ?_
        rw [fX11_sum_b_c21]
        dsimp only
        have hb : fX11_sum_b_c33 kR (fX11_sum_b_c21 kR gR) (hR R p2) s = res := by
          unfold fX11_sum_b_c33
          rw [hR_s, ← hR_2 R p2 (p2 + 1)]
          rcases hc with ⟨e, e'⟩ | ⟨e, e'⟩
          · subst e'; simp only [if_pos e]; exact hr
          · subst e'; simp only [if_neg (show ¬ s = 43 by rw [e]; decide)]; exact hr
        rcases hc with ⟨e, -⟩ | ⟨e, -⟩
        · rw [if_pos e]; exact hb
        · rw [if_neg (show ¬ s = 43 by rw [e]; decide), if_pos e]; exact hb
      rcases A _ _ _ _ _ h2 with ⟨M3, R3, p3, ts1, g1, g2, g3, g4⟩ | ⟨M3, R3, e, g1, g2, g3⟩
      · have o3 := OK_trans o2 g3
        rw [List.nil_append, List.nil_append] at o3
        have h3 := LwS_OK h o3
        have hp3 := g3.2.2.2.2.2.2.1
        have hp4 := g3.2.2.2.2.2.2.2.1
        have hne := ty_ne (g4 [] (Nat.zero_le _))
        have hml : (ts1.map encT).length = ts1.length := List.length_map ..
        rw [hml] at hp4
        have o4 := OK_pu (OK_emit o3 (by rw [hml]; omega) (-s)) (by rw [List.length_append, hml]; show ts1.length + 1 ≤ ts1.length + 1; omega) (by omega) (c, 0)
        rw [hen, show ts1.map encT ++ [encT (c, 0)] = (ts1 ++ [(c, 0)]).map encT by rw [List.map_append]; rfl] at o4
        have h4 := LwS_OK h o4
        have em1 := c_emit h3.2.2.2.2.2.1.1 (by rw [hml]; omega) (-s)
        have pu1 := r_put ht h3.2.2.2.2.1 h3.2.2.2.2.2.1.2 (by omega) (Int32.ofNat c) 0
        rw [hen] at em1
        have c3 : ∀ res, fX2_readSum_b_c13 kC gC (em M3 (encT (c, 0)) (len + (ts1.map encT).length)) 25 (Int32.ofNat d) (Int32.ofNat (i + 1)) = res → fX2_readSum_b_c13 kC (gC + 1) M 25 (Int32.ofNat d) (Int32.ofNat i) = res := fun res hr => cC res (bs g1 (by
          dsimp only
          rw [if_neg (show ¬ (1 : Int32) = 0 by decide), hen]
          exact bs em1 hr))
        have cR2 : ∀ res, (fX11_look (pu tx R3 (Int32.ofNat c) (Int32.ofNat 0) (cnt + ts1.length))).bind (fun r3 => fX11_sum_b_c21 kR gR r3.2 r3.1) = res → (fX11_look R).bind (fun r3 => fX11_sum_b_c21 kR (gR + 1) r3.2 r3.1) = res := fun res hr => cR res (bs g2 (by
          unfold fX11_sum_b_c59
          refine bs pu1 ?_
          have w4 : (pu tx R3 (Int32.ofNat c) 0 (cnt + ts1.length)).1 606 4 = -1 := h4.2.2.1
          rw [if_pos w4]
          exact hr))
        rcases ih gC gR (i + 1) _ _ p3 _ _ (by omega) (by omega) (by omega) (by omega) h4 with ⟨M5, R5, p5, ts5, k1, k2, k3, k4⟩ | ⟨M5, R5, e, k1, k2, k3⟩
        · have o5 := OK_trans o4 k3
          rw [← List.map_append] at o5
          exact Or.inl ⟨M5, R5, p5, (ts1 ++ [(c, 0)]) ++ ts5, c3 _ k1, cR2 _ k2, o5, fun s hs => ty_step hc5 (g4 (false :: s) (by show s.length + 1 ≤ 31 + 2 * d; omega)) (k4 s hs)⟩
        · exact Or.inr ⟨M5, R5, e, c3 _ k1, cR2 _ k2, ER_trans o4 k3⟩
      · obtain ⟨R4, er, ee⟩ := ER_put ht hn h o2 (by show p + 0 + 1 ≤ p2 + 1; omega) g3 (Int32.ofNat c) 0
        refine Or.inr ⟨M3, R4, e, cC _ (bs g1 ?_), cR _ (bs g2 ?_), ee⟩
        · dsimp only
          rw [if_pos rfl]
        · unfold fX11_sum_b_c59
          refine bs er ?_
          have he := ee.2.2.1
          obtain ⟨gR, rfl⟩ : ∃ q, gR = q + 1 := ⟨gR - 1, by omega⟩
          rw [ee.2.2.2.1, if_neg (ofN_ne (by omega))]
          unfold fX11_sum_b_c79
          rw [fX11_sum_b_c21]
          dsimp only
          rw [if_neg (show ¬ (-1 : Int32) = 43 by decide), if_neg (show ¬ (-1 : Int32) = 45 by decide)]
    by_cases c1 : s = 43
    · exact step 2 (Or.inl ⟨c1, rfl⟩)
    · by_cases c2 : s = 45
      · exact step 3 (Or.inr ⟨c2, rfl⟩)
      · refine Or.inl ⟨_, _, p2, [], ?_, ?_, o1, fun s _ => rfl⟩
        · rw [fX2_readSum_b_c13]
          dsimp only
          rw [if_pos hi240]
          refine bs eC ?_
          dsimp only
          rw [if_neg c1, if_neg c2]
        · refine bs eR ?_
          rw [fX11_sum_b_c21]
          dsimp only
          rw [if_neg c1, if_neg c2]
theorem sum_sim (ht : tx < 5) (hn : n ≤ 240) {kC : mm_MM → Nat → Int32 → Option (Int32 × mm_MM)} {kR : mm_MM → Option mm_MM} {d : Nat} (A : Sim B n tx (fun M => fX2_readTerm kC M 25 (Int32.ofNat d)) (fX11_term kR) d [] [false] (31 + 2 * d)) : Sim B n tx (fun M => fX2_readSum_b kC M 25 (Int32.ofNat d)) (fX11_sum_b kR) d [] [false] (30 + 2 * d) := by
  intro M R p len cnt h
  rcases A _ _ _ _ _ h with ⟨M3, R3, p3, ts1, g1, g2, g3, g4⟩ | ⟨M3, R3, e, g1, g2, g3⟩
  · have h3 := LwS_OK h g3
    have cC : ∀ res, fX2_readSum_b_c13 kC fu M3 25 (Int32.ofNat d) (Int32.ofNat 0) = res → fX2_readSum_b kC M 25 (Int32.ofNat d) = res := fun res hr => by
      unfold fX2_readSum_b
      refine bs g1 ?_
      dsimp only
      rw [if_neg (show ¬ (1 : Int32) = 0 by decide)]
      exact hr
    have cR : ∀ res, (fX11_look R3).bind (fun r3 => fX11_sum_b_c21 kR fu r3.2 r3.1) = res → fX11_sum_b kR R = res := fun res hr => by
      unfold fX11_sum_b
      refine bs g2 ?_
      rw [if_pos h3.2.2.1]
      exact hr
    have hp3 := g3.2.2.2.2.2.2.1
    rcases sum_l ht hn A (n + 1) fu fu 0 _ _ p3 _ _ (by omega) (by unfold fu; omega) (by unfold fu; omega) (by omega) h3 with ⟨M5, R5, p5, ts5, k1, k2, k3, k4⟩ | ⟨M5, R5, e, k1, k2, k3⟩
    · have o5 := OK_trans g3 k3
      rw [← List.map_append] at o5
      refine Or.inl ⟨M5, R5, p5, ts1 ++ ts5, cC _ k1, cR _ k2, o5, fun s hs => ?_⟩
      rw [tyTs_app, g4 s (by omega)]
      exact k4 s hs
    · exact Or.inr ⟨M5, R5, e, cC _ k1, cR _ k2, ER_trans g3 k3⟩
  · have he := g3.2.2.1
    refine Or.inr ⟨M3, R3, e, ?_, ?_, g3⟩
    · show fX2_readSum_b kC M 25 (Int32.ofNat d) = _
      unfold fX2_readSum_b
      refine bs g1 ?_
      dsimp only
      rw [if_pos rfl]
    · unfold fX11_sum_b
      refine bs g2 ?_
      rw [g3.2.2.2.1, if_neg (ofN_ne (by omega))]
      unfold fX11_sum_b_c20
      obtain ⟨K, hK⟩ : ∃ K : Nat, fu = K + 1 := ⟨19999, rfl⟩
      rw [hK, fX11_sum_b_c21]
      dsimp only
      rw [if_neg (show ¬ (-1 : Int32) = 43 by decide), if_neg (show ¬ (-1 : Int32) = 45 by decide)]
theorem sums_sim (ht : tx < 5) (hn : n ≤ 240) : ∀ (f d : Nat), d ≤ 6 → 6 - d < f → Sim B n tx (fun M => fX2_readSum f M 25 (Int32.ofNat d)) (fX11_sum f) d [] [false] (30 + 2 * d)
  | 0, d, _, h => absurd h (by omega)
  | f + 1, d, hd, h => sum_sim ht hn (term_sim ht hn (atom_sim ht hn hd (fun z => by
      have := sums_sim ht hn f (d + 1) (by omega) (by omega)
      rw [show 30 + 2 * (d + 1) = 32 + 2 * d by omega] at this
      exact this)))
theorem sum12 (ht : tx < 5) (hn : n ≤ 240) {d : Nat} (hd : d ≤ 6) : Sim B n tx (fun M => fX2_readSum 12 M 25 (Int32.ofNat d)) (fX11_sum 12) d [] [false] (30 + 2 * d) := sums_sim ht hn 12 d hd (by omega)
end SMS
