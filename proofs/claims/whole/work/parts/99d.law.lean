/-! LAWS READ: the law whole -/
section LAW
variable {B : Nat → Int32} {n tx : Nat}
def LFr (tx : Nat) (R R' : mm_MM) : Prop := ∀ a k, ¬ ((a = 606 ∧ (k = 3 ∨ k = 4 ∨ k = 5 ∨ k = 14)) ∨ ((a = 608 ∨ a = 609) ∧ 520 * tx ≤ k ∧ k < 520 * tx + 520) ∨ (a = 610 ∧ k = tx) ∨ (a = 611 ∧ k = tx) ∨ ((612 ≤ a ∧ a ≤ 614) ∧ 140 * tx ≤ k ∧ k < 140 * tx + 140)) → R'.1 a k = R.1 a k
theorem LFr_G {R R' : mm_MM} {j cnt : Nat} (hj : j < 140) (h : GF tx j cnt R R') : LFr tx R R' := fun a k z => h a k (by omega)
theorem LFr_trans {R R' R2 : mm_MM} (h : LFr tx R R') (h' : LFr tx R' R2) : LFr tx R R2 := fun a k z => (h' a k z).trans (h a k z)
theorem LFr_w {R R' : mm_MM} {a k : Nat} {v : Int32} (h : LFr tx R R') (hw : (a = 606 ∧ (k = 3 ∨ k = 4 ∨ k = 5 ∨ k = 14)) ∨ (a = 610 ∧ k = tx) ∨ (a = 611 ∧ k = tx)) : LFr tx R (wI R' a k v) := fun x y z => by
  rw [wI_1, if_neg (by omega)]; exact h x y z
theorem rowsR_up {m m' : mm_MM} {t : Nat} : ∀ (cs : List Cla) (j p J P : Nat), j + cs.length ≤ J → p + lenCs cs ≤ P → (∀ a, 612 ≤ a → a ≤ 614 → ∀ k, 140 * t ≤ k → k < 140 * t + J → m'.1 a k = m.1 a k) → (∀ a, (a = 608 ∨ a = 609) → ∀ k, 520 * t ≤ k → k < 520 * t + P → m'.1 a k = m.1 a k) → rowsR m t j p cs → rowsR m' t j p cs
  | [], _, _, _, _, _, _, _, _, _ => trivial
  | c :: cs, j, p, J, P, hj, hp, h1, h2, h => by
    obtain ⟨a1, a2, a3, a4, a5, a6⟩ := h
    have hj : j + (cs.length + 1) ≤ J := hj
    have hp : p + (c.1.length + c.2.length + lenCs cs) ≤ P := hp
    refine ⟨(h1 612 (by decide) (by decide) _ (by omega) (by omega)).trans a1, (h1 613 (by decide) (by decide) _ (by omega) (by omega)).trans a2, (h1 614 (by decide) (by decide) _ (by omega) (by omega)).trans a3, tokR_up a4 (fun a ha k k1 k2 => h2 a ha k (by omega) (by omega)), tokR_up a5 (fun a ha k k1 k2 => h2 a ha k (by omega) (by omega)), rowsR_up cs _ _ J P (by omega) (by omega) h1 h2 a6⟩
theorem rowsR_snoc {m : mm_MM} {t : Nat} {c : Cla} : ∀ (cs : List Cla) (j p : Nat), rowsR m t j p cs → rowsR m t (j + cs.length) (p + lenCs cs) [c] → rowsR m t j p (cs ++ [c])
  | [], _, _, _, h => h
  | c0 :: cs, j, p, h1, h2 => by
    obtain ⟨a1, a2, a3, a4, a5, a6⟩ := h1
    refine ⟨a1, a2, a3, a4, a5, rowsR_snoc cs _ _ a6 ?_⟩
    have e1 : j + 1 + cs.length = j + (c0 :: cs).length := by show j + 1 + cs.length = j + (cs.length + 1); omega
    have e2 : p + c0.1.length + c0.2.length + lenCs cs = p + lenCs (c0 :: cs) := by show _ = p + (c0.1.length + c0.2.length + lenCs cs); omega
    rw [e1, e2]; exact h2
theorem lenCs_snoc {c : Cla} : ∀ cs : List Cla, lenCs (cs ++ [c]) = lenCs cs + (c.1.length + c.2.length)
  | [] => by show c.1.length + c.2.length + 0 = 0 + _; omega
  | c0 :: cs => by
    show c0.1.length + c0.2.length + lenCs (cs ++ [c]) = c0.1.length + c0.2.length + lenCs cs + _
    rw [lenCs_snoc cs]; omega
theorem encCs_snoc {c : Cla} : ∀ cs : List Cla, encCs (cs ++ [c]) = encCs cs ++ encC c
  | [] => by show encC c ++ [] = [] ++ encC c; rw [List.append_nil, List.nil_append]
  | c0 :: cs => by
    show encC c0 ++ encCs (cs ++ [c]) = (encC c0 ++ encCs cs) ++ encC c
    rw [encCs_snoc cs, List.append_assoc]
theorem encC_B (c : Cla) : encC c = encB c ++ [-59] := by
  unfold encC encB
  rw [List.append_assoc]
def LL (B : Nat → Int32) (n tx : Nat) (M R : mm_MM) (p : Nat) (cs : List Cla) : Prop := LwS B n tx M R p 0 (encCs cs).length (lenCs cs) ∧ inR (M.1 26) 0 (encCs cs) ∧ rowsR R tx 0 0 cs ∧ R.1 611 tx = Int32.ofNat cs.length ∧ (∀ c ∈ cs, wfC c) ∧ 2 * cs.length ≤ p
def LFin (tx : Nat) (M R : mm_MM) : Prop := ∃ cs, LawC M 25 cs ∧ LawR R tx cs ∧ ∀ c ∈ cs, wfC c
theorem law_l (ht : tx < 5) (hn : n ≤ 240) (hB : ∀ i, i < n → ¬ B i = -1) : ∀ (N gC gR : Nat) (M R : mm_MM) (p : Nat) (cs : List Cla), n - p < N → N ≤ gC → N ≤ gR → LL B n tx M R p cs →
    ∃ v M' R', fX2_read_c11 gC M 25 (Int32.ofNat cs.length) = some (v, M') ∧ (fX11_clause R).bind (fX11_readLaw_c9 gR) = some (v, R') ∧ CF M M' 0 ∧ LFr tx R R' ∧ (v = -1 → LFin tx M' R') := by
  intro N
  induction N with
  | zero => intro gC gR M R p cs h; omega
  | succ N ih =>
    intro gC gR M R p cs hN hgC hgR hL
    obtain ⟨gC, rfl⟩ : ∃ q, gC = q + 1 := ⟨gC - 1, by omega⟩
    obtain ⟨gR, rfl⟩ : ∃ q, gR = q + 1 := ⟨gR - 1, by omega⟩
    obtain ⟨h, hi, hr, h11, hw, h2⟩ := hL
    have hp := h.2.2.2.2.2.2.1
    have hlen := h.2.2.2.2.2.2.2.1
    have hcnt := h.2.2.2.2.2.2.2.2
    have hj : cs.length < 140 := by omega
    have hi240 : Int32.ofNat cs.length < 240 := (nn_lt (k := 240) (by omega) (by decide)).mpr (by omega)
    have cC : ∀ res, ((fX2_readClause M 25).bind fun r2 => (if r2.1 = 0 then (fX8_head r2.2).bind fun r4 => some (r4.1, r4.2) else (fX2_emit r2.2 25 ((-59) : Int32)).bind fun r5 => (fX8_sign r5).bind fun r6 => (if r6.1 = ((-1) : Int32) then some (((-1) : Int32), r6.2) else (fX8_took r6.2 59).bind fun r8 => (if r8.1 = 0 then (fX8_head r8.2).bind fun r10 => some (r10.1, r10.2) else fX2_read_c11 gC r8.2 25 (Int32.ofNat (cs.length + 1)))))) = res → fX2_read_c11 (gC + 1) M 25 (Int32.ofNat cs.length) = res := fun res hr => by
      rw [fX2_read_c11]
      dsimp only
      rw [if_pos hi240, nn_s]
      exact hr
    rcases cla_sim ht hn hj h h11 with ⟨M1, R1, p1, c, k1, k2, ⟨a1, a2, a3, a4, ⟨a5, a5', a5''⟩, a6, a7, a8, a9, -⟩, a10⟩ | ⟨M1, R1, e, k1, k2, a1, a2, a3, a4, a5⟩
    · -- a clause
      have hp1 := a1.2.2.2.2.2.2.1
      have em1 := c_emit a1.2.2.2.2.2.1.1 (by omega) (-59)
      have hE : encCs (cs ++ [c]) = encCs cs ++ (encB c ++ [-59]) := by rw [encCs_snoc, encC_B]
      have hEl : (encCs (cs ++ [c])).length = (encCs cs).length + (encB c).length + 1 := by
        rw [hE, List.length_append, List.length_append]; rfl
      have hcl : (cs ++ [c]).length = cs.length + 1 := by rw [List.length_append]; rfl
      generalize hM2 : em M1 (-59) ((encCs cs).length + (encB c).length) = M2 at em1
      have f2 : CF M M2 (encCs cs).length := by
        rw [← hM2]; exact CF_w (CF_w a2 (by omega)) (by omega)
      have q2 : ∀ a k, ¬ (a = 25 ∧ k = 2) → ¬ a = 26 → M2.1 a k = M1.1 a k := fun a k z1 z2 => by
        rw [← hM2]; unfold em; rw [wI_1, if_neg z1, wI_ne z2]
      have row : inR (M2.1 26) 0 (encCs (cs ++ [c])) := by
        rw [hE]
        refine inR_cat (inR_up hi (fun k hk => f2 26 k (by omega))) ?_
        rw [Nat.zero_add]
        refine inR_cat (inR_up a3 (fun k hk => ?_)) (fun i x hx => ?_)
        · rw [← hM2]; unfold em; rw [wI_ne (by decide), wI_nk (by omega)]
        · obtain rfl : i = 0 := by
            by_cases c : i = 0
            · exact c
            · rw [List.getElem?_eq_none (by show 1 ≤ i; omega)] at hx; cases hx
          cases hx
          rw [← hM2]; unfold em; rw [wI_ne (by decide), Nat.add_zero, wI_eq]
      have rows : rowsR R1 tx 0 0 (cs ++ [c]) := by
        refine rowsR_snoc cs 0 0 (rowsR_up cs 0 0 cs.length (lenCs cs) (by omega) (by omega) (fun a z1 z2 k y1 y2 => a4 a k (by omega)) (fun a ha k y1 y2 => a4 a k (by omega)) hr) ?_
        rw [Nat.zero_add, Nat.zero_add]
        exact ⟨a5, a5', a5'', a7, a8, trivial⟩
      have h4 : LwS B n tx M2 R1 p1 0 (encCs (cs ++ [c])).length (lenCs (cs ++ [c])) := by
        obtain ⟨⟨t1, t2⟩, ⟨b1, b2⟩, b3, b4, b5, ⟨b6, b7⟩, b8, b9, b10⟩ := a1
        refine ⟨⟨⟨(q2 1 1 (by omega) (by decide)).trans t1.1, fun i hi => (q2 2 i (by omega) (by decide)).trans (t1.2 i hi)⟩, t2⟩, ⟨(q2 1 2 (by omega) (by decide)).trans b1, b2⟩, b3, b4, b5, ⟨?_, ?_⟩, b8, by rw [hEl]; omega, by rw [lenCs_snoc]; exact b10⟩
        · rw [hEl, ← hM2]; exact wI_eq
        · rw [lenCs_snoc]; exact b7
      have wf : ∀ c' ∈ cs ++ [c], wfC c' := fun c' hc' => by
        rw [List.mem_append, List.mem_singleton] at hc'
        rcases hc' with hc' | hc'
        · exact hw c' hc'
        · rw [hc']; exact a9
      have LL1 : ∀ q, p1 ≤ q → q ≤ n → LL B n tx (hC M2 q) (hR R1 q) q (cs ++ [c]) := fun q z1 z2 => by
        have o := OK_h (OK_0 h4) z1 z2
        exact ⟨LwS_OK h4 o, inR_up row (fun k _ => hC_n (by omega)), rowsR_up _ 0 0 (cs ++ [c]).length (lenCs (cs ++ [c])) (by omega) (by omega) (fun a y1 y2 k _ _ => hR_n (by omega)) (fun a ha k _ _ => hR_n (by omega)) rows, by rw [hR_n (by omega), hcl]; exact a6, wf, by rw [hcl]; omega⟩
      have fin : ∀ q, p1 ≤ q → q ≤ n → LFin tx (hC M2 q) (hR R1 q) := fun q z1 z2 => by
        obtain ⟨b1, b2, b3, b4, b5, b6⟩ := LL1 q z1 z2
        have := b1.2.2.2.2.2.2.2.1
        have := b1.2.2.2.2.2.2.2.2
        exact ⟨cs ++ [c], ⟨b1.2.2.2.2.2.1.1, by omega, b2⟩, ⟨b4, by omega, by omega, b3⟩, b5⟩
      have hs := sk_n (B := B) hp1
      have hle := sk_le B n p1
      have hss := sk_sk (B := B) (n := n) p1
      have eC := cSg h4.1.1 hn h4.2.1.1 (by omega)
      have eR := rLk h4.1.2 hn h4.2.1.2 (by omega)
      have LLq := LL1 (sk B n p1) hle hs
      have finq := fin (sk B n p1) hle hs
      generalize hq : sk B n p1 = q at hs hle hss eC eR LLq finq
      have eC2 := cTk LLq.1.1.1 hn LLq.1.2.1.1 (by omega) 59
      have eR2 := rLk LLq.1.1.2 hn LLq.1.2.1.2 (by omega)
      rw [hss] at eC2 eR2
      rw [hR_2] at eR2
      rw [hC_2, hC_2] at eC2
      have cC2 : ∀ res, (if sg B n q = -1 then some (((-1) : Int32), hC M2 q) else (fX8_took (hC M2 q) 59).bind fun r8 => (if r8.1 = 0 then (fX8_head r8.2).bind fun r10 => some (r10.1, r10.2) else fX2_read_c11 gC r8.2 25 (Int32.ofNat (cs.length + 1)))) = res → fX2_read_c11 (gC + 1) M 25 (Int32.ofNat cs.length) = res := fun res hr => cC res (bs k1 (by
        dsimp only
        rw [if_neg (show ¬ (1 : Int32) = 0 by decide)]
        refine bs em1 (bs eC ?_)
        exact hr))
      have cR : ∀ res, (if sg B n q = 59 then (fX11_clause (hR R1 (q + 1))).bind (fX11_readLaw_c9 gR) else fX11_readLaw_c43 (hR R1 q)) = res → (fX11_clause R).bind (fX11_readLaw_c9 (gR + 1)) = res := fun res hr => bs k2 (by
        rw [fX11_readLaw_c9]
        dsimp only
        rw [if_pos a1.2.2.1]
        refine bs eR ?_
        dsimp only
        rw [hR_s]
        exact hr)
      have e4 : (hR R1 q).1 606 4 = -1 := LLq.1.2.2.1
      have fR : LFr tx R (hR R1 q) := LFr_w (LFr_G hj a4) (by omega)
      have fM : CF M (hC M2 q) 0 := CF_w (CF_trans (CF_refl M 0) f2 (Nat.zero_le _)) (by omega)
      by_cases s1 : sg B n q = -1
      · refine ⟨-1, hC M2 q, hR R1 q, cC2 _ (if_pos s1), cR _ ?_, fM, fR, fun _ => finq⟩
        rw [if_neg (by rw [s1]; decide)]
        unfold fX11_readLaw_c43 fX11_atEnd fX11_atEnd_c20
        rw [if_pos e4, eR2]
        simp only [Option.bind_some]
        rw [if_pos s1, e4]
        rfl
      · have hql : q < n := sg_lt s1
        by_cases s59 : sg B n q = 59
        · rw [if_pos s59] at eC2
          have LL2 := LL1 (q + 1) (by omega) hql
          obtain ⟨v, M', R', i1, i2, i3, i4, i5⟩ := ih gC gR _ _ (q + 1) _ (by omega) (by omega) (by omega) LL2
          rw [hcl] at i1
          refine ⟨v, M', R', cC2 _ ?_, cR _ ?_, CF_trans (CF_w (CF_trans (CF_refl M 0) f2 (Nat.zero_le _)) (by omega)) i3 (Nat.le_refl _), LFr_trans (LFr_w (LFr_G hj a4) (by omega)) i4, i5⟩
          · rw [if_neg s1]
            refine bs eC2 ?_
            dsimp only
            rw [if_neg (show ¬ (1 : Int32) = 0 by decide)]
            exact i1
          · rw [if_pos s59]; exact i2
        · rw [if_neg s59] at eC2
          refine ⟨Int32.ofNat q, hC M2 q, wI (hR R1 q) 606 4 (Int32.ofNat q), cC2 _ ?_, cR _ ?_, fM, LFr_w fR (by omega), fun z => absurd z (ofN_ne (by omega))⟩
          · rw [if_neg s1]
            refine bs eC2 ?_
            dsimp only
            rw [if_pos rfl]
            unfold fX8_head
            rw [hC_h]; rfl
          · rw [if_neg s59]
            unfold fX11_readLaw_c43 fX11_atEnd fX11_atEnd_c20
            rw [if_pos e4, eR2]
            simp only [Option.bind_some]
            rw [if_neg s1, rBad (hR_h R1 q) e4]
            simp only [Option.bind_some]
            rw [wI_eq]
    · refine ⟨Int32.ofNat e, M1, R1, cC _ (bs k1 ?_), bs k2 ?_, CF_trans (CF_refl M 0) a1 (Nat.zero_le _), LFr_G hj a5, fun z => absurd z (ofN_ne (by omega))⟩
      · dsimp only
        rw [if_pos rfl]
        unfold fX8_head
        rw [a2]; rfl
      · have ne : ¬ R1.1 606 4 = -1 := by rw [a4]; exact ofN_ne (by omega)
        rw [fX11_readLaw_c9]
        dsimp only
        rw [if_neg ne]
        unfold fX11_readLaw_c43 fX11_atEnd fX11_atEnd_c20
        rw [if_neg ne, a4]; rfl
theorem law_read {m : mm_MM} (hn : n ≤ 240) (hB : ∀ i, i < n → ¬ B i = -1) (tC : tpeC m B n) (tR : ∃ X, tpeR X B n) : ∃ v m1, fX2_read m 25 = some (v, m1) ∧ CF m m1 0 ∧ ∀ t, t < 5 → ∀ X, tpeR X B n → ∃ m2, fX11_readLaw X (Int32.ofNat t) = some (v, m2) ∧ LFr t X m2 ∧ (v = -1 → LFin t m1 m2) := by
  have go : ∀ t, t < 5 → ∀ X, tpeR X B n → ∃ v m1 m2, fX2_read m 25 = some (v, m1) ∧ fX11_readLaw X (Int32.ofNat t) = some (v, m2) ∧ CF m m1 0 ∧ LFr t X m2 ∧ (v = -1 → LFin t m1 m2) := fun t ht X tX => by
    have hop : fX11_open X (Int32.ofNat t) = some (wI (wI (wI (wI (wI (wI X 606 14 (Int32.ofNat t)) 606 3 0) 606 4 ((-1) : Int32)) 606 5 0) 610 t 0) 611 t 0) := by
      unfold fX11_open
      rw [nn_tn (by omega), nn_gn (by omega) ht, nn_gn (by omega) ht]
    have f0 : LFr t X (wI (wI (wI (wI (wI (wI X 606 14 (Int32.ofNat t)) 606 3 0) 606 4 ((-1) : Int32)) 606 5 0) 610 t 0) 611 t 0) := LFr_w (LFr_w (LFr_w (LFr_w (LFr_w (LFr_w (fun _ _ _ => rfl) (by omega)) (by omega)) (by omega)) (by omega)) (by omega)) (by omega)
    have q3 : (wI (wI (wI (wI (wI (wI X 606 14 (Int32.ofNat t)) 606 3 0) 606 4 ((-1) : Int32)) 606 5 0) 610 t 0) 611 t 0).1 606 3 = 0 := by simp [wI_1]
    have q4 : (wI (wI (wI (wI (wI (wI X 606 14 (Int32.ofNat t)) 606 3 0) 606 4 ((-1) : Int32)) 606 5 0) 610 t 0) 611 t 0).1 606 4 = -1 := by simp [wI_1]
    have q5 : (wI (wI (wI (wI (wI (wI X 606 14 (Int32.ofNat t)) 606 3 0) 606 4 ((-1) : Int32)) 606 5 0) 610 t 0) 611 t 0).1 606 5 = 0 := by simp [wI_1]
    have q14 : (wI (wI (wI (wI (wI (wI X 606 14 (Int32.ofNat t)) 606 3 0) 606 4 ((-1) : Int32)) 606 5 0) 610 t 0) 611 t 0).1 606 14 = Int32.ofNat t := by simp [wI_1]
    have q10 : (wI (wI (wI (wI (wI (wI X 606 14 (Int32.ofNat t)) 606 3 0) 606 4 ((-1) : Int32)) 606 5 0) 610 t 0) 611 t 0).1 610 t = 0 := by simp [wI_1]
    have q11 : (wI (wI (wI (wI (wI (wI X 606 14 (Int32.ofNat t)) 606 3 0) 606 4 ((-1) : Int32)) 606 5 0) 610 t 0) 611 t 0).1 611 t = 0 := by simp [wI_1]
    generalize hX1 : wI (wI (wI (wI (wI (wI X 606 14 (Int32.ofNat t)) 606 3 0) 606 4 ((-1) : Int32)) 606 5 0) 610 t 0) 611 t 0 = X1 at hop f0 q3 q4 q5 q14 q10 q11
    have c0 : CF m (wI (wI m 25 2 0) 1 2 0) 0 := CF_w (CF_w (CF_refl m 0) (by omega)) (by omega)
    have hL : LL B n t (wI (wI m 25 2 0) 1 2 0) X1 0 [] := by
      refine ⟨⟨⟨⟨(c0 1 1 (by omega)).trans tC.1, fun i hi => (c0 2 i (by omega)).trans (tC.2 i hi)⟩, (f0 606 2 (by omega)).trans tX.1, fun i hi => (f0 607 i (by omega)).trans (tX.2 i hi)⟩, ⟨wI_eq, q3⟩, q4, q5, q14, ⟨?_, q10⟩, by omega, by decide, by decide⟩, fun j x hj => (by cases hj), trivial, q11, fun c hc => (nomatch hc), by decide⟩
      rw [wI_ne (by decide), wI_eq]; rfl
    obtain ⟨v, m1, m2, e1, e2, e3, e4, e5⟩ := law_l ht hn hB (n + 1) fu fu _ _ 0 [] (by omega) (by unfold fu; omega) (by unfold fu; omega) hL
    refine ⟨v, m1, m2, ?_, ?_, CF_trans c0 e3 (Nat.le_refl _), LFr_trans f0 e4, e5⟩
    · unfold fX2_read
      refine bs (show fX8_rewind (wI m 25 2 0) = some (wI (wI m 25 2 0) 1 2 0) from rfl) ?_
      exact e1
    · unfold fX11_readLaw
      exact bs hop e2
  obtain ⟨X0, tX0⟩ := tR
  obtain ⟨v, m1, -, e1, -, c1, -, -⟩ := go 0 (by decide) X0 tX0
  refine ⟨v, m1, e1, c1, fun t ht X tX => ?_⟩
  obtain ⟨v', m1', m2, e1', e2, -, f2, h2⟩ := go t ht X tX
  rw [e1] at e1'
  cases e1'
  exact ⟨m2, e2, f2, h2⟩
end LAW
