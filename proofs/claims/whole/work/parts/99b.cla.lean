/-! LAWS READ: a clause -/
section CLA
variable {B : Nat → Int32} {n tx : Nat}
def GF (tx j cnt : Nat) (R R' : mm_MM) : Prop := ∀ a k, ¬ ((a = 606 ∧ (k = 3 ∨ k = 4 ∨ k = 5)) ∨ ((a = 608 ∨ a = 609) ∧ 520 * tx + cnt ≤ k ∧ k < 520 * tx + 520) ∨ (a = 610 ∧ k = tx) ∨ (a = 611 ∧ k = tx) ∨ ((612 ≤ a ∧ a ≤ 614) ∧ k = 140 * tx + j)) → R'.1 a k = R.1 a k
theorem GF_R {R R' : mm_MM} {j cnt cnt' : Nat} (h : RF tx R R' cnt') (hc : cnt ≤ cnt') : GF tx j cnt R R' := fun a k z => h a k (by omega)
theorem GF_trans {R R' R2 : mm_MM} {j cnt cnt' : Nat} (h : GF tx j cnt R R') (h' : GF tx j cnt' R' R2) (hc : cnt ≤ cnt') : GF tx j cnt R R2 := fun a k z => (h' a k (by omega)).trans (h a k z)
theorem GF_refl (R : mm_MM) {j cnt : Nat} : GF tx j cnt R R := fun _ _ _ => rfl
theorem GF_w {R R' : mm_MM} {j cnt a k : Nat} {v : Int32} (h : GF tx j cnt R R') (hw : (a = 606 ∧ (k = 3 ∨ k = 4 ∨ k = 5)) ∨ (a = 611 ∧ k = tx) ∨ ((612 ≤ a ∧ a ≤ 614) ∧ k = 140 * tx + j)) : GF tx j cnt R (wI R' a k v) := fun x y z => by
  rw [wI_1, if_neg (by omega)]; exact h x y z
theorem GF_h {R R' : mm_MM} {j cnt p : Nat} (h : GF tx j cnt R R') : GF tx j cnt R (hR R' p) := GF_w h (by omega)
theorem LwS_r {M R R' : mm_MM} {p d len cnt : Nat} (h : LwS B n tx M R p d len cnt) (q : ∀ a k, a = 606 ∨ a = 607 ∨ a = 610 → R'.1 a k = R.1 a k) : LwS B n tx M R' p d len cnt := by
  obtain ⟨⟨t1, t2⟩, ⟨h1, h2⟩, h3, h4, h5, ⟨h6, h7⟩, h8⟩ := h
  exact ⟨⟨t1, (q _ _ (by omega)).trans t2.1, fun i hi => (q _ _ (by omega)).trans (t2.2 i hi)⟩, ⟨h1, (q _ _ (by omega)).trans h2⟩, (q _ _ (by omega)).trans h3, (q _ _ (by omega)).trans h4, (q _ _ (by omega)).trans h5, ⟨h6, (q _ _ (by omega)).trans h7⟩, h8⟩
theorem r_c251 {m : mm_MM} {X : Nat} (ht : tx < 5) (h14 : m.1 606 14 = Int32.ofNat tx) (hX : X < 700) : fX11_clause_c251 m (Int32.ofNat X) = some (wI (wI m 614 X (m.1 610 tx)) 611 tx (m.1 611 tx + 1)) := by
  unfold fX11_clause_c251
  rw [h14, nn_tn (by omega), nn_tn (by omega), nn_gn (by omega) ht, nn_gn (by omega) hX, nn_gn (by omega) ht, nn_gn (by omega) ht]
theorem r_c184_0 {m : mm_MM} {X : Nat} (ht : tx < 5) (h14 : m.1 606 14 = Int32.ofNat tx) (hX : X < 700) : fX11_clause_c184 m (Int32.ofNat X) 0 = some (wI (wI (wI m 613 X (m.1 612 X)) 614 X (m.1 610 tx)) 611 tx (m.1 611 tx + 1)) := by
  unfold fX11_clause_c184
  rw [nn_tn (by omega), nn_gn (by omega) hX, nn_gn (by omega) hX, if_pos rfl, r_c251 ht ((wI_ne (by decide)).trans h14) hX, wI_ne (show ¬ 610 = 613 by decide), wI_ne (show ¬ 611 = 613 by decide)]
theorem r_c184_e {m : mm_MM} {X e : Nat} (ht : tx < 5) (h14 : m.1 606 14 = Int32.ofNat tx) (hX : X < 700) (he : e ≤ 240) (h4 : m.1 606 4 = Int32.ofNat e) : fX11_clause_c184 m (Int32.ofNat X) 1 = some (wI (wI (wI m 613 X (m.1 612 X)) 614 X (m.1 610 tx)) 611 tx (m.1 611 tx + 1)) := by
  unfold fX11_clause_c184
  rw [nn_tn (by omega), nn_gn (by omega) hX, nn_gn (by omega) hX, if_neg (show ¬ (1 : Int32) = 0 by decide), h4, if_neg (ofN_ne (by omega)), r_c251 ht ((wI_ne (by decide)).trans h14) hX, wI_ne (show ¬ 610 = 613 by decide), wI_ne (show ¬ 611 = 613 by decide)]
def encB (c : Cla) : List Int32 := (if c.1 = [] then [] else c.1.map encT ++ [-63]) ++ c.2.map encT
def CG (B : Nat → Int32) (n tx : Nat) (M M' R R' : mm_MM) (p p' len cnt j : Nat) (c : Cla) : Prop := LwS B n tx M' R' p' 0 (len + (encB c).length) (cnt + (c.1.length + c.2.length)) ∧ CF M M' len ∧ inR (M'.1 26) len (encB c) ∧ GF tx j cnt R R' ∧ (R'.1 612 (140 * tx + j) = Int32.ofNat cnt ∧ R'.1 613 (140 * tx + j) = Int32.ofNat (cnt + c.1.length) ∧ R'.1 614 (140 * tx + j) = Int32.ofNat (cnt + c.1.length + c.2.length)) ∧ R'.1 611 tx = Int32.ofNat (j + 1) ∧ tokR R' (520 * tx + cnt) c.1 ∧ tokR R' (520 * tx + (cnt + c.1.length)) c.2 ∧ wfC c ∧ p + (encB c).length ≤ p'
def CE (n tx : Nat) (M M' R R' : mm_MM) (len cnt j e : Nat) : Prop := CF M M' len ∧ M'.1 1 2 = Int32.ofNat e ∧ e ≤ n ∧ R'.1 606 4 = Int32.ofNat e ∧ GF tx j cnt R R'
/-- the sum behind a test -/
theorem tg_sim (ht : tx < 5) (hn : n ≤ 240) {j : Nat} (hj : j < 140) {M1 M5 R2 R5 : mm_MM} {p4 p len cnt : Nat} {c1 : List Tok} (h2 : LwS B n tx M1 R2 p4 0 len cnt) (o : OKo n tx M1 M5 R2 R5 p4 p 0 len cnt (c1.map encT) c1) (ty : tyTs c1 [] = some [true]) (w12 : R2.1 612 (140 * tx + j) = Int32.ofNat cnt) (w11 : R2.1 611 tx = Int32.ofNat j) :
    (∃ M' R' p' c, fX2_readGated M5 25 = some (1, M') ∧ fX11_clause_c184 R5 (Int32.ofNat (140 * tx + j)) 1 = some R' ∧ CG B n tx M1 M' R2 R' p4 p' len cnt j c) ∨
    (∃ M' R' e, fX2_readGated M5 25 = some (0, M') ∧ fX11_clause_c184 R5 (Int32.ofNat (140 * tx + j)) 1 = some R' ∧ CE n tx M1 M' R2 R' len cnt j e) := by
  have h := LwS_OK h2 o
  have hml : (c1.map encT).length = c1.length := List.length_map ..
  rw [hml] at h
  have hX : 140 * tx + j < 700 := by omega
  generalize hXe : 140 * tx + j = X at hX w12
  have hp := h.2.2.2.2.2.2.1
  have hlen := h.2.2.2.2.2.2.2.1
  have hcnt := h.2.2.2.2.2.2.2.2
  have hpo := o.2.2.2.2.2.2.2.1
  rw [hml] at hpo
  have w12' : R5.1 612 X = Int32.ofNat cnt := (o.1.2 612 X (by omega)).trans w12
  have w11' : R5.1 611 tx = Int32.ofNat j := (o.1.2 611 tx (by omega)).trans w11
  have g0 : GF tx j cnt R2 R5 := GF_R o.1.2 (Nat.le_refl _)
  have g1 : GF tx j cnt R2 (wI R5 613 X (R5.1 612 X)) := GF_w g0 (by omega)
  have q0 : ∀ a k, ¬ a = 613 → (wI R5 613 X (R5.1 612 X)).1 a k = R5.1 a k := fun a k z => wI_ne z
  generalize hR0 : wI R5 613 X (R5.1 612 X) = R0 at g1 q0
  have h0 : LwS B n tx M5 R0 p 0 (len + c1.length) (cnt + c1.length) := LwS_r h (fun a k z => q0 a k (by omega))
  have hs := sk_n (B := B) hp
  have hle := sk_le B n p
  have eC := cTk h0.1.1 hn h0.2.1.1 (by omega) 63
  have eR := rLk h0.1.2 hn h0.2.1.2 (by omega)
  generalize hp2 : sk B n p = p2 at hs hle eC eR
  have cR : ∀ res, (if sg B n p2 = 63 then (fX11_sum 12 (wI (hR R0 (p2 + 1)) 613 X (Int32.ofNat (cnt + c1.length)))).bind (fun r5 => fX11_clause_c251 r5 (Int32.ofNat X)) else (fX11_bad (hR R0 p2)).bind (fun r6 => some r6)) = res → fX11_clause_c184 R5 (Int32.ofNat X) 1 = res := fun res hr => by
    unfold fX11_clause_c184
    rw [nn_tn (by omega), nn_gn (by omega) hX, nn_gn (by omega) hX, if_neg (show ¬ (1 : Int32) = 0 by decide), if_pos h.2.2.1, hR0]
    refine bs eR ?_
    dsimp only
    have h14 : (hR R0 p2).1 606 14 = Int32.ofNat tx := (hR_n (by omega)).trans h0.2.2.2.2.1
    have h10 : (hR R0 p2).1 610 tx = Int32.ofNat (cnt + c1.length) := (hR_n (by omega)).trans h0.2.2.2.2.2.1.2
    rw [h14, nn_tn (by omega), nn_gn (by omega) ht, nn_gn (by omega) hX, hR_s, h10]
    exact hr
  by_cases c63 : sg B n p2 = 63
  · rw [if_pos c63] at eC
    have hl : p2 < n := sg_lt (B := B) (by rw [c63]; decide)
    have o1 := OK_h (OK_0 h0) (q := p2 + 1) (by omega) hl
    have o2 := OK_emit o1 (by show p + 0 + 1 ≤ p2 + 1; omega) (-63)
    have h3 : LwS B n tx _ _ (p2 + 1) 0 (len + c1.length + 1) (cnt + c1.length) := LwS_OK h0 o2
    have em1 := c_emit (M := hC M5 (p2 + 1)) (len := len + c1.length) ((hC_n (by omega)).trans h0.2.2.2.2.2.1.1) (by omega) (-63)
    have h4 : LwS B n tx (em (hC M5 (p2 + 1)) (-63) (len + c1.length)) (wI (hR R0 (p2 + 1)) 613 X (Int32.ofNat (cnt + c1.length))) (p2 + 1) 0 (len + c1.length + 1) (cnt + c1.length) := LwS_r h3 (fun a k z => wI_ne (by omega))
    have cC : ∀ (a : Int32) Mx, (a = 0 ∨ a = 1) → fX2_readSum 12 (em (hC M5 (p2 + 1)) (-63) (len + c1.length)) 25 (Int32.ofNat 0) = some (a, Mx) → fX2_readGated M5 25 = some (a, Mx) := fun a Mx ha hr => by
      unfold fX2_readGated
      refine bs eC ?_
      dsimp only
      rw [if_neg (show ¬ (1 : Int32) = 0 by decide)]
      refine bs em1 (bs hr ?_)
      dsimp only
      rw [if_pos ha]
    have g2 : GF tx j cnt R2 (wI (hR R0 (p2 + 1)) 613 X (Int32.ofNat (cnt + c1.length))) := GF_w (GF_h g1) (by omega)
    rcases sum12 ht hn (d := 0) (by decide) _ _ _ _ _ h4 with ⟨M3, R3, p3, ts, k1, k2, k3, k4⟩ | ⟨M3, R3, e, k1, k2, k3⟩
    · have h5 := LwS_OK h4 k3
      have hmt : (ts.map encT).length = ts.length := List.length_map ..
      rw [hmt] at h5
      have k8 := k3.2.2.2.2.2.2.2.1
      rw [hmt] at k8
      have hc1 : ¬ c1 = [] := fun z => by rw [z] at ty; cases ty
      have hB : encB (c1, ts) = c1.map encT ++ ([-63] ++ ts.map encT) := by
        unfold encB; rw [if_neg hc1, List.append_assoc]
      have hBl : (encB (c1, ts)).length = c1.length + (1 + ts.length) := by
        rw [hB, List.length_append, List.length_append, hml, hmt]; rfl
      have e11 : R3.1 611 tx = Int32.ofNat j := by rw [k3.1.2 611 tx (by omega), wI_ne (by decide), hR_n (by omega), q0 611 tx (by decide), w11']
      have e10 : R3.1 610 tx = Int32.ofNat (cnt + c1.length + ts.length) := h5.2.2.2.2.2.1.2
      have e12 : R3.1 612 X = Int32.ofNat cnt := by rw [k3.1.2 612 X (by omega), wI_ne (by decide), hR_n (by omega), q0 612 X (by decide), w12']
      have e13 : R3.1 613 X = Int32.ofNat (cnt + c1.length) := by rw [k3.1.2 613 X (by omega), wI_eq]
      have f5 : ∀ a k, ¬ a = 614 → ¬ a = 611 → (wI (wI R3 614 X (Int32.ofNat (cnt + c1.length + ts.length))) 611 tx (Int32.ofNat (j + 1))).1 a k = R3.1 a k := fun a k z1 z2 => by rw [wI_ne z2, wI_ne z1]
      refine Or.inl ⟨M3, wI (wI R3 614 X (Int32.ofNat (cnt + c1.length + ts.length))) 611 tx (Int32.ofNat (j + 1)), p3, (c1, ts), cC _ _ (Or.inr rfl) k1, cR _ ?_, ?_, ?_, ?_, ?_, ⟨?_, ?_, ?_⟩, wI_eq, ?_, ?_, ⟨Or.inr ty, k4 [] (Nat.zero_le _)⟩, ?_⟩
      · rw [if_pos c63]
        refine bs k2 ?_
        rw [r_c251 ht h5.2.2.2.2.1 hX, e10, e11, nn_s]
      · rw [hBl]
        have := LwS_r (R' := wI (wI R3 614 X (Int32.ofNat (cnt + c1.length + ts.length))) 611 tx (Int32.ofNat (j + 1))) h5 (fun a k z => f5 a k (by omega) (by omega))
        rw [show len + c1.length + 1 + ts.length = len + (c1.length + (1 + ts.length)) by omega, Nat.add_assoc] at this
        exact this
      · exact CF_trans (CF_trans o.1.1 (show CF M5 (em (hC M5 (p2 + 1)) (-63) (len + c1.length)) (len + c1.length) from o2.1.1) (by omega)) k3.1.1 (by omega)
      · rw [hB]
        refine inR_cat (inR_up o.2.1.2 (fun k hk => ?_)) ?_
        · rw [hml] at hk
          rw [k3.1.1 26 k (by omega)]
          exact o2.1.1 26 k (by omega)
        · rw [hml]
          refine inR_cat (inR_up o2.2.1.2 (fun k hk => ?_)) k3.2.1.2
          have hk : k < len + c1.length + 1 := hk
          exact k3.1.1 26 k (by omega)
      · refine GF_w (GF_w (GF_trans g2 (GF_R k3.1.2 (Nat.le_refl _)) (by omega)) (by omega)) (by omega)
      · rw [hXe, f5 _ _ (by decide) (by decide), e12]
      · rw [hXe, f5 _ _ (by decide) (by decide), e13]
      · rw [hXe, wI_ne (by decide), wI_eq]
      · refine tokR_up o.2.2.1.2 (fun a ha k z1 z2 => ?_)
        have z2 : k < 520 * tx + cnt + c1.length := z2
        rw [f5 _ _ (by omega) (by omega), k3.1.2 a k (by omega), wI_ne (by omega), hR_n (by omega), q0 a k (by omega)]
      · exact tokR_up k3.2.2.1.2 (fun a ha k z1 z2 => f5 _ _ (by omega) (by omega))
      · rw [hBl]; omega
    · have he := k3.2.2.1
      have e14 : R3.1 606 14 = Int32.ofNat tx := (k3.1.2 606 14 (by omega)).trans h4.2.2.2.2.1
      refine Or.inr ⟨M3, wI (wI R3 614 X (R3.1 610 tx)) 611 tx (R3.1 611 tx + 1), e, cC _ _ (Or.inl rfl) k1, cR _ ?_, ?_, k3.2.1, he, ?_, ?_⟩
      · rw [if_pos c63]
        refine bs k2 ?_
        rw [r_c251 ht e14 hX]
      · exact CF_trans (CF_trans o.1.1 (show CF M5 (em (hC M5 (p2 + 1)) (-63) (len + c1.length)) (len + c1.length) from o2.1.1) (by omega)) k3.1.1 (by omega)
      · rw [wI_ne (by decide), wI_ne (by decide)]; exact k3.2.2.2.1
      · exact GF_w (GF_w (GF_trans g2 (GF_R k3.1.2 (Nat.le_refl _)) (by omega)) (by omega)) (by omega)
  · rw [if_neg c63] at eC
    refine Or.inr ⟨hC M5 p2, wI (hR R0 p2) 606 4 (Int32.ofNat p2), p2, ?_, cR _ ?_, CF_w o.1.1 (by omega), hC_h _ _, hs, wI_eq, GF_w (GF_h g1) (by omega)⟩
    · unfold fX2_readGated
      refine bs eC ?_
      dsimp only
      rw [if_pos rfl]
    · rw [if_neg c63]
      exact bs (rBad (hR_h R0 p2) ((hR_n (by omega)).trans h0.2.2.1)) rfl
end CLA
