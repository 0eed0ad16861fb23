/-! LAWS READ: comparisons, conditions -/
section CND
variable {B : Nat → Int32} {n tx : Nat}
def cmO (x : Int32) : Option Nat := if x = 61 then some 6 else if x = 60 then some 7 else if x = 62 then some 8 else none
theorem cmO_s {x : Int32} {k : Nat} (h : cmO x = some k) : (6 ≤ k ∧ k ≤ 8) ∧ ¬ x = -1 ∧ -x = encT (k, 0) := by
  unfold cmO at h
  by_cases c0 : x = 61
  · subst c0; cases h; decide
  by_cases c1 : x = 60
  · subst c1; cases h; decide
  by_cases c2 : x = 62
  · subst c2; cases h; decide
  rw [if_neg c0, if_neg c1, if_neg c2] at h
  cases h
theorem c_cmps (m : mm_MM) (x : Int32) : fX2_compares m x = some (if cmO x = none then 0 else 1, m) := by
  unfold fX2_compares fX2_compares_c18 fX2_compares_c23 cmO
  by_cases c0 : x = 61
  · subst c0; rfl
  by_cases c1 : x = 60
  · subst c1; rfl
  by_cases c2 : x = 62
  · subst c2; rfl
  rw [if_neg c0, if_neg c1, if_neg c2, if_neg c0, if_neg c1, if_neg c2]; rfl
theorem r_sign (m : mm_MM) (x : Int32) : fX11_isSign m x = some (if cmO x = none then 0 else 1, m) := by
  unfold fX11_isSign fX11_isSign_c18 fX11_isSign_c23 cmO
  by_cases c0 : x = 61
  · subst c0; rfl
  by_cases c1 : x = 60
  · subst c1; rfl
  by_cases c2 : x = 62
  · subst c2; rfl
  rw [if_neg c0, if_neg c1, if_neg c2, if_neg c0, if_neg c1, if_neg c2]; rfl
theorem cmp_sim (ht : tx < 5) (hn : n ≤ 240) {d : Nat} (hd : d ≤ 6) : Sim B n tx (fun M => fX2_readComparison M 25 (Int32.ofNat d)) fX11_compare d [false] [true] (29 + 2 * d) := by
  intro M R p len cnt h
  have hp := h.2.2.2.2.2.2.1
  have hlen := h.2.2.2.2.2.2.2.1
  have hcnt := h.2.2.2.2.2.2.2.2
  have hs := sk_n (B := B) hp
  have hle := sk_le B n p
  have eC := cSg h.1.1 hn h.2.1.1 (by omega)
  have eR := rLk h.1.2 hn h.2.1.2 (by omega)
  generalize hp2 : sk B n p = p2 at hs hle eC eR
  have o1 := OK_h (OK_0 h) hle hs
  have h1 : LwS B n tx _ _ p2 d len cnt := LwS_OK h o1
  generalize hsg : sg B n p2 = s at eC eR
  have cR : ∀ res, fX11_compare_c16 (hR R p2) s = res → fX11_compare R = res := fun res hr => by
    unfold fX11_compare
    rw [if_pos h.2.2.1]
    exact bs eR hr
  cases hc : cmO s with
  | none =>
    refine Or.inr ⟨_, _, p2, ?_, cR _ ?_, ER_bad o1⟩
    · show fX2_readComparison M 25 (Int32.ofNat d) = _
      unfold fX2_readComparison
      refine bs eC (bs (c_cmps _ _) ?_)
      dsimp only
      rw [hc, if_pos rfl, if_pos rfl]
    · unfold fX11_compare_c16
      refine bs (r_sign _ _) ?_
      dsimp only
      rw [hc, if_pos rfl, if_pos rfl]
      exact bs (rBad (hR_h R p2) h1.2.2.1) rfl
  | some c =>
    obtain ⟨k1, k2, hen⟩ := cmO_s hc
    have hl : p2 < n := sg_lt (B := B) (by rw [hsg]; exact k2)
    have o2 := OK_h o1 (q := p2 + 1) (by omega) hl
    have h2 : LwS B n tx _ _ (p2 + 1) d len cnt := LwS_OK h o2
    have hne : ¬ (some c = none) := fun z => by cases z
    have cC : ∀ res, ((fX2_readSum 12 (hC (hC M p2) (p2 + 1)) 25 (Int32.ofNat d)).bind fun r5 => (if r5.1 = 0 then some (0, r5.2) else (fX2_emit r5.2 25 (-s)).bind fun r7 => some (1, r7))) = res → fX2_readComparison M 25 (Int32.ofNat d) = res := fun res hr => by
      unfold fX2_readComparison
      refine bs eC (bs (c_cmps _ _) ?_)
      dsimp only
      rw [hc, if_neg hne, if_neg (show ¬ (1 : Int32) = 0 by decide)]
      refine bs (cSk (hC_h M p2)) ?_
      exact hr
    have cR2 : ∀ res, ((fX11_sum 12 (hR (hR R p2) (p2 + 1))).bind fun r4 => fX11_compare_c68 r4 (Int32.ofNat c)) = res → fX11_compare R = res := fun res hr => cR res (by
      unfold fX11_compare_c16
      refine bs (r_sign _ _) ?_
      dsimp only
      rw [hc, if_neg hne, if_neg (show ¬ (1 : Int32) = 0 by decide), hR_s, ← hR_2 R p2 (p2 + 1)]
      unfold cmO at hc
      by_cases c0 : s = 61
      · rw [if_pos c0] at hc; cases hc
        simp only [if_pos c0]; exact hr
      · rw [if_neg c0] at hc
        by_cases c1 : s = 60
        · rw [if_pos c1] at hc; cases hc
          simp only [if_neg c0, if_pos c1]; exact hr
        · rw [if_neg c1] at hc
          by_cases c2 : s = 62
          · rw [if_pos c2] at hc; cases hc
            simp only [if_neg c0, if_neg c1]; exact hr
          · rw [if_neg c2] at hc; cases hc)
    rcases sum12 ht hn hd _ _ _ _ _ h2 with ⟨M3, R3, p3, ts1, g1, g2, g3, g4⟩ | ⟨M3, R3, e, g1, g2, g3⟩
    · have o3 := OK_trans o2 g3
      rw [List.nil_append, List.nil_append] at o3
      have h3 := LwS_OK h o3
      have hp3 := g3.2.2.2.2.2.2.1
      have hp4 := g3.2.2.2.2.2.2.2.1
      have hml : (ts1.map encT).length = ts1.length := List.length_map ..
      rw [hml] at hp4
      have o4 := OK_pu (OK_emit o3 (by rw [hml]; omega) (-s)) (by rw [List.length_append, hml]; show ts1.length + 1 ≤ ts1.length + 1; omega) (by omega) (c, 0)
      rw [hen, show ts1.map encT ++ [encT (c, 0)] = (ts1 ++ [(c, 0)]).map encT by rw [List.map_append]; rfl] at o4
      have em1 := c_emit h3.2.2.2.2.2.1.1 (by rw [hml]; omega) (-s)
      have pu1 := r_put ht h3.2.2.2.2.1 h3.2.2.2.2.2.1.2 (by omega) (Int32.ofNat c) 0
      rw [hen] at em1
      refine Or.inl ⟨_, _, p3, ts1 ++ [(c, 0)], cC _ (bs g1 ?_), cR2 _ (bs g2 ?_), o4, fun s' hs' => ?_⟩
      · dsimp only
        rw [if_neg (show ¬ (1 : Int32) = 0 by decide), hen]
        exact bs em1 rfl
      · unfold fX11_compare_c68
        exact bs pu1 rfl
      · rw [tyTs_app, show ([false] ++ s' : List Bool) = [] ++ (false :: s') from rfl, g4 (false :: s') (by show s'.length + 1 ≤ 30 + 2 * d; omega)]
        obtain rfl | rfl | rfl : c = 6 ∨ c = 7 ∨ c = 8 := by omega
        all_goals rfl
    · obtain ⟨R4, er, ee⟩ := ER_put ht hn h o2 (by show p + 0 + 1 ≤ p2 + 1; omega) g3 (Int32.ofNat c) 0
      refine Or.inr ⟨M3, R4, e, cC _ (bs g1 ?_), cR2 _ (bs g2 ?_), ee⟩
      · dsimp only
        rw [if_pos rfl]
      · unfold fX11_compare_c68
        exact bs er rfl
/-- one behind the other -/
theorem seq_sim {f1 f2 : mm_MM → Option (Int32 × mm_MM)} {r1 r2 : mm_MM → Option mm_MM} {d bd b1 b2 : Nat} {pre mid post : List Bool} (hn : n ≤ 240) (s1 : Sim B n tx f1 r1 d pre mid b1) (s2 : Sim B n tx f2 r2 d mid post b2) (hb1 : bd ≤ b1) (hb2 : bd ≤ b2) (hE : ∀ R e, e ≤ 240 → R.1 606 4 = Int32.ofNat e → r2 R = some R) : Sim B n tx (fun M => (f1 M).bind fun r => if r.1 = 0 then some (0, r.2) else f2 r.2) (fun R => (r1 R).bind r2) d pre post bd := by
  intro M R p len cnt h
  rcases s1 _ _ _ _ _ h with ⟨M3, R3, p3, ts1, g1, g2, g3, g4⟩ | ⟨M3, R3, e, g1, g2, g3⟩
  · have h3 := LwS_OK h g3
    rcases s2 _ _ _ _ _ h3 with ⟨M5, R5, p5, ts5, k1, k2, k3, k4⟩ | ⟨M5, R5, e, k1, k2, k3⟩
    · have o5 := OK_trans g3 k3
      rw [← List.map_append] at o5
      refine Or.inl ⟨M5, R5, p5, ts1 ++ ts5, bs g1 ?_, bs g2 k2, o5, fun s hs => ?_⟩
      · dsimp only
        rw [if_neg (show ¬ (1 : Int32) = 0 by decide)]
        exact k1
      · rw [tyTs_app, g4 s (by omega)]
        exact k4 s (by omega)
    · refine Or.inr ⟨M5, R5, e, bs g1 ?_, bs g2 k2, ER_trans g3 k3⟩
      dsimp only
      rw [if_neg (show ¬ (1 : Int32) = 0 by decide)]
      exact k1
  · refine Or.inr ⟨M3, R3, e, bs g1 ?_, bs g2 (hE _ _ (Nat.le_trans g3.2.2.1 hn) g3.2.2.2.1), g3⟩
    dsimp only
    rw [if_pos rfl]
theorem goAnd_e {kR : mm_MM → Option mm_MM} (R : mm_MM) (e : Nat) (he : e ≤ 240) (h : R.1 606 4 = Int32.ofNat e) : fX11_goOnAnd kR R = some R := by
  unfold fX11_goOnAnd
  obtain ⟨K, hK⟩ : ∃ K : Nat, fu = K + 1 := ⟨19999, rfl⟩
  rw [hK, fX11_goOnAnd_c0]
  dsimp only
  rw [h, if_neg (ofN_ne (by omega))]
  rfl
theorem goOr_e {kR : mm_MM → Option mm_MM} (R : mm_MM) (e : Nat) (he : e ≤ 240) (h : R.1 606 4 = Int32.ofNat e) : fX11_goOnOr kR R = some R := by
  unfold fX11_goOnOr
  obtain ⟨K, hK⟩ : ∃ K : Nat, fu = K + 1 := ⟨19999, rfl⟩
  rw [hK, fX11_goOnOr_c0]
  dsimp only
  rw [h, if_neg (ofN_ne (by omega))]
  rfl
theorem ty_stepT {ts1 ts' : List Tok} {c : Nat} {s : List Bool} (hc : 10 ≤ c ∧ c ≤ 11) (h1 : tyTs ts1 ([] ++ (true :: s)) = some ([true] ++ (true :: s))) (h2 : tyTs ts' ([true] ++ s) = some ([true] ++ s)) : tyTs ((ts1 ++ [(c, 0)]) ++ ts') ([true] ++ s) = some ([true] ++ s) := by
  rw [tyTs_app, tyTs_app, show ([true] ++ s : List Bool) = [] ++ (true :: s) from rfl, h1]
  obtain rfl | rfl : c = 10 ∨ c = 11 := by omega
  all_goals exact h2
/-- a loop: a sign, and one of the same -/
theorem lop_l (ht : tx < 5) (hn : n ≤ 240) {fc : mm_MM → Option (Int32 × mm_MM)} {fr : mm_MM → Option mm_MM} {lc : Nat → mm_MM → Int32 → Option (Int32 × mm_MM)} {lr : Nat → mm_MM → Option mm_MM} {d b c : Nat} {x : Int32} (hc : 10 ≤ c ∧ c ≤ 11) (hx : -x = encT (c, 0)) (hx1 : ¬ x = -1) (A : Sim B n tx fc fr d [] [true] (b + 1))
    (hC1 : ∀ g M i, i < (240 : Int32) → lc (g + 1) M i = (fX8_took M x).bind fun r2 => (if r2.1 = 0 then some (1, r2.2) else (fc r2.2).bind fun r4 => (if r4.1 = 0 then some (0, r4.2) else (fX2_emit r4.2 25 (encT (c, 0))).bind fun r6 => lc g r6 (i + 1))))
    (hR1 : ∀ g R, R.1 606 4 = -1 → lr (g + 1) R = (fX11_look R).bind fun r2 => (if r2.1 = x then (fr (wI r2.2 606 3 (r2.2.1 606 3 + 1))).bind fun r4 => (fX11_put r4 (Int32.ofNat c) 0).bind fun r5 => lr g r5 else some r2.2)) (hR2 : ∀ g R, ¬ R.1 606 4 = -1 → lr (g + 1) R = some R) : ∀ (N gC gR i : Nat) (M R : mm_MM) (p len cnt : Nat), n - p < N → N ≤ gC → N ≤ gR → 2 * i ≤ p → LwS B n tx M R p d len cnt →
    (∃ M' R' p' ts, lc gC M (Int32.ofNat i) = some (1, M') ∧ lr gR R = some R' ∧ OKo n tx M M' R R' p p' d len cnt (ts.map encT) ts ∧ ∀ s, s.length ≤ b → tyTs ts ([true] ++ s) = some ([true] ++ s)) ∨
    (∃ M' R' e, lc gC M (Int32.ofNat i) = some (0, M') ∧ lr gR R = some R' ∧ ERo n tx M M' R R' p e len cnt) := by
  intro N
  induction N with
  | zero => intro gC gR i M R p len cnt h; omega
  | succ N ih =>
    intro gC gR i M R p len cnt hN hgC hgR hi h
    obtain ⟨gC, rfl⟩ : ∃ q, gC = q + 1 := ⟨gC - 1, by omega⟩
    obtain ⟨gR, rfl⟩ : ∃ q, gR = q + 1 := ⟨gR - 1, by omega⟩
    have hp := h.2.2.2.2.2.2.1
    have hlen := h.2.2.2.2.2.2.2.1
    have hcnt := h.2.2.2.2.2.2.2.2
    have hs := sk_n (B := B) hp
    have hle := sk_le B n p
    have eC := cTk h.1.1 hn h.2.1.1 (by omega) x
    have eR := rLk h.1.2 hn h.2.1.2 (by omega)
    generalize hp2 : sk B n p = p2 at hs hle eC eR
    have o1 := OK_h (OK_0 h) hle hs
    have hi240 : Int32.ofNat i < 240 := (nn_lt (k := 240) (by omega) (by decide)).mpr (by omega)
    rw [hC1 gC M _ hi240, hR1 gR R h.2.2.1]
    by_cases cx : sg B n p2 = x
    · rw [if_pos cx] at eC
      have hl : p2 < n := sg_lt (B := B) (by rw [cx]; exact hx1)
      have o2 := OK_h (OK_0 h) (q := p2 + 1) (by omega) hl
      have h2 : LwS B n tx _ _ (p2 + 1) d len cnt := LwS_OK h o2
      have cC : ∀ res, ((fc (hC M (p2 + 1))).bind fun r4 => (if r4.1 = 0 then some (0, r4.2) else (fX2_emit r4.2 25 (encT (c, 0))).bind fun r6 => lc gC r6 (Int32.ofNat (i + 1)))) = res → ((fX8_took M x).bind fun r2 => (if r2.1 = 0 then some (1, r2.2) else (fc r2.2).bind fun r4 => (if r4.1 = 0 then some (0, r4.2) else (fX2_emit r4.2 25 (encT (c, 0))).bind fun r6 => lc gC r6 (Int32.ofNat i + 1)))) = res := fun res hr => by
        refine bs eC ?_
        dsimp only
        rw [if_neg (show ¬ (1 : Int32) = 0 by decide), nn_s]
        exact hr
      have cR : ∀ res, ((fr (hR R (p2 + 1))).bind fun r4 => (fX11_put r4 (Int32.ofNat c) 0).bind fun r5 => lr gR r5) = res → ((fX11_look R).bind fun r2 => (if r2.1 = x then (fr (wI r2.2 606 3 (r2.2.1 606 3 + 1))).bind fun r4 => (fX11_put r4 (Int32.ofNat c) 0).bind fun r5 => lr gR r5 else some r2.2)) = res := fun res hr => by
        refine bs eR ?_
        dsimp only
        rw [if_pos cx, hR_s]
        exact hr
      rcases A _ _ _ _ _ h2 with ⟨M3, R3, p3, ts1, g1, g2, g3, g4⟩ | ⟨M3, R3, e, g1, g2, g3⟩
      · have o3 := OK_trans o2 g3
        rw [List.nil_append, List.nil_append] at o3
        have h3 := LwS_OK h o3
        have hp3 := g3.2.2.2.2.2.2.1
        have hp4 := g3.2.2.2.2.2.2.2.1
        have hne := ty_ne (g4 [] (Nat.zero_le _))
        have hml : (ts1.map encT).length = ts1.length := List.length_map ..
        rw [hml] at hp4
        have o4 := OK_pu (OK_emit o3 (by rw [hml]; omega) (encT (c, 0))) (by rw [List.length_append, hml]; show ts1.length + 1 ≤ ts1.length + 1; omega) (by omega) (c, 0)
        rw [show ts1.map encT ++ [encT (c, 0)] = (ts1 ++ [(c, 0)]).map encT by rw [List.map_append]; rfl] at o4
        have h4 := LwS_OK h o4
        have em1 := c_emit h3.2.2.2.2.2.1.1 (by rw [hml]; omega) (encT (c, 0))
        have pu1 := r_put ht h3.2.2.2.2.1 h3.2.2.2.2.2.1.2 (by omega) (Int32.ofNat c) 0
        have cC2 : ∀ res, lc gC (em M3 (encT (c, 0)) (len + (ts1.map encT).length)) (Int32.ofNat (i + 1)) = res → _ = res := fun res hr => cC res (bs g1 (by
          dsimp only
          rw [if_neg (show ¬ (1 : Int32) = 0 by decide)]
          exact bs em1 hr))
        have cR2 : ∀ res, lr gR (pu tx R3 (Int32.ofNat c) (Int32.ofNat 0) (cnt + ts1.length)) = res → _ = res := fun res hr => cR res (bs g2 (bs pu1 hr))
        rcases ih gC gR (i + 1) _ _ p3 _ _ (by omega) (by omega) (by omega) (by omega) h4 with ⟨M5, R5, p5, ts5, k1, k2, k3, k4⟩ | ⟨M5, R5, e, k1, k2, k3⟩
        · have o5 := OK_trans o4 k3
          rw [← List.map_append] at o5
          exact Or.inl ⟨M5, R5, p5, (ts1 ++ [(c, 0)]) ++ ts5, cC2 _ k1, cR2 _ k2, o5, fun s hs => ty_stepT hc (g4 (true :: s) (by show s.length + 1 ≤ b + 1; omega)) (k4 s hs)⟩
        · exact Or.inr ⟨M5, R5, e, cC2 _ k1, cR2 _ k2, ER_trans o4 k3⟩
      · obtain ⟨R4, er, ee⟩ := ER_put ht hn h o2 (by show p + 0 + 1 ≤ p2 + 1; omega) g3 (Int32.ofNat c) 0
        have he := ee.2.2.1
        obtain ⟨gR, rfl⟩ : ∃ q, gR = q + 1 := ⟨gR - 1, by omega⟩
        refine Or.inr ⟨M3, R4, e, cC _ (bs g1 ?_), cR _ (bs g2 (bs er (hR2 gR R4 (by rw [ee.2.2.2.1]; exact ofN_ne (by omega))))), ee⟩
        dsimp only
        rw [if_pos rfl]
    · rw [if_neg cx] at eC
      refine Or.inl ⟨_, _, p2, [], bs eC ?_, bs eR ?_, o1, fun s _ => rfl⟩
      · dsimp only
        rw [if_pos rfl]
      · dsimp only
        rw [if_neg cx]
theorem and_sim (ht : tx < 5) (hn : n ≤ 240) {kC : mm_MM → Nat → Int32 → Option (Int32 × mm_MM)} {kR : mm_MM → Option mm_MM} {d b : Nat} (A : Sim B n tx (fun M => kC M 25 (Int32.ofNat d)) kR d [] [true] (b + 1)) : Sim B n tx (fun M => fX2_readTruth_c27 kC M 25 (Int32.ofNat d)) (fX11_goOnAnd kR) d [true] [true] b := by
  intro M R p len cnt h
  have hp := h.2.2.2.2.2.2.1
  exact lop_l ht hn (fc := fun M => kC M 25 (Int32.ofNat d)) (fr := kR) (lc := fun g M i => fX2_readTruth_c30 kC g M 25 (Int32.ofNat d) i) (lr := fX11_goOnAnd_c0 kR) (c := 10) (x := 38) (by decide) rfl (by decide) A (fun g M i hi => by
    show fX2_readTruth_c30 kC (g + 1) M 25 (Int32.ofNat d) i = _
    rw [fX2_readTruth_c30]
    dsimp only
    rw [if_pos hi]; rfl) (fun g R hR => by rw [fX11_goOnAnd_c0]; dsimp only; rw [if_pos hR]; rfl) (fun g R hR => by rw [fX11_goOnAnd_c0]; dsimp only; rw [if_neg hR]; rfl) (n + 1) fu fu 0 M R p len cnt (by omega) (by unfold fu; omega) (by unfold fu; omega) (by omega) h
theorem bsa {α β γ : Type} {x : Option α} {f : α → Option β} {g : β → Option γ} : (x.bind fun y => (f y).bind g) = (x.bind f).bind g := by cases x <;> rfl
theorem or_sim (ht : tx < 5) (hn : n ≤ 240) {kC : mm_MM → Nat → Int32 → Option (Int32 × mm_MM)} {kR : mm_MM → Option mm_MM} {d b : Nat} (A : Sim B n tx (fun M => fX2_readTruth kC M 25 (Int32.ofNat d) 0) (fun R => (kR R).bind (fX11_goOnAnd kR)) d [] [true] (b + 1)) : Sim B n tx (fun M => fX2_readCondition_c15 kC fu M 25 (Int32.ofNat d) 0) (fX11_goOnOr kR) d [true] [true] b := by
  intro M R p len cnt h
  have hp := h.2.2.2.2.2.2.1
  exact lop_l ht hn (fc := fun M => fX2_readTruth kC M 25 (Int32.ofNat d) 0) (fr := fun R => (kR R).bind (fX11_goOnAnd kR)) (lc := fun g M i => fX2_readCondition_c15 kC g M 25 (Int32.ofNat d) i) (lr := fX11_goOnOr_c0 kR) (c := 11) (x := 124) (by decide) rfl (by decide) A (fun g M i hi => by
    show fX2_readCondition_c15 kC (g + 1) M 25 (Int32.ofNat d) i = _
    rw [fX2_readCondition_c15]
    dsimp only
    rw [if_pos hi]; rfl) (fun g R hR => by
    rw [fX11_goOnOr_c0]
    dsimp only
    rw [if_pos hR]
    congr 1
    funext r2
    by_cases c : r2.1 = 124
    · rw [if_pos c, if_pos c]; exact bsa
    · rw [if_neg c, if_neg c]; rfl) (fun g R hR => by rw [fX11_goOnOr_c0]; dsimp only; rw [if_neg hR]; rfl) (n + 1) fu fu 0 M R p len cnt (by omega) (by unfold fu; omega) (by unfold fu; omega) (by omega) h
theorem tru_sim (ht : tx < 5) (hn : n ≤ 240) {kC : mm_MM → Nat → Int32 → Option (Int32 × mm_MM)} {kR : mm_MM → Option mm_MM} {d b : Nat} (A : Sim B n tx (fun M => kC M 25 (Int32.ofNat d)) kR d [] [true] (b + 1)) : Sim B n tx (fun M => fX2_readTruth kC M 25 (Int32.ofNat d) 0) (fun R => (kR R).bind (fX11_goOnAnd kR)) d [] [true] b := by
  have := seq_sim (bd := b) hn A (and_sim ht hn A) (by omega) (by omega) (fun R e he h => goAnd_e R e he h)
  exact this
theorem con_sim (ht : tx < 5) (hn : n ≤ 240) {kC : mm_MM → Nat → Int32 → Option (Int32 × mm_MM)} {kR : mm_MM → Option mm_MM} {d b : Nat} (A : Sim B n tx (fun M => kC M 25 (Int32.ofNat d)) kR d [] [true] (b + 1 + 1)) : Sim B n tx (fun M => fX2_readCondition kC M 25 (Int32.ofNat d) 0) (fX11_condition kR) d [] [true] b := by
  have := seq_sim (bd := b) hn (tru_sim ht hn A) (or_sim ht hn (tru_sim ht hn A)) (by omega) (by omega) (fun R e he h => goOr_e R e he h)
  have e : (fun R => ((kR R).bind (fX11_goOnAnd kR)).bind (fX11_goOnOr kR)) = fX11_condition kR := by
    funext R
    unfold fX11_condition
    cases kR R with
    | none => rfl
    | some r1 =>
      show (fX11_goOnAnd kR r1).bind (fX11_goOnOr kR) = (fX11_goOnAnd kR r1).bind fun r2 => (fX11_goOnOr kR r2).bind fun r3 => some r3
      cases fX11_goOnAnd kR r1 with
      | none => rfl
      | some r2 =>
        show fX11_goOnOr kR r2 = (fX11_goOnOr kR r2).bind fun r3 => some r3
        cases fX11_goOnOr kR r2 <;> rfl
  rw [e] at this
  exact this
/-- a condition whose first sum stands before it -/
theorem con1_sim (ht : tx < 5) (hn : n ≤ 240) {kC : mm_MM → Nat → Int32 → Option (Int32 × mm_MM)} {kR : mm_MM → Option mm_MM} {d b : Nat} (hd : d ≤ 6) (hb : b ≤ 29 + 2 * d) (A : Sim B n tx (fun M => kC M 25 (Int32.ofNat d)) kR d [] [true] (b + 1 + 1)) : Sim B n tx (fun M => fX2_readCondition kC M 25 (Int32.ofNat d) 1) (fun R => ((fX11_compare R).bind (fX11_goOnAnd kR)).bind (fX11_goOnOr kR)) d [false] [true] b := by
  have s1 := seq_sim (bd := b) hn (cmp_sim ht hn hd) (and_sim (b := b) ht hn (fun M R p len cnt h => by
    rcases A M R p len cnt h with ⟨M3, R3, p3, ts1, g1, g2, g3, g4⟩ | g
    · exact Or.inl ⟨M3, R3, p3, ts1, g1, g2, g3, fun s hs => g4 s (by omega)⟩
    · exact Or.inr g)) hb (by omega) (fun R e he h => goAnd_e (kR := kR) R e he h)
  exact seq_sim (bd := b) hn s1 (or_sim ht hn (tru_sim ht hn A)) (by omega) (by omega) (fun R e he h => goOr_e R e he h)
end CND
