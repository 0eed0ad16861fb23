/-! LAWS READ: atoms -/
section ATM
variable {B : Nat → Int32} {n tx : Nat}
def ltO (x : Int32) : Option Nat := if x = 118 then some 0 else if x = 115 then some 1 else if x = 100 then some 2 else if x = 109 then some 3 else if x = 110 then some 4 else if x = 116 then some 5 else none
theorem ltO_s {x : Int32} {k : Nat} (h : ltO x = some k) : k ≤ 5 ∧ dgB x = false ∧ ¬ x = 91 ∧ ¬ x = -1 ∧ -x = encT (1, k) := by
  unfold ltO at h
  by_cases c0 : x = 118
  · subst c0; cases h; decide
  by_cases c1 : x = 115
  · subst c1; cases h; decide
  by_cases c2 : x = 100
  · subst c2; cases h; decide
  by_cases c3 : x = 109
  · subst c3; cases h; decide
  by_cases c4 : x = 110
  · subst c4; cases h; decide
  by_cases c5 : x = 116
  · subst c5; cases h; decide
  rw [if_neg c0, if_neg c1, if_neg c2, if_neg c3, if_neg c4, if_neg c5] at h
  cases h
theorem c_isLetter (m : mm_MM) (x : Int32) : fX2_isLetter m x = some (if ltO x = none then 0 else 1, m) := by
  unfold ltO
  by_cases c0 : x = 118
  · subst c0; rfl
  by_cases c1 : x = 115
  · subst c1; rfl
  by_cases c2 : x = 100
  · subst c2; rfl
  by_cases c3 : x = 109
  · subst c3; rfl
  by_cases c4 : x = 110
  · subst c4; rfl
  by_cases c5 : x = 116
  · subst c5; rfl
  rw [if_neg c0, if_neg c1, if_neg c2, if_neg c3, if_neg c4, if_neg c5, if_pos rfl]
  unfold fX2_isLetter
  rw [if_neg c0, if_neg c1, if_neg c2, if_neg c3, if_neg c4, if_neg c5]
  simp only [ite_self]
theorem r_letterOf (m : mm_MM) (x : Int32) : fX11_letterOf m x = some (oI (ltO x), m) := by
  unfold fX11_letterOf fX11_letterOf_c61 ltO
  by_cases c0 : x = 118
  · rw [if_pos c0, if_pos c0]; rfl
  by_cases c1 : x = 115
  · rw [if_neg c0, if_neg c0, if_pos c1, if_pos c1]; rfl
  by_cases c2 : x = 100
  · rw [if_neg c0, if_neg c0, if_neg c1, if_neg c1, if_pos c2, if_pos c2]; rfl
  by_cases c3 : x = 109
  · rw [if_neg c0, if_neg c0, if_neg c1, if_neg c1, if_neg c2, if_neg c2, if_pos c3, if_pos c3]; rfl
  by_cases c4 : x = 110
  · rw [if_neg c0, if_neg c0, if_neg c1, if_neg c1, if_neg c2, if_neg c2, if_neg c3, if_neg c3, if_pos c4, if_pos c4]; rfl
  by_cases c5 : x = 116
  · rw [if_neg c0, if_neg c0, if_neg c1, if_neg c1, if_neg c2, if_neg c2, if_neg c3, if_neg c3, if_neg c4, if_neg c4, if_pos c5, if_pos c5]; rfl
  rw [if_neg c0, if_neg c0, if_neg c1, if_neg c1, if_neg c2, if_neg c2, if_neg c3, if_neg c3, if_neg c4, if_neg c4, if_neg c5, if_neg c5]; rfl
theorem r_pl_l {R : mm_MM} (h : tpeR R B n) (hn : n ≤ 240) (e4 : R.1 606 4 = -1) : ∀ (k i p g : Nat) (v : Int32), i + k = 4 → p < 900 → k < g → fX11_plainNumber_c4 g (hR R p) v (Int32.ofNat i) = some ((ndT B n k p v).1, if dgB (sg B n (ndT B n k p v).2) = true then wI (hR R (ndT B n k p v).2) 606 4 (Int32.ofNat (ndT B n k p v).2) else hR R (ndT B n k p v).2) := by
  have c48 : ∀ (p : Nat) (v : Int32), p < 910 → fX11_plainNumber_c48 (hR R p) v = some (v, if dgB (sg B n p) = true then wI (hR R p) 606 4 (Int32.ofNat p) else hR R p) := fun p v hp => by
    unfold fX11_plainNumber_c48 fX11_plainNumber_c62
    rw [r_here h hn (by omega)]
    simp only [Option.bind_some, r_isD]
    by_cases c : dgB (sg B n p) = true
    · rw [if_pos c, if_neg (show ¬ (1 : Int32) = 0 by decide), if_pos c, rBad (hR_h R p) ((hR_n (by omega)).trans e4)]
      rfl
    · rw [if_neg c, if_pos rfl, if_neg c]
  intro k
  induction k with
  | zero =>
    intro i p g v hi hp hg
    obtain ⟨g, rfl⟩ : ∃ q, g = q + 1 := ⟨g - 1, by omega⟩
    rw [fX11_plainNumber_c4, ndT]
    dsimp only
    rw [if_neg (fun z => by have := (nn_lt (k := 4) (by omega) (by decide)).mp z; omega)]
    exact c48 p v (by omega)
  | succ k ih =>
    intro i p g v hi hp hg
    obtain ⟨g, rfl⟩ : ∃ q, g = q + 1 := ⟨g - 1, by omega⟩
    rw [fX11_plainNumber_c4, ndT]
    dsimp only
    rw [if_pos (show Int32.ofNat i < 4 from (nn_lt (k := 4) (by omega) (by decide)).mpr (by omega)), r_here h hn (by omega)]
    simp only [Option.bind_some, r_isD]
    by_cases c : dgB (sg B n p) = true
    · have hlt := dg_lt c
      rw [if_pos c, if_neg (show ¬ (1 : Int32) = 0 by decide), if_pos c, r_here h hn (by omega)]
      simp only [Option.bind_some, hR_s, nn_s]
      rw [show ((10 : Int32) * v + sg B n p) - 48 = (v * 10 + sg B n p) - 48 by grind]
      exact ih (i + 1) (p + 1) g _ (by omega) (by omega) (by omega)
    · rw [if_neg c, if_pos rfl, if_neg c]
      exact c48 p v (by omega)
theorem cTk {M : mm_MM} (h : tpeC M B n) (hn : n ≤ 240) {p : Nat} (e : M.1 1 2 = Int32.ofNat p) (hp : p < 900) (x : Int32) : fX8_took M x = some (if sg B n (sk B n p) = x then (1, hC M (sk B n p + 1)) else (0, hC M (sk B n p))) := by
  have := c_took h hn hp x
  rw [show hC M p = M from wI_self e] at this
  exact this
theorem r_clos {R : mm_MM} (h : tpeR R B n) (hn : n ≤ 240) {q d : Nat} (e : R.1 606 3 = Int32.ofNat q) (e4 : R.1 606 4 = -1) (e5 : R.1 606 5 = Int32.ofNat (d + 1)) (hq : q < 900) (x : Int32) : fX11_closes R x = some (if sg B n (sk B n q) = x then wI (hR R (sk B n q + 1)) 606 5 (Int32.ofNat d) else wI (wI (wI (hR R (sk B n q)) 606 4 (Int32.ofNat (sk B n q))) 606 3 (Int32.ofNat (sk B n q + 1))) 606 5 (Int32.ofNat d)) := by
  unfold fX11_closes fX11_closes_c20
  rw [if_pos e4, rLk h hn e hq]
  simp only [Option.bind_some]
  generalize sk B n q = q'
  have w5 : (hR R q').1 606 5 = Int32.ofNat (d + 1) := (hR_n (by omega)).trans e5
  have w4 : (hR R q').1 606 4 = -1 := (hR_n (by omega)).trans e4
  by_cases c : sg B n q' = x
  · rw [if_pos c, if_pos c, hR_s, w5, nn_p]
  · rw [if_neg c, if_neg c, rBad (hR_h R q') w4]
    simp only [Option.bind_some]
    rw [wI_nk (show ¬ 3 = 4 by decide), hR_h, nn_s, wI_nk (show ¬ 5 = 4 by decide), w5, nn_p]
theorem r_clos_e {R : mm_MM} {e : Nat} (he : e < 2 ^ 31) (e4 : R.1 606 4 = Int32.ofNat e) (x : Int32) : fX11_closes R x = some (wI (wI R 606 3 (R.1 606 3 + 1)) 606 5 (R.1 606 5 - 1)) := by
  unfold fX11_closes fX11_closes_c20
  rw [e4, if_neg (ofN_ne he)]
theorem ty_push {z d : Nat} (hz : z ≤ 9999) (hd : d ≤ 6) : ∀ s : List Bool, s.length ≤ 32 + 2 * d → tyTs [(0, z)] ([] ++ s) = some ([false] ++ s) := fun s hs => by
  show (if z ≤ 9999 ∧ s.length < 60 then some (false :: s) else none).bind (tyTs []) = _
  rw [if_pos ⟨hz, by omega⟩]; rfl
theorem ty_let {k d : Nat} (hk : k ≤ 5) (hd : d ≤ 6) : ∀ s : List Bool, s.length ≤ 32 + 2 * d → tyTs [(1, k)] ([] ++ s) = some ([false] ++ s) := fun s hs => by
  show (if k ≤ 5 ∧ s.length < 60 then some (false :: s) else none).bind (tyTs []) = _
  rw [if_pos ⟨hk, by omega⟩]; rfl
theorem atom_sim (ht : tx < 5) (hn : n ≤ 240) {kC : mm_MM → Nat → Int32 → Option (Int32 × mm_MM)} {kR : mm_MM → Option mm_MM} {d : Nat} (hd : d ≤ 6) (hk : d < 6 → Sim B n tx (fun M => kC M 25 (Int32.ofNat (d + 1))) kR (d + 1) [] [false] (32 + 2 * d)) : Sim B n tx (fun M => fX2_readAtom kC M 25 (Int32.ofNat d)) (fX11_atom kR) d [] [false] (32 + 2 * d) := by
  intro M R p len cnt h
  have hp := h.2.2.2.2.2.2.1
  have hlen := h.2.2.2.2.2.2.2.1
  have hcnt := h.2.2.2.2.2.2.2.2
  have hs := sk_n (B := B) hp
  have hle := sk_le B n p
  have hss := sk_sk (B := B) (n := n) p
  have eC := cSg h.1.1 hn h.2.1.1 (by omega)
  have eR := rLk h.1.2 hn h.2.1.2 (by omega)
  generalize hp2 : sk B n p = p2 at hs hle hss eC eR
  have o1 := OK_h (OK_0 h) hle hs
  have h1 : LwS B n tx (hC M p2) (hR R p2) p2 d len cnt := LwS_OK h o1
  have e4 := h1.2.2.1
  have e5 := h1.2.2.2.1
  generalize hsg : sg B n p2 = s at eC eR
  have hpl : ¬ s = -1 → p2 < n := fun z => sg_lt (B := B) (by rw [hsg]; exact z)
  by_cases c91 : s = 91
  · have hl := hpl (by rw [c91]; decide)
    have rR : ∀ res, (∀ X, fX11_opens (hR R p2) = some X → ((if X.1 606 4 = ((-1) : Int32) then (kR X).bind fun r9 => (fX11_closes r9 93).bind fun r10 => fX11_atom_c89 kR r10 else fX11_atom_c89 kR X) = res)) → (∃ X, fX11_opens (hR R p2) = some X) → fX11_atom kR R = res := fun res h1 ⟨X, h2⟩ => by
      unfold fX11_atom
      refine bs eR ?_
      refine bs (r_isD _ _) ?_
      dsimp only
      rw [if_neg (show ¬ dgB s = true by rw [c91]; decide), if_pos rfl]
      refine bs (r_letterOf _ _) ?_
      dsimp only
      rw [if_pos (show oI (ltO s) = -1 by rw [c91]; decide), if_pos c91]
      exact bs h2 (h1 X h2)
    by_cases c6 : d < 6
    · have hop : fX11_opens (hR R p2) = some (hR (wI (hR R p2) 606 5 (Int32.ofNat (d + 1))) (p2 + 1)) := by
        unfold fX11_opens fX11_opens_c13
        rw [e5, if_neg (fun z => by have := nn_inj (k := 6) (by omega) (by decide) z; omega), nn_s, hR_h, nn_s]
        rfl
      have o2 := OK_h (OK_d o1 (d + 1)) (q := p2 + 1) (by omega) hl
      have h2 : LwS B n tx _ _ (p2 + 1) (d + 1) len cnt := LwS_OK h o2
      have cC : ∀ res, ((kC (hC (hC M p2) (p2 + 1)) 25 (Int32.ofNat (d + 1))).bind fun r5 => (if r5.1 = 0 then fX2_readAtom_c47 kC r5.2 else (fX8_took r5.2 93).bind fun r7 => (if r7.1 = 0 then fX2_readAtom_c47 kC r7.2 else fX2_readAtom_c48 kC r7.2 1))) = res → fX2_readAtom kC M 25 (Int32.ofNat d) = res := fun res hr => by
        unfold fX2_readAtom
        refine bs eC ?_
        dsimp only
        rw [if_pos c91, if_pos (show Int32.ofNat d < 6 from (nn_lt (k := 6) (by omega) (by decide)).mpr c6)]
        refine bs (cSk (hC_h M p2)) ?_
        rw [nn_s]
        exact hr
      rcases hk c6 _ _ _ _ _ h2 with ⟨M3, R3, p3, ts, g1, g2, g3, g4⟩ | ⟨M3, R3, e, g1, g2, g3⟩
      · have h3 := LwS_OK h2 g3
        have hp3 := g3.2.2.2.2.2.2.1
        have hs3 := sk_n (B := B) hp3
        have hle3 := sk_le B n p3
        have eT := cTk h3.1.1 hn h3.2.1.1 (by omega) 93
        have eK := r_clos h3.1.2 hn h3.2.1.2 h3.2.2.1 h3.2.2.2.1 (by omega) 93
        have o3 := OK_trans o2 g3
        rw [List.nil_append, List.nil_append] at o3
        generalize hq : sk B n p3 = q at hs3 hle3 eT eK
        by_cases c : sg B n q = 93
        · have hql : q < n := sg_lt (B := B) (by rw [c]; decide)
          rw [if_pos c] at eT eK
          refine Or.inl ⟨_, _, q + 1, ts, cC _ (bs g1 ?_), rR _ (fun X hX => ?_) ⟨_, hop⟩, OK_d (OK_h o3 (by omega) hql) d, g4⟩
          · dsimp only
            rw [if_neg (show ¬ (1 : Int32) = 0 by decide)]
            refine bs eT ?_
            dsimp only
            rw [if_neg (show ¬ (1 : Int32) = 0 by decide)]
            unfold fX2_readAtom_c48
            rw [if_pos (Or.inr rfl)]
          · rw [hop] at hX
            cases hX
            rw [if_pos h2.2.2.1]
            exact bs g2 (bs eK rfl)
        · rw [if_neg c] at eT eK
          refine Or.inr ⟨_, wI (wI (wI (hR R3 q) 606 4 (Int32.ofNat q)) 606 3 (Int32.ofNat (q + 1))) 606 5 (Int32.ofNat d), q, cC _ (bs g1 ?_), rR _ (fun X hX => ?_) ⟨_, hop⟩, ER_w (ER_w (ER_bad (OK_h o3 hle3 hs3)) (Or.inl rfl)) (Or.inr rfl)⟩
          · dsimp only
            rw [if_neg (show ¬ (1 : Int32) = 0 by decide)]
            refine bs eT ?_
            dsimp only
            rw [if_pos rfl]
            unfold fX2_readAtom_c47 fX2_readAtom_c48
            rw [if_pos (Or.inl rfl)]
          · rw [hop] at hX
            cases hX
            rw [if_pos h2.2.2.1]
            exact bs g2 (bs eK rfl)
      · have he := g3.2.2.1
        refine Or.inr ⟨_, wI (wI R3 606 3 (R3.1 606 3 + 1)) 606 5 (R3.1 606 5 - 1), e, cC _ (bs g1 ?_), rR _ (fun X hX => ?_) ⟨_, hop⟩, ER_w (ER_w (ER_trans o2 g3) (Or.inl rfl)) (Or.inr rfl)⟩
        · dsimp only
          rw [if_pos rfl]
          unfold fX2_readAtom_c47 fX2_readAtom_c48
          rw [if_pos (Or.inl rfl)]
        · rw [hop] at hX
          cases hX
          rw [if_pos h2.2.2.1]
          exact bs g2 (bs (r_clos_e (by omega) g3.2.2.2.1 93) rfl)
    · obtain rfl : d = 6 := by omega
      have hop : fX11_opens (hR R p2) = some (wI (wI (wI (hR R p2) 606 4 (Int32.ofNat p2)) 606 5 (Int32.ofNat 7)) 606 3 (Int32.ofNat (p2 + 1))) := by
        unfold fX11_opens fX11_opens_c13
        rw [e5, if_pos (show Int32.ofNat 6 = 6 from rfl), rBad (hR_h R p2) e4]
        simp only [Option.bind_some]
        rw [wI_nk (show ¬ 5 = 4 by decide), e5, nn_s, wI_nk (show ¬ 3 = 4 by decide), hR_h, nn_s]
      refine Or.inr ⟨_, wI (wI (wI (hR R p2) 606 4 (Int32.ofNat p2)) 606 5 (Int32.ofNat 7)) 606 3 (Int32.ofNat (p2 + 1)), p2, ?_, rR _ (fun X hX => ?_) ⟨_, hop⟩, ER_w (ER_w (ER_bad o1) (Or.inr rfl)) (Or.inl rfl)⟩
      · show fX2_readAtom kC M 25 (Int32.ofNat 6) = _
        unfold fX2_readAtom
        refine bs eC ?_
        dsimp only
        rw [if_pos c91, if_neg (show ¬ Int32.ofNat 6 < 6 by decide)]
      · rw [hop] at hX
        cases hX
        have w4 : (wI (wI (wI (hR R p2) 606 4 (Int32.ofNat p2)) 606 5 (Int32.ofNat 7)) 606 3 (Int32.ofNat (p2 + 1))).1 606 4 = Int32.ofNat p2 := by rw [wI_nk (show ¬ 4 = 3 by decide), wI_nk (show ¬ 4 = 5 by decide), wI_eq]
        rw [w4, if_neg (ofN_ne (by omega))]
        rfl
  · cases hlt : ltO s with
    | some k =>
      obtain ⟨k5, l1, l2, l3, l4⟩ := ltO_s hlt
      have hl := hpl l3
      have o2 := OK_h o1 (q := p2 + 1) (by omega) hl
      have o3 := OK_emit o2 (by show p + 0 + 1 ≤ p2 + 1; omega) (-s)
      have o4 := OK_pu o3 (by show 0 + 1 ≤ 1; omega) (by show cnt + 0 < 520; omega) (1, k)
      rw [List.nil_append, List.nil_append, l4] at o4
      have h2 : LwS B n tx _ _ (p2 + 1) d len cnt := LwS_OK h o2
      refine Or.inl ⟨_, _, p2 + 1, [(1, k)], ?_, ?_, o4, ty_let k5 hd⟩
      · show fX2_readAtom kC M 25 (Int32.ofNat d) = _
        unfold fX2_readAtom
        refine bs eC ?_
        dsimp only
        rw [if_neg c91]
        refine bs (c_isLetter _ _) ?_
        rw [hlt, if_neg (show ¬ (some k = none) by exact fun z => (by cases z))]
        dsimp only
        rw [if_neg (show ¬ (1 : Int32) = 0 by decide)]
        refine bs (cSk (hC_h M p2)) ?_
        refine bs (c_emit h2.2.2.2.2.2.1.1 (by omega) _) ?_
        rw [l4]; rfl
      · unfold fX11_atom
        refine bs eR ?_
        refine bs (r_isD _ _) ?_
        dsimp only
        rw [if_neg (show ¬ dgB s = true by rw [l1]; decide), if_pos rfl]
        refine bs (r_letterOf _ _) ?_
        dsimp only
        rw [hlt, if_neg (show ¬ oI (some k) = -1 from ofN_ne (by omega)), hR_s]
        refine bs (r_letterOf _ _) ?_
        rw [hlt, ← hR_2 R p2 (p2 + 1)]
        refine bs (r_put ht h2.2.2.2.2.1 h2.2.2.2.2.2.1.2 (by omega) _ _) ?_
        rfl
    | none =>
      have eN := cNm h1.1.1 hn (mx := 4) (by decide) (hC_h M p2) hs
      rw [hss, hsg] at eN
      have cC : ∀ res, ((fX8_number (hC M p2) 4).bind fun r11 => (if r11.1 = ((-1) : Int32) then some (0, r11.2) else (fX2_emit r11.2 25 r11.1).bind fun r13 => some (1, r13))) = res → fX2_readAtom kC M 25 (Int32.ofNat d) = res := fun res hr => by
        unfold fX2_readAtom
        refine bs eC ?_
        dsimp only
        rw [if_neg c91]
        refine bs (c_isLetter _ _) ?_
        rw [hlt, if_pos rfl]
        dsimp only
        rw [if_pos rfl]
        exact hr
      by_cases cd : dgB s = true
      · have hl := dg_lt (B := B) (n := n) (p := p2) (by rw [hsg]; exact cd)
        rw [if_pos cd] at eN
        have n1 := ndT_n (B := B) (n := n) 4 p2 0 hs
        have n2 : p2 + 1 ≤ (ndT B n 4 p2 0).2 := by
          rw [ndT, hsg, if_pos cd]
          exact (ndT_p 3 (p2 + 1) _).1
        obtain ⟨z, z1, z2⟩ := ndT_v (B := B) (n := n) 4 p2 0 1 (by decide)
        have eP := r_pl_l h.1.2 hn h.2.2.1 4 0 p2 fu 0 rfl (by omega) (by unfold fu; omega)
        rw [show (Int32.ofNat 0 : Int32) = 0 from rfl] at z2 eP
        generalize (ndT B n 4 p2 0).2 = q at n1 n2 eN eP
        rw [z2] at eN eP
        have o2 := OK_h o1 (q := q) (by omega) n1
        have h2 : LwS B n tx _ _ q d len cnt := LwS_OK h o2
        have rR : ∀ res, (∀ X, fX11_plainNumber (hR R p2) = some (Int32.ofNat z, X) → ((fX11_put X 0 (Int32.ofNat z)).bind fun r15 => fX11_atom_c89 kR r15) = res) → (∃ X, fX11_plainNumber (hR R p2) = some (Int32.ofNat z, X)) → fX11_atom kR R = res := fun res h1 ⟨X, h2⟩ => by
          unfold fX11_atom
          refine bs eR ?_
          refine bs (r_isD _ _) ?_
          dsimp only
          rw [if_pos cd, if_neg (show ¬ (1 : Int32) = 0 by decide)]
          exact bs h2 (h1 X h2)
        by_cases c5 : dgB (sg B n q) = true
        · rw [if_pos c5] at eN eP
          have u : ERo n tx (hC (hC M p2) q) (hC (hC M p2) q) (hR (hR R p2) q) (wI (hR (hR R p2) q) 606 4 (Int32.ofNat q)) q q len cnt := ER_bad (OK_0 h2)
          obtain ⟨R3, er, ee⟩ := ER_put ht hn h o2 (by show p + 0 + 1 ≤ q; omega) u 0 (Int32.ofNat z)
          rw [hR_2] at er
          refine Or.inr ⟨_, R3, q, cC _ (bs eN ?_), rR _ (fun X hX => ?_) ⟨_, eP⟩, ee⟩
          · dsimp only
            rw [if_pos rfl]
          · have := eP.symm.trans hX
            cases this
            exact bs er rfl
        · rw [if_neg c5] at eN eP
          have o3 := OK_emit o2 (by show p + 0 + 1 ≤ q; omega) (Int32.ofNat z)
          have o4 := OK_pu o3 (by show 0 + 1 ≤ 1; omega) (by show cnt + 0 < 520; omega) (0, z)
          rw [List.nil_append, List.nil_append] at o4
          refine Or.inl ⟨_, _, q, [(0, z)], cC _ (bs eN ?_), rR _ (fun X hX => ?_) ⟨_, eP⟩, o4, ty_push (by omega) hd⟩
          · dsimp only
            rw [if_neg (ofN_ne (by omega))]
            refine bs (c_emit h2.2.2.2.2.2.1.1 (by omega) _) ?_
            rfl
          · have := eP.symm.trans hX
            cases this
            rw [hR_2] at h2
            refine bs (r_put ht h2.2.2.2.2.1 h2.2.2.2.2.2.1.2 (by omega) _ _) ?_
            rw [hR_2]
            rfl
      · rw [if_neg cd] at eN
        refine Or.inr ⟨_, _, p2, cC _ (bs eN ?_), ?_, ER_bad o1⟩
        · dsimp only
          rw [if_pos rfl, hC_2]
        · unfold fX11_atom
          refine bs eR ?_
          refine bs (r_isD _ _) ?_
          dsimp only
          rw [if_neg cd, if_pos rfl]
          refine bs (r_letterOf _ _) ?_
          dsimp only
          rw [hlt, if_pos (show oI none = -1 from rfl), if_neg c91]
          exact bs (rBad (hR_h R p2) e4) rfl
end ATM
