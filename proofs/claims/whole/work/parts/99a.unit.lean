/-! LAWS READ: units -/
section UNT
variable {B : Nat → Int32} {n tx : Nat}
theorem c_nests (m : mm_MM) (x : Int32) : fX2_nests m x = some (if x = 33 ∨ x = 40 then 1 else 0, m) := by
  unfold fX2_nests fX2_nests_c12 fX2_nests_c17
  by_cases c0 : x = 33
  · subst c0; rfl
  by_cases c1 : x = 40
  · subst c1; rfl
  rw [if_neg c0, if_neg c1, if_pos (Or.inl rfl), if_neg (show ¬ (x = 33 ∨ x = 40) from fun z => z.elim c0 c1)]
theorem ty_not {ts : List Tok} {s : List Bool} (h : tyTs ts ([] ++ s) = some ([true] ++ s)) : tyTs (ts ++ [(9, 0)]) ([] ++ s) = some ([true] ++ s) := by
  rw [tyTs_app, h]; rfl
theorem unit_sim (ht : tx < 5) (hn : n ≤ 240) {kC : mm_MM → Nat → Int32 → Option (Int32 × mm_MM)} {kR : mm_MM → Option mm_MM} {d : Nat} (hd : d ≤ 6) (hk : d < 6 → Sim B n tx (fun M => kC M 25 (Int32.ofNat (d + 1))) kR (d + 1) [] [true] (2 * d + 2 + 1 + 1)) : Sim B n tx (fun M => fX2_readUnit_b kC M 25 (Int32.ofNat d)) (fX11_unit_b kR) d [] [true] (2 * d + 2) := by
  intro M R p len cnt h
  have hp := h.2.2.2.2.2.2.1
  have hlen := h.2.2.2.2.2.2.2.1
  have hcnt := h.2.2.2.2.2.2.2.2
  have hs := sk_n (B := B) hp
  have hle := sk_le B n p
  have eC := cSg h.1.1 hn h.2.1.1 (by omega)
  have eR := rLk h.1.2 hn h.2.1.2 (by omega)
  generalize hp2 : sk B n p = p2 at hs hle eC eR
  have o1 := OK_h (OK_0 h) hle hs
  have h1 : LwS B n tx (hC M p2) (hR R p2) p2 d len cnt := LwS_OK h o1
  have e4 := h1.2.2.1
  have e5 := h1.2.2.2.1
  generalize hsg : sg B n p2 = s at eC eR
  by_cases cn : s = 33 ∨ s = 40
  · have hl : p2 < n := sg_lt (B := B) (by rw [hsg]; rcases cn with rfl | rfl <;> decide)
    have cC : ∀ res, (if Int32.ofNat d < 6 then (fX8_skip (hC M p2)).bind fun r9 => (if s = 40 then (fX2_readCondition kC r9 25 (Int32.ofNat d + 1) 0).bind fun r11 => (if r11.1 = 0 then fX2_readUnit_b_c79 kC r11.2 else (fX8_took r11.2 41).bind fun r13 => (if r13.1 = 0 then fX2_readUnit_b_c79 kC r13.2 else fX2_readUnit_b_c80 kC r13.2 1)) else (kC r9 25 (Int32.ofNat d + 1)).bind fun r15 => (if r15.1 = 0 then some (0, r15.2) else (fX2_emit r15.2 25 ((-33) : Int32)).bind fun r17 => some (1, r17))) else some (0, hC M p2)) = res → fX2_readUnit_b kC M 25 (Int32.ofNat d) = res := fun res hr => by
      unfold fX2_readUnit_b
      refine bs eC (bs (c_nests _ _) ?_)
      dsimp only
      rw [if_pos cn, if_neg (show ¬ (1 : Int32) = 0 by decide)]
      exact hr
    by_cases c6 : d < 6
    · have hop : fX11_opens (hR R p2) = some (hR (wI (hR R p2) 606 5 (Int32.ofNat (d + 1))) (p2 + 1)) := by
        unfold fX11_opens fX11_opens_c13
        rw [e5, if_neg (fun z => by have := nn_inj (k := 6) (by omega) (by decide) z; omega), nn_s, hR_h, nn_s]
        rfl
      have o2 := OK_h (OK_d o1 (d + 1)) (q := p2 + 1) (by omega) hl
      have h2 : LwS B n tx _ _ (p2 + 1) (d + 1) len cnt := LwS_OK h o2
      have d6 : Int32.ofNat d < 6 := (nn_lt (k := 6) (by omega) (by decide)).mpr c6
      rcases cn with c33 | c40
      · -- not
        have n40 : ¬ s = 40 := by rw [c33]; decide
        have cC2 : ∀ res, ((kC (hC (hC M p2) (p2 + 1)) 25 (Int32.ofNat (d + 1))).bind fun r15 => (if r15.1 = 0 then some (0, r15.2) else (fX2_emit r15.2 25 ((-33) : Int32)).bind fun r17 => some (1, r17))) = res → fX2_readUnit_b kC M 25 (Int32.ofNat d) = res := fun res hr => cC res (by
          rw [if_pos d6]
          refine bs (cSk (hC_h M p2)) ?_
          rw [if_neg n40, nn_s]
          exact hr)
        have cR : ∀ res, ((kR (hR (wI (hR R p2) 606 5 (Int32.ofNat (d + 1))) (p2 + 1))).bind fun r5 => (fX11_put r5 9 0).bind fun r6 => fX11_unit_b_c94 kR (wI r6 606 5 (r6.1 606 5 - 1))) = res → fX11_unit_b kR R = res := fun res hr => by
          unfold fX11_unit_b
          refine bs eR ?_
          dsimp only
          rw [if_pos c33]
          refine bs hop ?_
          rw [if_pos h2.2.2.1]
          exact hr
        rcases hk c6 _ _ _ _ _ h2 with ⟨M3, R3, p3, ts1, g1, g2, g3, g4⟩ | ⟨M3, R3, e, g1, g2, g3⟩
        · have o3 := OK_trans o2 g3
          rw [List.nil_append, List.nil_append] at o3
          have h3 := LwS_OK h o3
          have hp3 := g3.2.2.2.2.2.2.1
          have hp4 := g3.2.2.2.2.2.2.2.1
          have hml : (ts1.map encT).length = ts1.length := List.length_map ..
          rw [hml] at hp4
          have o4 := OK_pu (OK_emit o3 (by rw [hml]; omega) (encT (9, 0))) (by rw [List.length_append, hml]; show ts1.length + 1 ≤ ts1.length + 1; omega) (by omega) (9, 0)
          rw [show ts1.map encT ++ [encT (9, 0)] = (ts1 ++ [(9, 0)]).map encT by rw [List.map_append]; rfl] at o4
          have em1 := c_emit h3.2.2.2.2.2.1.1 (by rw [hml]; omega) (-33)
          have pu1 := r_put ht h3.2.2.2.2.1 h3.2.2.2.2.2.1.2 (by omega) 9 0
          refine Or.inl ⟨_, _, p3, ts1 ++ [(9, 0)], cC2 _ (bs g1 ?_), cR _ (bs g2 (bs pu1 ?_)), OK_d o4 d, fun s' hs' => ty_not (g4 s' (by omega))⟩
          · dsimp only
            rw [if_neg (show ¬ (1 : Int32) = 0 by decide)]
            exact bs em1 rfl
          · have w5 : (pu tx R3 9 0 (cnt + ts1.length)).1 606 5 = Int32.ofNat (d + 1) := o4.2.2.2.2.2.1
            rw [w5, nn_p]
            rfl
        · obtain ⟨R4, er, ee⟩ := ER_put ht hn h o2 (by show p + 0 + 1 ≤ p2 + 1; omega) g3 9 0
          refine Or.inr ⟨M3, wI R4 606 5 (R4.1 606 5 - 1), e, cC2 _ (bs g1 ?_), cR _ (bs g2 (bs er rfl)), ER_w ee (Or.inr rfl)⟩
          dsimp only
          rw [if_pos rfl]
      · have n33 : ¬ s = 33 := by rw [c40]; decide
        have cC2 : ∀ res, ((fX2_readCondition kC (hC (hC M p2) (p2 + 1)) 25 (Int32.ofNat (d + 1)) 0).bind fun r11 => (if r11.1 = 0 then fX2_readUnit_b_c79 kC r11.2 else (fX8_took r11.2 41).bind fun r13 => (if r13.1 = 0 then fX2_readUnit_b_c79 kC r13.2 else fX2_readUnit_b_c80 kC r13.2 1))) = res → fX2_readUnit_b kC M 25 (Int32.ofNat d) = res := fun res hr => cC res (by
          rw [if_pos d6]
          refine bs (cSk (hC_h M p2)) ?_
          rw [if_pos c40, nn_s]
          exact hr)
        have cR : ∀ res, ((fX11_condition kR (hR (wI (hR R p2) 606 5 (Int32.ofNat (d + 1))) (p2 + 1))).bind fun r10 => (fX11_closes r10 41).bind fun r11 => fX11_unit_b_c94 kR r11) = res → fX11_unit_b kR R = res := fun res hr => by
          unfold fX11_unit_b
          refine bs eR ?_
          dsimp only
          rw [if_neg n33, if_pos c40]
          refine bs hop ?_
          rw [if_pos h2.2.2.1]
          exact hr
        rcases con_sim ht hn (b := 2 * d + 2) (hk c6) _ _ _ _ _ h2 with ⟨M3, R3, p3, ts, g1, g2, g3, g4⟩ | ⟨M3, R3, e, g1, g2, g3⟩
        · have h3 := LwS_OK h2 g3
          have hp3 := g3.2.2.2.2.2.2.1
          have hs3 := sk_n (B := B) hp3
          have hle3 := sk_le B n p3
          have eT := cTk h3.1.1 hn h3.2.1.1 (by omega) 41
          have eK := r_clos h3.1.2 hn h3.2.1.2 h3.2.2.1 h3.2.2.2.1 (by omega) 41
          have o3 := OK_trans o2 g3
          rw [List.nil_append, List.nil_append] at o3
          generalize hq : sk B n p3 = q at hs3 hle3 eT eK
          by_cases c : sg B n q = 41
          · have hql : q < n := sg_lt (B := B) (by rw [c]; decide)
            rw [if_pos c] at eT eK
            refine Or.inl ⟨_, _, q + 1, ts, cC2 _ (bs g1 ?_), cR _ (bs g2 (bs eK rfl)), OK_d (OK_h o3 (by omega) hql) d, g4⟩
            dsimp only
            rw [if_neg (show ¬ (1 : Int32) = 0 by decide)]
            refine bs eT ?_
            dsimp only
            rw [if_neg (show ¬ (1 : Int32) = 0 by decide)]
            unfold fX2_readUnit_b_c80
            rw [if_pos (Or.inr rfl)]
          · rw [if_neg c] at eT eK
            refine Or.inr ⟨_, wI (wI (wI (hR R3 q) 606 4 (Int32.ofNat q)) 606 3 (Int32.ofNat (q + 1))) 606 5 (Int32.ofNat d), q, cC2 _ (bs g1 ?_), cR _ (bs g2 (bs eK rfl)), ER_w (ER_w (ER_bad (OK_h o3 hle3 hs3)) (Or.inl rfl)) (Or.inr rfl)⟩
            dsimp only
            rw [if_neg (show ¬ (1 : Int32) = 0 by decide)]
            refine bs eT ?_
            dsimp only
            rw [if_pos rfl]
            unfold fX2_readUnit_b_c79 fX2_readUnit_b_c80
            rw [if_pos (Or.inl rfl)]
        · have he := g3.2.2.1
          refine Or.inr ⟨_, wI (wI R3 606 3 (R3.1 606 3 + 1)) 606 5 (R3.1 606 5 - 1), e, cC2 _ (bs g1 ?_), cR _ (bs g2 (bs (r_clos_e (by omega) g3.2.2.2.1 41) rfl)), ER_w (ER_w (ER_trans o2 g3) (Or.inl rfl)) (Or.inr rfl)⟩
          dsimp only
          rw [if_pos rfl]
          unfold fX2_readUnit_b_c79 fX2_readUnit_b_c80
          rw [if_pos (Or.inl rfl)]
    · obtain rfl : d = 6 := by omega
      have hop : fX11_opens (hR R p2) = some (wI (wI (wI (hR R p2) 606 4 (Int32.ofNat p2)) 606 5 (Int32.ofNat 7)) 606 3 (Int32.ofNat (p2 + 1))) := by
        unfold fX11_opens fX11_opens_c13
        rw [e5, if_pos (show Int32.ofNat 6 = 6 from rfl), rBad (hR_h R p2) e4]
        simp only [Option.bind_some]
        rw [wI_nk (show ¬ 5 = 4 by decide), e5, nn_s, wI_nk (show ¬ 3 = 4 by decide), hR_h, nn_s]
      have w4 : (wI (wI (wI (hR R p2) 606 4 (Int32.ofNat p2)) 606 5 (Int32.ofNat 7)) 606 3 (Int32.ofNat (p2 + 1))).1 606 4 = Int32.ofNat p2 := by rw [wI_nk (show ¬ 4 = 3 by decide), wI_nk (show ¬ 4 = 5 by decide), wI_eq]
      refine Or.inr ⟨_, wI (wI (wI (hR R p2) 606 4 (Int32.ofNat p2)) 606 5 (Int32.ofNat 7)) 606 3 (Int32.ofNat (p2 + 1)), p2, cC _ (if_neg (show ¬ Int32.ofNat 6 < 6 by decide)), ?_, ER_w (ER_w (ER_bad o1) (Or.inr rfl)) (Or.inl rfl)⟩
      unfold fX11_unit_b
      refine bs eR ?_
      dsimp only
      rcases cn with c33 | c40
      · rw [if_pos c33]
        refine bs hop ?_
        rw [w4, if_neg (ofN_ne (by omega))]
        rfl
      · rw [if_neg (show ¬ s = 33 by rw [c40]; decide), if_pos c40]
        refine bs hop ?_
        rw [w4, if_neg (ofN_ne (by omega))]
        rfl
  · have n33 : ¬ s = 33 := fun z => cn (Or.inl z)
    have n40 : ¬ s = 40 := fun z => cn (Or.inr z)
    have cC : ∀ res, ((fX2_readSum 12 (hC M p2) 25 (Int32.ofNat d)).bind fun r4 => (if r4.1 = 0 then fX2_readUnit_b_c34 kC r4.2 else (fX2_readComparison r4.2 25 (Int32.ofNat d)).bind fun r6 => (if r6.1 = 0 then fX2_readUnit_b_c34 kC r6.2 else fX2_readUnit_b_c35 kC r6.2 1))) = res → fX2_readUnit_b kC M 25 (Int32.ofNat d) = res := fun res hr => by
      unfold fX2_readUnit_b
      refine bs eC (bs (c_nests _ _) ?_)
      dsimp only
      rw [if_neg cn, if_pos rfl]
      exact hr
    have cR : ∀ res, ((fX11_sum 12 (hR R p2)).bind fun r12 => (if r12.1 606 4 = ((-1) : Int32) then (fX11_compare r12).bind fun r14 => fX11_unit_b_c94 kR r14 else fX11_unit_b_c94 kR r12)) = res → fX11_unit_b kR R = res := fun res hr => by
      unfold fX11_unit_b
      refine bs eR ?_
      dsimp only
      rw [if_neg n33, if_neg n40]
      exact hr
    rcases sum12 ht hn hd _ _ _ _ _ h1 with ⟨M3, R3, p3, ts, g1, g2, g3, g4⟩ | ⟨M3, R3, e, g1, g2, g3⟩
    · have h3 := LwS_OK h1 g3
      have o3 := OK_trans o1 g3
      rw [List.nil_append, List.nil_append] at o3
      rcases cmp_sim ht hn hd _ _ _ _ _ h3 with ⟨M5, R5, p5, ts5, k1, k2, k3, k4⟩ | ⟨M5, R5, e, k1, k2, k3⟩
      · have o5 := OK_trans o3 k3
        rw [← List.map_append] at o5
        refine Or.inl ⟨M5, R5, p5, ts ++ ts5, cC _ (bs g1 ?_), cR _ (bs g2 ?_), o5, fun s' hs' => ?_⟩
        · dsimp only
          rw [if_neg (show ¬ (1 : Int32) = 0 by decide)]
          refine bs k1 ?_
          dsimp only
          rw [if_neg (show ¬ (1 : Int32) = 0 by decide)]
          unfold fX2_readUnit_b_c35
          rw [if_pos (Or.inr rfl)]
        · rw [if_pos h3.2.2.1]
          exact bs k2 rfl
        · rw [tyTs_app, g4 s' (by omega)]
          exact k4 s' (by omega)
      · refine Or.inr ⟨M5, R5, e, cC _ (bs g1 ?_), cR _ (bs g2 ?_), ER_trans o3 k3⟩
        · dsimp only
          rw [if_neg (show ¬ (1 : Int32) = 0 by decide)]
          refine bs k1 ?_
          dsimp only
          rw [if_pos rfl]
          unfold fX2_readUnit_b_c34 fX2_readUnit_b_c35
          rw [if_pos (Or.inl rfl)]
        · rw [if_pos h3.2.2.1]
          exact bs k2 rfl
    · have he := g3.2.2.1
      refine Or.inr ⟨M3, R3, e, cC _ (bs g1 ?_), cR _ (bs g2 ?_), ER_trans o1 g3⟩
      · dsimp only
        rw [if_pos rfl]
        unfold fX2_readUnit_b_c34 fX2_readUnit_b_c35
        rw [if_pos (Or.inl rfl)]
      · rw [g3.2.2.2.1, if_neg (ofN_ne (by omega))]
        rfl
theorem units_sim (ht : tx < 5) (hn : n ≤ 240) : ∀ (f d : Nat), d ≤ 6 → 6 - d < f → Sim B n tx (fun M => fX2_readUnit f M 25 (Int32.ofNat d)) (fX11_unit f) d [] [true] (2 * d + 2)
  | 0, d, _, h => absurd h (by omega)
  | f + 1, d, hd, h => unit_sim ht hn hd (fun z => by
      have := units_sim ht hn f (d + 1) (by omega) (by omega)
      rw [show 2 * (d + 1) + 2 = 2 * d + 2 + 1 + 1 by omega] at this
      exact this)
theorem unit12 (ht : tx < 5) (hn : n ≤ 240) : Sim B n tx (fun M => fX2_readUnit 12 M 25 (Int32.ofNat 0)) (fX11_unit 12) 0 [] [true] (0 + 1 + 1) := units_sim ht hn 12 0 (by decide) (by decide)
end UNT
