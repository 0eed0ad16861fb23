/-! GROWN: months on one thing, months on all, and all taken back -/
section GRO
variable {m m1 : mm_MM} {W H : Nat} {P : List Vw} {ls : Nat → List Cla}
theorem putA_ix {d z : Nat} : (50 * Int32.ofNat d) + Int32.ofNat (0 + z) = Int32.ofNat (50 * d + z) := by
  rw [Nat.zero_add, Int32.ofNat_add, Int32.ofNat_mul]; rfl
theorem r_putAside (m : mm_MM) {d : Nat} (hd : d < 8) : fX11_putAside m (Int32.ofNat d) = some (cpM m 627 (50 * d) 50 623 0) := by
  refine cp_l (F := fun n m x => fX11_putAside_c2 n m (Int32.ofNat d) x) (fin := some) (I := fun _ => True) (A := 623) (B := 627) (o := 50 * d) (p := 0) (c := 0) (N := 50) (Or.inl (by decide)) (fun _ _ _ _ => trivial) ?_ ?_ trivial fu (by unfold fu; omega)
  · intro n m z hz _
    rw [fX11_putAside_c2]
    have h1 : Int32.ofNat (0 + z) < 50 := (nn_lt (k := 50) (by omega) (by decide)).mpr (by omega)
    dsimp only
    rw [if_pos h1, putA_ix, nn_go (by omega) (by omega), nn_go (by omega) (by omega), nn_tn (by omega), nn_tn (by omega), nn_s]
  · intro n m _
    rw [fX11_putAside_c2]
    exact if_neg (fun z => by have := (nn_lt (k := 50) (by decide) (by decide)).mp z; omega)
theorem r_takeBack (m : mm_MM) {d : Nat} (hd : d < 8) : fX11_takeBack m (Int32.ofNat d) = some (cpM m 623 0 50 627 (50 * d)) := by
  refine cp_l (F := fun n m x => fX11_takeBack_c2 n m (Int32.ofNat d) x) (fin := some) (I := fun _ => True) (A := 627) (B := 623) (o := 0) (p := 50 * d) (c := 0) (N := 50) (Or.inl (by decide)) (fun _ _ _ _ => trivial) ?_ ?_ trivial fu (by unfold fu; omega)
  · intro n m z hz _
    rw [fX11_takeBack_c2]
    have h1 : Int32.ofNat (0 + z) < 50 := (nn_lt (k := 50) (by omega) (by decide)).mpr (by omega)
    dsimp only
    rw [if_pos h1, putA_ix, nn_go (by omega) (by omega), nn_go (by omega) (by omega), nn_tn (by omega), nn_tn (by omega), nn_s]
  · intro n m _
    rw [fX11_takeBack_c2]
    exact if_neg (fun z => by have := (nn_lt (k := 50) (by decide) (by decide)).mp z; omega)
/-- a loop of months -/
theorem lives {α : Type} {F : Nat → mm_MM → Int32 → Option α} {N : Nat} (hs : ∀ n m i, i < N → F (n + 1) m (Int32.ofNat i) = (fX11_live m).bind fun r => F n r (Int32.ofNat (i + 1))) {W H : Nat} {o : Option (List Cla)} : ∀ (k i : Nat) (m : mm_MM) (t f : Nat), i + k = N → k < f → EnvR m W H o t → t + k < 10000 →
    ∃ m1 g, F f m (Int32.ofNat i) = F (g + 1) m1 (Int32.ofNat N) ∧ fr W2 m m1 ∧ thr m1 623 0 = nxTs o (m.1 620 2) (m.1 620 3) (m.1 620 0) (m.1 621) k (thr m 623 0) t ∧ EnvR m1 W H o (t + k) := by
  intro k
  induction k with
  | zero =>
    intro i m t f hi hf E ht
    obtain ⟨g, rfl⟩ : ∃ g, f = g + 1 := ⟨f - 1, by omega⟩
    obtain rfl : i = N := by omega
    exact ⟨m, g, rfl, fr_refl _ _, rfl, E⟩
  | succ k ih =>
    intro i m t f hi hf E ht
    obtain ⟨g, rfl⟩ : ∃ g, f = g + 1 := ⟨f - 1, by omega⟩
    obtain ⟨m1, e1, f1, T1, -, -, E1⟩ := r_live E (by omega)
    obtain ⟨m2, g2, e2, f2, T2, E2⟩ := ih (i + 1) m1 (t + 1) g (by omega) (by omega) E1 (by omega)
    have q : ∀ a k, a = 620 ∨ a = 621 → m1.1 a k = m.1 a k := fun a k h => f1.1 a k (by rcases h with rfl | rfl <;> simp [W2])
    refine ⟨m2, g2, by rw [hs _ _ _ (by omega), e1]; exact e2, fr_trans f1 f2, ?_, by rw [show t + (k + 1) = t + 1 + k by omega]; exact E2⟩
    rw [T2, T1, q 620 2 (Or.inl rfl), q 620 3 (Or.inl rfl), q 620 0 (Or.inl rfl), show m1.1 621 = m.1 621 from funext fun k => q 621 k (Or.inr rfl)]
    rfl
/-- the longs but two say nothing -/
theorem Inv_L {m m' : mm_MM} (h0 : m'.1 = m.1) (h1 : m'.2 0 19 = m.2 0 19) (h2 : m'.2 606 35 = m.2 606 35) (h : Inv m) : Inv m' := by
  obtain ⟨A, L⟩ := m
  obtain ⟨A', L'⟩ := m'
  obtain rfl : A' = A := h0
  obtain ⟨W, H, P, ls, a1, a2, a3, a4, a5, a6, a7⟩ := h
  obtain ⟨q, b1, b2, b3, b4, b5, b6⟩ := a5
  exact ⟨W, H, P, ls, a1, a2, a3, a4, ⟨q, b1, b2, b3, fun i hi => ⟨(b4 i hi).1, LawR_fr (m := (A', L)) (m' := (A', L')) (fun _ _ _ => rfl) (b4 i hi).2.1, (b4 i hi).2.2⟩, b5, b6⟩, a6, a7⟩
def frB (m m' : mm_MM) : Prop := (∀ a k, WQ a k = false → m'.1 a k = m.1 a k) ∧ m'.2 0 19 = m.2 0 19 ∧ m'.2 606 35 = m.2 606 35
theorem Inv_B {m m' : mm_MM} (h : frB m m') (hi : Inv m) : Inv m' := Inv_L (m := (m'.1, m.2)) rfl h.2.1 h.2.2 (Inv_q ⟨h.1, fun _ _ _ => rfl⟩ hi)
/-- put aside, lived, taken back -/
theorem W2_Q {a k : Nat} (z : WQ a k = false) (h : ¬ a = 623) : W2 a k = false ∧ ¬ a = 627 := by
  refine ⟨?_, fun e => ?_⟩
  · cases hb : W2 a k with
    | false => rfl
    | true =>
      have : WQ a k = true := by
        simp only [W2, Bool.and_eq_true, Bool.or_eq_true, beq_iff_eq, decide_eq_true_eq] at hb
        rcases hb with (((rfl | rfl) | rfl) | ⟨rfl, rfl⟩) | ⟨rfl, -⟩
        · simp [WQ]
        · simp [WQ]
        · simp [WQ]
        · simp [WQ]
        · exact absurd rfl h
      rw [this] at z; cases z
  · subst e; have : WQ 627 k = true := by simp [WQ, show Nat.ble 627 627 = true from rfl, show Nat.ble 585 627 = true from rfl, show Nat.blt 627 631 = true from rfl]
    rw [this] at z; cases z
theorem fr_back {d : Nat} {m m1 : mm_MM} (h : fr W2 (cpM m 627 (50 * d) 50 623 0) m1) : frB m (cpM m1 623 0 50 627 (50 * d)) := by
  refine ⟨fun a k z => ?_, h.2 _ _ rfl, h.2 _ _ rfl⟩
  by_cases ha : a = 623
  · subst ha
    by_cases hk : k < 50
    · have e := cpM_in (m := m1) (B := 623) (o := 0) (N := 50) (A := 627) (p := 50 * d) hk
      rw [Nat.zero_add] at e
      rw [e, h.1 _ _ (by simp [W2])]
      have e2 := cpM_in (m := m) (B := 627) (o := 50 * d) (N := 50) (A := 623) (p := 0) hk
      rw [Nat.zero_add] at e2
      exact e2
    · rw [cpM_out (by omega), h.1 _ _ (by simp [W2]; omega), cpM_ne (by decide)]
  · obtain ⟨q1, q2⟩ := W2_Q z ha
    rw [cpM_ne ha, h.1 _ _ q1, cpM_ne q2]
/-- the reference: months on all, one told -/
theorem r_grown {t : Nat} {o : Option (List Cla)} (E : EnvR m W H o t) {b N : Nat} (hT : thr m 623 0 b 5 = 1) (hN : N ≤ 99) (ht : t + N < 10000) : ∃ m', fX11_grown m (Int32.ofNat b) (Int32.ofNat N) = some (nxTs o (m.1 620 2) (m.1 620 3) (m.1 620 0) (m.1 621) N (thr m 623 0) t b 0, m') ∧ frB m m' := by
  have hb := (thr_5 hT).1
  have T1 : thr (cpM m 627 0 50 623 0) 623 0 = thr m 623 0 := thr_now (fun k _ => cpM_ne (by decide))
  have E1 : EnvR (cpM m 627 0 50 623 0) W H o t := EnvR_fr (W := fun a _ => a == 627) (m := m) (fr_cpM (fr_refl _ _) (fun _ _ _ => rfl)) rfl (fun a k h => by rcases h with rfl | rfl | rfl | rfl | rfl | rfl <;> rfl) (fun _ => rfl) (fun _ => rfl) (by rw [T1]; exact E.2.2.2.2.2.1) ((cpM_ne (by decide)).trans E.2.2.2.2.2.2.2.1) E.2.2.2.2.2.2.2.2 E
  obtain ⟨m1, g, e1, f1, T2, E2⟩ := lives (F := fun n m x => fX11_grown_c27 n m (Int32.ofNat b) (Int32.ofNat N) x) (N := N) (fun n m i hi => by
    rw [fX11_grown_c27]
    dsimp only
    rw [if_pos ((nn_lt (by omega) (by omega)).mpr hi), nn_s]) N 0 (cpM m 627 0 50 623 0) t fu (by omega) (by unfold fu; omega) E1 ht
  have hT2 : thr m1 623 0 b 5 = 1 := by rw [T2, T1, nxTs_o (by decide) (by decide)]; exact hT
  have e2 := thr_k0 hT2 (show 0 < 6 by decide)
  refine ⟨cpM m1 623 0 50 627 0, ?_, fr_back (d := 0) f1⟩
  have hp := r_putAside m (d := 0) (by decide)
  have hr := r_takeBack m1 (d := 0) (by decide)
  have hq : fX11_grown_c27 fu (cpM m 627 0 50 623 0) (Int32.ofNat b) (Int32.ofNat N) 0 = some (thr m1 623 0 b 0, cpM m1 623 0 50 627 0) := by
    refine e1.trans ?_
    rw [fX11_grown_c27]
    dsimp only
    rw [if_neg (fun z => Nat.lt_irrefl _ ((nn_lt (by omega) (by omega)).mp z)), r_of0 _ hb]
    simp only [Option.bind_some]
    rw [show (0 : Int32) = Int32.ofNat 0 from rfl, hr, e2]
    rfl
  rw [T2, T1] at hq
  simp only [fX11_grown, r_isThere_n m hb, if_pos hT, Option.bind_some, if_neg (show ¬ (1 : Int32) = 0 by decide), r_in, if_neg (nn_n0 (n := N) (by omega)), if_pos ((nn_le (n := N) (k := 99) (by omega) (by decide)).mpr hN)]
  rw [if_pos (show Int32.ofNat N ≤ 99 from (nn_le (n := N) (k := 99) (by omega) (by decide)).mpr hN)]
  rw [if_neg (show ¬ (1 : Int32) = 0 by decide), show fX11_putAside m 0 = some (cpM m 627 0 50 623 0) from hp]
  exact hq
theorem WG_Q : ∀ a k, WQ a k = false → WG a k = false := by
  intro a k z
  simp only [WQ, Bool.or_eq_false_iff] at z
  simp only [WG, Bool.or_eq_false_iff]
  exact ⟨z.1.1.1.1.1.1.1.1.1.1.1.1.1.1, z.1.1.1.1.1.1.1.1.1.1.1.1.1.2⟩
theorem W583_Gx : ∀ a k, WG a k = false → W583 a k = false := by
  intro a k z
  simp only [WG, Bool.or_eq_false_iff] at z
  exact z.2
theorem WG_hi {a k : Nat} (h : 606 ≤ a) : WG a k = false := by
  cases hb : WG a k with
  | false => rfl
  | true =>
    simp only [WG, WS, Bool.and_eq_true, Bool.or_eq_true, beq_iff_eq] at hb
    omega
theorem rowI_lt {t : Nat} {o : Option (List Cla)} (E : EnvC m W H o t) {b : Nat} (h : lyT (thc m 34) b) : rowI (m.1 14 3) (thc m 34) b < 4 := by
  obtain ⟨hL, e3, e4, hy, hH, hTB, hD, h7, ht⟩ := E
  obtain ⟨Q, hQ, eQ, eR, hR⟩ := lyT_bd hTB hL h
  have hR4 : Q / W < 4 := by have := hL.2.2.2; omega
  unfold rowI
  rw [e3, eR, nn_tn (by omega)]
  exact hR4
theorem q_grown (hi : Inv m) (x n : Int32) : EQ m (fun m => fX10_grown m x n) (fun m => fX11_grown m x n) := by
  obtain ⟨W, H, P, ls, h⟩ := id hi
  have hs := see0 h
  by_cases hx : tx (thc m 34) x 5 = 1
  · obtain ⟨h0, ex, hT5, htx⟩ := tx_b hx
    have hk := IA_known h hT5
    have hxr : tx (thr m 623 0) x 5 = 1 := by rw [hs.1]; exact hx
    by_cases hn : n < 0
    · refine EQ_0 (v := -1) hi ?_ ?_
      · simp only [fX10_grown, c_find, if_pos hx, Option.bind_some, if_pos hn, fX10_grown_c23, if_pos (show mm_kd (34 + x.toNatClampNeg) = (9, 6) from kd_p (thc_5 hT5).1)]
      · simp only [fX11_grown, r_isThere, if_pos hxr, Option.bind_some, if_neg (show ¬ (1 : Int32) = 0 by decide), r_in, if_pos hn, if_true, fX11_grown_c18]
    · by_cases hn9 : n ≤ 99
      · have hN := (nn_lek (k := 99) hn (by decide)).mp hn9
        have en := nn_of hn
        generalize n.toNatClampNeg = N at en hN
        subst en
        generalize x.toNatClampNeg = b at ex hT5 htx
        subst ex
        have hb8 := (thc_5 hT5).1
        obtain ⟨o, t, ht, EC, ER⟩ := IA_env h hk
        have hf := c_find m (Int32.ofNat b)
        rw [if_pos hx, nn_tn (by omega)] at hf
        have hkd : mm_kd (34 + b) = (9, 6) := kd_p hb8
        have q2 : m.1 (34 + b) 3 = thc m 34 b 2 := (thc_k hT5 (show 2 < 5 by decide)).symm
        by_cases hl : thc m 34 b 2 = -1
        · obtain ⟨m2, e2, f2⟩ := r_grown ER (b := b) (N := N) (by rw [hs.1]; exact hT5) hN (by omega)
          refine ⟨thc m 34 b 0, m, m2, ?_, ?_, Inv_B f2 hi⟩
          · simp only [fX10_grown, hf, Option.bind_some, if_pos hkd, if_neg hn, if_pos hn9, q2, if_pos hl]
            rw [thc_k hT5 (show 0 < 5 by decide)]
          · refine e2.trans ?_
            rw [nxTs_n N _ _ (by rw [hs.1]; exact fun z => z.2 hl), hs.1]
        · have hly : lyT (thc m 34) b := ⟨hT5, hl⟩
          obtain ⟨m6, e6, g6, f6, bs6, bq6⟩ := c_startFrom EC hly
          have hy : ¬ m6.1 14 5 ≤ 0 := by rw [f6.1 14 5 rfl]; exact EC.2.2.2.1
          have hh6 : HoldC m6 o := HoldC_fr (W := W583) rfl (fun h k hh => by simp only [W583, beq_eq_false_iff_ne]; omega) (fun h hh => by simp only [W583, beq_eq_false_iff_ne]; omega) f6 EC.2.2.2.2.1
          obtain ⟨m7, e7, g7, f7⟩ := c_grow (N := N) (by omega) hh6 hy bs6 bq6 g6 (show t < 10000 by omega)
          have fc : fr WG m m7 := fr_trans (fr_mono W583_G f6) f7
          have fcQ : fr WQ m m7 := fr_mono WG_Q fc
          have hi7 : Inv m7 := Inv_q fcQ hi
          have h7 : InvA m7 W H P ls := InvA_q fcQ h
          have w7 : ∀ a k, 606 ≤ a → m7.1 a k = m.1 a k := fun a k ha => fc.1 a k (WG_hi ha)
          have T7 : thr m7 623 0 = thc m 34 := (thr_now (fun k _ => w7 623 k (by decide))).trans hs.1
          have E7 : EnvR m7 W H o t := EnvR_fr (W := WG) fc (WG_hi (by decide)) (fun a k z => WG_hi (by omega)) (fun k => WG_hi (by decide)) (fun k => WG_hi (by decide)) (by rw [T7, ← hs.1]; exact ER.2.2.2.2.2.1) ((w7 623 49 (by decide)).trans ER.2.2.2.2.2.2.2.1) ER.2.2.2.2.2.2.2.2 ER
          obtain ⟨m8, e8, f8⟩ := r_grown E7 (b := b) (N := N) (by rw [T7]; exact hT5) hN (by omega)
          have hD : m7.1 621 (rowI (m.1 14 3) (thc m 34) b) = m.1 15 (rowI (m.1 14 3) (thc m 34) b) := by
            rw [w7 621 _ (by decide)]
            exact (h.1.2.2.2.1 _ (rowI_lt EC hly)).symm
          refine ⟨m7.1 583 0, m7, m8, ?_, ?_, Inv_B f8 hi7⟩
          · simp only [fX10_grown, hf, Option.bind_some, if_pos hkd, if_neg hn, if_pos hn9, q2, if_neg hl]
            refine bs e6 ?_
            refine bs e7 ?_
            rfl
          · refine e8.trans ?_
            rw [T7, (nxTs_b N _ _ hly).1, w7 620 0 (by decide), w7 620 2 (by decide), w7 620 3 (by decide), hs.2.2.1, hs.2.2.2.2.1, hs.2.2.2.2.2.1, hD, g7.1, f6.1 14 5 rfl, f6.1 14 6 rfl]
      · refine EQ_0 (v := -1) hi ?_ ?_
        · simp only [fX10_grown, c_find, if_pos hx, Option.bind_some, if_neg hn, if_neg hn9, fX10_grown_c23, if_pos (show mm_kd (34 + x.toNatClampNeg) = (9, 6) from kd_p (thc_5 hT5).1)]
        · simp only [fX11_grown, r_isThere, if_pos hxr, Option.bind_some, if_neg (show ¬ (1 : Int32) = 0 by decide), r_in, if_neg hn, if_neg hn9, if_true, fX11_grown_c18]
  · have hxr : ¬ tx (thr m 623 0) x 5 = 1 := by rw [hs.1]; exact hx
    refine EQ_0 (v := -1) hi ?_ ?_
    · simp only [fX10_grown, c_find, if_neg hx, Option.bind_some, fX10_grown_c23]
    · simp only [fX11_grown, r_isThere, if_neg hxr, Option.bind_some, if_true, fX11_grown_c18]
end GRO
