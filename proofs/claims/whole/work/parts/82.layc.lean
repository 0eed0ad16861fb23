/-! LAYING, the class: all things -/
section LYM
variable {m m1 : mm_MM} {W H : Nat} {P : List Vw} {ls : Nat → List Cla}
theorem WG_58 {a k : Nat} (h : 584 ≤ a ∧ a ≤ 588) : WG a k = false := by
  cases hb : WG a k with
  | false => rfl
  | true =>
    simp only [WG, WS, Bool.and_eq_true, Bool.or_eq_true, beq_iff_eq] at hb
    omega
theorem thc_Z (m : mm_MM) (s : Nat) : TZ (thc m s) := fun b k h => thc_n h
theorem PlC_G {R : Nat → Nat} (hf : fr WG m m1) (h : PlC m R) : PlC m1 R := ⟨(hf.1 _ _ (WG_58 (by omega))).trans h.1, fun r hr => (hf.1 _ _ (WG_58 (by omega))).trans (h.2.1 r hr), fun r hr => (hf.1 _ _ (WG_58 (by omega))).trans (h.2.2 r hr)⟩
/-- the marks before place b -/
def mkC (m : mm_MM) (T : TT) (V : Nat → Nat → Nat) (R : Nat → Nat) (b : Nat) : Prop := ∀ j, j < unR R 4 → m.2 585 j = Int64.ofInt (plD (frP T) (cLP T) cPP (cRP V) (dgR R) (unR R) b j)
theorem pD_b {T : TT} (hT : TB W H T) (hz : TZ T) {V : Nat → Nat → Nat} (hV : ∀ b r, V b r ≤ 200) (R : Nat → Nat) {b : Nat} (hb : b ≤ 8) (j : Nat) : -2000000000000000 ≤ plD (frP T) (cLP T) cPP (cRP V) (dgR R) (unR R) b j ∧ plD (frP T) (cLP T) cPP (cRP V) (dgR R) (unR R) b j ≤ 2000000000000000 := by
  have := plD_b (frP T) (cLP T) cPP (cRP V) (cOk_P hT hz hV) (dgR R) (unR R) b j hb
  omega
theorem c_gains_l {m0 : mm_MM} {o : Option (List Cla)} {t N : Nat} (E : EnvC m0 W H o t) (ht : t < 5000) (hN : N ≤ 24) {V : Nat → Nat → Nat} (hVd : V = VN o (m0.1 14 5) (m0.1 14 6) (m0.1 15) N (thc m0 34) t) {R : Nat → Nat} (hR : ∀ r, R r ≤ 6) (hRH : ∀ r, H ≤ r → R r = 0) {b : Nat} (hb : b < 8) (hfr : frP (thc m0 34) b = true) {kr : mm_MM → Int32 → Int32 → Int32 → Option (Int32 × mm_MM)} {x2 : Int32} : ∀ (n r g : Nat) (m : mm_MM), r + n = H → n < g → fr WPn m0 m → PlC m R → mkC m (thc m0 34) V R b → (∀ i, i < r → m.1 588 i = Int32.ofNat (V b i)) →
    ∃ m', fX10_laying_c129 kr g m (Int32.ofNat N) x2 (Int32.ofNat b) (34 + b) (Int32.ofNat r) = kr m' (Int32.ofNat N) x2 (Int32.ofNat (b + 1)) ∧ fr WPn m0 m' ∧ PlC m' R ∧ mkC m' (thc m0 34) V R (b + 1) := by
  have hE := E
  obtain ⟨⟨l1, l2, l3, l4⟩, e3, e4, hy, ho, hTB, hD, e7, -⟩ := hE
  have hz := thc_Z m0 34
  have h5 : thc m0 34 b 5 = 1 := (of_decide_eq_true hfr).1
  have hVb : ∀ b r, V b r ≤ 200 := fun b r => by rw [hVd]; exact (VN_b hTB hz t b r).2
  have hvb := vI_b hTB hz b
  have hN0 := un_b hR 4 (by omega)
  have h1N := unR_pos R 4
  have hTb := hTB b h5
  intro n
  induction n with
  | zero =>
    intro r g m hr hg hf hP hM h8
    obtain ⟨g, rfl⟩ : ∃ h, g = h + 1 := ⟨g - 1, by omega⟩
    obtain rfl : r = H := by omega
    have lo : ∀ a k, a < 583 → m.1 a k = m0.1 a k := fun a k z => hf.1 a k (WPn_f (Or.inl z))
    have eb : m.1 (34 + b) 1 = Int32.ofNat (vI0 (thc m0 34) b) := by
      rw [lo _ _ (by omega), ← thc_k h5 (show 0 < 5 by decide)]
      exact hvb.1
    obtain ⟨m', e, oo, h'⟩ := c_choose_l (R := R) (V := V b) hR hb hN0 hvb.2 (Dv := plD (frP (thc m0 34)) (cLP (thc m0 34)) cPP (cRP V) (dgR R) (unR R) b) (Dn := plD (frP (thc m0 34)) (cLP (thc m0 34)) cPP (cRP V) (dgR R) (unR R) (b + 1)) (hVb b) (pD_b hTB hz hVb R (by omega)) (fun l => by rw [plD, if_pos hfr]; rfl) (unR R 4) fu m (by unfold fu; omega) (Nat.le_refl _) hP (fun i hi l hp => by
      refine h8 i ?_
      refine Decidable.byContradiction (fun z => ?_)
      have : R i = 0 := hRH i (by omega)
      unfold dgR at hp
      rw [this] at hp
      have := Nat.mod_lt (l / unR R i) (show 0 < 0 + 1 by decide)
      omega) hM (fun j j1 j2 => by omega)
    refine ⟨m', ?_, fr_trans hf (WPn_o oo), PlC_o oo hP, h'⟩
    rw [fX10_laying_c129]
    dsimp only
    rw [lo 14 4 (by decide), e4, if_neg (fun z => Nat.lt_irrefl _ ((nn_lt (by omega) (by omega)).mp z))]
    unfold fX4_choose
    rw [c_digit m hb]
    simp only [Option.bind_some]
    rw [hP.1, eb]
    refine bs e ?_
    simp only [fX10_laying_c195, nn_s]
  | succ n ih =>
    intro r g m hr hg hf hP hM h8
    obtain ⟨g, rfl⟩ : ∃ h, g = h + 1 := ⟨g - 1, by omega⟩
    have hr4 : r < 4 := by omega
    have lo : ∀ a k, a < 583 → m.1 a k = m0.1 a k := fun a k z => hf.1 a k (WPn_f (Or.inl z))
    have q1 : m.1 (34 + b) 1 = thc m0 34 b 0 := (lo _ _ (by omega)).trans (thc_k h5 (show 0 < 5 by decide)).symm
    have q2 : m.1 (34 + b) 2 = thc m0 34 b 1 := (lo _ _ (by omega)).trans (thc_k h5 (show 1 < 5 by decide)).symm
    have q4 : m.1 (34 + b) 4 = thc m0 34 b 3 := (lo _ _ (by omega)).trans (thc_k h5 (show 3 < 5 by decide)).symm
    obtain ⟨m2, e2, f2⟩ := c_alone2 (m := m) (o := o) (u := 34 + b) (N := N) (t := t) (by omega) (HoldC_Pn hf ho) (by rw [lo 14 5 (by decide)]; exact hy) (hD r hr4) (by rw [q1]; exact hTb.1) (by rw [q2]; exact hTb.2.1) (by rw [q4]; exact hTb.2.2.2.1) (by omega) (by omega)
    rw [q1, q2, q4, lo 14 5 (by decide), lo 14 6 (by decide)] at e2
    have hvi := VN_b (o := o) (y := m0.1 14 5) (f := m0.1 14 6) (D := m0.1 15) (N := N) hTB hz t b r
    have eV : (it o (m0.1 14 5) (m0.1 14 6) (thc m0 34 b 1) (m0.1 15 r) 0 N (thc m0 34 b 0, thc m0 34 b 3, t)).1 = Int32.ofNat (V b r) := by rw [hVd]; exact hvi.1
    rw [eV] at e2
    have f3 : fr WPn m0 (wI m2 588 r (Int32.ofNat (V b r))) := fr_wI (fr_trans hf (fr_mono WPn_G f2)) (by simp [WPn])
    obtain ⟨m', e, ff, hP', hM'⟩ := ih (r + 1) g (wI m2 588 r (Int32.ofNat (V b r))) (by omega) (by omega) f3 (by
      have := PlC_G f2 hP
      exact ⟨(wI_ne (by decide)).trans this.1, fun i hi => (wI_ne (by decide)).trans (this.2.1 i hi), fun i hi => (wI_ne (by decide)).trans (this.2.2 i hi)⟩) (fun j hj => by
      have := hM j hj
      rw [← this]
      exact f2.2 585 j (WG_58 (by omega))) (fun i hi => by
      by_cases c : i = r
      · subst c; rw [wI_eq]
      · rw [wI_nk c, f2.1 588 i (WG_58 (by omega))]; exact h8 i (by omega))
    refine ⟨m', ?_, ff, hP', hM'⟩
    rw [fX10_laying_c129]
    dsimp only
    rw [lo 14 4 (by decide), e4, if_pos ((nn_lt (by omega) (by omega)).mpr (by omega)), c_pick_n m 15 (n := 4) rfl (by decide) hr4, lo 15 r (by decide)]
    simp only [Option.bind_some]
    rw [lo 29 7 (by decide), e7, e2]
    simp only [Option.bind_some, fX4_setGain, c_place_n m2 588 _ (n := 4) rfl (by decide) hr4, nn_s]
    exact e
theorem c_layM_l {m0 : mm_MM} {o : Option (List Cla)} {t N : Nat} (E : EnvC m0 W H o t) (ht : t < 5000) (hN : N ≤ 24) {V : Nat → Nat → Nat} (hVd : V = VN o (m0.1 14 5) (m0.1 14 6) (m0.1 15) N (thc m0 34) t) {R : Nat → Nat} (hR : ∀ r, R r ≤ 6) (hRH : ∀ r, H ≤ r → R r = 0) {s rr : Nat} (hs : s ≤ 2000) (hrr : rr < 100000000) (hB : plB (frP (thc m0 34)) (cLP (thc m0 34)) cPP (cRP V) 8 R = 100000000 * (s : Int) - rr) {x2 : Int32} : ∀ (n b g : Nat) (m : mm_MM), b + n = 8 → n < g → fr WPn m0 m → PlC m R → mkC m (thc m0 34) V R b →
    ∃ m', fX10_laying_c85 g m (Int32.ofNat N) x2 (Int32.ofNat b) = some (if x2 = 0 then Int32.ofNat s else Int32.ofNat rr, m') ∧ fr WPn m0 m' := by
  have hTB := E.2.2.2.2.2.1
  have hz := thc_Z m0 34
  have hVb : ∀ b r, V b r ≤ 200 := fun b r => by rw [hVd]; exact (VN_b hTB hz t b r).2
  have hN0 := un_b hR 4 (by omega)
  intro n
  induction n with
  | zero =>
    intro b g m hb hg hf hP hM
    obtain ⟨g, rfl⟩ : ∃ h, g = h + 1 := ⟨g - 1, by omega⟩
    obtain rfl : b = 8 := by omega
    obtain ⟨b1, b2⟩ := c_best (m := m) hN0 hP.1 (pD_b hTB hz hVb R (Nat.le_refl 8)) hM hrr hs ((pl_mx (cOk_P hTB hz hVb) (dg_law R)).trans hB)
    refine ⟨m, ?_, hf⟩
    rw [fX10_laying_c85]
    dsimp only
    rw [if_neg (show ¬ Int32.ofNat 8 < 8 by decide), b1, b2]
    by_cases c : x2 = 0
    · rw [if_pos c, if_pos c]; rfl
    · rw [if_neg c, if_neg c]; rfl
  | succ n ih =>
    intro b g m hb hg hf hP hM
    obtain ⟨g, rfl⟩ : ∃ h, g = h + 1 := ⟨g - 1, by omega⟩
    have hb8 : b < 8 := by omega
    have hT : thc m 34 = thc m0 34 := thc_congr (fun b hb k hk => hf.1 _ _ (WPn_f (Or.inl (by omega))))
    have pass : frP (thc m0 34) b = false → ∃ m', fX10_laying_c115 (fX10_laying_c85 g) m (Int32.ofNat N) x2 (Int32.ofNat b) = some (if x2 = 0 then Int32.ofNat s else Int32.ofNat rr, m') ∧ fr WPn m0 m' := fun hp => by
      obtain ⟨m2, e2, o2, h2⟩ := c_pass_l hb8 hN0 (Dv := plD (frP (thc m0 34)) (cLP (thc m0 34)) cPP (cRP V) (dgR R) (unR R) b) (unR R 4) 0 fu m (by omega) (by unfold fu; omega) hP.1 (fun j _ h => hM j h) (fun j h => by omega)
      obtain ⟨m3, e3, f3⟩ := ih (b + 1) g m2 (by omega) (by omega) (fr_trans hf (WPn_o o2)) (PlC_o o2 hP) (fun j hj => by
        rw [h2 j hj, plD, hp, if_neg Bool.false_ne_true]
        rfl)
      refine ⟨m3, ?_, f3⟩
      unfold fX10_laying_c115
      have e2' : fX4_pass m (Int32.ofNat b) = some m2 := by
        unfold fX4_pass
        exact bs (c_digit m hb8) e2
      refine bs e2' ?_
      simp only [fX10_laying_c195, nn_s]
      exact e3
    rw [fX10_laying_c85]
    dsimp only
    rw [if_pos (nn_ll 8 hb8 (by decide)), c_find_n m hb8, hT]
    simp only [Option.bind_some]
    by_cases h5 : thc m0 34 b 5 = 1
    · have hkd : mm_kd (34 + b) = (9, 6) := kd_p hb8
      rw [if_pos h5]
      simp only [if_pos hkd]
      rw [← thc_k (m := m) (s := 34) (by rw [hT]; exact h5) (show 2 < 5 by decide), hT]
      by_cases c : thc m0 34 b 2 = -1
      · rw [if_pos c]
        have hfr : frP (thc m0 34) b = true := decide_eq_true ⟨h5, c⟩
        obtain ⟨m2, e2, f2, p2, k2⟩ := c_gains_l E ht hN hVd hR hRH hb8 hfr (kr := fX10_laying_c85 g) (x2 := x2) H 0 fu m (by omega) (by have := E.1.2.2.2; unfold fu; omega) hf hP hM (fun i hi => by omega)
        obtain ⟨m3, e3, f3⟩ := ih (b + 1) g m2 (by omega) (by omega) f2 p2 k2
        exact ⟨m3, Eq.trans e2 e3, f3⟩
      · rw [if_neg c]
        exact pass (decide_eq_false (fun z => c z.2))
    · rw [if_neg h5]
      exact pass (decide_eq_false (fun z => h5 z.1))
theorem c_laying {o : Option (List Cla)} {t N : Nat} (E : EnvC m W H o t) (hk : ¬ m.1 0 14 = 0) (ht : t < 5000) (h1 : 1 ≤ N) (hN : N ≤ 24) {s rr : Nat} (hs : s ≤ 2000) (hrr : rr < 100000000) (hB : plB (frP (thc m 34)) (cLP (thc m 34)) cPP (cRP (VN o (m.1 14 5) (m.1 14 6) (m.1 15) N (thc m 34) t)) 8 (rmP W H (thc m 34)) = 100000000 * (s : Int) - rr) {x2 : Int32} (hx : ¬ x2 < 0 ∧ x2 ≤ 1) : ∃ m', fX10_laying m (Int32.ofNat N) x2 = some (if x2 = 0 then Int32.ofNat s else Int32.ofNat rr, m') ∧ fr WPn m m' := by
  obtain ⟨m1, e1, h1', f1, l1⟩ := c_plBegin_l 4 0 fu m rfl (by decide) (fun r hr => by omega)
  have n1 : ∀ a k, ¬ a = 586 → m1.1 a k = m.1 a k := f1
  have hT1 : thc m1 34 = thc m 34 := thc_congr (fun b hb k hk => n1 _ _ (by omega))
  obtain ⟨m2, e2, p2, f2, l2, k2⟩ := c_rooms_l (x1 := Int32.ofNat N) (x2 := x2) E.1 H 0 fu m1 (by omega) (by have := E.1.2.2.2; unfold fu; omega) ((n1 _ _ (by decide)).trans E.2.1) ((n1 _ _ (by decide)).trans E.2.2.1) (fun i hi => by rw [if_neg (by omega)]; exact h1' i hi)
  rw [hT1] at p2
  have f02 : fr WPn m m2 := by
    refine ⟨fun a k z => ?_, fun a k z => ?_⟩
    · have z1 : ¬ (a = 584 ∧ k = 4) := fun e => by obtain ⟨rfl, rfl⟩ := e; simp [WPn] at z
      have z2 : ¬ a = 586 := fun e => by subst e; simp [WPn] at z
      have z3 : ¬ a = 587 := fun e => by subst e; simp [WPn] at z
      exact (f2 a k z1 z2 z3).trans (n1 a k z2)
    · have z1 : ¬ a = 585 := fun e => by subst e; simp [WPn] at z
      exact (l2 a k z1).trans (by rw [l1])
  have hN0 := un_b (rmP_6 (H := H) E.1.2.1 (thc m 34)) 4 (by omega)
  obtain ⟨m3, e3, f3⟩ := c_layM_l E ht hN (V := VN o (m.1 14 5) (m.1 14 6) (m.1 15) N (thc m 34) t) rfl (R := rmP W H (thc m 34)) (rmP_6 E.1.2.1 _) (fun r hr => by unfold rmP; rw [if_neg (by omega)]) hs hrr hB (x2 := x2) 8 0 fu m2 rfl (by decide) f02 p2 (fun j hj => by rw [k2 j (by omega)]; rfl)
  refine ⟨m3, ?_, f3⟩
  unfold fX10_laying
  have g1 : ¬ Int32.ofNat N < 1 := by rw [show (1 : Int32) = Int32.ofNat 1 from rfl, nn_lt (by omega) (by decide)]; omega
  have g2 : Int32.ofNat N ≤ 24 := (nn_le (k := 24) (by omega) (by decide)).mpr hN
  rw [if_neg hk, if_neg g1, if_pos g2, if_neg hx.1, if_pos hx.2]
  refine bs (show fX4_begin m = some m1 from e1) ?_
  exact Eq.trans e2 e3
end LYM
