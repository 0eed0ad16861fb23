/-! MONTHS; UNDONE; IMAGES -/
section ACTS
variable {m m1 : mm_MM} {W H : Nat} {P P1 : List Vw} {ls : Nat → List Cla} {V V1 : Vw}
/-- with other damps behind the rows -/
theorem nxT_D {o : Option (List Cla)} {y f : Int32} {D D' : Nat → Int32} {T : TT} {t : Nat} (hL : okL W H) (hT : TB W H T) (hD : ∀ r, r < 4 → D r = D' r) : nxT o y f (Int32.ofNat W) D T t = nxT o y f (Int32.ofNat W) D' T t := by
  funext b k
  unfold nxT
  by_cases h : lyT T b
  · obtain ⟨Q, hQ, eQ, eR, hR⟩ := lyT_bd hT hL h
    have hr : rowI (Int32.ofNat W) T b < 4 := by
      have := (row_n hL hQ).2.2
      have h4 := hL.2.2.2
      unfold rowI
      rw [eR, nn_tn (Nat.lt_of_lt_of_le (Nat.lt_of_lt_of_le hR h4) (by decide))]; omega
    rw [if_pos h, if_pos h, hD _ hr]
  · rw [if_neg h, if_neg h]
theorem pmA_D {o : Option (List Cla)} {y f : Int32} {D D' : Nat → Int32} {V : Vw} {t : Nat} (hL : okL W H) (hT : TB W H V.1) (hD : ∀ r, r < 4 → D r = D' r) : pmA o y f (Int32.ofNat W) D V t = pmA o y f (Int32.ofNat W) D' V t := by
  unfold pmA
  rw [nxT_D hL hT hD]
theorem pmA_VB {o : Option (List Cla)} {y f w : Int32} {D : Nat → Int32} {V : Vw} {t : Nat} (h : VB W H V) (ht : t + 1 ≤ 999) : VB W H (pmA o y f w D V t) := ⟨nxT_TB h.1, h.2.1, t + 1, rfl, ht⟩
/-- months, kept one by one -/
def moA (o : Option (List Cla)) (y f w : Int32) (D : Nat → Int32) : Nat → Nat → Vw → List Vw → Vw × List Vw
  | 0, _, V, P => (V, P)
  | n + 1, t, V, P => moA o y f w D n (t + 1) (pmA o y f w D V t) (kp V P)
theorem moA_D {o : Option (List Cla)} {y f : Int32} {D D' : Nat → Int32} (hL : okL W H) (hD : ∀ r, r < 4 → D r = D' r) : ∀ (n t : Nat) (V : Vw) (P : List Vw), TB W H V.1 → moA o y f (Int32.ofNat W) D n t V P = moA o y f (Int32.ofNat W) D' n t V P
  | 0, _, _, _, _ => rfl
  | n + 1, t, V, P, h => by
    unfold moA
    rw [pmA_D hL h hD]
    exact moA_D hL hD n (t + 1) _ _ (nxT_TB h)
theorem moA_VB {o : Option (List Cla)} {y f w : Int32} {D : Nat → Int32} : ∀ (n t : Nat) (V : Vw) (P : List Vw), t + n ≤ 999 → VB W H V → (∀ V ∈ P, VB W H V) → VB W H (moA o y f w D n t V P).1 ∧ ∀ V' ∈ (moA o y f w D n t V P).2, VB W H V'
  | 0, _, _, _, _, hV, hP => ⟨hV, hP⟩
  | n + 1, t, V, P, ht, hV, hP => moA_VB n (t + 1) _ _ (by omega) (pmA_VB hV (by omega)) (kp_mem hP hV)
theorem moA_t {o : Option (List Cla)} {y f w : Int32} {D : Nat → Int32} : ∀ (n t : Nat) (V : Vw) (P : List Vw), V.2.2.1 = Int32.ofNat t → (moA o y f w D n t V P).1.2.2.1 = Int32.ofNat (t + n)
  | 0, _, _, _, h => h
  | n + 1, t, V, P, h => by
    have := moA_t (o := o) (y := y) (f := f) (w := w) (D := D) n (t + 1) (pmA o y f w D V t) (kp V P) rfl
    rw [show t + 1 + n = t + (n + 1) by omega] at this
    exact this
def Wmc : Nat → Nat → Bool := fun a k => Wcm a k || WP a k
theorem Wmc_1 : ∀ a k, Wmc a k = false → Wcm a k = false := by intro a k h; simp only [Wmc, Bool.or_eq_false_iff] at h; exact h.1
theorem Wmc_2 : ∀ a k, Wmc a k = false → WP a k = false := by intro a k h; simp only [Wmc, Bool.or_eq_false_iff] at h; exact h.2
theorem Wmc_c : ∀ a k, WAc a k = false → Wmc a k = false := by
  intro a k h
  cases hb : Wmc a k with
  | false => rfl
  | true =>
    have h1 : WA a k = true := by
      simp only [Wmc, Wcm, WG, Bool.or_eq_true] at hb
      simp only [WA, WQ, Bool.or_eq_true]
      rcases hb with ((hb | hb) | hb) | hb
      · simp [hb]
      · simp [hb]
      · simp [hb]
      · simp [hb]
    have h2 : a < 606 := by
      simp only [Wmc, Wcm, WG, WS, WSt, WP, Nat.ble_eq, Nat.blt_eq, Bool.and_eq_true, Bool.or_eq_true, beq_iff_eq] at hb
      omega
    rw [WAc_t h1 h2] at h; cases h
theorem EnvC_keep {t : Nat} {o : Option (List Cla)} (h : fr WP m m1) (E : EnvC m W H o t) : EnvC m1 W H o t := by
  have ht : thc m1 34 = thc m 34 := thc_congr (s := 34) (s' := 34) (fun b hb k hk => h.1 _ _ (WP_f (by omega)))
  refine EnvC_fr h (WP_f (by omega)) (fun i k hi => WP_f (by omega)) (fun i hi => WP_f (by omega)) (fun k => WP_f (by omega)) (fun k => WP_f (by omega)) (by rw [ht]; exact E.2.2.2.2.2.1) ((h.1 29 7 (WP_f (by omega))).trans E.2.2.2.2.2.2.2.1) E.2.2.2.2.2.2.2.2 E
theorem PC_Wcm (h : fr Wcm m m1) (hp : PC m P) : PC m1 P := PC_fr h (fun a k ha => Wcm_f (by omega) (WG_lo (by omega))) hp
/-- months of the class -/
theorem c_months_l {o : Option (List Cla)} {N : Nat} (hN : N < 1000) : ∀ (n i t : Nat) (m : mm_MM) (P : List Vw) (f : Nat), i + n = N → n < f → t + n < 10000 → EnvC m W H o t → cOK m 29 → PC m P → ∃ m1, fX10_months_c53 f m (Int32.ofNat N) (Int32.ofNat i) = some (Int32.ofNat (t + n), m1) ∧ cV m1 29 = (moA o (m.1 14 5) (m.1 14 6) (m.1 14 3) (m.1 15) n t (cV m 29) P).1 ∧ PC m1 (moA o (m.1 14 5) (m.1 14 6) (m.1 14 3) (m.1 15) n t (cV m 29) P).2 ∧ cOK m1 29 ∧ fr Wmc m m1 := by
  intro n
  induction n with
  | zero =>
    intro i t m P f hi hf ht E ho hp
    obtain ⟨f, rfl⟩ : ∃ g, f = g + 1 := ⟨f - 1, by omega⟩
    refine ⟨m, ?_, rfl, hp, ho, fr_refl _ _⟩
    rw [fX10_months_c53]
    dsimp only
    rw [if_neg (by rw [nn_lt (by omega) (by omega)]; omega), E.2.2.2.2.2.2.2.1]
    rfl
  | succ n ih =>
    intro i t m P f hi hf ht E ho hp
    obtain ⟨f, rfl⟩ : ∃ g, f = g + 1 := ⟨f - 1, by omega⟩
    obtain ⟨m1, e1, p1, f1⟩ := c_keep ho hp
    have ho1 : cOK m1 29 := cOK_congr (fun b hb k hk => f1.1 _ _ (WP_f (by omega))) (fun k _ _ => f1.1 _ _ (WP_f (by omega))) ho
    have hv1 : cV m1 29 = cV m 29 := cV_congr (fun b hb k hk => f1.1 _ _ (WP_f (by omega))) (fun k _ _ => f1.1 _ _ (WP_f (by omega))) (fun w hw j hj => f1.1 _ _ (WP_f (by omega)))
    obtain ⟨m2, e2, v2, o2, E2, f2⟩ := c_passMonth (EnvC_keep f1 E) ho1 (by omega)
    have c14 : ∀ k, m1.1 14 k = m.1 14 k := fun k => f1.1 14 k (WP_f (by omega))
    have c15 : m1.1 15 = m.1 15 := funext fun k => f1.1 15 k (WP_f (by omega))
    have d14 : ∀ k, m2.1 14 k = m.1 14 k := fun k => (f2.1 14 k (Wcm_f (by decide) (WG_lo (by decide)))).trans (c14 k)
    have d15 : m2.1 15 = m.1 15 := funext fun k => (f2.1 15 k (Wcm_f (by decide) (WG_lo (by decide)))).trans (congrFun c15 k)
    rw [c14, c14, c14, c15, hv1] at v2
    obtain ⟨m3, e3, v3, p3, o3, f3⟩ := ih (i + 1) (t + 1) m2 _ f (by omega) (by omega) (by omega) E2 o2 (PC_Wcm f2 p1)
    rw [d14, d14, d14, d15, v2] at v3 p3
    refine ⟨m3, ?_, v3, p3, o3, fr_trans (fr_mono Wmc_2 f1) (fr_trans (fr_mono Wmc_1 f2) f3)⟩
    rw [fX10_months_c53]
    dsimp only
    rw [if_pos (by rw [nn_lt (by omega) (by omega)]; omega), e1]
    simp only [Option.bind_some, e2, nn_s]
    rw [e3, show t + 1 + n = t + (n + 1) by omega]
/-- months of the reference -/
def Wmr : Nat → Nat → Bool := fun a k => Wrm a k || WK a k
theorem Wmr_1 : ∀ a k, Wmr a k = false → Wrm a k = false := by intro a k h; simp only [Wmr, Bool.or_eq_false_iff] at h; exact h.1
theorem Wmr_2 : ∀ a k, Wmr a k = false → WK a k = false := by intro a k h; simp only [Wmr, Bool.or_eq_false_iff] at h; exact h.2
theorem Wmr_r : ∀ a k, WAr a k = false → Wmr a k = false := by
  intro a k h
  cases hb : Wmr a k with
  | false => rfl
  | true =>
    simp only [Wmr, Wrm, WK, Bool.and_eq_true, Bool.or_eq_true, beq_iff_eq] at hb
    have h1 : WA a k = true := by
      simp only [WA, WQ, Bool.and_eq_true, Bool.or_eq_true, beq_iff_eq]
      omega
    rw [WAr_t h1 (by omega)] at h; cases h
theorem EnvR_keep {t : Nat} {o : Option (List Cla)} (h : fr WK m m1) (E : EnvR m W H o t) : EnvR m1 W H o t := by
  have ht : thr m1 623 0 = thr m 623 0 := thr_congr (fun k hk => h.1 _ _ rfl)
  exact EnvR_fr h rfl (fun a k ha => by rcases ha with rfl | rfl | rfl | rfl | rfl | rfl <;> rfl) (fun k => rfl) (fun k => rfl) (by rw [ht]; exact E.2.2.2.2.2.1) ((h.1 623 49 rfl).trans E.2.2.2.2.2.2.2.1) E.2.2.2.2.2.2.2.2 E
theorem PR_Wrm (h : fr Wrm m m1) (hp : PR m P) : PR m1 P := PR_fr h (fun k => rfl) rfl hp
theorem r_months_l {o : Option (List Cla)} {N : Nat} (hN : N < 1000) : ∀ (n i t : Nat) (m : mm_MM) (P : List Vw) (f : Nat), i + n = N → n < f → t + n < 10000 → EnvR m W H o t → rOK m 623 0 → PR m P → ∃ m1, fX11_months_c49 f m (Int32.ofNat N) (Int32.ofNat i) = some (Int32.ofNat (t + n), m1) ∧ rV m1 623 0 = (moA o (m.1 620 2) (m.1 620 3) (m.1 620 0) (m.1 621) n t (rV m 623 0) P).1 ∧ PR m1 (moA o (m.1 620 2) (m.1 620 3) (m.1 620 0) (m.1 621) n t (rV m 623 0) P).2 ∧ rOK m1 623 0 ∧ fr Wmr m m1 := by
  intro n
  induction n with
  | zero =>
    intro i t m P f hi hf ht E ho hp
    obtain ⟨f, rfl⟩ : ∃ g, f = g + 1 := ⟨f - 1, by omega⟩
    refine ⟨m, ?_, rfl, hp, ho, fr_refl _ _⟩
    rw [fX11_months_c49]
    dsimp only
    rw [if_neg (by rw [nn_lt (by omega) (by omega)]; omega), E.2.2.2.2.2.2.2.1]
    rfl
  | succ n ih =>
    intro i t m P f hi hf ht E ho hp
    obtain ⟨f, rfl⟩ : ∃ g, f = g + 1 := ⟨f - 1, by omega⟩
    obtain ⟨m1, e1, p1, f1⟩ := r_keep ho hp
    have ho1 : rOK m1 623 0 := rOK_congr (f1.1 _ _ rfl) ho
    have hv1 : rV m1 623 0 = rV m 623 0 := rV_congr (fun k _ => f1.1 _ _ rfl) ho
    obtain ⟨m2, e2, v2, o2, E2, f2⟩ := r_passMonth (EnvR_keep f1 E) ho1 (by omega)
    have c14 : ∀ k, m1.1 620 k = m.1 620 k := fun k => f1.1 620 k rfl
    have c15 : m1.1 621 = m.1 621 := funext fun k => f1.1 621 k rfl
    have d14 : ∀ k, m2.1 620 k = m.1 620 k := fun k => (f2.1 620 k rfl).trans (c14 k)
    have d15 : m2.1 621 = m.1 621 := funext fun k => (f2.1 621 k rfl).trans (congrFun c15 k)
    rw [c14, c14, c14, c15, hv1] at v2
    obtain ⟨m3, e3, v3, p3, o3, f3⟩ := ih (i + 1) (t + 1) m2 _ f (by omega) (by omega) (by omega) E2 o2 (PR_Wrm f2 p1)
    rw [d14, d14, d14, d15, v2] at v3 p3
    refine ⟨m3, ?_, v3, p3, o3, fr_trans (fr_mono Wmr_2 f1) (fr_trans (fr_mono Wmr_1 f2) f3)⟩
    rw [fX11_months_c49]
    dsimp only
    rw [if_pos (by rw [nn_lt (by omega) (by omega)]; omega), e1]
    simp only [Option.bind_some, e2, nn_s]
    rw [e3, show t + 1 + n = t + (n + 1) by omega]
/-- one law that holds, for both, behind what the class did -/
theorem EnvR_c {t : Nat} {o : Option (List Cla)} (hc : fr WAc m (m1.1, m.2)) (E : EnvR m W H o t) : EnvR m1 W H o t := by
  have hf : fr WAc m (m1.1, m.2) := hc
  have ht : thr m1 623 0 = thr m 623 0 := thr_c hc
  have E' : EnvR (m1.1, m.2) W H o t := EnvR_fr hf (WAc_hi (by decide)) (fun a k ha => WAc_hi (by omega)) (fun k => WAc_hi (by decide)) (fun k => WAc_hi (by decide)) (by show TB W H (thr m1 623 0); rw [ht]; exact E.2.2.2.2.2.1) ((hi_c hc (by decide)).trans E.2.2.2.2.2.2.2.1) E.2.2.2.2.2.2.2.2 E
  obtain ⟨a1, a2, a3, a4, a5, a6⟩ := E'
  refine ⟨a1, a2, a3, a4, ?_, a6⟩
  rcases a5 with ⟨b1, b2⟩ | ⟨h, cs, b1, b2, b3, b4, b5⟩
  · exact Or.inl ⟨b1, b2⟩
  · exact Or.inr ⟨h, cs, b1, b2, b3, LawR_fr (m := (m1.1, m.2)) (fun _ _ _ => rfl) b4, b5⟩
theorem r_areMonths (m : mm_MM) (x : Int32) : fX11_areMonths m x = some (if x < 1 then 0 else if x ≤ 60 then (if m.1 623 49 + x ≤ 999 then 1 else 0) else 0, m) := by
  unfold fX11_areMonths fX11_areMonths_c29 fX11_areMonths_c30
  rw [r_in]
  by_cases h1 : x < 1
  · simp [h1]
  · by_cases h2 : x ≤ 60
    · by_cases h3 : m.1 623 49 + x ≤ 999 <;> simp [h1, h2, h3]
    · simp [h1, h2]
theorem month_n {x : Int32} {t : Nat} (ht : t ≤ 999) (h1 : ¬ x < 1) (h2 : x ≤ 60) (h3 : Int32.ofNat t + x ≤ 999) : ∃ n, x = Int32.ofNat n ∧ n ≤ 60 ∧ t + n ≤ 999 := by
  have h0 : ¬ x < 0 := by grind
  have e := nn_of h0
  have a2 : x.toNatClampNeg ≤ 60 := (nn_lek (k := 60) h0 (by decide)).mp h2
  generalize x.toNatClampNeg = n at e a2
  subst e
  rw [← Int32.ofNat_add] at h3
  exact ⟨n, rfl, a2, (nn_le (k := 999) (by omega) (by decide)).mp h3⟩
theorem q_months (hi : Inv m) (x : Int32) : EQ m (fun m => fX10_months m x) (fun m => fX11_months m x) := by
  obtain ⟨W, H, P, ls, h⟩ := hi
  by_cases hk : m.1 0 14 = 0
  · refine EQ_refuse (v := -1) h 0 ?_ ?_
    · simp only [fX10_months, if_pos hk, (c_ref m).1, Option.bind_some, mR]
    · have hs := seeR h 0
      simp only [fX11_months, fX11_months_c39, hs.2.1, if_pos hk, (r_ref _).1, Option.bind_some, if_neg (show ¬ (1 : Int32) = 0 by decide)]
  · have hk1 : m.1 0 14 = 1 := h.1.2.1.resolve_left hk
    by_cases hn : x < 1 ∨ ¬ x ≤ 60
    · have hin : (if x < 1 then (0 : Int32) else if x ≤ 60 then 1 else 0) = 0 := by
        by_cases h1 : x < 1
        · rw [if_pos h1]
        · rw [if_neg h1, if_neg (hn.resolve_left h1)]
      refine EQ_refuse (v := -1) h 1 ?_ ?_
      · by_cases h1 : x < 1
        · simp only [fX10_months, fX10_months_c24, if_neg hk, if_pos h1, (c_ref m).2.1, Option.bind_some, mR]
        · simp only [fX10_months, fX10_months_c24, if_neg hk, if_neg h1, if_neg (hn.resolve_left h1), (c_ref m).2.1, Option.bind_some, mR]
      · have hs := seeR h 1
        simp only [fX11_months, fX11_months_c39, hs.2.1, if_neg hk, r_in, hin, if_true, (r_ref _).2.1, Option.bind_some, if_neg (show ¬ (1 : Int32) = 0 by decide)]
    · have h1 : ¬ x < 1 := fun z => hn (Or.inl z)
      have h2 : x ≤ 60 := Classical.not_not.mp fun z => hn (Or.inr z)
      by_cases hc : m.1 29 7 + x ≤ 999
      · obtain ⟨o, t, ht, EC, ER⟩ := IA_env h hk1
        have h7 := EC.2.2.2.2.2.2.2.1
        obtain ⟨n, rfl, hn60, htn⟩ := month_n ht h1 h2 (h7 ▸ hc)
        obtain ⟨s1, s2, s3, s4, s5, s6, s7, s8⟩ := h.2.1
        obtain ⟨mc, ec, vc, pc, oc, fc⟩ := c_months_l (N := n) (by omega) n 0 t m P fu (by omega) (by unfold fu; omega) (by omega) EC s2 s5
        have fcA : fr WAc m (mc.1, m.2) := fr_2 (fr_mono Wmc_c fc)
        have hs := see h fcA
        have vr0 : rV mc 623 0 = cV m 29 := (rV_c fcA s3).trans s1.symm
        obtain ⟨mr, er, vr, pr, orr, frr⟩ := r_months_l (N := n) (by omega) n 0 t mc P fu (by omega) (by unfold fu; omega) (by omega) (EnvR_c fcA ER) (rOK_c fcA s3) (PR_c fcA s6)
        have hL := (h.1.2.2.2.2.1 hk1).1
        have d3 := (h.1.2.2.2.2.1 hk1).2.1
        have eD : moA o (mc.1 620 2) (mc.1 620 3) (mc.1 620 0) (mc.1 621) n t (rV mc 623 0) P = moA o (m.1 14 5) (m.1 14 6) (m.1 14 3) (m.1 15) n t (cV m 29) P := by
          rw [vr0, hs.2.2.2.2.1, hs.2.2.2.2.2.1, hs.2.2.1, d3]
          exact moA_D hL (fun r hr => (hi_c fcA (by decide)).trans (h.1.2.2.2.1 r hr).symm) n t _ _ s4.1
        rw [eD] at vr pr
        have hB := moA_VB (o := o) (y := m.1 14 5) (f := m.1 14 6) (w := m.1 14 3) (D := m.1 15) n t (cV m 29) P htn s4 s7
        refine EQ_act (v := Int32.ofNat (t + n)) h hk1 ⟨fcA, fun k => fc.1 _ _ ?_, vc, oc, pc⟩ ⟨fr_2 (fr_mono Wmr_r frr), fun k => frr.1 _ _ rfl, vr, orr, pr⟩ hB.1 hB.2 ?_ ?_
        · simp only [Wmc, Bool.or_eq_false_iff]
          exact ⟨Wcm_f (by decide) (by simp [WG, WS]), WP_f (by omega)⟩
        · simp only [fX10_months, if_neg hk, if_neg h1, if_pos h2, if_pos hc]
          exact ec
        · simp only [fX11_months, fX11_months_c39, hs.2.1, if_neg hk, r_in, if_neg h1, if_pos h2, Option.bind_some, if_neg (show ¬ (1 : Int32) = 0 by decide), r_areMonths, hs.2.2.2.2.2.2.2, if_pos hc, r_ref0, if_true]
          exact er
      · refine EQ_refuse (v := -1) h 4 ?_ ?_
        · simp only [fX10_months, if_neg hk, if_neg h1, if_pos h2, if_neg hc, (c_ref m).2.2.2.2, Option.bind_some, mR]
        · have hs := seeR h 4
          simp only [fX11_months, fX11_months_c39, hs.2.1, if_neg hk, r_in, if_neg h1, if_pos h2, Option.bind_some, if_neg (show ¬ (1 : Int32) = 0 by decide), r_areMonths, hs.2.2.2.2.2.2.2, if_neg hc, if_true, (r_ref _).2.2.2.2]
end ACTS
