/-! YEARS, the equality -/
/-- one step of a chain, without the kernel's looking into what is behind -/
theorem bs {α β : Type} {x : Option α} {a : α} {f : α → Option β} {r : Option β} (h : x = some a) (h2 : f a = r) : x.bind f = r := by rw [h]; exact h2
section YE
variable {m m1 : mm_MM} {W H : Nat} {P P1 : List Vw} {ls : Nat → List Cla} {V V1 : Vw}
/-- ahead of a month: the mole, the thief -/
def drT (R : Int64 → Int64) (D : Int64 → Int32 → Int32) (mo pl : Int32) (T : TT) (x : Int64) : TT × Int64 := thiefT R D (moleT R D mo pl T x).1 (moleT R D mo pl T x).2
theorem drT_TB {R : Int64 → Int64} {D : Int64 → Int32 → Int32} {mo pl : Int32} {T : TT} {x : Int64} (h : TB W H T) : TB W H (drT R D mo pl T x).1 := thiefT_TB (moleT_TB h)
def yeA (R : Int64 → Int64) (Dv : Int64 → Int32 → Int32) (mo pl : Int32) (o : Option (List Cla)) (y f w : Int32) (D : Nat → Int32) : Nat → Nat → Vw → List Vw → Int64 → Vw × List Vw
  | 0, _, V, P, _ => (V, P)
  | n + 1, t, V, P, x => yeA R Dv mo pl o y f w D n (t + 1) (pmA o y f w D ((drT R Dv mo pl V.1 x).1, V.2) t) (kp V P) (drT R Dv mo pl V.1 x).2
theorem yeA_s {R : Int64 → Int64} {Dv : Int64 → Int32 → Int32} {mo pl : Int32} {o : Option (List Cla)} {y f w : Int32} {D : Nat → Int32} {n t : Nat} {V : Vw} {P : List Vw} {x : Int64} : yeA R Dv mo pl o y f w D (n + 1) t V P x = yeA R Dv mo pl o y f w D n (t + 1) (pmA o y f w D ((drT R Dv mo pl V.1 x).1, V.2) t) (kp V P) (drT R Dv mo pl V.1 x).2 := rfl
theorem yeA_D {R : Int64 → Int64} {Dv : Int64 → Int32 → Int32} {mo pl : Int32} {o : Option (List Cla)} {y f : Int32} {D D' : Nat → Int32} (hL : okL W H) (hD : ∀ r, r < 4 → D r = D' r) : ∀ (n t : Nat) (V : Vw) (P : List Vw) (x : Int64), TB W H V.1 → yeA R Dv mo pl o y f (Int32.ofNat W) D n t V P x = yeA R Dv mo pl o y f (Int32.ofNat W) D' n t V P x
  | 0, _, _, _, _, _ => rfl
  | n + 1, t, V, P, x, h => by
    unfold yeA
    rw [pmA_D (V := ((drT R Dv mo pl V.1 x).1, V.2)) hL (drT_TB h) hD]
    exact yeA_D hL hD n (t + 1) _ _ _ (nxT_TB (drT_TB h))
theorem yeA_VB {R : Int64 → Int64} {Dv : Int64 → Int32 → Int32} {mo pl : Int32} {o : Option (List Cla)} {y f w : Int32} {D : Nat → Int32} : ∀ (n t : Nat) (V : Vw) (P : List Vw) (x : Int64), t + n ≤ 999 → VB W H V → (∀ V ∈ P, VB W H V) → VB W H (yeA R Dv mo pl o y f w D n t V P x).1 ∧ ∀ V' ∈ (yeA R Dv mo pl o y f w D n t V P x).2, VB W H V'
  | 0, _, _, _, _, _, hV, hP => ⟨hV, hP⟩
  | n + 1, t, V, P, x, ht, hV, hP => yeA_VB n (t + 1) _ _ _ (by omega) (pmA_VB (V := ((drT R Dv mo pl V.1 x).1, V.2)) ⟨drT_TB hV.1, hV.2⟩ (by omega)) (kp_mem hP hV)
theorem EnvC_2 {l : Nat → Nat → Int64} {t : Nat} {o : Option (List Cla)} (E : EnvC (m.1, l) W H o t) : EnvC m W H o t := E
/-- an environment of the class behind a draw's doings -/
theorem EnvC_same {t : Nat} {o : Option (List Cla)} (hs : sameC m m1) (hT : TB W H (thc m1 34)) (E : EnvC m W H o t) : EnvC m1 W H o t := by
  have hf : fr (fun a _ => Nat.ble 34 a && Nat.blt a 42) m (m1.1, m.2) := ⟨fun a k z => hs a k (fun y => by
    have : (Nat.ble 34 a && Nat.blt a 42) = true := by simp only [Nat.ble_eq, Nat.blt_eq, Bool.and_eq_true]; omega
    have z : (Nat.ble 34 a && Nat.blt a 42) = false := z
    rw [this] at z; cases z), fun _ _ _ => rfl⟩
  have q : ∀ a, ¬ (34 ≤ a ∧ a < 42) → (Nat.ble 34 a && Nat.blt a 42) = false := fun a ha => by
    cases hb : (Nat.ble 34 a && Nat.blt a 42) with
    | false => rfl
    | true => simp only [Nat.ble_eq, Nat.blt_eq, Bool.and_eq_true] at hb; exact absurd hb ha
  exact EnvC_2 (l := m.2) (EnvC_fr (m' := (m1.1, m.2)) hf rfl (fun h k hh => q _ (by omega)) (fun h hh => q _ (by omega)) (fun k => rfl) (fun k => rfl) hT ((hs 29 7 (by omega)).trans E.2.2.2.2.2.2.2.1) E.2.2.2.2.2.2.2.2 E)
theorem PC_same (hs : sameC m m1) (h : PC m P) : PC m1 P := PC_c (fun a k z => hs a k (by omega)) h
theorem c_drawn {R : Int64 → Int64} {Dv : Int64 → Int32 → Int32} (hD : DrC R Dv) {t : Nat} {o : Option (List Cla)} (E : EnvC m W H o t) (ho : cOK m 29) : ∃ ma mb, fX10_sendMole m = some ma ∧ fX10_sendThief ma = some mb ∧ cV mb 29 = ((drT R Dv (m.1 0 18) (m.1 14 3 * m.1 14 4) (thc m 34) (m.2 0 19)).1, (cV m 29).2) ∧ cOK mb 29 ∧ mb.2 0 19 = (drT R Dv (m.1 0 18) (m.1 14 3 * m.1 14 4) (thc m 34) (m.2 0 19)).2 ∧ sameC m mb ∧ EnvC mb W H o t := by
  obtain ⟨ma, e1, v1, o1, x1, s1⟩ := c_mole hD E ho
  obtain ⟨mb, e2, v2, o2, x2, s2⟩ := c_thief (m := ma) hD o1
  have t1 : thc ma 34 = (moleT R Dv (m.1 0 18) (m.1 14 3 * m.1 14 4) (thc m 34) (m.2 0 19)).1 := congrArg Prod.fst v1
  rw [t1, x1] at v2 x2
  have hV : cV mb 29 = ((drT R Dv (m.1 0 18) (m.1 14 3 * m.1 14 4) (thc m 34) (m.2 0 19)).1, (cV m 29).2) := by rw [v2, v1]; rfl
  have hs : sameC m mb := fun a k z => (s2 a k z).trans (s1 a k z)
  have tb : thc mb 34 = (drT R Dv (m.1 0 18) (m.1 14 3 * m.1 14 4) (thc m 34) (m.2 0 19)).1 := congrArg Prod.fst hV
  exact ⟨ma, mb, e1, e2, hV, o2, x2, hs, EnvC_same hs (by rw [tb]; exact drT_TB E.2.2.2.2.2.1) E⟩
/-- what years of the class leave as it was -/
def sameY (m m' : mm_MM) : Prop := ∀ a k, Wmc a k = false → m'.1 a k = m.1 a k
theorem c_years_l {R : Int64 → Int64} {Dv : Int64 → Int32 → Int32} (hD : DrC R Dv) {o : Option (List Cla)} {N : Nat} (hN : N < 1000) : ∀ (n i t : Nat) (m : mm_MM) (P : List Vw) (f : Nat), i + n = N → n < f → t + n < 10000 → EnvC m W H o t → cOK m 29 → PC m P → ∃ m1, fX10_years_c43 f m (Int32.ofNat N) (Int32.ofNat i) = some (Int32.ofNat (t + n), m1) ∧ cV m1 29 = (yeA R Dv (m.1 0 18) (m.1 14 3 * m.1 14 4) o (m.1 14 5) (m.1 14 6) (m.1 14 3) (m.1 15) n t (cV m 29) P (m.2 0 19)).1 ∧ PC m1 (yeA R Dv (m.1 0 18) (m.1 14 3 * m.1 14 4) o (m.1 14 5) (m.1 14 6) (m.1 14 3) (m.1 15) n t (cV m 29) P (m.2 0 19)).2 ∧ cOK m1 29 ∧ sameY m m1 := by
  intro n
  induction n with
  | zero =>
    intro i t m P f hi hf ht E ho hp
    obtain ⟨f, rfl⟩ : ∃ g, f = g + 1 := ⟨f - 1, by omega⟩
    refine ⟨m, ?_, rfl, hp, ho, fun _ _ _ => rfl⟩
    rw [fX10_years_c43]
    dsimp only
    rw [if_neg (by rw [nn_lt (by omega) (by omega)]; omega), E.2.2.2.2.2.2.2.1]
    rfl
  | succ n ih =>
    intro i t m P f hi hf ht E ho hp
    obtain ⟨f, rfl⟩ : ∃ g, f = g + 1 := ⟨f - 1, by omega⟩
    obtain ⟨m1, e1, p1, f1⟩ := c_keep ho hp
    have ho1 : cOK m1 29 := cOK_congr (fun b hb k hk => f1.1 _ _ (WP_f (by omega))) (fun k _ _ => f1.1 _ _ (WP_f (by omega))) ho
    have hv1 : cV m1 29 = cV m 29 := cV_congr (fun b hb k hk => f1.1 _ _ (WP_f (by omega))) (fun k _ _ => f1.1 _ _ (WP_f (by omega))) (fun w hw j hj => f1.1 _ _ (WP_f (by omega)))
    have ht1 : thc m1 34 = (cV m 29).1 := (congrArg Prod.fst hv1)
    have E1 := EnvC_keep f1 E
    obtain ⟨ma, mb, ea, eb, vb, ob, xb, sb, Eb⟩ := c_drawn hD E1 ho1
    obtain ⟨m2, e2, v2, o2, E2, f2⟩ := c_passMonth Eb ob (by omega)
    have c0 : ∀ k, m1.1 0 k = m.1 0 k := fun k => f1.1 0 k (WP_f (by omega))
    have c14 : ∀ k, m1.1 14 k = m.1 14 k := fun k => f1.1 14 k (WP_f (by omega))
    have c15 : m1.1 15 = m.1 15 := funext fun k => f1.1 15 k (WP_f (by omega))
    have cx : m1.2 0 19 = m.2 0 19 := f1.2 0 19 (WP_f (by omega))
    have b14 : ∀ k, mb.1 14 k = m.1 14 k := fun k => (sb 14 k (by omega)).trans (c14 k)
    have b15 : mb.1 15 = m.1 15 := funext fun k => (sb 15 k (by omega)).trans (congrFun c15 k)
    rw [c0, c14, c14, ht1, cx, hv1] at vb
    rw [c0, c14, c14, ht1, cx] at xb
    rw [b14, b14, b14, b15, vb] at v2
    have d14 : ∀ k, m2.1 14 k = m.1 14 k := fun k => (f2.1 14 k (Wcm_f (by decide) (WG_lo (by decide)))).trans (b14 k)
    have d15 : m2.1 15 = m.1 15 := funext fun k => (f2.1 15 k (Wcm_f (by decide) (WG_lo (by decide)))).trans (congrFun b15 k)
    have d0 : m2.1 0 18 = m.1 0 18 := (f2.1 0 18 (Wcm_f (by decide) (WG_lo (by decide)))).trans ((sb 0 18 (by omega)).trans (c0 18))
    have dx : m2.2 0 19 = mb.2 0 19 := f2.2 0 19 (Wcm_f (by decide) (WG_lo (by decide)))
    obtain ⟨m3, e3, v3, p3, o3, s3⟩ := ih (i + 1) (t + 1) m2 _ f (by omega) (by omega) (by omega) E2 o2 (PC_Wcm f2 (PC_same sb p1))
    rw [d0, d14, d14, d14, d14, d15, v2, dx, xb] at v3 p3
    refine ⟨m3, ?_, by rw [yeA_s]; exact v3, by rw [yeA_s]; exact p3, o3, fun a k z => (s3 a k z).trans ((f2.1 a k (Wmc_1 a k z)).trans ((sb a k (fun y => ?_)).trans (f1.1 a k (Wmc_2 a k z))))⟩
    · rw [fX10_years_c43]
      dsimp only
      rw [if_pos (by rw [nn_lt (by omega) (by omega)]; omega), nn_s]
      rw [show t + 1 + n = t + (n + 1) by omega] at e3
      exact bs e1 (bs ea (bs eb (bs e2 e3)))
    · have := Wmc_1 a k z
      simp only [Wcm, Bool.or_eq_false_iff] at this
      rw [WSt_t (by omega) (by omega)] at this
      exact absurd this.2 (by decide)
theorem EnvR_2 {l : Nat → Nat → Int64} {t : Nat} {o : Option (List Cla)} (E : EnvR (m.1, l) W H o t) : EnvR m W H o t := by
  obtain ⟨a1, a2, a3, a4, a5, a6⟩ := E
  refine ⟨a1, a2, a3, a4, ?_, a6⟩
  rcases a5 with ⟨b1, b2⟩ | ⟨h, cs, b1, b2, b3, b4, b5⟩
  · exact Or.inl ⟨b1, b2⟩
  · exact Or.inr ⟨h, cs, b1, b2, b3, LawR_fr (m := (m.1, l)) (fun _ _ _ => rfl) b4, b5⟩
theorem EnvR_same {t : Nat} {o : Option (List Cla)} (hs : sameR m m1) (hT : TB W H (thr m1 623 0)) (E : EnvR m W H o t) : EnvR m1 W H o t := by
  have hf : fr (fun a k => a == 623 && Nat.blt k 48) m (m1.1, m.2) := ⟨fun a k z => hs a k (fun y => by
    have : (a == 623 && Nat.blt k 48) = true := by simp only [beq_iff_eq, Nat.blt_eq, Bool.and_eq_true]; omega
    have z : (a == 623 && Nat.blt k 48) = false := z
    rw [this] at z; cases z), fun _ _ _ => rfl⟩
  exact EnvR_2 (l := m.2) (EnvR_fr (m' := (m1.1, m.2)) hf rfl (fun a k ha => by rcases ha with rfl | rfl | rfl | rfl | rfl | rfl <;> rfl) (fun k => rfl) (fun k => rfl) hT ((hs 623 49 (by omega)).trans E.2.2.2.2.2.2.2.1) E.2.2.2.2.2.2.2.2 E)
def sameZ (m m' : mm_MM) : Prop := ∀ a k, Wmr a k = false → m'.1 a k = m.1 a k
theorem r_years_l {R : Int64 → Int64} {Dv : Int64 → Int32 → Int32} (hD : DrR R Dv) {o : Option (List Cla)} {N : Nat} (hN : N < 1000) : ∀ (n i t : Nat) (m : mm_MM) (P : List Vw) (f : Nat), i + n = N → n < f → t + n < 10000 → EnvR m W H o t → rOK m 623 0 → PR m P → ∃ m1, fX11_years_c25 f m (Int32.ofNat N) (Int32.ofNat i) = some (Int32.ofNat (t + n), m1) ∧ rV m1 623 0 = (yeA R Dv (m.1 606 30) (m.1 620 0 * m.1 620 1) o (m.1 620 2) (m.1 620 3) (m.1 620 0) (m.1 621) n t (rV m 623 0) P (m.2 606 35)).1 ∧ PR m1 (yeA R Dv (m.1 606 30) (m.1 620 0 * m.1 620 1) o (m.1 620 2) (m.1 620 3) (m.1 620 0) (m.1 621) n t (rV m 623 0) P (m.2 606 35)).2 ∧ rOK m1 623 0 ∧ sameZ m m1 := by
  intro n
  induction n with
  | zero =>
    intro i t m P f hi hf ht E ho hp
    obtain ⟨f, rfl⟩ : ∃ g, f = g + 1 := ⟨f - 1, by omega⟩
    refine ⟨m, ?_, rfl, hp, ho, fun _ _ _ => rfl⟩
    rw [fX11_years_c25]
    dsimp only
    rw [if_neg (by rw [nn_lt (by omega) (by omega)]; omega), E.2.2.2.2.2.2.2.1]
    rfl
  | succ n ih =>
    intro i t m P f hi hf ht E ho hp
    obtain ⟨f, rfl⟩ : ∃ g, f = g + 1 := ⟨f - 1, by omega⟩
    obtain ⟨m1, e1, p1, f1⟩ := r_keep ho hp
    have ho1 : rOK m1 623 0 := rOK_congr (f1.1 _ _ rfl) ho
    have hv1 : rV m1 623 0 = rV m 623 0 := rV_congr (fun k _ => f1.1 _ _ rfl) ho
    have ht1 : thr m1 623 0 = (rV m 623 0).1 := (congrArg Prod.fst hv1)
    have E1 := EnvR_keep f1 E
    obtain ⟨mb, eb, vb, ob, xb, sb⟩ := r_drawMonth hD E1 ho1
    have tb : thr mb 623 0 = (drT R Dv (m1.1 606 30) (m1.1 620 0 * m1.1 620 1) (thr m1 623 0) (m1.2 606 35)).1 := congrArg Prod.fst vb
    have Eb : EnvR mb W H o t := EnvR_same sb (by rw [tb]; exact drT_TB E1.2.2.2.2.2.1) E1
    obtain ⟨m2, e2, v2, o2, E2, f2⟩ := r_passMonth Eb ob (by omega)
    have c30 : m1.1 606 30 = m.1 606 30 := f1.1 606 30 rfl
    have c14 : ∀ k, m1.1 620 k = m.1 620 k := fun k => f1.1 620 k rfl
    have c15 : m1.1 621 = m.1 621 := funext fun k => f1.1 621 k rfl
    have cx : m1.2 606 35 = m.2 606 35 := f1.2 606 35 rfl
    have b14 : ∀ k, mb.1 620 k = m.1 620 k := fun k => (sb 620 k (by omega)).trans (c14 k)
    have b15 : mb.1 621 = m.1 621 := funext fun k => (sb 621 k (by omega)).trans (congrFun c15 k)
    rw [c30, c14, c14, ht1, cx, hv1] at vb
    rw [c30, c14, c14, ht1, cx] at xb
    rw [b14, b14, b14, b15, vb] at v2
    have d14 : ∀ k, m2.1 620 k = m.1 620 k := fun k => (f2.1 620 k rfl).trans (b14 k)
    have d15 : m2.1 621 = m.1 621 := funext fun k => (f2.1 621 k rfl).trans (congrFun b15 k)
    have d0 : m2.1 606 30 = m.1 606 30 := (f2.1 606 30 rfl).trans ((sb 606 30 (by omega)).trans c30)
    have dx : m2.2 606 35 = mb.2 606 35 := f2.2 606 35 rfl
    have pb : PR mb (kp (rV m 623 0) P) := PR_cc (fun a k z => sb a k (by omega)) p1
    obtain ⟨m3, e3, v3, p3, o3, s3⟩ := ih (i + 1) (t + 1) m2 _ f (by omega) (by omega) (by omega) E2 o2 (PR_Wrm f2 pb)
    rw [d0, d14, d14, d14, d14, d15, v2, dx, xb] at v3 p3
    refine ⟨m3, ?_, by rw [yeA_s]; exact v3, by rw [yeA_s]; exact p3, o3, fun a k z => (s3 a k z).trans ((f2.1 a k (Wmr_1 a k z)).trans ((sb a k (fun y => ?_)).trans (f1.1 a k (Wmr_2 a k z))))⟩
    · rw [fX11_years_c25]
      dsimp only
      rw [if_pos (by rw [nn_lt (by omega) (by omega)]; omega), e1]
      simp only [Option.bind_some, eb, e2, nn_s]
      rw [e3, show t + 1 + n = t + (n + 1) by omega]
    · have := Wmr_1 a k z
      rw [y.1] at this
      exact absurd this (by simp [Wrm])
theorem q_years (hi : Inv m) (x : Int32) (s : Int64) : EQ m (fun m => fX10_years m x s) (fun m => fX11_years m x s) := by
  obtain ⟨W, H, P, ls, h⟩ := hi
  have hs0 := see0 h
  by_cases hk : m.1 0 14 = 0
  · refine ⟨-1, m, m, ?_, ?_, W, H, P, ls, h⟩
    · simp only [fX10_years, fX10_years_c33, if_pos hk]
    · simp only [fX11_years, fX11_years_c15, hs0.2.1, if_pos hk]
  · have hk1 : m.1 0 14 = 1 := h.1.2.1.resolve_left hk
    by_cases hn : x < 1 ∨ ¬ x ≤ 60 ∨ ¬ m.1 29 7 + x ≤ 999
    · refine ⟨-1, m, m, ?_, ?_, W, H, P, ls, h⟩
      · by_cases h1 : x < 1
        · simp only [fX10_years, fX10_years_c33, if_neg hk, if_pos h1]
        · by_cases h2 : x ≤ 60
          · have h3 := (hn.resolve_left h1).resolve_left (fun z => z h2)
            simp only [fX10_years, fX10_years_c33, if_neg hk, if_neg h1, if_pos h2, if_neg h3]
          · simp only [fX10_years, fX10_years_c33, if_neg hk, if_neg h1, if_neg h2]
      · have hz : (if x < 1 then (0 : Int32) else if x ≤ 60 then (if m.1 623 49 + x ≤ 999 then 1 else 0) else 0) = 0 := by
          by_cases h1 : x < 1
          · rw [if_pos h1]
          · rw [if_neg h1]
            by_cases h2 : x ≤ 60
            · rw [if_pos h2, hs0.2.2.2.2.2.2.2, if_neg ((hn.resolve_left h1).resolve_left (fun z => z h2))]
            · rw [if_neg h2]
        simp only [fX11_years, fX11_years_c15, hs0.2.1, if_neg hk, r_areMonths, hz, Option.bind_some, if_true]
    · have h1 : ¬ x < 1 := fun z => hn (Or.inl z)
      have h2 : x ≤ 60 := Classical.not_not.mp fun z => hn (Or.inr (Or.inl z))
      have hc : m.1 29 7 + x ≤ 999 := Classical.not_not.mp fun z => hn (Or.inr (Or.inr z))
      obtain ⟨o, t, ht, EC, ER⟩ := IA_env h hk1
      have h7 := EC.2.2.2.2.2.2.2.1
      obtain ⟨n, rfl, hn60, htn⟩ := month_n ht h1 h2 (h7 ▸ hc)
      obtain ⟨s1, s2, s3, s4, s5, s6, s7, s8⟩ := h.2.1
      obtain ⟨mc, ec, vc, pc, oc, fc⟩ := c_years_l drC (N := n) (by omega) n 0 t (wL m 0 19 s) P fu (by omega) (by unfold fu; omega) (by omega) EC s2 s5
      rw [wL_eq] at vc pc
      have fcA : fr WAc m (mc.1, m.2) := ⟨fun a k z => fc a k (Wmc_c a k z), fun _ _ _ => rfl⟩
      have hs := see h fcA
      have vr0 : rV mc 623 0 = cV m 29 := (rV_c fcA s3).trans s1.symm
      obtain ⟨mr, er, vr, pr, orr, frr⟩ := r_years_l drR (N := n) (by omega) n 0 t (wL mc 606 35 s) P fu (by omega) (by unfold fu; omega) (by omega) (EnvR_2 (l := mc.2) (EnvR_c fcA ER)) (rOK_c fcA s3) (PR_c fcA s6)
      rw [wL_eq] at vr pr
      have hL := (h.1.2.2.2.2.1 hk1).1
      have d3 := (h.1.2.2.2.2.1 hk1).2.1
      have e30 : mc.1 606 30 = m.1 0 18 := (hi_c fcA (by decide)).trans h.2.2.2.2.2.1.1.symm
      have eD : yeA dr dv (mc.1 606 30) (mc.1 620 0 * mc.1 620 1) o (mc.1 620 2) (mc.1 620 3) (mc.1 620 0) (mc.1 621) n t (rV mc 623 0) P s = yeA dr dv (m.1 0 18) (m.1 14 3 * m.1 14 4) o (m.1 14 5) (m.1 14 6) (m.1 14 3) (m.1 15) n t (cV m 29) P s := by
        rw [vr0, e30, hs.2.2.2.2.1, hs.2.2.2.2.2.1, hs.2.2.1, hs.2.2.2.1, d3]
        exact yeA_D hL (fun r hr => (hi_c fcA (by decide)).trans (h.1.2.2.2.1 r hr).symm) n t _ _ _ s4.1
      have vr : rV mr 623 0 = (yeA dr dv (mc.1 606 30) (mc.1 620 0 * mc.1 620 1) o (mc.1 620 2) (mc.1 620 3) (mc.1 620 0) (mc.1 621) n t (rV mc 623 0) P s).1 := vr
      have pr : PR mr (yeA dr dv (mc.1 606 30) (mc.1 620 0 * mc.1 620 1) o (mc.1 620 2) (mc.1 620 3) (mc.1 620 0) (mc.1 621) n t (rV mc 623 0) P s).2 := pr
      rw [eD] at vr pr
      have hB := yeA_VB (R := dr) (Dv := dv) (mo := m.1 0 18) (pl := m.1 14 3 * m.1 14 4) (o := o) (y := m.1 14 5) (f := m.1 14 6) (w := m.1 14 3) (D := m.1 15) n t (cV m 29) P s htn s4 s7
      refine EQ_act (v := Int32.ofNat (t + n)) h hk1 ⟨fcA, fun k => fc _ _ ?_, vc, oc, pc⟩ ⟨⟨fun a k z => frr a k (Wmr_r a k z), fun _ _ _ => rfl⟩, fun k => frr _ _ rfl, vr, orr, pr⟩ hB.1 hB.2 ?_ ?_
      · simp only [Wmc, Bool.or_eq_false_iff]
        exact ⟨Wcm_f (by decide) (by simp [WG, WS]), WP_f (by omega)⟩
      · simp only [fX10_years, if_neg hk, if_neg h1, if_pos h2, if_pos hc]
        exact ec
      · simp only [fX11_years, hs.2.1, if_neg hk, r_areMonths, if_neg h1, if_pos h2, Option.bind_some, hs.2.2.2.2.2.2.2, if_pos hc, if_neg (show ¬ (1 : Int32) = 0 by decide)]
        exact er
end YE
