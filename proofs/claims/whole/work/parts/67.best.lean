/-! BEST: the month in which it is worth most, ripe -/
section BES
variable {m m1 : mm_MM} {W H : Nat} {P : List Vw} {ls : Nat → List Cla}
/-- months R (how long it lay), V (its worth): when, how much -/
def bsN (R V : Nat → Int32) (y : Int32) : Nat → Nat → Int32 → Int32 → Int32 × Int32
  | 0, _, a, c => (a, c)
  | n + 1, i, a, c => if R i < y then bsN R V y n (i + 1) a c else if V i ≤ c then bsN R V y n (i + 1) a c else bsN R V y n (i + 1) (Int32.ofNat i) (V i)
def pick2 (x : Int32) (r : Int32 × Int32) : Int32 := if x = 0 then r.1 else r.2
theorem c_best_l {o : Option (List Cla)} {s d n : Int32} (hs : bdS s d n) {q : Int32 × Int32 × Nat} (hq : bdQ q) (hq2 : q.2.2 < 5000) {y f : Int32} (hy : ¬ y ≤ 0) {x : Int32} : ∀ (N i : Nat) (m : mm_MM) (a c : Int32) (g : Nat), i + N = 61 → N < g → HoldC m o → m.1 14 5 = y → m.1 14 6 = f → GS m s d n (it o y f s d n i q) →
    ∃ m', fX10_best_c38 g m x a c (Int32.ofNat i) = some (pick2 x (bsN (fun i => (it o y f s d n i q).2.1) (fun i => (it o y f s d n i q).1) y N i a c), m') ∧ fr WG m m' := by
  intro N
  induction N with
  | zero =>
    intro i m a c g hi hg ho ey ef hG
    obtain ⟨g, rfl⟩ : ∃ h, g = h + 1 := ⟨g - 1, by omega⟩
    obtain rfl : i = 61 := by omega
    refine ⟨m, ?_, fr_refl _ _⟩
    rw [fX10_best_c38]
    dsimp only
    rw [if_neg (show ¬ Int32.ofNat 61 ≤ 60 by decide)]
    unfold pick2 bsN fX10_best_c109
    by_cases h : x = 0
    · rw [if_pos h, if_pos h]
    · rw [if_neg h, if_neg h]
  | succ N ih =>
    intro i m a c g hi hg ho ey ef hG
    obtain ⟨g, rfl⟩ : ∃ h, g = h + 1 := ⟨g - 1, by omega⟩
    obtain ⟨m1, e1, g1, f1⟩ := c_grow (N := 1) (by decide) ho (by rw [ey]; exact hy) hs (bdQ_it o y f s d n i hq) hG (by rw [it_t]; omega)
    rw [ey, ef, ← it_add] at g1
    have ho1 : HoldC m1 o := HoldC_WG f1 ho
    have key : ∀ a c, ∃ m', fX10_best_c87 (fX10_best_c38 g) m x a c (Int32.ofNat i) = some (pick2 x (bsN (fun i => (it o y f s d n i q).2.1) (fun i => (it o y f s d n i q).1) y N (i + 1) a c), m') ∧ fr WG m m' := by
      intro a c
      obtain ⟨m2, e2, f2⟩ := ih (i + 1) m1 a c g (by omega) (by omega) ho1 ((f1.1 14 5 (WG_lo (by decide))).trans ey) ((f1.1 14 6 (WG_lo (by decide))).trans ef) g1
      refine ⟨m2, ?_, fr_trans f1 f2⟩
      unfold fX10_best_c87
      refine bs (show fX10_grow m 1 = some m1 from e1) ?_
      rw [nn_s]
      exact e2
    rw [fX10_best_c38, bsN]
    dsimp only
    rw [if_pos (show Int32.ofNat i ≤ 60 from (nn_le (k := 60) (by omega) (by decide)).mpr (by omega)), hG.2.2.1, hG.1, ey]
    by_cases c1 : (it o y f s d n i q).2.1 < y
    · rw [if_pos c1, if_pos c1]; exact key a c
    · rw [if_neg c1, if_neg c1]
      by_cases c2 : (it o y f s d n i q).1 ≤ c
      · rw [if_pos c2, if_pos c2]; exact key a c
      · rw [if_neg c2, if_neg c2]
        obtain ⟨m', e', f'⟩ := key (Int32.ofNat i) (it o y f s d n i q).1
        exact ⟨m', e', f'⟩
theorem r_best_l {o : Option (List Cla)} {y f w : Int32} {D : Nat → Int32} {T : TT} {t b : Nat} (hly : lyT T b) (hb : b < 8) {x : Int32} : ∀ (N i : Nat) (m : mm_MM) (a c : Int32) (g : Nat), i + N = 61 → N < g → EnvR m W H o (t + i) → t + 99 < 10000 → m.1 620 2 = y → m.1 620 3 = f → m.1 620 0 = w → m.1 621 = D → thr m 623 0 = nxTs o y f w D i T t →
    ∃ m1, fX11_best_c32 g m (Int32.ofNat b) x a c (Int32.ofNat i) = some (pick2 x (bsN (fun i => nxTs o y f w D i T t b 3) (fun i => nxTs o y f w D i T t b 0) y N i a c), cpM m1 623 0 50 627 0) ∧ fr W2 m m1 := by
  intro N
  induction N with
  | zero =>
    intro i m a c g hi hg E ht hy hf hw hD hT
    obtain ⟨g, rfl⟩ : ∃ h, g = h + 1 := ⟨g - 1, by omega⟩
    obtain rfl : i = 61 := by omega
    refine ⟨m, ?_, fr_refl _ _⟩
    have hr := r_takeBack m (d := 0) (by decide)
    have hr : fX11_takeBack m 0 = some (cpM m 623 0 50 627 0) := hr
    rw [fX11_best_c32]
    dsimp only
    rw [if_neg (show ¬ Int32.ofNat 61 ≤ 60 by decide), hr]
    unfold pick2 bsN fX11_best_c94
    by_cases h : x = 0
    · simp only [Option.bind_some, if_pos h]
    · simp only [Option.bind_some, if_neg h]
  | succ N ih =>
    intro i m a c g hi hg E ht hy hf hw hD hT
    obtain ⟨g, rfl⟩ : ∃ h, g = h + 1 := ⟨g - 1, by omega⟩
    obtain ⟨m1, e1, f1, T1, -, -, E1⟩ := r_live E (by omega)
    have q : ∀ a k, a = 620 ∨ a = 621 → m1.1 a k = m.1 a k := fun a k h => f1.1 a k (by rcases h with rfl | rfl <;> simp [W2])
    have key : ∀ a c, ∃ m2, fX11_best_c69 (fX11_best_c32 g) m (Int32.ofNat b) x a c (Int32.ofNat i) = some (pick2 x (bsN (fun i => nxTs o y f w D i T t b 3) (fun i => nxTs o y f w D i T t b 0) y N (i + 1) a c), cpM m2 623 0 50 627 0) ∧ fr W2 m m2 := by
      intro a c
      obtain ⟨m2, e2, f2⟩ := ih (i + 1) m1 a c g (by omega) (by omega) (by rw [← Nat.add_assoc]; exact E1) ht ((q 620 2 (Or.inl rfl)).trans hy) ((q 620 3 (Or.inl rfl)).trans hf) ((q 620 0 (Or.inl rfl)).trans hw) ((show m1.1 621 = m.1 621 from funext fun k => q 621 k (Or.inr rfl)).trans hD) (by rw [T1, nxTs_s, hT, hy, hf, hw, hD])
      refine ⟨m2, ?_, fr_trans f1 f2⟩
      unfold fX11_best_c69
      refine bs e1 ?_
      rw [nn_s]
      exact e2
    have h5 : thr m 623 0 b 5 = 1 := by rw [hT, nxTs_o (by decide) (by decide)]; exact hly.1
    have h0 : m.1 623 (6 * b + 0) = nxTs o y f w D i T t b 0 := by rw [← hT]; exact (thr_k0 h5 (by decide)).symm
    rw [fX11_best_c32, bsN]
    dsimp only
    rw [if_pos (show Int32.ofNat i ≤ 60 from (nn_le (k := 60) (by omega) (by decide)).mpr (by omega)), r_isRipe_n m hb]
    simp only [Option.bind_some, h5, true_and, r_of0 m hb, h0]
    rw [hy, hT]
    by_cases c1 : nxTs o y f w D i T t b 3 < y
    · have hv : (if ¬ nxTs o y f w D i T t b 3 < y then (1 : Int32) else 0) = 0 := if_neg (fun z => z c1)
      rw [if_pos hv, if_pos c1]; exact key a c
    · rw [if_pos c1, if_neg c1, if_neg (show ¬ (1 : Int32) = 0 by decide)]
      by_cases c2 : nxTs o y f w D i T t b 0 ≤ c
      · rw [if_pos c2, if_pos c2]; exact key a c
      · rw [if_neg c2, if_neg c2]; exact key _ _
theorem bsN_congr {R V R' V' : Nat → Int32} {y : Int32} (hR : ∀ i, R i = R' i) (hV : ∀ i, V i = V' i) (n i : Nat) (a c : Int32) : bsN R V y n i a c = bsN R' V' y n i a c := by
  rw [show R = R' from funext hR, show V = V' from funext hV]
theorem r_best {o : Option (List Cla)} {t b : Nat} (E : EnvR m W H o t) (hly : lyT (thr m 623 0) b) (hb : b < 8) {x : Int32} (hx0 : ¬ x < 0) (hx1 : x ≤ 1) (ht : t + 99 < 10000) : ∃ m', fX11_best m (Int32.ofNat b) x = some (pick2 x (bsN (fun i => nxTs o (m.1 620 2) (m.1 620 3) (m.1 620 0) (m.1 621) i (thr m 623 0) t b 3) (fun i => nxTs o (m.1 620 2) (m.1 620 3) (m.1 620 0) (m.1 621) i (thr m 623 0) t b 0) (m.1 620 2) 61 0 (-1) (-1)), m') ∧ frB m m' := by
  obtain ⟨K, hK⟩ : ∃ K : Nat, 61 = K := ⟨_, rfl⟩
  obtain ⟨g, hg, hgK⟩ : ∃ g, fu = g ∧ K < g := ⟨fu, rfl, by unfold fu; omega⟩
  rw [hK]
  have T1 : thr (cpM m 627 0 50 623 0) 623 0 = thr m 623 0 := thr_now (fun k _ => cpM_ne (by decide))
  have E1 : EnvR (cpM m 627 0 50 623 0) W H o t := EnvR_fr (W := fun a _ => a == 627) (m := m) (fr_cpM (fr_refl _ _) (fun _ _ _ => rfl)) rfl (fun a k h => by rcases h with rfl | rfl | rfl | rfl | rfl | rfl <;> rfl) (fun _ => rfl) (fun _ => rfl) (by rw [T1]; exact E.2.2.2.2.2.1) ((cpM_ne (by decide)).trans E.2.2.2.2.2.2.2.1) E.2.2.2.2.2.2.2.2 E
  obtain ⟨m1, e1, f1⟩ := r_best_l (x := x) (y := m.1 620 2) (f := m.1 620 3) (w := m.1 620 0) (D := m.1 621) (T := thr m 623 0) (t := t) hly hb K 0 (cpM m 627 0 50 623 0) (-1) (-1) g (by omega) (by omega) E1 ht (cpM_ne (by decide)) (cpM_ne (by decide)) (cpM_ne (by decide)) (funext fun k => cpM_ne (by decide)) T1
  refine ⟨cpM m1 623 0 50 627 0, ?_, fr_back (d := 0) f1⟩
  have hp := r_putAside m (d := 0) (by decide)
  have hp : fX11_putAside m 0 = some (cpM m 627 0 50 623 0) := hp
  simp only [fX11_best, r_doesLie_n m hb, if_pos hly, Option.bind_some, if_neg (show ¬ (1 : Int32) = 0 by decide), r_in, if_neg hx0, if_pos hx1]
  rw [hp, hg]
  simp only [Option.bind_some]
  exact e1
theorem q_best (hi : Inv m) (x z : Int32) : EQ m (fun m => fX10_best m x z) (fun m => fX11_best m x z) := by
  obtain ⟨W, H, P, ls, h⟩ := id hi
  have hs := see0 h
  by_cases hx : lyX (thc m 34) x
  · obtain ⟨h0, ex, hT5, htx⟩ := tx_b hx.1
    have hk := IA_known h hT5
    have hxr : lyX (thr m 623 0) x := by rw [hs.1]; exact hx
    have hl2 : ¬ tx (thc m 34) x 2 = -1 := hx.2
    rw [htx] at hl2
    have hf := c_findLying m x
    rw [if_pos hx] at hf
    have hb8 := (thc_5 hT5).1
    have hkd : mm_kd (34 + x.toNatClampNeg) = (9, 6) := kd_p hb8
    by_cases hz : ¬ z < 0 ∧ z ≤ 1
    · generalize x.toNatClampNeg = b at ex hT5 htx hl2 hf hb8 hkd
      subst ex
      obtain ⟨o, t, ht, EC, ER⟩ := IA_env h hk
      have hly : lyT (thc m 34) b := ⟨hT5, hl2⟩
      obtain ⟨m6, e6, g6, f6, bs6, bq6⟩ := c_startFrom EC hly
      have hh6 : HoldC m6 o := HoldC_fr (W := W583) rfl (fun h k hh => by simp only [W583, beq_eq_false_iff_ne]; omega) (fun h hh => by simp only [W583, beq_eq_false_iff_ne]; omega) f6 EC.2.2.2.2.1
      obtain ⟨K, hK⟩ : ∃ K : Nat, 61 = K := ⟨_, rfl⟩
      obtain ⟨g, hg, hgK⟩ : ∃ g, fu = g ∧ K < g := ⟨fu, rfl, by unfold fu; omega⟩
      obtain ⟨m7, e7, f7⟩ := c_best_l (o := o) (y := m.1 14 5) (f := m.1 14 6) bs6 bq6 (show t < 5000 by omega) EC.2.2.2.1 (x := z) K 0 m6 (-1) (-1) g (by omega) hgK hh6 (f6.1 14 5 rfl) (f6.1 14 6 rfl) g6
      have fc : fr WG m m7 := fr_trans (fr_mono W583_G f6) f7
      have fcQ : fr WQ m m7 := fr_mono WG_Q fc
      have hi7 : Inv m7 := Inv_q fcQ hi
      have w7 : ∀ a k, 606 ≤ a → m7.1 a k = m.1 a k := fun a k ha => fc.1 a k (WG_hi ha)
      have T7 : thr m7 623 0 = thc m 34 := (thr_now (fun k _ => w7 623 k (by decide))).trans hs.1
      have E7 : EnvR m7 W H o t := EnvR_fr (W := WG) fc (WG_hi (by decide)) (fun a k z => WG_hi (by omega)) (fun k => WG_hi (by decide)) (fun k => WG_hi (by decide)) (by rw [T7, ← hs.1]; exact ER.2.2.2.2.2.1) ((w7 623 49 (by decide)).trans ER.2.2.2.2.2.2.2.1) ER.2.2.2.2.2.2.2.2 ER
      obtain ⟨m8, e8, f8⟩ := r_best E7 (b := b) (by rw [T7]; exact hly) hb8 hz.1 hz.2 (by omega)
      have hD : m7.1 621 (rowI (m.1 14 3) (thc m 34) b) = m.1 15 (rowI (m.1 14 3) (thc m 34) b) := by
        rw [w7 621 _ (by decide)]
        exact (h.1.2.2.2.1 _ (rowI_lt EC hly)).symm
      rw [hK] at e8
      refine ⟨_, m7, m8, ?_, e8, Inv_B f8 hi7⟩
      simp only [fX10_best, hf, Option.bind_some, if_pos hkd, if_neg hz.1, if_pos hz.2]
      refine bs e6 ?_
      rw [hg]
      refine e7.trans ?_
      refine congrArg (fun v => some (pick2 z v, m7)) ?_
      rw [w7 620 2 (by decide), hs.2.2.2.2.1]
      refine bsN_congr (fun i => ?_) (fun i => ?_) _ _ _ _
      · rw [T7, (nxTs_b i _ _ hly).2, w7 620 0 (by decide), w7 620 3 (by decide), hs.2.2.1, hs.2.2.2.2.2.1, hD]
      · rw [T7, (nxTs_b i _ _ hly).1, w7 620 0 (by decide), w7 620 3 (by decide), hs.2.2.1, hs.2.2.2.2.2.1, hD]
    · refine EQ_0 (v := -1) hi ?_ ?_
      · simp only [fX10_best, hf, Option.bind_some, if_pos hkd, fX10_best_c22]
        by_cases z0 : z < 0
        · rw [if_pos z0]
        · rw [if_neg z0, if_neg (fun w => hz ⟨z0, w⟩)]
      · simp only [fX11_best, r_doesLie, if_pos hxr, Option.bind_some, if_neg (show ¬ (1 : Int32) = 0 by decide), r_in, fX11_best_c17]
        by_cases z0 : z < 0
        · simp only [if_pos z0, if_true]
        · simp only [if_neg z0, if_neg (fun w => hz ⟨z0, w⟩), if_true]
  · have hxr : ¬ lyX (thr m 623 0) x := by rw [hs.1]; exact hx
    refine EQ_0 (v := -1) hi ?_ ?_
    · simp only [fX10_best, c_findLying, if_neg hx, Option.bind_some, fX10_best_c22]
    · simp only [fX11_best, r_doesLie, if_neg hxr, Option.bind_some, if_true, fX11_best_c17]
end BES
