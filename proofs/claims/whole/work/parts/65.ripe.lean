/-! RIPE IN, FULL: how long till it is ripe -/
section RIP
variable {m m1 : mm_MM} {W H : Nat} {P : List Vw} {ls : Nat → List Cla}
/-- how long it lay, k months on -/
def ldn (f : Int32) : Nat → Int32 → Nat → Int32
  | 0, L, _ => L
  | k + 1, L, t => ldn f k (mi 99 (L + if rem (Int32.ofNat t) 12 < f then 2 else 1)) (t + 1)
theorem ldn_s (f : Int32) : ∀ (k : Nat) (L : Int32) (t : Nat), ldn f (k + 1) L t = mi 99 (ldn f k L t + if rem (Int32.ofNat (t + k)) 12 < f then 2 else 1)
  | 0, _, _ => rfl
  | k + 1, L, t => by
    have := ldn_s f k (mi 99 (L + if rem (Int32.ofNat t) 12 < f then 2 else 1)) (t + 1)
    rw [show t + 1 + k = t + (k + 1) by omega] at this
    exact this
theorem nxTs_ld {o : Option (List Cla)} {y f w : Int32} {D : Nat → Int32} {b : Nat} : ∀ (k : Nat) (T : TT) (t : Nat), lyT T b → nxTs o y f w D k T t b 3 = ldn f k (T b 3) t
  | 0, _, _, _ => rfl
  | k + 1, T, t, h => by
    have := nxTs_ld (o := o) (y := y) (f := f) (w := w) (D := D) k (nxT o y f w D T t) (t + 1) (nxT_ly.mpr h)
    have e3 : nxT o y f w D T t b 3 = mi 99 (T b 3 + if rem (Int32.ofNat t) 12 < f then 2 else 1) := by
      unfold nxT
      rw [if_pos h, if_neg (by decide), if_pos rfl]
      rfl
    rw [e3] at this
    exact this
/-- the first of a row -/
def fst1 (p : Nat → Prop) [DecidablePred p] : Nat → Nat → Int32
  | 0, i => if p i then Int32.ofNat i else -1
  | n + 1, i => if p i then Int32.ofNat i else fst1 p n (i + 1)
theorem c_mtr {y f : Int32} {t : Nat} {L0 : Int32} (hy : m.1 14 5 = y) (hf : m.1 14 6 = f) (ht : m.1 29 7 = Int32.ofNat t) : ∀ (n i g : Nat), i + n = 99 → n + 1 < g → fX10_monthsToRipe_c7 g m (ldn f i L0 t) (Int32.ofNat i) = some (fst1 (fun k => ¬ ldn f k L0 t < y) n i, m) := by
  intro n
  induction n with
  | zero =>
    intro i g hi hg
    obtain ⟨g, rfl⟩ : ∃ h, g = h + 2 := ⟨g - 2, by omega⟩
    obtain rfl : i = 99 := by omega
    rw [fX10_monthsToRipe_c7, fst1]
    dsimp only
    rw [hy, if_pos (show Int32.ofNat 99 ≤ 99 by decide)]
    by_cases c : ldn f 99 L0 t < y
    · rw [if_pos c, if_neg (fun z => z c), c_lainAfter]
      simp only [Option.bind_some]
      rw [fX10_monthsToRipe_c7]
      exact if_neg (show ¬ Int32.ofNat 99 + 1 ≤ 99 by decide)
    · rw [if_neg c, if_pos c]
  | succ n ih =>
    intro i g hi hg
    obtain ⟨g, rfl⟩ : ∃ h, g = h + 1 := ⟨g - 1, by omega⟩
    rw [fX10_monthsToRipe_c7, fst1]
    dsimp only
    rw [hy, if_pos (show Int32.ofNat i ≤ 99 from (nn_le (k := 99) (by omega) (by decide)).mpr (by omega))]
    by_cases c : ldn f i L0 t < y
    · rw [if_pos c, if_neg (fun z => z c), c_lainAfter]
      simp only [Option.bind_some]
      rw [ht, hf, ← Int32.ofNat_add, ← ldn_s, nn_s]
      exact ih (i + 1) g (by omega) (by omega)
    · rw [if_neg c, if_pos c]
theorem c_months {y f : Int32} {t b : Nat} (hy : m.1 14 5 = y) (hf : m.1 14 6 = f) (ht : m.1 29 7 = Int32.ofNat t) (hT : thc m 34 b 5 = 1) : fX10_monthsToRipe m (34 + b) = some (fst1 (fun k => ¬ ldn f k (thc m 34 b 3) t < y) 99 0, m) := by
  have := c_mtr (L0 := thc m 34 b 3) hy hf ht 99 0 fu rfl (by unfold fu; omega)
  unfold fX10_monthsToRipe
  rw [← thc_k hT (show 3 < 5 by decide)]
  exact this
/-- all of a mask are ripe -/
abbrev allR (x y : Int32) (T : TT) : Prop := (x &&& (mk8 (riB y T) ^^^ ((-1) : Int32))) = 0
theorem r_within_l {x : Int32} {o : Option (List Cla)} {y f w : Int32} {D : Nat → Int32} {T : TT} {t : Nat} : ∀ (n i : Nat) (m : mm_MM) (g : Nat), i + n = 99 → n < g → EnvR m W H o (t + i) → t + 99 < 10000 → m.1 620 2 = y → m.1 620 3 = f → m.1 620 0 = w → m.1 621 = D → thr m 623 0 = nxTs o y f w D i T t →
    ∃ m1, fX11_ripeWithin_c7 g m x (Int32.ofNat i) = some (fst1 (fun k => allR x y (nxTs o y f w D k T t)) n i, cpM m1 623 0 50 627 0) ∧ fr W2 m m1 := by
  intro n
  induction n with
  | zero =>
    intro i m g hi hg E ht hy hf hw hD hT
    obtain ⟨g, rfl⟩ : ∃ h, g = h + 1 := ⟨g - 1, by omega⟩
    obtain rfl : i = 99 := by omega
    refine ⟨m, ?_, fr_refl _ _⟩
    rw [fX11_ripeWithin_c7, fst1]
    dsimp only
    rw [if_neg (show ¬ Int32.ofNat 99 < 99 by decide)]
    have hr := r_takeBack m (d := 0) (by decide)
    have hr : fX11_takeBack m 0 = some (cpM m 623 0 50 627 0) := hr
    simp only [fX11_ripeWithin_c35, r_ones2, Option.bind_some, hy, hT, fX11_ripeWithin_c52, hr, fX11_ripeWithin_c67]
    by_cases c : allR x y (nxTs o y f w D 99 T t)
    · rw [if_pos c, if_pos c, if_neg (show ¬ (1 : Int32) = 0 by decide)]
    · rw [if_neg c, if_neg c]; simp only [if_true]
  | succ n ih =>
    intro i m g hi hg E ht hy hf hw hD hT
    obtain ⟨g, rfl⟩ : ∃ h, g = h + 1 := ⟨g - 1, by omega⟩
    rw [fX11_ripeWithin_c7, fst1]
    dsimp only
    rw [if_pos (show Int32.ofNat i < 99 from (nn_lt (k := 99) (by omega) (by decide)).mpr (by omega))]
    have hr := r_takeBack m (d := 0) (by decide)
    have hr : fX11_takeBack m 0 = some (cpM m 623 0 50 627 0) := hr
    by_cases c : allR x y (nxTs o y f w D i T t)
    · refine ⟨m, ?_, fr_refl _ _⟩
      simp only [r_ones2, Option.bind_some, hy, hT, fX11_ripeWithin_c35, fX11_ripeWithin_c52, hr, fX11_ripeWithin_c67]
      rw [if_pos c, if_pos c, if_pos c, if_neg (show ¬ (1 : Int32) = 0 by decide)]
    · obtain ⟨m1, e1, f1, T1, -, -, E1⟩ := r_live E (by omega)
      have q : ∀ a k, a = 620 ∨ a = 621 → m1.1 a k = m.1 a k := fun a k h => f1.1 a k (by rcases h with rfl | rfl <;> simp [W2])
      obtain ⟨m2, e2, f2⟩ := ih (i + 1) m1 g (by omega) (by omega) (by rw [← Nat.add_assoc]; exact E1) ht ((q 620 2 (Or.inl rfl)).trans hy) ((q 620 3 (Or.inl rfl)).trans hf) ((q 620 0 (Or.inl rfl)).trans hw) ((show m1.1 621 = m.1 621 from funext fun k => q 621 k (Or.inr rfl)).trans hD) (by rw [T1, nxTs_s, hT, hy, hf, hw, hD])
      refine ⟨m2, ?_, fr_trans f1 f2⟩
      simp only [r_ones2, Option.bind_some, hy, hT, e1, nn_s]
      rw [if_neg c, if_neg c]
      exact e2
theorem r_within {x : Int32} {o : Option (List Cla)} {t : Nat} (E : EnvR m W H o t) (ht : t + 99 < 10000) : ∃ m', fX11_ripeWithin m x = some (fst1 (fun k => allR x (m.1 620 2) (nxTs o (m.1 620 2) (m.1 620 3) (m.1 620 0) (m.1 621) k (thr m 623 0) t)) 99 0, m') ∧ frB m m' := by
  obtain ⟨K, hK⟩ : ∃ K : Nat, 99 = K := ⟨_, rfl⟩
  obtain ⟨g, hg, hgK⟩ : ∃ g, fu = g ∧ K < g := ⟨fu, rfl, by unfold fu; omega⟩
  rw [hK]
  have T1 : thr (cpM m 627 0 50 623 0) 623 0 = thr m 623 0 := thr_now (fun k _ => cpM_ne (by decide))
  have E1 : EnvR (cpM m 627 0 50 623 0) W H o t := EnvR_fr (W := fun a _ => a == 627) (m := m) (fr_cpM (fr_refl _ _) (fun _ _ _ => rfl)) rfl (fun a k h => by rcases h with rfl | rfl | rfl | rfl | rfl | rfl <;> rfl) (fun _ => rfl) (fun _ => rfl) (by rw [T1]; exact E.2.2.2.2.2.1) ((cpM_ne (by decide)).trans E.2.2.2.2.2.2.2.1) E.2.2.2.2.2.2.2.2 E
  obtain ⟨m1, e1, f1⟩ := r_within_l (x := x) (y := m.1 620 2) (f := m.1 620 3) (w := m.1 620 0) (D := m.1 621) (T := thr m 623 0) (t := t) K 0 (cpM m 627 0 50 623 0) g (by omega) (by omega) E1 ht (cpM_ne (by decide)) (cpM_ne (by decide)) (cpM_ne (by decide)) (funext fun k => cpM_ne (by decide)) T1
  refine ⟨cpM m1 623 0 50 627 0, ?_, fr_back (d := 0) f1⟩
  have hp := r_putAside m (d := 0) (by decide)
  have hp : fX11_putAside m 0 = some (cpM m 627 0 50 623 0) := hp
  unfold fX11_ripeWithin
  rw [hp, hg]
  simp only [Option.bind_some]
  exact e1
theorem fst1_congr {p q : Nat → Prop} [DecidablePred p] [DecidablePred q] (h : ∀ k, p k ↔ q k) : ∀ n i, fst1 p n i = fst1 q n i
  | 0, i => by
    unfold fst1
    by_cases c : p i
    · rw [if_pos c, if_pos ((h i).mp c)]
    · rw [if_neg c, if_neg (fun z => c ((h i).mpr z))]
  | n + 1, i => by
    unfold fst1
    by_cases c : p i
    · rw [if_pos c, if_pos ((h i).mp c)]
    · rw [if_neg c, if_neg (fun z => c ((h i).mpr z))]
      exact fst1_congr h n (i + 1)
theorem m8_bn : ∀ a b c d e f g h : Bool, ((bitI 0 &&& (m8 a b c d e f g h ^^^ -1)) = 0 ↔ a = true) ∧ ((bitI 1 &&& (m8 a b c d e f g h ^^^ -1)) = 0 ↔ b = true) ∧ ((bitI 2 &&& (m8 a b c d e f g h ^^^ -1)) = 0 ↔ c = true) ∧ ((bitI 3 &&& (m8 a b c d e f g h ^^^ -1)) = 0 ↔ d = true) ∧ ((bitI 4 &&& (m8 a b c d e f g h ^^^ -1)) = 0 ↔ e = true) ∧ ((bitI 5 &&& (m8 a b c d e f g h ^^^ -1)) = 0 ↔ f = true) ∧ ((bitI 6 &&& (m8 a b c d e f g h ^^^ -1)) = 0 ↔ g = true) ∧ ((bitI 7 &&& (m8 a b c d e f g h ^^^ -1)) = 0 ↔ h = true) := by decide +kernel
theorem bit_nx (q : Nat → Bool) {b : Nat} (hb : b < 8) : (bitI b &&& (mk8 q ^^^ ((-1) : Int32))) = 0 ↔ q b = true := by
  have := m8_bn (q 0) (q 1) (q 2) (q 3) (q 4) (q 5) (q 6) (q 7)
  rw [← m8_eq] at this
  obtain ⟨h0, h1, h2, h3, h4, h5, h6, h7⟩ := this
  obtain rfl | rfl | rfl | rfl | rfl | rfl | rfl | rfl : b = 0 ∨ b = 1 ∨ b = 2 ∨ b = 3 ∨ b = 4 ∨ b = 5 ∨ b = 6 ∨ b = 7 := by omega
  all_goals assumption
theorem ripe_k {o : Option (List Cla)} {y f w : Int32} {D : Nat → Int32} {T : TT} {t b : Nat} (h : lyT T b) (k : Nat) : riB y (nxTs o y f w D k T t) b = true ↔ ¬ ldn f k (T b 3) t < y := by
  unfold riB
  rw [decide_eq_true_iff, nxTs_o (by decide) (by decide), nxTs_ld k T t h]
  exact ⟨fun z => z.2, fun z => ⟨h.1, z⟩⟩
theorem q_ripeIn (hi : Inv m) (x : Int32) : EQ m (fun m => fX10_ripeIn m x) (fun m => fX11_ripeIn m x) := by
  obtain ⟨W, H, P, ls, h⟩ := id hi
  have hs := see0 h
  by_cases hx : lyX (thc m 34) x
  · obtain ⟨h0, ex, hT5, htx⟩ := tx_b hx.1
    have hk := IA_known h hT5
    have hxr : lyX (thr m 623 0) x := by rw [hs.1]; exact hx
    have hl2 : ¬ tx (thc m 34) x 2 = -1 := hx.2
    rw [htx] at hl2
    have hf := c_findLying m x
    rw [if_pos hx] at hf
    generalize x.toNatClampNeg = b at ex hT5 htx hl2 hf
    subst ex
    have hb8 := (thc_5 hT5).1
    obtain ⟨o, t, ht, EC, ER⟩ := IA_env h hk
    have hkd : mm_kd (34 + b) = (9, 6) := kd_p hb8
    have hly : lyT (thc m 34) b := ⟨hT5, hl2⟩
    obtain ⟨m2, e2, f2⟩ := r_within (x := bitI b) ER (by omega)
    have ec := c_months (y := m.1 14 5) (f := m.1 14 6) rfl rfl EC.2.2.2.2.2.2.2.1 hT5
    refine ⟨fst1 (fun k => ¬ ldn (m.1 14 6) k (thc m 34 b 3) t < m.1 14 5) 99 0, m, m2, ?_, ?_, Inv_B f2 hi⟩
    · simp only [fX10_ripeIn, hf, Option.bind_some, if_pos hkd]
      refine bs ec ?_
      rfl
    · simp only [fX11_ripeIn, r_doesLie, if_pos hxr, Option.bind_some, if_neg (show ¬ (1 : Int32) = 0 by decide)]
      refine bs e2 ?_
      simp only [fX11_ripeIn_c19]
      rw [hs.1, hs.2.2.2.2.1, hs.2.2.2.2.2.1, hs.2.2.1]
      refine congrArg (fun v => some (v, m2)) (fst1_congr (fun k => ?_) _ _)
      exact (bit_nx _ hb8).trans (ripe_k hly k)
  · have hxr : ¬ lyX (thr m 623 0) x := by rw [hs.1]; exact hx
    refine EQ_0 (v := -1) hi ?_ ?_
    · simp only [fX10_ripeIn, c_findLying, if_neg hx, Option.bind_some, fX10_ripeIn_c22]
    · simp only [fX11_ripeIn, r_doesLie, if_neg hxr, Option.bind_some, if_true, fX11_ripeIn_c19]
end RIP
