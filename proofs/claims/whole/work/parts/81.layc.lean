/-! LAYING, the class: rooms, gains, all things -/
section LYC
variable {m m1 : mm_MM} {W H : Nat} {P : List Vw} {ls : Nat → List Cla}
def WPn : Nat → Nat → Bool := fun a k => WG a k || (a == 584 && k == 4) || a == 585 || a == 586 || a == 587 || a == 588
theorem WPn_Q : ∀ a k, WQ a k = false → WPn a k = false := by
  intro a k z
  have h1 := WG_Q a k z
  cases hb : WPn a k with
  | false => rfl
  | true =>
    have : WQ a k = true := by
      simp only [WPn, h1, Bool.false_or, Bool.and_eq_true, Bool.or_eq_true, beq_iff_eq] at hb
      rcases hb with (((⟨rfl, rfl⟩ | rfl) | rfl) | rfl) | rfl
      · simp [WQ]
      · simp [WQ, show Nat.ble 585 585 = true from rfl, show Nat.blt 585 589 = true from rfl]
      · simp [WQ, show Nat.ble 585 586 = true from rfl, show Nat.blt 586 589 = true from rfl]
      · simp [WQ, show Nat.ble 585 587 = true from rfl, show Nat.blt 587 589 = true from rfl]
      · simp [WQ, show Nat.ble 585 588 = true from rfl, show Nat.blt 588 589 = true from rfl]
    rw [this] at z; cases z
theorem WPn_f {a k : Nat} (h : a < 583 ∨ 606 ≤ a) : WPn a k = false := by
  have h1 : WG a k = false := h.elim WG_lo WG_hi
  cases hb : WPn a k with
  | false => rfl
  | true =>
    simp only [WPn, h1, Bool.false_or, Bool.and_eq_true, Bool.or_eq_true, beq_iff_eq] at hb
    omega
theorem WPn_G : ∀ a k, WPn a k = false → WG a k = false := by
  intro a k h
  simp only [WPn, Bool.or_eq_false_iff] at h
  exact h.1.1.1.1.1
theorem WPn_o (h : only585 m m1) : fr WPn m m1 := ⟨fun a k _ => by rw [h.1], fun a k z => h.2 a k (fun e => by subst e; simp [WPn] at z)⟩
theorem HoldC_Pn {o : Option (List Cla)} (hf : fr WPn m m1) (h : HoldC m o) : HoldC m1 o := HoldC_fr (W := WPn) (WPn_f (by decide)) (fun h k hh => by
    have h1 := WG_1 h k hh
    cases hb : WPn (595 + 3 * h) k with
    | false => rfl
    | true =>
      simp only [WPn, h1, Bool.false_or, Bool.and_eq_true, Bool.or_eq_true, beq_iff_eq] at hb
      omega) (fun h hh => by
    have h1 := WG_2 h hh
    cases hb : WPn (594 + 3 * h) 2 with
    | false => rfl
    | true =>
      simp only [WPn, h1, Bool.false_or, Bool.and_eq_true, Bool.or_eq_true, beq_iff_eq] at hb
      omega) hf h
/-! how many, as a number -/
def cnK (p : Nat → Bool) : Nat → Nat → Nat → Nat
  | 0, _, a => a
  | n + 1, b, a => cnK p n (b + 1) (if p b = true then a + 1 else a)
theorem cnK_le (p : Nat → Bool) : ∀ n b a, cnK p n b a ≤ a + n
  | 0, _, _ => Nat.le_refl _
  | n + 1, b, a => by
    rw [cnK]
    by_cases c : p b = true
    · rw [if_pos c]; have := cnK_le p n (b + 1) (a + 1); omega
    · rw [if_neg c]; have := cnK_le p n (b + 1) a; omega
theorem c_cntL_l (m : mm_MM) (hw : ¬ m.1 14 3 ≤ 0) (r : Int32) : ∀ (n b a f : Nat), b + n = 8 → n < f → fX10_countLyingIn_c4 f m r (Int32.ofNat a) (Int32.ofNat b) = some (Int32.ofNat (cnK (rwB (m.1 14 3) (thc m 34) r) n b a), m) := by
  intro n
  induction n with
  | zero =>
    intro b a f hb hf
    obtain ⟨f, rfl⟩ : ∃ g, f = g + 1 := ⟨f - 1, by omega⟩
    obtain rfl : b = 8 := by omega
    rfl
  | succ n ih =>
    intro b a f hb hf
    obtain ⟨f, rfl⟩ : ∃ g, f = g + 1 := ⟨f - 1, by omega⟩
    have hb8 : b < 8 := by omega
    have hi := fun a => ih (b + 1) a f (by omega) (by omega)
    rw [fX10_countLyingIn_c4, cnK]
    dsimp only
    rw [if_pos (nn_ll 8 hb8 (by decide)), c_findLying_n m hb8]
    simp only [Option.bind_some, fX10_countLyingIn_c44, nn_s]
    by_cases h : lyT (thc m 34) b
    · have hkd : mm_kd (34 + b) = (9, 6) := kd_p hb8
      rw [if_pos h]
      simp only [if_pos hkd, c_rowOf m hw, Option.bind_some]
      rw [← thc_k h.1 (show 2 < 5 by decide)]
      by_cases c : thc m 34 b 2 / m.1 14 3 = r
      · rw [if_pos c, show rwB (m.1 14 3) (thc m 34) r b = true from decide_eq_true ⟨h, c⟩, if_pos rfl]
        exact hi _
      · rw [if_neg c, show rwB (m.1 14 3) (thc m 34) r b = false from decide_eq_false (fun z => c z.2), if_neg Bool.false_ne_true]
        exact hi _
    · rw [if_neg h, show rwB (m.1 14 3) (thc m 34) r b = false from decide_eq_false (fun z => h z.1), if_neg Bool.false_ne_true]
      exact hi _
theorem room_n : ∀ w, w < 7 → ∀ c, c < 9 → ma 0 (mi 6 (Int32.ofNat w - Int32.ofNat c)) = Int32.ofNat (w - c) := by decide +kernel
/-- rooms -/
def rmP (W H : Nat) (T : TT) (r : Nat) : Nat := if r < H then W - cnK (rwB (Int32.ofNat W) T (Int32.ofNat r)) 8 0 0 else 0
theorem rmP_6 (hW : W ≤ 6) (T : TT) (r : Nat) : rmP W H T r ≤ 6 := by
  unfold rmP
  by_cases c : r < H
  · rw [if_pos c]; omega
  · rw [if_neg c]; omega
theorem c_setRoom (m : mm_MM) {r w c : Nat} (hr : r < 4) (hw : w < 7) (hc : c < 9) : fX4_setRoom m (Int32.ofNat r) (Int32.ofNat w - Int32.ofNat c) = some (wI m 586 r (Int32.ofNat (w - c))) := by
  unfold fX4_setRoom
  rw [j_min]
  simp only [Option.bind_some, j_max, room_n w hw c hc, c_place_n m 586 _ (n := 4) rfl (by decide) hr]
theorem c_plBegin_l : ∀ (n i g : Nat) (m : mm_MM), i + n = 4 → n < g → (∀ r, r < i → m.1 586 r = 0) → ∃ m', fX4_begin_c2 g m (Int32.ofNat i) = some m' ∧ (∀ r, r < 4 → m'.1 586 r = 0) ∧ (∀ a k, ¬ a = 586 → m'.1 a k = m.1 a k) ∧ m'.2 = m.2 := by
  intro n
  induction n with
  | zero =>
    intro i g m hi hg h
    obtain ⟨g, rfl⟩ : ∃ h, g = h + 1 := ⟨g - 1, by omega⟩
    obtain rfl : i = 4 := by omega
    refine ⟨m, ?_, h, fun _ _ _ => rfl, rfl⟩
    rw [fX4_begin_c2]
    exact if_neg (by decide)
  | succ n ih =>
    intro i g m hi hg h
    obtain ⟨g, rfl⟩ : ∃ h, g = h + 1 := ⟨g - 1, by omega⟩
    obtain ⟨m', e, h1, h2, h3⟩ := ih (i + 1) g (wI m 586 i 0) (by omega) (by omega) (fun r hr => by
      by_cases c : r = i
      · subst c; rw [wI_eq]
      · rw [wI_nk c]; exact h r (by omega))
    refine ⟨m', ?_, h1, fun a k z => (h2 a k z).trans (wI_ne z), h3⟩
    rw [fX4_begin_c2]
    dsimp only
    rw [if_pos (show Int32.ofNat i < 4 from (nn_lt (k := 4) (by omega) (by decide)).mpr (by omega)), c_place_n m 586 _ (n := 4) rfl (by decide) (by omega)]
    simp only [Option.bind_some, nn_s]
    exact e
/-- marks anew -/
theorem c_open2_l : ∀ (n l g : Nat) (m : mm_MM), l + n = 2401 → n < g → (∀ j, j < l → m.2 585 j = Int64.ofInt (-1000000000000000)) → ∃ m', fX4_open_c51 g m (Int32.ofNat l) = some m' ∧ only585 m m' ∧ ∀ j, j < 2401 → m'.2 585 j = Int64.ofInt (if j = 0 then 0 else -1000000000000000) := by
  intro n
  induction n with
  | zero =>
    intro l g m hl hg h
    obtain ⟨g, rfl⟩ : ∃ h, g = h + 1 := ⟨g - 1, by omega⟩
    obtain rfl : l = 2401 := by omega
    refine ⟨wL m 585 0 0, ?_, only_wL, fun j hj => ?_⟩
    · rw [fX4_open_c51]
      dsimp only
      rw [if_neg (show ¬ Int32.ofNat 2401 < 2401 by decide)]
      exact bs (show fX4_setMark m 0 0 = some (wL m 585 0 0) from c_setMark m (l := 0) 0 (by decide)) rfl
    · by_cases c : j = 0
      · subst c; rw [wLq, if_pos rfl]; rfl
      · rw [wLnk c, if_neg c]; exact h j hj
  | succ n ih =>
    intro l g m hl hg h
    obtain ⟨g, rfl⟩ : ∃ h, g = h + 1 := ⟨g - 1, by omega⟩
    obtain ⟨m', e, o, h'⟩ := ih (l + 1) g (wL m 585 l (Int64.ofInt (-1000000000000000))) (by omega) (by omega) (fun j hj => by
      by_cases c : j = l
      · subst c; rw [wLq]
      · rw [wLnk c]; exact h j (by omega))
    refine ⟨m', ?_, only_trans only_wL o, h'⟩
    rw [fX4_open_c51]
    dsimp only
    rw [if_pos (show Int32.ofNat l < 2401 from (nn_lt (k := 2401) (by omega) (by decide)).mpr (by omega)), nn_go (by omega) (by omega), nn_tn (by omega), nn_s]
    exact e
theorem c_open1_l {R : Nat → Nat} (hR : ∀ r, R r ≤ 6) : ∀ (n i g : Nat) (m : mm_MM), i + n = 4 → n < g → m.1 584 4 = Int32.ofNat (unR R i) → (∀ r, r < 4 → m.1 586 r = Int32.ofNat (R r)) → (∀ r, r < i → m.1 587 r = Int32.ofNat (unR R r)) → ∃ m', fX4_open_c7 g m (Int32.ofNat i) = some m' ∧ PlC m' R ∧ (∀ a k, ¬ (a = 584 ∧ k = 4) → ¬ a = 587 → m'.1 a k = m.1 a k) ∧ (∀ a k, ¬ a = 585 → m'.2 a k = m.2 a k) ∧ ∀ j, j < 2401 → m'.2 585 j = Int64.ofInt (if j = 0 then 0 else -1000000000000000) := by
  intro n
  induction n with
  | zero =>
    intro i g m hi hg h4 h6 h7
    obtain ⟨g, rfl⟩ : ∃ h, g = h + 1 := ⟨g - 1, by omega⟩
    obtain rfl : i = 4 := by omega
    obtain ⟨m', e, o, h'⟩ := c_open2_l 2401 0 fu m (by omega) (by unfold fu; omega) (fun j hj => by omega)
    refine ⟨m', ?_, PlC_o o ⟨h4, h6, h7⟩, fun a k _ _ => by rw [o.1], o.2, h'⟩
    rw [fX4_open_c7]
    dsimp only
    rw [if_neg (show ¬ Int32.ofNat 4 < 4 by decide)]
    exact e
  | succ n ih =>
    intro i g m hi hg h4 h6 h7
    obtain ⟨g, rfl⟩ : ∃ h, g = h + 1 := ⟨g - 1, by omega⟩
    have hi4 : i < 4 := by omega
    obtain ⟨m', e, hP, f1, f2, h'⟩ := ih (i + 1) g (wI (wI m 587 i (Int32.ofNat (unR R i))) 584 4 (Int32.ofNat (unR R (i + 1)))) (by omega) (by omega) wI_eq (fun r hr => by rw [wI_ne (by decide), wI_ne (by decide)]; exact h6 r hr) (fun r hr => by
      rw [wI_ne (by decide)]
      by_cases c : r = i
      · subst c; rw [wI_eq]
      · rw [wI_nk c]; exact h7 r (by omega))
    refine ⟨m', ?_, hP, fun a k z1 z2 => (f1 a k z1 z2).trans (by rw [wI_1, if_neg z1, wI_ne z2]), f2, h'⟩
    rw [fX4_open_c7]
    dsimp only
    rw [if_pos (show Int32.ofNat i < 4 from (nn_lt (k := 4) (by omega) (by decide)).mpr hi4), c_place_n m 587 _ (n := 4) rfl (by decide) hi4]
    simp only [Option.bind_some, c_pick_n _ 586 (n := 4) rfl (by decide) hi4]
    rw [wI_ne (show ¬ 584 = 587 by decide), wI_ne (show ¬ 586 = 587 by decide), h4, h6 i hi4, nn_s, nn_s, ← Int32.ofNat_mul]
    exact e
theorem c_rooms_l {x1 x2 : Int32} (hL : okL W H) : ∀ (n r g : Nat) (m : mm_MM), r + n = H → n < g → m.1 14 3 = Int32.ofNat W → m.1 14 4 = Int32.ofNat H → (∀ i, i < 4 → m.1 586 i = Int32.ofNat (if i < r then rmP W H (thc m 34) i else 0)) → ∃ m', fX10_laying_c38 g m x1 x2 (Int32.ofNat r) = fX10_laying_c85 fu m' x1 x2 0 ∧ PlC m' (rmP W H (thc m 34)) ∧ (∀ a k, ¬ (a = 584 ∧ k = 4) → ¬ a = 586 → ¬ a = 587 → m'.1 a k = m.1 a k) ∧ (∀ a k, ¬ a = 585 → m'.2 a k = m.2 a k) ∧ ∀ j, j < 2401 → m'.2 585 j = Int64.ofInt (if j = 0 then 0 else -1000000000000000) := by
  obtain ⟨l1, l2, l3, l4⟩ := hL
  intro n
  induction n with
  | zero =>
    intro r g m hr hg e3 e4 h6
    obtain ⟨g, rfl⟩ : ∃ h, g = h + 1 := ⟨g - 1, by omega⟩
    obtain rfl : r = H := by omega
    obtain ⟨m', e, hP, f1, f2, h'⟩ := c_open1_l (R := rmP W r (thc m 34)) (rmP_6 l2 _) 4 0 fu (wI m 584 4 1) rfl (by decide) wI_eq (fun i hi => by
      rw [wI_ne (by decide), h6 i hi]
      by_cases c : i < r
      · rw [if_pos c]
      · rw [if_neg c]; unfold rmP; rw [if_neg c]) (fun i hi => by omega)
    refine ⟨m', ?_, hP, fun a k z1 z2 z3 => (f1 a k z1 z3).trans (by rw [wI_1, if_neg z1]), f2, h'⟩
    rw [fX10_laying_c38]
    dsimp only
    rw [e4, if_neg (fun z => Nat.lt_irrefl _ ((nn_lt (by omega) (by omega)).mp z))]
    exact bs (show fX4_open m = some m' from e) rfl
  | succ n ih =>
    intro r g m hr hg e3 e4 h6
    obtain ⟨g, rfl⟩ : ∃ h, g = h + 1 := ⟨g - 1, by omega⟩
    have hw : ¬ m.1 14 3 ≤ 0 := by
      rw [e3, show (0 : Int32) = Int32.ofNat 0 from rfl, nn_le (by omega) (by decide)]; omega
    have hcn := cnK_le (rwB (Int32.ofNat W) (thc m 34) (Int32.ofNat r)) 8 0 0
    have ec : fX10_countLyingIn m (Int32.ofNat r) = some (Int32.ofNat (cnK (rwB (Int32.ofNat W) (thc m 34) (Int32.ofNat r)) 8 0 0), m) := by
      have := c_cntL_l m hw (Int32.ofNat r) 8 0 0 fu rfl (by decide)
      rw [e3] at this
      exact this
    have hT : ∀ v, thc (wI m 586 r v) 34 = thc m 34 := fun v => thc_congr (fun b hb k hk => wI_ne (by omega))
    obtain ⟨m', e, hP, f1, f2, h'⟩ := ih (r + 1) g (wI m 586 r (Int32.ofNat (W - cnK (rwB (Int32.ofNat W) (thc m 34) (Int32.ofNat r)) 8 0 0))) (by omega) (by omega) ((wI_ne (by decide)).trans e3) ((wI_ne (by decide)).trans e4) (fun i hi => by
      rw [hT]
      by_cases c : i = r
      · subst c
        rw [wI_eq, if_pos (by omega)]
        unfold rmP
        rw [if_pos (by omega)]
      · rw [wI_nk c, h6 i hi]
        by_cases c2 : i < r
        · rw [if_pos c2, if_pos (by omega)]
        · rw [if_neg c2, if_neg (by omega)])
    rw [hT] at hP
    refine ⟨m', ?_, hP, fun a k z1 z2 z3 => (f1 a k z1 z2 z3).trans (wI_ne z2), f2, h'⟩
    rw [fX10_laying_c38]
    dsimp only
    rw [e4, if_pos ((nn_lt (by omega) (by omega)).mpr (by omega)), ec]
    simp only [Option.bind_some]
    rw [e3, c_setRoom m (by omega) (by omega) (by omega)]
    simp only [Option.bind_some, nn_s]
    exact e
/-! gains -/
theorem c_alone2 {o : Option (List Cla)} {u N t : Nat} (hu : u < 583) (ho : HoldC m o) (hy : ¬ m.1 14 5 ≤ 0) {j : Int32} (hj : 0 ≤ j ∧ j ≤ 9) (h0 : 0 ≤ m.1 u 1 ∧ m.1 u 1 ≤ 200) (h1 : 0 ≤ m.1 u 2 ∧ m.1 u 2 ≤ 5) (h3 : 0 ≤ m.1 u 4 ∧ m.1 u 4 ≤ 99) (hN : N ≤ 99) (ht : t < 10000) :
    ∃ m', fX10_valueAlone m u j (Int32.ofNat t) (Int32.ofNat N) = some ((it o (m.1 14 5) (m.1 14 6) (m.1 u 2) j 0 N (m.1 u 1, m.1 u 4, t)).1, m') ∧ fr WG m m' := by
  have hu' : ¬ u = 583 := by omega
  generalize hm1 : wI (wI (wI (wI (wI (wI m 583 0 (m.1 u 1)) 583 1 (m.1 u 2)) 583 2 (m.1 u 4)) 583 3 j) 583 4 0) 583 5 (Int32.ofNat t) = m1
  have e1 : fX0_begin m u j (Int32.ofNat t) = some m1 := by
    unfold fX0_begin
    rw [wI_ne hu', wI_ne hu', wI_ne hu', hm1]
  have f1 : fr WG m m1 := by
    rw [← hm1]
    refine fr_wI (fr_wI (fr_wI (fr_wI (fr_wI (fr_wI (fr_refl _ _) ?_) ?_) ?_) ?_) ?_) ?_ <;> simp [WG]
  have g1 : GS m1 (m.1 u 2) j 0 (m.1 u 1, m.1 u 4, t) := by
    rw [← hm1]
    refine ⟨?_, ?_, ?_, ?_, ?_, ?_⟩ <;> simp [wI_1]
  have e5 : m1.1 14 5 = m.1 14 5 := f1.1 14 5 (WG_lo (by decide))
  have e6 : m1.1 14 6 = m.1 14 6 := f1.1 14 6 (WG_lo (by decide))
  obtain ⟨m2, e2, g2, f2⟩ := c_grow (N := N) (by omega) (HoldC_WG f1 ho) (by rw [e5]; exact hy) ⟨h1, hj, by decide, by decide⟩ ⟨h0, h3⟩ g1 (show t < 10000 by omega)
  refine ⟨m2, ?_, fr_trans f1 f2⟩
  unfold fX10_valueAlone
  refine bs e1 ?_
  refine bs e2 ?_
  rw [g2.1, e5, e6]
/-! what both sides reckon with -/
def frP (T : TT) (b : Nat) : Bool := decide (T b 5 = 1 ∧ T b 2 = -1)
def vI0 (T : TT) (b : Nat) : Nat := (T b 0).toNatClampNeg
def VI (o : Option (List Cla)) (y f : Int32) (D : Nat → Int32) (N : Nat) (T : TT) (t b r : Nat) : Int32 := (it o y f (T b 1) (D r) 0 N (T b 0, T b 3, t)).1
def VN (o : Option (List Cla)) (y f : Int32) (D : Nat → Int32) (N : Nat) (T : TT) (t b r : Nat) : Nat := (VI o y f D N T t b r).toNatClampNeg
def cLP (T : TT) (b : Nat) : Int := 100000000 * (vI0 T b : Int) - 9 * dgI b
def cPP (b : Nat) : Int := 9 * dgI b
def cRP (V : Nat → Nat → Nat) (b r : Nat) : Int := 100000000 * (V b r : Int) - (r : Int) * dgI b
def TZ (T : TT) : Prop := ∀ b k, ¬ T b 5 = 1 → T b k = 0
theorem T_bd {T : TT} (hT : TB W H T) (hz : TZ T) (b t : Nat) : bdQ (T b 0, T b 3, t) := by
  by_cases c : T b 5 = 1
  · exact ⟨(hT b c).1, (hT b c).2.2.2.1⟩
  · rw [hz b 0 c, hz b 3 c]; exact ⟨⟨show (0 : Int32) ≤ 0 by decide, show (0 : Int32) ≤ 200 by decide⟩, show (0 : Int32) ≤ 0 by decide, show (0 : Int32) ≤ 99 by decide⟩
theorem bd_n {x : Int32} (h : 0 ≤ x ∧ x ≤ 200) : x = Int32.ofNat x.toNatClampNeg ∧ x.toNatClampNeg ≤ 200 :=
  ⟨nn_of (Int32.not_lt.mpr h.1), (nn_lek (k := 200) (Int32.not_lt.mpr h.1) (by decide)).mp h.2⟩
theorem VN_b {o : Option (List Cla)} {y f : Int32} {D : Nat → Int32} {N : Nat} {T : TT} (hT : TB W H T) (hz : TZ T) (t b r : Nat) : VI o y f D N T t b r = Int32.ofNat (VN o y f D N T t b r) ∧ VN o y f D N T t b r ≤ 200 := bd_n (bdQ_it o y f (T b 1) (D r) 0 N (T_bd hT hz b t)).1
theorem vI_b {T : TT} (hT : TB W H T) (hz : TZ T) (b : Nat) : T b 0 = Int32.ofNat (vI0 T b) ∧ vI0 T b ≤ 200 := bd_n (T_bd hT hz b 0).1
theorem cOk_P {T : TT} (hT : TB W H T) (hz : TZ T) {V : Nat → Nat → Nat} (hV : ∀ b r, V b r ≤ 200) : cOk (cLP T) cPP (cRP V) := by
  intro b hb
  have h1 := (vI_b hT hz b).2
  have h2 := dgI_b b
  refine ⟨?_, ?_, fun r hr => ?_⟩
  · unfold cLP; omega
  · unfold cPP; omega
  · have := rdg_b (b := b) hr
    have := hV b r
    unfold cRP; omega
/-- the plan's worth as a sum less a row of digits -/
theorem plB_sr {T : TT} (hT : TB W H T) (hz : TZ T) {V : Nat → Nat → Nat} (hV : ∀ b r, V b r ≤ 200) : ∀ (k : Nat) (R : Nat → Nat), k ≤ 8 → ∃ s r : Nat, plB (frP T) (cLP T) cPP (cRP V) k R = 100000000 * (s : Int) - r ∧ r < 10 ^ k ∧ s ≤ 200 * k
  | 0, _, _ => ⟨0, 0, by rw [plB]; rfl, by decide, by decide⟩
  | k + 1, R, hk => by
    have hd : dgI (7 - k) = ((10 ^ k : Nat) : Int) := by
      unfold dgI
      rw [show 7 - (7 - k) = k by omega]
      exact (Int.natCast_pow 10 k).symm
    have hp : 10 ^ (k + 1) = 10 * 10 ^ k := by rw [Nat.pow_succ]; omega
    have hv := (vI_b hT hz (7 - k)).2
    rw [plB]
    by_cases c : frP T (7 - k) = true
    · rw [if_pos c]
      rcases plR_or (fun r => cRP V (7 - k) r + plB (frP T) (cLP T) cPP (cRP V) k (dcR R r)) R 4 0 (cLP T (7 - k) + plB (frP T) (cLP T) cPP (cRP V) k R) with e | ⟨j, j1, j2, j3, e⟩
      · obtain ⟨s, r, h1, h2, h3⟩ := plB_sr hT hz hV k R (by omega)
        refine ⟨vI0 T (7 - k) + s, 9 * 10 ^ k + r, ?_, by omega, by omega⟩
        rw [e, h1]; unfold cLP; rw [hd]; omega
      · obtain ⟨s, r, h1, h2, h3⟩ := plB_sr hT hz hV k (dcR R j) (by omega)
        have hVj := hV (7 - k) j
        have hj : j * 10 ^ k ≤ 3 * 10 ^ k := Nat.mul_le_mul_right _ (by omega)
        refine ⟨V (7 - k) j + s, j * 10 ^ k + r, ?_, by omega, by omega⟩
        rw [e, h1]; unfold cRP; rw [hd]
        rw [Int.natCast_add, Int.natCast_add, Int.natCast_mul]
        omega
    · rw [if_neg c]
      obtain ⟨s, r, h1, h2, h3⟩ := plB_sr hT hz hV k R (by omega)
      refine ⟨s, 9 * 10 ^ k + r, ?_, by omega, by omega⟩
      rw [h1]; unfold cPP; rw [hd]; omega
end LYC
