/-! LAYING, the reference: the rows of numbers, all ways tried; both alike -/
section LYQ
variable {m m1 : mm_MM} {W H : Nat} {P : List Vw} {ls : Nat → List Cla}
/-- what is laid, for the places before b -/
def ldR (m : mm_MM) (T : TT) (H : Nat) (Vv : Nat → Nat → Int32) (b : Nat) : Prop := ∀ i, i < b → T i 5 = 1 → (∀ r, r < H → m.1 628 (5 * i + r) = Vv i r) ∧ m.1 628 (5 * i + 4) = T i 0
theorem r_lay10_l {m0 : mm_MM} {o : Option (List Cla)} {t b N : Nat} (E : EnvR m0 W H o t) (hb : b < 8) (h5 : thr m0 623 0 b 5 = 1) (hN : N ≤ 24) (ht : t + N < 10000) (kr2 : mm_MM → Int32 → Int32 → Option mm_MM) : ∀ (n r g : Nat) (m : mm_MM), r + n = H → n < g → frS m0 m → ldR m (thr m0 623 0) H (VI o (m0.1 620 2) (m0.1 620 3) (m0.1 621) N (thr m0 623 0) t) b → (∀ i, i < r → m.1 628 (5 * b + i) = VI o (m0.1 620 2) (m0.1 620 3) (m0.1 621) N (thr m0 623 0) t b i) → ∃ m', fX11_layLaid_c10 kr2 g m (Int32.ofNat N) (Int32.ofNat b) (Int32.ofNat r) = kr2 m' (Int32.ofNat N) (Int32.ofNat (b + 1)) ∧ frS m0 m' ∧ ldR m' (thr m0 623 0) H (VI o (m0.1 620 2) (m0.1 620 3) (m0.1 621) N (thr m0 623 0) t) (b + 1) := by
  have h4 := E.1.2.2.2
  intro n
  induction n with
  | zero =>
    intro r g m hr hg hf hl hv
    obtain ⟨g, rfl⟩ : ∃ h, g = h + 1 := ⟨g - 1, by omega⟩
    obtain rfl : r = H := by omega
    have e1 : m.1 620 1 = Int32.ofNat r := (hf.1 620 1 (by unfold scr; omega)).trans E.2.2.1
    refine ⟨wI m 628 (5 * b + 4) (m.1 623 (6 * b + 0)), ?_, frS_trans hf (frS_wI (by unfold scr; omega)), fun i hi hi5 => ?_⟩
    · rw [fX11_layLaid_c10]
      dsimp only
      rw [e1, if_neg (fun z => Nat.lt_irrefl _ ((nn_lt (by omega) (by omega)).mp z))]
      unfold fX11_layLaid_c98
      have ei : 5 * Int32.ofNat b + 4 = Int32.ofNat (5 * b + 4) := by rw [Int32.ofNat_add, Int32.ofNat_mul]; rfl
      refine bs (r_of0 m hb) ?_
      rw [ei, nn_go (by omega) (by omega), nn_tn (by omega), nn_s]
    · by_cases c : i = b
      · subst c
        refine ⟨fun j hj => by rw [wI_nk (by omega)]; exact hv j hj, ?_⟩
        rw [wI_eq, hf.1 623 _ (by unfold scr; omega), thr_k0 hi5 (by decide)]
      · have := hl i (by omega) hi5
        exact ⟨fun j hj => by rw [wI_nk (by omega)]; exact this.1 j hj, by rw [wI_nk (by omega)]; exact this.2⟩
  | succ n ih =>
    intro r g m hr hg hf hl hv
    obtain ⟨g, rfl⟩ : ∃ h, g = h + 1 := ⟨g - 1, by omega⟩
    have e1 : m.1 620 1 = Int32.ofNat H := (hf.1 620 1 (by unfold scr; omega)).trans E.2.2.1
    have hT := frS_T hf
    obtain ⟨m2, e2, v2, k2, f2⟩ := r_one (N := N) (EnvR_S hf E) (by rw [hT]; exact h5) (show r < H by omega) hN ht kr2 (fX11_layLaid_c10 kr2 g)
    have e20 : ∀ k, m.1 620 k = m0.1 620 k := fun k => hf.1 620 k (by unfold scr; omega)
    have e21 : m.1 621 = m0.1 621 := funext fun k => hf.1 621 k (by unfold scr; omega)
    rw [hT, e20, e20, e21] at v2
    obtain ⟨m3, e3, f3, l3⟩ := ih (r + 1) g m2 (by omega) (by omega) (frS_trans hf f2) (fun i hi hi5 => by
      have := hl i hi hi5
      exact ⟨fun j hj => by rw [k2 _ (by omega)]; exact this.1 j hj, by rw [k2 _ (by omega)]; exact this.2⟩) (fun i hi => by
      by_cases c : i = r
      · subst c; exact v2
      · rw [k2 _ (by omega)]; exact hv i (by omega))
    refine ⟨m3, ?_, f3, l3⟩
    rw [fX11_layLaid_c10]
    dsimp only
    rw [e1, if_pos ((nn_lt (by omega) (by omega)).mpr (by omega)), r_isThere_n m hb, hT, if_pos h5]
    simp only [Option.bind_some, if_neg (show ¬ (1 : Int32) = 0 by decide)]
    exact Eq.trans e2 e3
theorem r_lay2_l {m0 : mm_MM} {o : Option (List Cla)} {t N : Nat} (E : EnvR m0 W H o t) (hN : N ≤ 24) (ht : t + N < 10000) : ∀ (n b g : Nat) (m : mm_MM), b + n = 8 → n < g → frS m0 m → ldR m (thr m0 623 0) H (VI o (m0.1 620 2) (m0.1 620 3) (m0.1 621) N (thr m0 623 0) t) b → ∃ m', fX11_layLaid_c2 g m (Int32.ofNat N) (Int32.ofNat b) = fX11_layLaid_c122 fu m' 0 ∧ frS m0 m' ∧ ldR m' (thr m0 623 0) H (VI o (m0.1 620 2) (m0.1 620 3) (m0.1 621) N (thr m0 623 0) t) 8 := by
  have h4 := E.1.2.2.2
  have h1 := E.1.2.2.1
  intro n
  induction n with
  | zero =>
    intro b g m hb hg hf hl
    obtain ⟨g, rfl⟩ : ∃ h, g = h + 1 := ⟨g - 1, by omega⟩
    obtain rfl : b = 8 := by omega
    refine ⟨m, ?_, hf, hl⟩
    rw [fX11_layLaid_c2]
    exact if_neg (by decide)
  | succ n ih =>
    intro b g m hb hg hf hl
    obtain ⟨g, rfl⟩ : ∃ h, g = h + 1 := ⟨g - 1, by omega⟩
    have hb8 : b < 8 := by omega
    have hT := frS_T hf
    rw [fX11_layLaid_c2]
    dsimp only
    rw [if_pos (nn_ll 8 hb8 (by decide))]
    by_cases h5 : thr m0 623 0 b 5 = 1
    · obtain ⟨m2, e2, f2, l2⟩ := r_lay10_l E hb8 h5 hN ht (fX11_layLaid_c2 g) H 0 fu m (by omega) (by unfold fu; omega) hf hl (fun i hi => by omega)
      obtain ⟨m3, e3, f3, l3⟩ := ih (b + 1) g m2 (by omega) (by omega) f2 l2
      exact ⟨m3, Eq.trans e2 e3, f3, l3⟩
    · have e1 : m.1 620 1 = Int32.ofNat H := (hf.1 620 1 (by unfold scr; omega)).trans E.2.2.1
      have sc : scr 628 (5 * b + 4) := by unfold scr; omega
      obtain ⟨m3, e3, f3, l3⟩ := ih (b + 1) g (wI m 628 (5 * b + 4) (m.1 623 (6 * b + 0))) (by omega) (by omega) (frS_trans hf (frS_wI sc)) (fun i hi hi5 => by
        have c : ¬ i = b := fun e => h5 (by rw [← e]; exact hi5)
        have := hl i (by omega) hi5
        exact ⟨fun j hj => by rw [wI_nk (by omega)]; exact this.1 j hj, by rw [wI_nk (by omega)]; exact this.2⟩)
      refine ⟨m3, ?_, f3, l3⟩
      obtain ⟨K, hK⟩ : ∃ K : Nat, fu = K + 1 := ⟨19999, rfl⟩
      rw [hK, fX11_layLaid_c10]
      dsimp only
      rw [e1, if_pos (show (0 : Int32) < Int32.ofNat H from (nn_lt (n := 0) (by omega) (by omega)).mpr (by omega)), r_isThere_n m hb8, hT, if_neg h5]
      simp only [Option.bind_some, if_true]
      unfold fX11_layLaid_c98
      have ei : 5 * Int32.ofNat b + 4 = Int32.ofNat (5 * b + 4) := by rw [Int32.ofNat_add, Int32.ofNat_mul]; rfl
      refine bs (r_of0 m hb8) ?_
      rw [ei, nn_go (by omega) (by omega), nn_tn (by omega), nn_s]
      rw [hK] at e3
      exact e3
/-! rooms -/
theorem r_lay122_l {m0 : mm_MM} (e0 : m0.1 620 0 = Int32.ofNat W) (e1 : m0.1 620 1 = Int32.ofNat H) (h4 : H ≤ 4) : ∀ (n r g : Nat) (m : mm_MM), r + n = H → n < g → (∀ a k, ¬ a = 629 → m.1 a k = m0.1 a k) → m.2 = m0.2 → (∀ i, i < r → m.1 629 i = Int32.ofNat W) → ∃ m', fX11_layLaid_c122 g m (Int32.ofNat r) = fX11_layLaid_c152 fu m' 0 ∧ (∀ a k, ¬ a = 629 → m'.1 a k = m0.1 a k) ∧ m'.2 = m0.2 ∧ ∀ i, i < H → m'.1 629 i = Int32.ofNat W := by
  intro n
  induction n with
  | zero =>
    intro r g m hr hg hf hl hv
    obtain ⟨g, rfl⟩ : ∃ h, g = h + 1 := ⟨g - 1, by omega⟩
    obtain rfl : r = H := by omega
    refine ⟨m, ?_, hf, hl, hv⟩
    rw [fX11_layLaid_c122]
    dsimp only
    rw [hf 620 1 (by decide), e1, if_neg (fun z => Nat.lt_irrefl _ ((nn_lt (by omega) (by omega)).mp z))]
  | succ n ih =>
    intro r g m hr hg hf hl hv
    obtain ⟨g, rfl⟩ : ∃ h, g = h + 1 := ⟨g - 1, by omega⟩
    obtain ⟨m', e, f, l, v⟩ := ih (r + 1) g (wI m 629 r (Int32.ofNat W)) (by omega) (by omega) (fun a k z => (wI_ne z).trans (hf a k z)) hl (fun i hi => by
      by_cases c : i = r
      · subst c; rw [wI_eq]
      · rw [wI_nk c]; exact hv i (by omega))
    refine ⟨m', ?_, f, l, v⟩
    rw [fX11_layLaid_c122]
    dsimp only
    rw [hf 620 1 (by decide), e1, if_pos ((nn_lt (by omega) (by omega)).mpr (by omega)), nn_go (by omega) (by omega), nn_tn (by omega), hf 620 0 (by decide), e0, nn_s]
    exact e
theorem cnK_acc (p : Nat → Bool) : ∀ n b a, cnK p n b a = a + cnK p n b 0
  | 0, _, _ => rfl
  | n + 1, b, a => by
    rw [cnK, cnK]
    by_cases c : p b = true
    · rw [if_pos c, if_pos c, cnK_acc p n (b + 1) (a + 1), cnK_acc p n (b + 1) (0 + 1)]; omega
    · rw [if_neg c, if_neg c, cnK_acc p n (b + 1) a]
theorem cnK_s (p : Nat → Bool) : ∀ n b, cnK p (n + 1) b 0 = cnK p n b 0 + if p (b + n) = true then 1 else 0
  | 0, b => by
    show (if p b = true then 0 + 1 else 0) = 0 + if p b = true then 1 else 0
    by_cases c : p b = true
    · simp [c]
    · simp [c]
  | n + 1, b => by
    rw [cnK, cnK_acc, cnK_s p n (b + 1), cnK, cnK_acc p n (b + 1) (if p b = true then 0 + 1 else 0), show b + 1 + n = b + (n + 1) by omega]
    omega
theorem r_lay152_l {m0 : mm_MM} {o : Option (List Cla)} {t : Nat} (E : EnvR m0 W H o t) : ∀ (n b g : Nat) (m : mm_MM), b + n = 8 → n < g → (∀ a k, ¬ a = 629 → m.1 a k = m0.1 a k) → m.2 = m0.2 → (∀ i, i < H → m.1 629 i = Int32.ofNat W - Int32.ofNat (cnK (rwB (Int32.ofNat W) (thr m0 623 0) (Int32.ofNat i)) b 0 0)) → ∃ m', fX11_layLaid_c152 g m (Int32.ofNat b) = some m' ∧ (∀ a k, ¬ a = 629 → m'.1 a k = m0.1 a k) ∧ m'.2 = m0.2 ∧ ∀ i, i < H → m'.1 629 i = Int32.ofNat W - Int32.ofNat (cnK (rwB (Int32.ofNat W) (thr m0 623 0) (Int32.ofNat i)) 8 0 0) := by
  have h4 := E.1.2.2.2
  intro n
  induction n with
  | zero =>
    intro b g m hb hg hf hl hv
    obtain ⟨g, rfl⟩ : ∃ h, g = h + 1 := ⟨g - 1, by omega⟩
    obtain rfl : b = 8 := by omega
    refine ⟨m, ?_, hf, hl, hv⟩
    rw [fX11_layLaid_c152]
    exact if_neg (by decide)
  | succ n ih =>
    intro b g m hb hg hf hl hv
    obtain ⟨g, rfl⟩ : ∃ h, g = h + 1 := ⟨g - 1, by omega⟩
    have hb8 : b < 8 := by omega
    have hT : thr m 623 0 = thr m0 623 0 := thr_now (fun k _ => hf 623 k (by decide))
    have e0 : m.1 620 0 = Int32.ofNat W := (hf 620 0 (by decide)).trans E.2.1
    have hwr : ¬ m.1 620 0 = 0 := by rw [hf 620 0 (by decide)]; exact EnvR_w E
    rw [fX11_layLaid_c152]
    dsimp only
    rw [if_pos (nn_ll 8 hb8 (by decide)), r_doesLie_n m hb8, hT]
    simp only [Option.bind_some, fX11_layLaid_c180, nn_s]
    by_cases h : lyT (thr m0 623 0) b
    · obtain ⟨Q, hQ, eQ, eR, hR⟩ := lyT_bd E.2.2.2.2.2.1 E.1 h
      rw [if_pos h, if_neg (by decide), r_rowOf m hb8 (by rw [hT]; exact h.1) hwr, hT, e0, eR]
      simp only [Option.bind_some]
      rw [nn_go (by omega) (by omega), nn_go (by omega) (by omega), nn_tn (show Q / W < 2 ^ 31 by omega)]
      refine ih (b + 1) g _ (by omega) (by omega) (fun a k z => (wI_ne z).trans (hf a k z)) hl (fun i hi => ?_)
      rw [cnK_s, Nat.zero_add]
      by_cases c : i = Q / W
      · subst c
        rw [wI_eq, hv _ hi, show rwB (Int32.ofNat W) (thr m0 623 0) (Int32.ofNat (Q / W)) b = true from decide_eq_true ⟨h, eR⟩, if_pos rfl, Int32.ofNat_add]
        show _ - 1 = _ - (_ + 1)
        grind
      · rw [wI_nk c, hv i hi, show rwB (Int32.ofNat W) (thr m0 623 0) (Int32.ofNat i) b = false from decide_eq_false (fun z => c (by
          have := z.2; rw [eR] at this; exact (nn_inj (by omega) (by omega) this).symm)), if_neg Bool.false_ne_true, Nat.add_zero]
    · rw [if_neg h, if_pos rfl]
      refine ih (b + 1) g m (by omega) (by omega) hf hl (fun i hi => ?_)
      rw [cnK_s, Nat.zero_add, show rwB (Int32.ofNat W) (thr m0 623 0) (Int32.ofNat i) b = false from decide_eq_false (fun z => h z.1), if_neg Bool.false_ne_true, Nat.add_zero]
      exact hv i hi
/-- room there: a number above 0, or none -/
def rmR (m : mm_MM) (H : Nat) (R : Nat → Nat) : Prop := ∀ i, i < H → (R i = 0 ∧ m.1 629 i ≤ 0) ∨ (0 < R i ∧ R i ≤ 6 ∧ m.1 629 i = Int32.ofNat (R i))
theorem room_r : ∀ w, w < 7 → ∀ c, c < 9 → (w - c = 0 ∧ Int32.ofNat w - Int32.ofNat c ≤ 0) ∨ (0 < w - c ∧ w - c ≤ 6 ∧ Int32.ofNat w - Int32.ofNat c = Int32.ofNat (w - c)) := by decide +kernel
/-! all ways tried -/
/-- the best so far -/
def bsR (m : mm_MM) (K : Option Int) : Prop := (K = none ∧ m.1 606 40 = -1) ∨ ∃ s r : Nat, K = some (100000000 * (s : Int) - r) ∧ r < 100000000 ∧ s ≤ 2000 ∧ m.1 606 39 = Int32.ofNat s ∧ m.1 606 40 = Int32.ofNat r
def mxO (K : Option Int) (x : Int) : Option Int := match K with
  | none => some x
  | some k => some (max k x)
theorem mxO_mx (K : Option Int) (x y : Int) : mxO (mxO K x) y = mxO K (max x y) := by
  cases K with
  | none => rfl
  | some k => exact congrArg some (by omega)
def frT (m m' : mm_MM) : Prop := (∀ a k, ¬ (a = 606 ∧ (k = 39 ∨ k = 40)) → m'.1 a k = m.1 a k) ∧ m'.2 = m.2
theorem frT_trans {a b c : mm_MM} (h : frT a b) (h' : frT b c) : frT a c := ⟨fun x k z => (h'.1 x k z).trans (h.1 x k z), h'.2.trans h.2⟩
theorem r_leaf {s r : Nat} (hr : r < 100000000) (hs : s ≤ 2000) {K : Option Int} (hK : bsR m K) (kB : mm_MM → Int32 → Int32 → Int32 → Option mm_MM) : ∃ m', fX11_tryLaying_b kB m (Int32.ofNat 8) (Int32.ofNat r) (Int32.ofNat s) = some m' ∧ bsR m' (mxO K (100000000 * (s : Int) - r)) ∧ frT m m' := by
  unfold fX11_tryLaying_b fX11_tryLaying_b_c38 fX11_tryLaying_b_c48
  rw [if_pos (show Int32.ofNat 8 = 8 from rfl)]
  have fw : frT m (wI (wI m 606 40 (Int32.ofNat r)) 606 39 (Int32.ofNat s)) := ⟨fun a k z => by rw [wI_1, if_neg (fun e => z ⟨e.1, Or.inl e.2⟩), wI_1, if_neg (fun e => z ⟨e.1, Or.inr e.2⟩)], rfl⟩
  have new : bsR (wI (wI m 606 40 (Int32.ofNat r)) 606 39 (Int32.ofNat s)) (some (100000000 * (s : Int) - r)) := Or.inr ⟨s, r, rfl, hr, hs, wI_eq, by rw [wI_nk (by decide), wI_eq]⟩
  rcases hK with ⟨rfl, h⟩ | ⟨s', r', rfl, hr', hs', h39, h40⟩
  · rw [if_pos h]
    exact ⟨_, rfl, new, fw⟩
  · have old : bsR m (some (100000000 * (s' : Int) - r')) := Or.inr ⟨s', r', rfl, hr', hs', h39, h40⟩
    rw [h39, h40, if_neg (ofN_ne (by omega))]
    by_cases c1 : s ≤ s'
    · rw [if_pos ((nn_le (by omega) (by omega)).mpr c1)]
      by_cases c2 : s = s'
      · rw [if_pos (congrArg Int32.ofNat c2)]
        by_cases c3 : r < r'
        · rw [if_pos ((nn_lt (by omega) (by omega)).mpr c3)]
          refine ⟨_, rfl, ?_, fw⟩
          rw [show mxO (some (100000000 * (s' : Int) - r')) (100000000 * (s : Int) - r) = some (100000000 * (s : Int) - r) from congrArg some (by omega)]
          exact new
        · rw [if_neg (fun z => c3 ((nn_lt (by omega) (by omega)).mp z))]
          refine ⟨_, rfl, ?_, fun _ _ _ => rfl, rfl⟩
          rw [show mxO (some (100000000 * (s' : Int) - r')) (100000000 * (s : Int) - r) = some (100000000 * (s' : Int) - r') from congrArg some (by omega)]
          exact old
      · rw [if_neg (fun z => c2 (nn_inj (by omega) (by omega) z))]
        refine ⟨_, rfl, ?_, fun _ _ _ => rfl, rfl⟩
        rw [show mxO (some (100000000 * (s' : Int) - r')) (100000000 * (s : Int) - r) = some (100000000 * (s' : Int) - r') from congrArg some (by omega)]
        exact old
    · rw [if_neg (fun z => c1 ((nn_le (by omega) (by omega)).mp z))]
      refine ⟨_, rfl, ?_, fw⟩
      rw [show mxO (some (100000000 * (s' : Int) - r')) (100000000 * (s : Int) - r) = some (100000000 * (s : Int) - r) from congrArg some (by omega)]
      exact new
/-- what a try stands on -/
def tyE (m : mm_MM) (T : TT) (H : Nat) (V : Nat → Nat → Nat) : Prop := thr m 623 0 = T ∧ m.1 620 1 = Int32.ofNat H ∧ (∀ b, b < 8 → T b 5 = 1 → (∀ r, r < H → m.1 628 (5 * b + r) = Int32.ofNat (V b r)) ∧ m.1 628 (5 * b + 4) = Int32.ofNat (vI0 T b))
theorem tyE_f {T : TT} {V : Nat → Nat → Nat} (h : ∀ a k, ¬ (a = 606 ∧ (k = 39 ∨ k = 40)) → ¬ a = 629 → m1.1 a k = m.1 a k) (hE : tyE m T H V) : tyE m1 T H V := by
  obtain ⟨h1, h2, h3⟩ := hE
  refine ⟨(thr_now (fun k _ => h 623 k (by omega) (by decide))).trans h1, (h 620 1 (by omega) (by decide)).trans h2, fun b hb h5 => ?_⟩
  obtain ⟨g1, g2⟩ := h3 b hb h5
  exact ⟨fun r hr => (h 628 _ (by omega) (by decide)).trans (g1 r hr), (h 628 _ (by omega) (by decide)).trans g2⟩
theorem r_try_l {T : TT} (hT : TB W H T) (hz : TZ T) (hH4 : H ≤ 4) {V : Nat → Nat → Nat} (hV : ∀ b r, V b r ≤ 200) : ∀ (k g row sum : Nat) (m : mm_MM) (R : Nat → Nat) (K : Option Int), k ≤ 8 → k < g → tyE m T H V → rmR m H R → (∀ r, H ≤ r → R r = 0) → bsR m K → row < 10 ^ (8 - k) → sum ≤ 200 * (8 - k) → ∃ m', fX11_tryLaying g m (Int32.ofNat (8 - k)) (Int32.ofNat row) (Int32.ofNat sum) = some m' ∧ bsR m' (mxO K (100000000 * (sum : Int) - (row : Int) * 10 ^ k + plB (frP T) (cLP T) cPP (cRP V) k R)) ∧ frT m m' := by
  intro k
  induction k with
  | zero =>
    intro g row sum m R K hk hg hE hR hRH hK hrow hsum
    obtain ⟨g, rfl⟩ : ∃ h, g = h + 1 := ⟨g - 1, by omega⟩
    rw [fX11_tryLaying]
    obtain ⟨m', e, h, f⟩ := r_leaf (m := m) (s := sum) (r := row) (by omega) (by omega) hK (fX11_tryLaying g)
    refine ⟨m', e, ?_, f⟩
    rw [plB, Int.pow_zero, Int.mul_one, Int.add_zero]
    exact h
  | succ k ih =>
    intro g row sum m R K hk hg hE hR hRH hK hrow hsum
    obtain ⟨g, rfl⟩ : ∃ h, g = h + 1 := ⟨g - 1, by omega⟩
    have e8 : 8 - (k + 1) = 7 - k := by omega
    have en : 7 - k + 1 = 8 - k := by omega
    have hb8 : 7 - k < 8 := by omega
    have hd : dgI (7 - k) = (10 : Int) ^ k := by unfold dgI; rw [show 7 - (7 - k) = k by omega]
    have hp : 10 ^ (8 - k) = 10 * 10 ^ (7 - k) := by rw [← en, Nat.pow_succ]; omega
    have hp7 : 10 ^ (7 - k) ≤ 10 ^ 7 := Nat.pow_le_pow_right (by decide) (by omega)
    have hpi : (10 : Int) ^ (k + 1) = 10 * 10 ^ k := by rw [Int.pow_succ]; omega
    rw [e8] at hrow hsum ⊢
    have sb : ∀ (d : Nat), d < 10 → 10 * Int32.ofNat row + Int32.ofNat d = Int32.ofNat (10 * row + d) := fun d _ => by rw [Int32.ofNat_add, Int32.ofNat_mul]; rfl
    have n8 : ¬ Int32.ofNat (7 - k) = 8 := fun z => by have := nn_inj (k := 8) (by omega) (by decide) z; omega
    -- passed over
    have pass : frP T (7 - k) = false → ∃ m', fX11_tryLaying_b_c65 (fX11_tryLaying g) m (Int32.ofNat (7 - k)) (Int32.ofNat row) (Int32.ofNat sum) = some m' ∧ bsR m' (mxO K (100000000 * (sum : Int) - (row : Int) * 10 ^ (k + 1) + plB (frP T) (cLP T) cPP (cRP V) (k + 1) R)) ∧ frT m m' := fun hp0 => by
      obtain ⟨m', e, h, f⟩ := ih g (10 * row + 9) sum m R K (by omega) (by omega) hE hR hRH hK (by rw [hp]; omega) (by omega)
      refine ⟨m', ?_, ?_, f⟩
      · unfold fX11_tryLaying_b_c65
        rw [nn_s, en, show (9 : Int32) = Int32.ofNat 9 from rfl, sb 9 (by decide)]
        exact bs e rfl
      · rw [plB, hp0, if_neg Bool.false_ne_true]
        have : 100000000 * (sum : Int) - (row : Int) * 10 ^ (k + 1) + (plB (frP T) (cLP T) cPP (cRP V) k R - cPP (7 - k)) = 100000000 * (sum : Int) - ((10 * row + 9 : Nat) : Int) * 10 ^ k + plB (frP T) (cLP T) cPP (cRP V) k R := by
          unfold cPP
          rw [hd, hpi, Int.natCast_add, Int.natCast_mul, Int.add_mul, show ((10 : Nat) : Int) * (row : Int) * 10 ^ k = (row : Int) * (10 * 10 ^ k) by rw [Int.mul_comm ((10 : Nat) : Int) (row : Int), Int.mul_assoc]; rfl]
          omega
        rw [this]; exact h
    rw [fX11_tryLaying]
    dsimp only
    unfold fX11_tryLaying_b
    rw [if_neg n8, r_isThere_n m hb8, hE.1]
    simp only [Option.bind_some]
    by_cases h5 : T (7 - k) 5 = 1
    · rw [if_pos h5, if_neg (by decide), r_doesLie_n m hb8, hE.1]
      simp only [Option.bind_some]
      by_cases h2 : T (7 - k) 2 = -1
      · rw [if_neg (show ¬ lyT T (7 - k) from fun z => z.2 h2), if_pos rfl]
        have hfr : frP T (7 - k) = true := decide_eq_true ⟨h5, h2⟩
        obtain ⟨v1, v2⟩ := hE.2.2 (7 - k) hb8 h5
        have hv := (vI_b hT hz (7 - k)).2
        generalize hC : 100000000 * (sum : Int) - (row : Int) * 10 ^ (k + 1) = C
        generalize hF : (fun r => C + (cRP V (7 - k) r + plB (frP T) (cLP T) cPP (cRP V) k (dcR R r))) = F
        have tot : C + plB (frP T) (cLP T) cPP (cRP V) (k + 1) R = plR F R 4 0 (C + (cLP T (7 - k) + plB (frP T) (cLP T) cPP (cRP V) k R)) := by
          rw [plB, if_pos hfr, plR_add, hF]
        -- the rows, then left out
        have rows : ∀ (n r g' : Nat) (M : mm_MM) (K' : Option Int), r + n = H → n < g' → frT m M → bsR M K' → ∃ m', fX11_tryLaying_b_c84 (fX11_tryLaying g) g' M (Int32.ofNat (7 - k)) (Int32.ofNat row) (Int32.ofNat sum) (Int32.ofNat r) = some m' ∧ bsR m' (mxO K' (plR F R n r (C + (cLP T (7 - k) + plB (frP T) (cLP T) cPP (cRP V) k R)))) ∧ frT m m' := by
          intro n
          induction n with
          | zero =>
            intro r g' M K' hr hg' hf hK'
            obtain ⟨g', rfl⟩ : ∃ h, g' = h + 1 := ⟨g' - 1, by omega⟩
            obtain rfl : r = H := by omega
            have hEM : tyE M T r V := tyE_f (fun a k z _ => hf.1 a k z) hE
            have hRM : rmR M r R := fun i hi => by rw [hf.1 629 i (by omega)]; exact hR i hi
            obtain ⟨m', e, h, f⟩ := ih g (10 * row + 9) (sum + vI0 T (7 - k)) M R K' (by omega) (by omega) hEM hRM hRH hK' (by rw [hp]; omega) (by omega)
            refine ⟨m', ?_, ?_, frT_trans hf f⟩
            · rw [fX11_tryLaying_b_c84]
              dsimp only
              have ei : 5 * Int32.ofNat (7 - k) + 4 = Int32.ofNat (5 * (7 - k) + 4) := by rw [Int32.ofNat_add, Int32.ofNat_mul]; rfl
              rw [hEM.2.1, if_neg (fun z => Nat.lt_irrefl _ ((nn_lt (by omega) (by omega)).mp z)), ei, nn_go (by omega) (by omega), nn_tn (by omega), hf.1 628 _ (by omega), v2, nn_s, en, show (9 : Int32) = Int32.ofNat 9 from rfl, sb 9 (by decide), ← Int32.ofNat_add]
              exact bs e rfl
            · rw [plR]
              have : C + (cLP T (7 - k) + plB (frP T) (cLP T) cPP (cRP V) k R) = 100000000 * ((sum + vI0 T (7 - k) : Nat) : Int) - ((10 * row + 9 : Nat) : Int) * 10 ^ k + plB (frP T) (cLP T) cPP (cRP V) k R := by
                unfold cLP
                rw [hd, ← hC, hpi, Int.natCast_add, Int.natCast_add, Int.natCast_mul, Int.add_mul, show ((10 : Nat) : Int) * (row : Int) * 10 ^ k = (row : Int) * (10 * 10 ^ k) by rw [Int.mul_comm ((10 : Nat) : Int) (row : Int), Int.mul_assoc]; rfl]
                omega
              rw [this]; exact h
          | succ n ihr =>
            intro r g' M K' hr hg' hf hK'
            obtain ⟨g', rfl⟩ : ∃ h, g' = h + 1 := ⟨g' - 1, by omega⟩
            have hr4 : r < 4 := by omega
            have hEM : tyE M T H V := tyE_f (fun a k z _ => hf.1 a k z) hE
            have hRM : rmR M H R := fun i hi => by rw [hf.1 629 i (by omega)]; exact hR i hi
            rw [fX11_tryLaying_b_c84, plR]
            dsimp only
            rw [hEM.2.1, if_pos ((nn_lt (by omega) (by omega)).mpr (by omega)), nn_go (by omega) (by omega), nn_tn (show r < 2 ^ 31 by omega)]
            simp only [fX11_tryLaying_b_c154, nn_s]
            rcases hRM r (by omega) with ⟨z0, z1⟩ | ⟨z0, z1, z2⟩
            · rw [if_pos z1, if_neg (show ¬ 0 < R r by omega)]
              exact ihr (r + 1) g' M K' (by omega) (by omega) hf hK'
            · have hn : ¬ M.1 629 r ≤ 0 := by
                rw [z2, show (0 : Int32) = Int32.ofNat 0 from rfl, nn_le (by omega) (by decide)]; omega
              have ei : 5 * Int32.ofNat (7 - k) + Int32.ofNat r = Int32.ofNat (5 * (7 - k) + r) := by rw [Int32.ofNat_add, Int32.ofNat_mul]; rfl
              have hVr := hV (7 - k) r
              have hE1 : tyE (wI M 629 r (M.1 629 r - 1)) T H V := tyE_f (fun a k z z' => wI_ne z') hEM
              have hR1 : rmR (wI M 629 r (M.1 629 r - 1)) H (dcR R r) := fun i hi => by
                unfold dcR
                by_cases c : i = r
                · subst c
                  rw [if_pos rfl, wI_eq, z2]
                  obtain ⟨q, hq⟩ : ∃ q, R i = q + 1 := ⟨R i - 1, by omega⟩
                  rw [hq, nn_p, Nat.add_sub_cancel]
                  by_cases cq : q = 0
                  · subst cq; exact Or.inl ⟨rfl, by decide⟩
                  · exact Or.inr ⟨by omega, by omega, rfl⟩
                · rw [if_neg c, wI_nk c]; exact hRM i hi
              have hK1 : bsR (wI M 629 r (M.1 629 r - 1)) K' := by
                unfold bsR
                rw [wI_ne (show ¬ 606 = 629 by decide), wI_ne (show ¬ 606 = 629 by decide)]
                exact hK'
              obtain ⟨m2, e2, h2', f2⟩ := ih g (10 * row + r) (sum + V (7 - k) r) (wI M 629 r (M.1 629 r - 1)) (dcR R r) K' (by omega) (by omega) hE1 hR1 (fun i hi => by unfold dcR; rw [hRH i hi]; split <;> rfl) hK1 (by rw [hp]; omega) (by omega)
              have back : m2.1 629 r + 1 = M.1 629 r := by rw [f2.1 629 r (by omega), wI_eq]; grind
              have f3 : frT m (wI m2 629 r (m2.1 629 r + 1)) := by
                refine ⟨fun a j z => ?_, by rw [show (wI m2 629 r (m2.1 629 r + 1)).2 = m2.2 from rfl, f2.2]; exact hf.2⟩
                by_cases c : a = 629 ∧ j = r
                · obtain ⟨rfl, rfl⟩ := c
                  rw [wI_eq, back]; exact hf.1 629 j z
                · rw [wI_1, if_neg c, f2.1 a j z, wI_1, if_neg c]; exact hf.1 a j z
              have hK3 : bsR (wI m2 629 r (m2.1 629 r + 1)) (mxO K' (F r)) := by
                unfold bsR at h2' ⊢
                rw [wI_ne (show ¬ 606 = 629 by decide), wI_ne (show ¬ 606 = 629 by decide)]
                have : F r = 100000000 * ((sum + V (7 - k) r : Nat) : Int) - ((10 * row + r : Nat) : Int) * 10 ^ k + plB (frP T) (cLP T) cPP (cRP V) k (dcR R r) := by
                  rw [← hF]
                  show C + (cRP V (7 - k) r + _) = _
                  unfold cRP
                  rw [hd, ← hC, hpi, Int.natCast_add, Int.natCast_add, Int.natCast_mul, Int.add_mul, show ((10 : Nat) : Int) * (row : Int) * 10 ^ k = (row : Int) * (10 * 10 ^ k) by rw [Int.mul_comm ((10 : Nat) : Int) (row : Int), Int.mul_assoc]; rfl]
                  omega
                rw [this]; exact h2'
              obtain ⟨m4, e4, h4', f4⟩ := ihr (r + 1) g' _ _ (by omega) (by omega) f3 hK3
              refine ⟨m4, ?_, ?_, f4⟩
              · rw [if_neg hn, nn_gn (by omega) (by omega), nn_gn (by omega) (by omega), ei, nn_go (by omega) (by omega), nn_tn (show 5 * (7 - k) + r < 2 ^ 31 by omega), hf.1 628 _ (by omega), v1 r (by omega), en, sb r (by omega), ← Int32.ofNat_add]
                refine bs e2 ?_
                rw [nn_gn (by omega) (by omega), nn_gn (by omega) (by omega)]
                exact e4
              · rw [if_pos z0, plR_max]
                rw [mxO_mx, show max (F r) (plR F R n (r + 1) (C + (cLP T (7 - k) + plB (frP T) (cLP T) cPP (cRP V) k R))) = max (plR F R n (r + 1) (C + (cLP T (7 - k) + plB (frP T) (cLP T) cPP (cRP V) k R))) (F r) by omega] at h4'
                exact h4'
        obtain ⟨m', e, h, f⟩ := rows H 0 fu m K (by omega) (by unfold fu; omega) ⟨fun _ _ _ => rfl, rfl⟩ hK
        refine ⟨m', e, ?_, f⟩
        rw [tot]
        have : plR F R 4 0 (C + (cLP T (7 - k) + plB (frP T) (cLP T) cPP (cRP V) k R)) = plR F R H 0 (C + (cLP T (7 - k) + plB (frP T) (cLP T) cPP (cRP V) k R)) := by
          have e := plR_app (f := F) (R := R) H (4 - H) 0 (C + (cLP T (7 - k) + plB (frP T) (cLP T) cPP (cRP V) k R))
          rw [show H + (4 - H) = 4 by omega, Nat.zero_add] at e
          rw [e]
          exact plR_hi _ _ _ (fun j hj => hRH j hj)
        rw [this]; exact h
      · rw [if_pos (show lyT T (7 - k) from ⟨h5, h2⟩), if_neg (by decide)]
        exact pass (decide_eq_false (fun z => h2 z.2))
    · rw [if_neg h5, if_pos rfl]
      exact pass (decide_eq_false (fun z => h5 z.1))
theorem VI_D {o : Option (List Cla)} {y f : Int32} {D D' : Nat → Int32} {N : Nat} {T : TT} {t b r : Nat} (h : D r = D' r) : VI o y f D N T t b r = VI o y f D' N T t b r := by
  unfold VI; rw [h]
theorem frT_S (h : frT m m1) : frS m m1 := ⟨fun a k z => h.1 a k (fun e => z (by obtain ⟨rfl, e⟩ := e; unfold scr; omega)), by rw [h.2], by rw [h.2]⟩
theorem r_laying {o : Option (List Cla)} {t N : Nat} (E : EnvR m W H o t) (hk : ¬ m.1 606 26 = 0) (h1 : 1 ≤ N) (hN : N ≤ 24) (ht : t + N < 10000) (hz : TZ (thr m 623 0)) {V : Nat → Nat → Nat} (hV : ∀ b r, V b r ≤ 200) (hVI : ∀ b r, r < H → VI o (m.1 620 2) (m.1 620 3) (m.1 621) N (thr m 623 0) t b r = Int32.ofNat (V b r)) {s rr : Nat} (hs : s ≤ 2000) (hrr : rr < 100000000) (hB : plB (frP (thr m 623 0)) (cLP (thr m 623 0)) cPP (cRP V) 8 (rmP W H (thr m 623 0)) = 100000000 * (s : Int) - rr) {x2 : Int32} (hx : ¬ x2 < 0 ∧ x2 ≤ 1) : ∃ m', fX11_laying m (Int32.ofNat N) x2 = some (if x2 = 0 then Int32.ofNat s else Int32.ofNat rr, m') ∧ frS m m' := by
  have hTB := E.2.2.2.2.2.1
  generalize hT : thr m 623 0 = T at hz hVI hB hTB
  obtain ⟨m3, e3, f3, l3⟩ := r_lay2_l E hN ht 8 0 fu m rfl (by decide) (frS_refl m) (fun i hi => by omega)
  obtain ⟨m4, e4, f4, g4, v4⟩ := r_lay122_l (W := W) (H := H) (m0 := m3) ((f3.1 620 0 (by unfold scr; omega)).trans E.2.1) ((f3.1 620 1 (by unfold scr; omega)).trans E.2.2.1) E.1.2.2.2 H 0 fu m3 (by omega) (by have := E.1.2.2.2; unfold fu; omega) (fun _ _ _ => rfl) rfl (fun i hi => by omega)
  have f34 : frS m3 m4 := ⟨fun a k z => f4 a k (fun e => z (by subst e; unfold scr; omega)), by rw [g4], by rw [g4]⟩
  have E4 : EnvR m4 W H o t := EnvR_S (frS_trans f3 f34) E
  have T4 : thr m4 623 0 = T := (frS_T (frS_trans f3 f34)).trans hT
  obtain ⟨m5, e5, f5, g5, v5⟩ := r_lay152_l E4 8 0 fu m4 rfl (by decide) (fun _ _ _ => rfl) rfl (fun i hi => by
    rw [v4 i hi]
    show Int32.ofNat W = Int32.ofNat W - 0
    grind)
  rw [T4] at v5
  have f45 : frS m4 m5 := ⟨fun a k z => f5 a k (fun e => z (by subst e; unfold scr; omega)), by rw [g5], by rw [g5]⟩
  have el : fX11_layLaid m (Int32.ofNat N) = some m5 := by
    unfold fX11_layLaid
    exact Eq.trans e3 (Eq.trans e4 e5)
  generalize h6 : wI (wI m5 606 40 (-1)) 606 39 0 = m6
  have f56 : frS m5 m6 := by rw [← h6]; exact frS_trans (frS_wI (by unfold scr; omega)) (frS_wI (by unfold scr; omega))
  have f6 : frS m m6 := frS_trans f3 (frS_trans f34 (frS_trans f45 f56))
  have n6 : ∀ a k, ¬ a = 606 → m6.1 a k = m5.1 a k := fun a k z => by rw [← h6, wI_ne z, wI_ne z]
  have hE6 : tyE m6 T H V := by
    refine ⟨(frS_T f6).trans hT, (f6.1 620 1 (by unfold scr; omega)).trans E.2.2.1, fun b hb h5 => ?_⟩
    have q : ∀ k, m6.1 628 k = m3.1 628 k := fun k => (n6 628 k (by decide)).trans ((f5 628 k (by decide)).trans (f4 628 k (by decide)))
    rw [hT] at l3
    obtain ⟨g1, g2⟩ := l3 b hb h5
    exact ⟨fun r hr => by rw [q, g1 r hr]; exact hVI b r hr, by rw [q, g2]; exact (vI_b hTB hz b).1⟩
  have hR6 : rmR m6 H (rmP W H T) := fun i hi => by
    have hc := cnK_le (rwB (Int32.ofNat W) T (Int32.ofNat i)) 8 0 0
    have := room_r W (by have := E.1.2.1; omega) (cnK (rwB (Int32.ofNat W) T (Int32.ofNat i)) 8 0 0) (by omega)
    rw [n6 629 i (by decide), v5 i hi]
    unfold rmP
    rw [if_pos hi]
    exact this
  have hK6 : bsR m6 none := Or.inl ⟨rfl, by rw [← h6, wI_nk (by decide), wI_eq]⟩
  obtain ⟨m7, e7, h7, f7⟩ := r_try_l hTB hz E.1.2.2.2 hV 8 12 0 0 m6 (rmP W H T) none (Nat.le_refl 8) (by decide) hE6 hR6 (fun r hr => by unfold rmP; rw [if_neg (by omega)]) hK6 (by decide) (by decide)
  have e7 : fX11_tryLaying 12 m6 0 0 0 = some m7 := e7
  have heq : mxO none (100000000 * ((0 : Nat) : Int) - ((0 : Nat) : Int) * 10 ^ 8 + plB (frP T) (cLP T) cPP (cRP V) 8 (rmP W H T)) = some (100000000 * (s : Int) - rr) := by
    rw [hB]
    exact congrArg some (by omega)
  rw [heq] at h7
  refine ⟨m7, ?_, frS_trans f6 (frT_S f7)⟩
  rcases h7 with ⟨z, -⟩ | ⟨s', r', z, hr', hs', h39, h40⟩
  · cases z
  · have z := Option.some.inj z
    obtain rfl : s' = s := by omega
    obtain rfl : r' = rr := by omega
    have g1 : ¬ Int32.ofNat N < 1 := by rw [show (1 : Int32) = Int32.ofNat 1 from rfl, nn_lt (by omega) (by decide)]; omega
    have g2 : Int32.ofNat N ≤ 24 := (nn_le (k := 24) (by omega) (by decide)).mpr hN
    unfold fX11_laying
    rw [if_neg hk, r_in, if_neg g1, if_pos g2]
    simp only [Option.bind_some, if_neg (show ¬ (1 : Int32) = 0 by decide), r_in, if_neg hx.1, if_pos hx.2]
    refine bs el ?_
    rw [h6]
    refine bs e7 ?_
    rw [h39, h40]
    by_cases c : x2 = 0
    · rw [if_pos c, if_pos c]; rfl
    · rw [if_neg c, if_neg c]; rfl
theorem q_laying (hi : Inv m) (n x : Int32) : EQ m (fun m => fX10_laying m n x) (fun m => fX11_laying m n x) := by
  obtain ⟨W, H, P, ls, h⟩ := id hi
  have hs := see0 h
  by_cases hk0 : m.1 0 14 = 0
  · refine EQ_0 (v := -1) hi ?_ ?_
    · simp only [fX10_laying, if_pos hk0, fX10_laying_c27]
    · simp only [fX11_laying, hs.2.1, if_pos hk0, fX11_laying_c26]
  · have hkr : ¬ m.1 606 26 = 0 := by rw [hs.2.1]; exact hk0
    by_cases b1 : ¬ n < 1 ∧ n ≤ 24
    · by_cases b2 : ¬ x < 0 ∧ x ≤ 1
      · have hk : m.1 0 14 = 1 := h.1.2.1.resolve_left hk0
        obtain ⟨o, t, htt, EC, ER⟩ := IA_env h hk
        have n0 : ¬ n < 0 := fun z => b1.1 (by grind)
        have en := nn_of n0
        have hN := (nn_lek (k := 24) n0 (by decide)).mp b1.2
        have h1 : 1 ≤ n.toNatClampNeg := by
          have : ¬ n.toNatClampNeg < 1 := fun z => b1.1 ((nn_ltk (k := 1) n0 (by decide)).mpr z)
          omega
        generalize n.toNatClampNeg = N at en hN h1
        subst en
        have hTB := EC.2.2.2.2.2.1
        have hz := thc_Z m 34
        have hVb : ∀ b r, VN o (m.1 14 5) (m.1 14 6) (m.1 15) N (thc m 34) t b r ≤ 200 := fun b r => (VN_b hTB hz t b r).2
        obtain ⟨s, rr, hB, hrr, hss⟩ := plB_sr hTB hz hVb 8 (rmP W H (thc m 34)) (Nat.le_refl 8)
        obtain ⟨m2, e2, f2⟩ := c_laying EC hk0 (by omega) h1 hN (by omega) (by omega) hB b2
        have hi2 : Inv m2 := Inv_q (fr_mono WPn_Q f2) hi
        have w2 : ∀ a k, 606 ≤ a → m2.1 a k = m.1 a k := fun a k z => f2.1 a k (WPn_f (Or.inr z))
        have B2 : frB m m2 := ⟨fun a k z => f2.1 a k (WPn_Q a k z), f2.2 0 19 (WPn_f (Or.inl (by decide))), f2.2 606 35 (WPn_f (Or.inr (by decide)))⟩
        have E2 : EnvR m2 W H o t := EnvR_B B2 ER
        have T2 : thr m2 623 0 = thc m 34 := (thr_now (fun k _ => w2 623 k (by decide))).trans hs.1
        obtain ⟨m3, e3, f3⟩ := r_laying E2 (by rw [w2 606 26 (by decide)]; exact hkr) h1 hN (by omega) (by rw [T2]; exact hz) (V := VN o (m.1 14 5) (m.1 14 6) (m.1 15) N (thc m 34) t) hVb (fun b r hr => by
          rw [T2, w2 620 2 (by decide), w2 620 3 (by decide), hs.2.2.2.2.1, hs.2.2.2.2.2.1, VI_D (D' := m.1 15) (by rw [w2 621 r (by decide)]; exact (h.1.2.2.2.1 r (by have := EC.1.2.2.2; omega)).symm)]
          exact (VN_b hTB hz t b r).1) (s := s) (rr := rr) (by omega) (by omega) (by rw [T2]; exact hB) b2
        exact ⟨_, m2, m3, e2, e3, Inv_B (frS_B f3) hi2⟩
      · refine EQ_0 (v := -1) hi ?_ ?_
        · simp only [fX10_laying, if_neg hk0, if_neg b1.1, if_pos b1.2, fX10_laying_c27]
          by_cases z1 : x < 0
          · rw [if_pos z1]
          · rw [if_neg z1, if_neg (fun z => b2 ⟨z1, z⟩)]
        · simp only [fX11_laying, if_neg hkr, r_in, if_neg b1.1, if_pos b1.2, Option.bind_some, if_neg (show ¬ (1 : Int32) = 0 by decide), in3, if_neg b2, if_true, fX11_laying_c26]
    · refine EQ_0 (v := -1) hi ?_ ?_
      · simp only [fX10_laying, if_neg hk0, fX10_laying_c27]
        by_cases z1 : n < 1
        · rw [if_pos z1]
        · rw [if_neg z1, if_neg (fun z => b1 ⟨z1, z⟩)]
      · have hz : (if n < 1 then (0 : Int32) else if n ≤ 24 then 1 else 0) = 0 := by
          by_cases z1 : n < 1
          · rw [if_pos z1]
          · rw [if_neg z1, if_neg (fun z => b1 ⟨z1, z⟩)]
        simp only [fX11_laying, if_neg hkr, r_in, hz, Option.bind_some, if_true, fX11_laying_c26]
end LYQ
