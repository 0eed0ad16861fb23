/-! LAYING, the class: marks of loads -/
section PLC
variable {m m1 : mm_MM} {W H : Nat} {P : List Vw} {ls : Nat → List Cla}
def dgI (b : Nat) : Int := 10 ^ (7 - b)
theorem dgI_b (b : Nat) : 1 ≤ dgI b ∧ dgI b ≤ 10000000 := by
  unfold dgI
  have h : 7 - b ≤ 7 := Nat.sub_le 7 b
  generalize 7 - b = k at h
  obtain rfl | rfl | rfl | rfl | rfl | rfl | rfl | rfl : k = 0 ∨ k = 1 ∨ k = 2 ∨ k = 3 ∨ k = 4 ∨ k = 5 ∨ k = 6 ∨ k = 7 := by omega
  all_goals decide
theorem rdg_b {r b : Nat} (hr : r < 4) : 0 ≤ (r : Int) * dgI b ∧ (r : Int) * dgI b ≤ 30000000 := by
  have := dgI_b b
  generalize dgI b = d at this
  obtain rfl | rfl | rfl | rfl : r = 0 ∨ r = 1 ∨ r = 2 ∨ r = 3 := by omega
  all_goals (constructor <;> omega)
theorem c_digit_l : ∀ (k i g : Nat) (z : Int), i + k = 7 → k < g → fX4_digitOf_c4 g m (Int64.ofInt z) (Int32.ofNat i) = some (Int64.ofInt (z * 10 ^ k), m) := by
  intro k
  induction k with
  | zero =>
    intro i g z hi hg
    obtain ⟨g, rfl⟩ : ∃ h, g = h + 1 := ⟨g - 1, by omega⟩
    obtain rfl : i = 7 := by omega
    rw [fX4_digitOf_c4, Int.pow_zero, Int.mul_one]
    exact if_neg (by decide)
  | succ k ih =>
    intro i g z hi hg
    obtain ⟨g, rfl⟩ : ∃ h, g = h + 1 := ⟨g - 1, by omega⟩
    rw [fX4_digitOf_c4]
    dsimp only
    rw [if_pos (show Int32.ofNat i < 7 from (nn_lt (k := 7) (by omega) (by decide)).mpr (by omega)), nn_s, show (10 : Int64) = Int64.ofInt 10 from rfl, ← Int64.ofInt_mul, ih (i + 1) g _ (by omega) (by omega), Int.mul_assoc, Int.pow_succ, Int.mul_comm 10]
theorem c_digit (m : mm_MM) {b : Nat} (hb : b < 8) : fX4_digitOf m (Int32.ofNat b) = some (Int64.ofInt (dgI b), m) := by
  have := c_digit_l (m := m) (7 - b) b fu 1 (by omega) (by unfold fu; omega)
  rw [Int.one_mul] at this
  exact this
theorem c_mark (m : mm_MM) {l : Nat} (hl : l < 2401) : fX4_mark m (Int32.ofNat l) = some (m.2 585 l, m) := by
  unfold fX4_mark fX4_mark_c25
  rw [if_neg (nn_n0 (by omega)), if_pos (show Int32.ofNat l < 2401 from (nn_lt (k := 2401) (by omega) (by decide)).mpr hl), nn_go (by omega) hl, nn_tn (by omega)]
theorem c_setMark (m : mm_MM) {l : Nat} (x : Int64) (hl : l < 2401) : fX4_setMark m (Int32.ofNat l) x = some (wL m 585 l x) := by
  unfold fX4_setMark fX4_setMark_c20
  rw [if_neg (nn_n0 (by omega)), if_pos (show Int32.ofNat l < 2401 from (nn_lt (k := 2401) (by omega) (by decide)).mpr hl), nn_go (by omega) hl, nn_tn (by omega)]
theorem ma64 {a b : Int} (ha : -4000000000000000 ≤ a ∧ a ≤ 4000000000000000) (hb : -4000000000000000 ≤ b ∧ b ≤ 4000000000000000) : maL (Int64.ofInt a) (Int64.ofInt b) = Int64.ofInt (max a b) := by
  have h : Int64.ofInt a < Int64.ofInt b ↔ a < b := by
    rw [Int64.lt_iff_toInt_lt, Int64.toInt_ofInt_of_le (by omega) (by omega), Int64.toInt_ofInt_of_le (by omega) (by omega)]
  rw [ma_L]
  by_cases c : a < b
  · rw [if_pos (h.mpr c), show max a b = b by omega]
  · rw [if_neg (fun z => c (h.mp z)), show max a b = a by omega]
theorem t64_i {n : Nat} (h : n < 2 ^ 31) : (Int32.ofNat n).toInt64 = Int64.ofInt n := by rw [t64_n h, Int64.ofInt_eq_ofNat]
theorem wLq {m : mm_MM} {a k : Nat} {x : Int64} : (wL m a k x).2 a k = x := if_pos ⟨rfl, rfl⟩
theorem wLnk {m : mm_MM} {a k j : Nat} {x : Int64} (h : ¬ j = k) : (wL m a k x).2 a j = m.2 a j := if_neg (fun z => h z.2)
/-- the plan's ints -/
def PlC (m : mm_MM) (R : Nat → Nat) : Prop := m.1 584 4 = Int32.ofNat (unR R 4) ∧ (∀ r, r < 4 → m.1 586 r = Int32.ofNat (R r)) ∧ ∀ r, r < 4 → m.1 587 r = Int32.ofNat (unR R r)
def only585 (m m' : mm_MM) : Prop := m'.1 = m.1 ∧ ∀ a k, ¬ a = 585 → m'.2 a k = m.2 a k
theorem only_refl (m : mm_MM) : only585 m m := ⟨rfl, fun _ _ _ => rfl⟩
theorem only_trans {a b c : mm_MM} (h : only585 a b) (h' : only585 b c) : only585 a c := ⟨h'.1.trans h.1, fun x k z => (h'.2 x k z).trans (h.2 x k z)⟩
theorem only_wL {m : mm_MM} {l : Nat} {x : Int64} : only585 m (wL m 585 l x) := ⟨rfl, fun a k z => if_neg (fun w => z w.1)⟩
theorem PlC_o {R : Nat → Nat} (h : only585 m m1) (hp : PlC m R) : PlC m1 R := by
  unfold PlC; rw [h.1]; exact hp
theorem un_b {R : Nat → Nat} (hR : ∀ r, R r ≤ 6) : ∀ r, r ≤ 4 → unR R r ≤ 2401 := by
  have h1 : unR R 1 ≤ 7 := by show 1 * (R 0 + 1) ≤ 7; have := hR 0; omega
  have h2 : unR R 2 ≤ 7 * 7 := Nat.mul_le_mul h1 (show R 1 + 1 ≤ 7 by have := hR 1; omega)
  have h3 : unR R 3 ≤ 7 * 7 * 7 := Nat.mul_le_mul h2 (show R 2 + 1 ≤ 7 by have := hR 2; omega)
  have h4 : unR R 4 ≤ 7 * 7 * 7 * 7 := Nat.mul_le_mul h3 (show R 3 + 1 ≤ 7 by have := hR 3; omega)
  intro r hr
  obtain rfl | rfl | rfl | rfl | rfl : r = 0 ∨ r = 1 ∨ r = 2 ∨ r = 3 ∨ r = 4 := by omega
  · show 1 ≤ 2401; decide
  · omega
  · omega
  · omega
  · omega
/-! passed over -/
theorem c_pass_l {b N : Nat} (hb : b < 8) (hN : N ≤ 2401) {Dv : Nat → Int} : ∀ (n l g : Nat) (m : mm_MM), l + n = N → n < g → m.1 584 4 = Int32.ofNat N → (∀ j, l ≤ j → j < N → m.2 585 j = Int64.ofInt (Dv j)) → (∀ j, j < l → m.2 585 j = Int64.ofInt (Dv j - 9 * dgI b)) → ∃ m', fX4_pass_c8 g m (Int64.ofInt (dgI b)) (Int32.ofNat l) = some m' ∧ only585 m m' ∧ ∀ j, j < N → m'.2 585 j = Int64.ofInt (Dv j - 9 * dgI b) := by
  intro n
  induction n with
  | zero =>
    intro l g m hl hg e4 h1 h2
    obtain ⟨g, rfl⟩ : ∃ h, g = h + 1 := ⟨g - 1, by omega⟩
    obtain rfl : l = N := by omega
    refine ⟨m, ?_, only_refl m, h2⟩
    rw [fX4_pass_c8]
    dsimp only
    rw [e4, if_neg (fun z => Nat.lt_irrefl _ ((nn_lt (by omega) (by omega)).mp z))]
  | succ n ih =>
    intro l g m hl hg e4 h1 h2
    obtain ⟨g, rfl⟩ : ∃ h, g = h + 1 := ⟨g - 1, by omega⟩
    obtain ⟨m', e, o, h⟩ := ih (l + 1) g (wL m 585 l (Int64.ofInt (Dv l - 9 * dgI b))) (by omega) (by omega) e4 (fun j z1 z2 => by rw [wLnk (by omega)]; exact h1 j (by omega) z2) (fun j z => by
      by_cases c : j = l
      · subst c; rw [wLq]
      · rw [wLnk c]; exact h2 j (by omega))
    refine ⟨m', ?_, only_trans only_wL o, h⟩
    rw [fX4_pass_c8]
    dsimp only
    rw [e4, if_pos ((nn_lt (by omega) (by omega)).mpr (by omega)), c_mark m (by omega)]
    simp only [Option.bind_some]
    rw [h1 l (by omega) (by omega), show (9 : Int64) = Int64.ofInt 9 from rfl, ← Int64.ofInt_mul, ← Int64.ofInt_sub, c_setMark m _ (by omega)]
    simp only [Option.bind_some, nn_s]
    exact e
/-! chosen -/
theorem c_laidIn {R : Nat → Nat} (hR : ∀ r, R r ≤ 6) (hP : PlC m R) {r l : Nat} (hr : r < 4) (hl : l < 2401) : fX4_laidIn m (Int32.ofNat r) (Int32.ofNat l) = some (Int32.ofNat (dgR R r l), m) := by
  have hu := unR_pos R r
  have hub := un_b hR r (by omega)
  have hRr := hR r
  unfold fX4_laidIn fX4_laidIn_c40
  rw [c_pick_n m 587 (n := 4) rfl (by decide) hr]
  simp only [Option.bind_some, c_pick_n m 586 (n := 4) rfl (by decide) hr, hP.2.2 r hr, hP.2.1 r hr, nn_s]
  have n1 : ¬ Int32.ofNat (unR R r) ≤ 0 := by rw [show (0 : Int32) = Int32.ofNat 0 from rfl, nn_le (by omega) (by decide)]; omega
  have n2 : ¬ Int32.ofNat (R r + 1) ≤ 0 := by rw [show (0 : Int32) = Int32.ofNat 0 from rfl, nn_le (by omega) (by decide)]; omega
  rw [if_neg n1, if_neg n2, if_neg (fun z => n1 (by rw [z]; decide)), if_neg (fun z => n2 (by rw [z]; decide))]
  have e1 : Int32.ofNat l / Int32.ofNat (unR R r) = Int32.ofNat (l / unR R r) := (Int32.ofNat_div (by omega) (by omega)).symm
  have hq : l / unR R r ≤ l := Nat.div_le_self _ _
  rw [e1]
  exact congrArg (fun v => some (v, m)) (rem_n (T := l / unR R r) (k := R r + 1) (by omega) (by omega))
theorem c_choose1_l {R V : Nat → Nat} (hR : ∀ r, R r ≤ 6) (hP : PlC m R) {b l : Nat} (hb : b < 8) (hl : l < 2401) {Dv : Nat → Int} {kr7 : mm_MM → Int32 → Int64 → Int32 → Option mm_MM} {x2 : Int32} (hV : ∀ r, r < 4 → 0 < dgR R r l → m.1 588 r = Int32.ofNat (V r)) (hVb : ∀ r, V r ≤ 200) (hD : ∀ j, j < l → m.2 585 j = Int64.ofInt (Dv j)) (hDb : ∀ j, -2000000000000000 ≤ Dv j ∧ Dv j ≤ 2000000000000000) : ∀ (n r g : Nat) (a : Int), r + n = 4 → n < g → (-3000000000000000 ≤ a ∧ a ≤ 3000000000000000) → fX4_choose_c42 kr7 g m x2 (Int64.ofInt (dgI b)) (Int32.ofNat l) (Int64.ofInt a) (Int32.ofNat r) = kr7 (wL m 585 l (Int64.ofInt (plR (fun r => (100000000 * (V r : Int) - (r : Int) * dgI b) + Dv (l - unR R r)) (fun r => dgR R r l) n r a))) x2 (Int64.ofInt (dgI b)) (Int32.ofNat l + (-1)) := by
  intro n
  induction n with
  | zero =>
    intro r g a hr hg ha
    obtain ⟨g, rfl⟩ : ∃ h, g = h + 1 := ⟨g - 1, by omega⟩
    obtain rfl : r = 4 := by omega
    rw [fX4_choose_c42, plR]
    dsimp only
    rw [if_neg (show ¬ Int32.ofNat 4 < 4 by decide), c_setMark m _ hl]
    rfl
  | succ n ih =>
    intro r g a hr hg ha
    obtain ⟨g, rfl⟩ : ∃ h, g = h + 1 := ⟨g - 1, by omega⟩
    have hr4 : r < 4 := by omega
    have hdl : dgR R r l ≤ R r := by
      unfold dgR
      have := Nat.mod_lt (l / unR R r) (show 0 < R r + 1 by omega)
      omega
    have hRr := hR r
    rw [fX4_choose_c42, plR]
    dsimp only
    rw [if_pos (show Int32.ofNat r < 4 from (nn_lt (k := 4) (by omega) (by decide)).mpr hr4), c_laidIn hR hP hr4 hl]
    simp only [Option.bind_some, fX4_choose_c107, nn_s]
    have h0 : Int32.ofNat (dgR R r l) ≤ 0 ↔ ¬ 0 < dgR R r l := by
      rw [show (0 : Int32) = Int32.ofNat 0 from rfl, nn_le (by omega) (by decide)]; omega
    by_cases c : 0 < dgR R r l
    · obtain ⟨hle, -⟩ := dg_sub R c
      have hu := unR_pos R r
      have e1 : Int32.ofNat l - Int32.ofNat (unR R r) = Int32.ofNat (l - unR R r) := (Int32.ofNat_sub _ _ hle).symm
      rw [if_neg (fun z => h0.mp z c), if_pos c, c_pick_n m 587 (n := 4) rfl (by decide) hr4]
      simp only [Option.bind_some, hP.2.2 r hr4, e1, c_mark m (show l - unR R r < 2401 by omega), c_pick_n m 588 (n := 4) rfl (by decide) hr4, hV r hr4 c, j_maxL]
      have hv := hVb r
      have hd := hDb (l - unR R r)
      have hg' := rdg_b (b := b) hr4
      rw [hD (l - unR R r) (by omega), t64_i (show V r < 2 ^ 31 by omega), t64_i (show r < 2 ^ 31 by omega), show (100000000 : Int64) = Int64.ofInt 100000000 from rfl, ← Int64.ofInt_mul, ← Int64.ofInt_mul, ← Int64.ofInt_add, ← Int64.ofInt_sub, show Dv (l - unR R r) + 100000000 * (V r : Int) - (r : Int) * dgI b = 100000000 * (V r : Int) - (r : Int) * dgI b + Dv (l - unR R r) by omega, ma64 (by omega) (by omega)]
      exact ih (r + 1) g _ (by omega) (by omega) (by omega)
    · rw [if_pos (h0.mpr c), if_neg c]
      exact ih (r + 1) g a (by omega) (by omega) ha
theorem sub1' (x : Int32) : x + (-1) = x - 1 := by grind
theorem c_choose_l {R V : Nat → Nat} (hR : ∀ r, R r ≤ 6) {b v N : Nat} (hb : b < 8) (hN : N ≤ 2401) (hv : v ≤ 200) {Dv Dn : Nat → Int} (hVb : ∀ r, V r ≤ 200) (hDb : ∀ j, -2000000000000000 ≤ Dv j ∧ Dv j ≤ 2000000000000000) (hn : ∀ l, Dn l = plR (fun r => (100000000 * (V r : Int) - (r : Int) * dgI b) + Dv (l - unR R r)) (fun r => dgR R r l) 4 0 ((100000000 * (v : Int) - 9 * dgI b) + Dv l)) : ∀ (n g : Nat) (m : mm_MM), n < g → n ≤ N → PlC m R → (∀ r, r < 4 → ∀ l, 0 < dgR R r l → m.1 588 r = Int32.ofNat (V r)) → (∀ j, j < n → m.2 585 j = Int64.ofInt (Dv j)) → (∀ j, n ≤ j → j < N → m.2 585 j = Int64.ofInt (Dn j)) → ∃ m', fX4_choose_c13 g m (Int32.ofNat v) (Int64.ofInt (dgI b)) (Int32.ofNat n - 1) = some m' ∧ only585 m m' ∧ ∀ j, j < N → m'.2 585 j = Int64.ofInt (Dn j) := by
  intro n
  induction n with
  | zero =>
    intro g m hg _ hP hV h1 h2
    obtain ⟨g, rfl⟩ : ∃ h, g = h + 1 := ⟨g - 1, by omega⟩
    refine ⟨m, ?_, only_refl m, fun j hj => h2 j (by omega) hj⟩
    rw [fX4_choose_c13]
    exact if_pos (by decide)
  | succ n ih =>
    intro g m hg hnN hP hV h1 h2
    obtain ⟨g, rfl⟩ : ∃ h, g = h + 1 := ⟨g - 1, by omega⟩
    have hd := hDb n
    have hgb := dgI_b b
    have e := c_choose1_l (kr7 := fX4_choose_c13 g) (x2 := Int32.ofNat v) hR hP hb (show n < 2401 by omega) (fun r hr hp => hV r hr n hp) hVb (fun j hj => h1 j (by omega)) hDb 4 0 fu ((100000000 * (v : Int) - 9 * dgI b) + Dv n) rfl (by decide) (by omega)
    rw [← hn n, sub1'] at e
    obtain ⟨m', e', o, h⟩ := ih g (wL m 585 n (Int64.ofInt (Dn n))) (by omega) (by omega) (PlC_o only_wL hP) hV (fun j hj => by rw [wLnk (by omega)]; exact h1 j (by omega)) (fun j j1 j2 => by
      by_cases c : j = n
      · subst c; rw [wLq]
      · rw [wLnk c]; exact h2 j (by omega) j2)
    refine ⟨m', ?_, only_trans only_wL o, h⟩
    rw [fX4_choose_c13]
    dsimp only
    rw [nn_p, if_neg (nn_n0 (by omega)), c_mark m (by omega)]
    simp only [Option.bind_some]
    rw [h1 n (by omega), t64_i (show v < 2 ^ 31 by omega), show (100000000 : Int64) = Int64.ofInt 100000000 from rfl, show (9 : Int64) = Int64.ofInt 9 from rfl, ← Int64.ofInt_mul, ← Int64.ofInt_mul, ← Int64.ofInt_add, ← Int64.ofInt_sub, show Dv n + 100000000 * (v : Int) - 9 * dgI b = 100000000 * (v : Int) - 9 * dgI b + Dv n by omega]
    exact Eq.trans e e'
/-! the best -/
theorem c_bestM_l {N : Nat} (hN : N ≤ 2401) (e4 : m.1 584 4 = Int32.ofNat N) {Dv : Nat → Int} (hDb : ∀ j, -2000000000000000 ≤ Dv j ∧ Dv j ≤ 2000000000000000) (hD : ∀ j, j < N → m.2 585 j = Int64.ofInt (Dv j)) : ∀ (n l g : Nat) (a : Int), l + n = N → n < g → (-3000000000000000 ≤ a ∧ a ≤ 3000000000000000) → fX4_bestMark_c6 g m (Int64.ofInt a) (Int32.ofNat l) = some (Int64.ofInt (mxD Dv n l a), m) := by
  intro n
  induction n with
  | zero =>
    intro l g a hl hg ha
    obtain ⟨g, rfl⟩ : ∃ h, g = h + 1 := ⟨g - 1, by omega⟩
    rw [fX4_bestMark_c6, mxD]
    dsimp only
    rw [e4, if_neg (by rw [nn_lt (by omega) (by omega)]; omega)]
  | succ n ih =>
    intro l g a hl hg ha
    obtain ⟨g, rfl⟩ : ∃ h, g = h + 1 := ⟨g - 1, by omega⟩
    have hd := hDb l
    rw [fX4_bestMark_c6, mxD]
    dsimp only
    rw [e4, if_pos ((nn_lt (by omega) (by omega)).mpr (by omega)), c_mark m (by omega)]
    simp only [Option.bind_some, j_maxL, nn_s]
    rw [hD l (by omega), ma64 (by omega) (by omega)]
    exact ih (l + 1) g _ (by omega) (by omega) (by omega)
theorem xor_nn {a b : Nat} (ha : a < 2 ^ 62) (hb : b < 2 ^ 62) : ¬ (Int64.ofNat a ^^^ Int64.ofNat b) < 0 := by
  have e : Int64.ofNat a ^^^ Int64.ofNat b = Int64.ofNat (a ^^^ b) := Int64.toBitVec_inj.mp (by
    rw [Int64.toBitVec_xor]
    exact BitVec.ofNat_xor.symm)
  have h := Nat.xor_lt_two_pow ha hb
  rw [e, show (0 : Int64) = Int64.ofNat 0 from rfl, Int64.ofNat_lt_iff_lt (by omega) (by decide)]
  omega
theorem j_floorD (m : mm_MM) {a : Nat} (ha : a < 2 ^ 62) : fJ9_floorDiv_f86c9 m (Int64.ofNat a) 100000000 = some (Int64.ofNat (a / 100000000), m) := by
  unfold fJ9_floorDiv_f86c9 fJ9_floorDiv_f86c9_c27
  have hx : ¬ lg_cmp (Int64.ofNat a ^^^ 100000000) 0 < 0 := fun z => xor_nn ha (b := 100000000) (by decide) ((lc_lt _ _).mp z)
  rw [if_neg (by decide), if_neg hx, show (100000000 : Int64) = Int64.ofNat 100000000 from rfl, ← Int64.ofNat_div (by omega) (by decide)]
theorem c_best {N s r : Nat} (hN : N ≤ 2401) (e4 : m.1 584 4 = Int32.ofNat N) {Dv : Nat → Int} (hDb : ∀ j, -2000000000000000 ≤ Dv j ∧ Dv j ≤ 2000000000000000) (hD : ∀ j, j < N → m.2 585 j = Int64.ofInt (Dv j)) (hr : r < 100000000) (hs : s ≤ 2000) (hm : mxD Dv N 0 (-1000000000000000) = 100000000 * (s : Int) - r) : fX4_bestValue m = some (Int32.ofNat s, m) ∧ fX4_bestDigits m = some (Int32.ofNat r, m) := by
  have e : fX4_bestMark m = some (Int64.ofInt (100000000 * (s : Int) - r), m) := by
    have := c_bestM_l hN e4 hDb hD N 0 fu (-1000000000000000) (by omega) (by unfold fu; omega) (by omega)
    rw [hm] at this
    exact this
  have ev : fX4_bestValue m = some (Int32.ofNat s, m) := by
    unfold fX4_bestValue
    refine bs e ?_
    dsimp only
    have ea : Int64.ofInt (100000000 * (s : Int) - r) + 100000000 - 1 = Int64.ofNat (100000000 * s + (99999999 - r)) := by
      rw [show (100000000 : Int64) = Int64.ofInt 100000000 from rfl, show (1 : Int64) = Int64.ofInt 1 from rfl, ← Int64.ofInt_add, ← Int64.ofInt_sub, ← Int64.ofInt_eq_ofNat]
      exact congrArg Int64.ofInt (by omega)
    rw [ea]
    refine bs (j_floorD m (by omega)) ?_
    dsimp only
    rw [Int64.toInt32_ofNat', show (100000000 * s + (99999999 - r)) / 100000000 = s by omega]
  refine ⟨ev, ?_⟩
  unfold fX4_bestDigits
  refine bs ev (bs e ?_)
  dsimp only
  rw [t64_i (show s < 2 ^ 31 by omega), show (100000000 : Int64) = Int64.ofInt 100000000 from rfl, ← Int64.ofInt_mul, ← Int64.ofInt_sub, show 100000000 * (s : Int) - (100000000 * (s : Int) - r) = (r : Int) by omega, Int64.ofInt_eq_ofNat, Int64.toInt32_ofNat']
end PLC
