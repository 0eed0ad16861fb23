/-! ODDS: parts by moles -/
section ODD
variable {m m1 : mm_MM} {W H : Nat} {P : List Vw} {ls : Nat → List Cla}
/-! sums -/
def suF (f : Nat → Nat) : Nat → Nat → Nat
  | 0, _ => 0
  | k + 1, i => f i + suF f k (i + 1)
theorem suF_add (f g : Nat → Nat) : ∀ k i, suF (fun i => f i + g i) k i = suF f k i + suF g k i
  | 0, _ => rfl
  | k + 1, i => by rw [suF, suF, suF, suF_add f g k]; omega
theorem suF_2 (f : Nat → Nat) : ∀ k i, suF f (2 * k) (2 * i) = suF (fun i => f (2 * i) + f (2 * i + 1)) k i
  | 0, _ => rfl
  | k + 1, i => by
    rw [show 2 * (k + 1) = 2 * k + 1 + 1 by omega, suF, suF, suF, show 2 * i + 1 + 1 = 2 * (i + 1) by omega, suF_2 f k]
    omega
section OD
variable (o : Option (List Cla)) (y f s d n v : Int32) (c : Nat)
def hfQ (q : Int32 × Int32 × Nat) : Int32 × Int32 × Nat := (q.1 / 2, q.2)
def ptM : Nat → Nat → Nat → Nat
  | 0, p, _ => p
  | k + 1, p, M => if M % 2 = 1 then ptM k (p * c / 100) (M / 2) else ptM k (p - p * c / 100) (M / 2)
def vlM : Nat → Int32 × Int32 × Nat → Nat → Int32 × Int32 × Nat
  | 0, q, _ => q
  | k + 1, q, M => if M % 2 = 1 then vlM k (st1 o y f s d n (hfQ q)) (M / 2) else vlM k (st1 o y f s d n q) (M / 2)
def ctM (k : Nat) (q : Int32 × Int32 × Nat) (p M : Nat) : Nat := if (vlM o y f s d n k q M).1 < v then 0 else ptM c k p M
def odM : Nat → Int32 × Int32 × Nat → Nat → Nat
  | 0, q, p => if q.1 < v then 0 else p
  | k + 1, q, p => odM k (st1 o y f s d n q) (p - p * c / 100) + odM k (st1 o y f s d n (hfQ q)) (p * c / 100)
theorem ct_sum : ∀ k q p, suF (ctM o y f s d n v c k q p) (2 ^ k) 0 = odM o y f s d n v c k q p
  | 0, q, p => by
    show ctM o y f s d n v c 0 q p 0 + 0 = _
    unfold ctM odM vlM ptM
    rfl
  | k + 1, q, p => by
    have h := suF_2 (ctM o y f s d n v c (k + 1) q p) (2 ^ k) 0
    rw [show (2 : Nat) ^ (k + 1) = 2 * 2 ^ k by rw [Nat.pow_succ]; omega]
    refine h.trans ?_
    have e : (fun i => ctM o y f s d n v c (k + 1) q p (2 * i) + ctM o y f s d n v c (k + 1) q p (2 * i + 1)) = fun i => ctM o y f s d n v c k (st1 o y f s d n q) (p - p * c / 100) i + ctM o y f s d n v c k (st1 o y f s d n (hfQ q)) (p * c / 100) i := by
      funext i
      unfold ctM
      rw [vlM, vlM, ptM, ptM, if_neg (show ¬ 2 * i % 2 = 1 by omega), if_neg (show ¬ 2 * i % 2 = 1 by omega), if_pos (show (2 * i + 1) % 2 = 1 by omega), if_pos (show (2 * i + 1) % 2 = 1 by omega), show 2 * i / 2 = i by omega, show (2 * i + 1) / 2 = i by omega]
    rw [e, suF_add, ct_sum k, ct_sum k, odM]
theorem mole_le {c p : Nat} (hc : c ≤ 100) : p * c / 100 ≤ p := by
  have : p * c ≤ p * 100 := Nat.mul_le_mul_left p hc
  omega
theorem od_le (hc : c ≤ 100) : ∀ k q p, odM o y f s d n v c k q p ≤ p
  | 0, q, p => by
    rw [odM]
    by_cases h : q.1 < v
    · rw [if_pos h]; omega
    · rw [if_neg h]; omega
  | k + 1, q, p => by
    have h1 := od_le hc k (st1 o y f s d n q) (p - p * c / 100)
    have h2 := od_le hc k (st1 o y f s d n (hfQ q)) (p * c / 100)
    have h3 := mole_le (p := p) hc
    rw [odM]; omega
theorem pt_le (hc : c ≤ 100) : ∀ k p M, ptM c k p M ≤ p
  | 0, p, M => by rw [ptM]; omega
  | k + 1, p, M => by
    have h3 := mole_le (p := p) hc
    rw [ptM]
    by_cases h : M % 2 = 1
    · rw [if_pos h]; have := pt_le hc k (p * c / 100) (M / 2); omega
    · rw [if_neg h]; have := pt_le hc k (p - p * c / 100) (M / 2); omega
theorem ct_le (hc : c ≤ 100) (k : Nat) (q : Int32 × Int32 × Nat) (p M : Nat) : ctM o y f s d n v c k q p M ≤ p := by
  unfold ctM
  by_cases h : (vlM o y f s d n k q M).1 < v
  · rw [if_pos h]; omega
  · rw [if_neg h]; exact pt_le c hc k p M
theorem half_ok {x : Int32} (h : 0 ≤ x ∧ x ≤ 200) : 0 ≤ x / 2 ∧ x / 2 ≤ 200 := by
  have h0 : ¬ x < 0 := Int32.not_lt.mpr h.1
  have e := nn_of h0
  have h2 := (nn_lek (k := 200) h0 (by decide)).mp h.2
  generalize x.toNatClampNeg = k at e h2
  subst e
  rw [show (2 : Int32) = Int32.ofNat 2 from rfl, ← Int32.ofNat_div (by omega) (by decide)]
  exact ⟨Int32.not_lt.mp (nn_n0 (by omega)), (nn_le (k := 200) (by omega) (by decide)).mpr (by omega)⟩
theorem bdQ_h {q : Int32 × Int32 × Nat} (h : bdQ q) : bdQ (hfQ q) := ⟨half_ok h.1, h.2⟩
end OD
/-! the class -/
theorem bit_n : ∀ M, M < 64 → ∀ i, i < 6 → ((((Int32.ofNat M) >>> (Int32.ofNat i &&& 31)) &&& 1) = 1 ↔ M / 2 ^ i % 2 = 1) := by decide +kernel
theorem two_n : ∀ n, n < 7 → ((1 : Int32) <<< (Int32.ofNat n &&& 31)) = Int32.ofNat (2 ^ n) := by decide +kernel
theorem div_2s (M i : Nat) : M / 2 ^ i / 2 = M / 2 ^ (i + 1) := by rw [Nat.div_div_eq_div_mul, Nat.pow_succ]
theorem t64_n {c : Nat} (h : c < 2 ^ 31) : (Int32.ofNat c).toInt64 = Int64.ofNat c := Int32.toInt64_ofNat' (by rw [Int32.toInt_maxValue]; omega)
theorem mole64 {p c : Nat} (hp : p ≤ 1000000000) (hc : c ≤ 100) : (Int64.ofNat p * (Int32.ofNat c).toInt64) / 100 = Int64.ofNat (p * c / 100) := by
  have h1 : p * c ≤ 1000000000 * 100 := Nat.mul_le_mul hp hc
  rw [t64_n (by omega), ← Int64.ofNat_mul, show (100 : Int64) = Int64.ofNat 100 from rfl, ← Int64.ofNat_div (by omega) (by decide)]
theorem c_parts_l {N c M : Nat} (hN : N ≤ 6) (hc : c ≤ 100) (hM : M < 64) : ∀ (k i p g : Nat), i + k = N → k < g → p ≤ 1000000000 → fX10_partsOf_c7 g m (Int32.ofNat M) (Int32.ofNat N) (Int32.ofNat c) (Int64.ofNat p) (Int32.ofNat i) = some (Int64.ofNat (ptM c k p (M / 2 ^ i)), m) := by
  intro k
  induction k with
  | zero =>
    intro i p g hi hg hp
    obtain ⟨g, rfl⟩ : ∃ h, g = h + 1 := ⟨g - 1, by omega⟩
    obtain rfl : i = N := by omega
    rw [fX10_partsOf_c7, ptM]
    exact if_neg (fun z => Nat.lt_irrefl _ ((nn_lt (by omega) (by omega)).mp z))
  | succ k ih =>
    intro i p g hi hg hp
    obtain ⟨g, rfl⟩ : ∃ h, g = h + 1 := ⟨g - 1, by omega⟩
    have hm := mole_le (p := p) hc
    rw [fX10_partsOf_c7, ptM]
    dsimp only
    rw [if_pos ((nn_lt (by omega) (by omega)).mpr (by omega)), mole64 hp hc, ← Int64.ofNat_sub _ _ hm, div_2s]
    simp only [fX10_partsOf_c42, nn_s]
    have hb := bit_n M hM i (by omega)
    by_cases c1 : M / 2 ^ i % 2 = 1
    · rw [if_pos (hb.mpr c1), if_pos c1]; exact ih (i + 1) _ g (by omega) (by omega) (by omega)
    · rw [if_neg (fun z => c1 (hb.mp z)), if_neg c1]; exact ih (i + 1) _ g (by omega) (by omega) (by omega)
theorem c_moles_l {o : Option (List Cla)} {y f s d n : Int32} (hs : bdS s d n) (hy : ¬ y ≤ 0) {N M : Nat} (hN : N ≤ 6) (hM : M < 64) : ∀ (k i g : Nat) (m : mm_MM) (q : Int32 × Int32 × Nat), i + k = N → k < g → HoldC m o → m.1 14 5 = y → m.1 14 6 = f → bdQ q → q.2.2 + k < 5000 → GS m s d n q → ∃ m', fX10_valueByMoles_c8 g m (Int32.ofNat M) (Int32.ofNat N) (Int32.ofNat i) = some ((vlM o y f s d n k q (M / 2 ^ i)).1, m') ∧ fr WG m m' := by
  intro k
  induction k with
  | zero =>
    intro i g m q hi hg ho ey ef hq ht hG
    obtain ⟨g, rfl⟩ : ∃ h, g = h + 1 := ⟨g - 1, by omega⟩
    obtain rfl : i = N := by omega
    refine ⟨m, ?_, fr_refl _ _⟩
    rw [fX10_valueByMoles_c8, vlM, ← hG.1]
    exact if_neg (fun z => Nat.lt_irrefl _ ((nn_lt (by omega) (by omega)).mp z))
  | succ k ih =>
    intro i g m q hi hg ho ey ef hq ht hG
    obtain ⟨g, rfl⟩ : ∃ h, g = h + 1 := ⟨g - 1, by omega⟩
    have step : ∀ (M0 : mm_MM) (q0 : Int32 × Int32 × Nat), fr WG m M0 → bdQ q0 → q0.2.2 = q.2.2 → GS M0 s d n q0 → ∃ m', fX10_valueByMoles_c37 (fX10_valueByMoles_c8 g) M0 (Int32.ofNat M) (Int32.ofNat N) (Int32.ofNat i) = some ((vlM o y f s d n k (st1 o y f s d n q0) (M / 2 ^ i / 2)).1, m') ∧ fr WG m m' := by
      intro M0 q0 f0 h0 t0 g0
      have e5 : M0.1 14 5 = y := (f0.1 14 5 (WG_lo (by decide))).trans ey
      have e6 : M0.1 14 6 = f := (f0.1 14 6 (WG_lo (by decide))).trans ef
      obtain ⟨m1, e1, g1, f1⟩ := c_grow (N := 1) (by decide) (HoldC_WG f0 ho) (by rw [e5]; exact hy) hs h0 g0 (by rw [t0]; omega)
      rw [e5, e6] at g1
      have f01 : fr WG m m1 := fr_trans f0 f1
      obtain ⟨m2, e2, f2⟩ := ih (i + 1) g m1 (st1 o y f s d n q0) (by omega) (by omega) (HoldC_WG f01 ho) ((f01.1 14 5 (WG_lo (by decide))).trans ey) ((f01.1 14 6 (WG_lo (by decide))).trans ef) (bdQ_st _ _ _ _ _ _ h0) (by show q0.2.2 + 1 + k < 5000; omega) g1
      refine ⟨m2, ?_, fr_trans f01 f2⟩
      unfold fX10_valueByMoles_c37
      refine bs (show fX10_grow M0 1 = some m1 from e1) ?_
      rw [nn_s, div_2s]
      exact e2
    rw [fX10_valueByMoles_c8, vlM]
    dsimp only
    rw [if_pos ((nn_lt (by omega) (by omega)).mpr (by omega))]
    have hb := bit_n M hM i (by omega)
    by_cases c1 : M / 2 ^ i % 2 = 1
    · rw [if_pos (hb.mpr c1), if_pos c1]
      obtain ⟨g0, g1, g2, g3, g4, g5⟩ := hG
      exact step _ (hfQ q) (fr_wI (fr_refl _ _) (by simp [WG])) (bdQ_h hq) rfl ⟨by rw [wI_eq, g0]; rfl, by rw [wI_nk (by decide)]; exact g1, by rw [wI_nk (by decide)]; exact g2, by rw [wI_nk (by decide)]; exact g3, by rw [wI_nk (by decide)]; exact g4, by rw [wI_nk (by decide)]; exact g5⟩
    · rw [if_neg (fun z => c1 (hb.mp z)), if_neg c1]
      exact step m q (fr_refl _ _) hq rfl hG
theorem EnvC_G {o : Option (List Cla)} {t : Nat} (hf : fr WG m m1) (E : EnvC m W H o t) : EnvC m1 W H o t ∧ thc m1 34 = thc m 34 := by
  have hT : thc m1 34 = thc m 34 := thc_congr (fun b hb k hk => hf.1 _ _ (WG_lo (by omega)))
  exact ⟨EnvC_fr (W := WG) hf (WG_lo (by decide)) WG_1 WG_2 (fun k => WG_lo (by decide)) (fun k => WG_lo (by decide)) (by rw [hT]; exact E.2.2.2.2.2.1) ((hf.1 29 7 (WG_lo (by decide))).trans E.2.2.2.2.2.2.2.1) E.2.2.2.2.2.2.2.2 E, hT⟩
theorem c_odds_l {m0 : mm_MM} {o : Option (List Cla)} {t b : Nat} (E : EnvC m0 W H o t) (ht : t < 4000) (hl : lyT (thc m0 34) b) {v : Int32} {N c : Nat} (hN : N ≤ 6) (hc : c ≤ 100) : ∀ (k i a : Nat) (m : mm_MM) (g : Nat), i + k = 2 ^ N → k < g → a ≤ i * 1000000000 → fr WG m0 m → ∃ m', fX10_odds_c68 g m (Int32.ofNat N) v (Int32.ofNat c) (34 + b) (Int64.ofNat a) (Int32.ofNat i) = some (Int32.ofNat (a + suF (ctM o (m0.1 14 5) (m0.1 14 6) (thc m0 34 b 1) (m0.1 15 (rowI (m0.1 14 3) (thc m0 34) b)) (besN (m0.1 14 3) (thc m0 34) (thc m0 34 b 2) 8 0 0) v c N (thc m0 34 b 0, thc m0 34 b 3, t) 1000000000) k i), m') ∧ fr WG m0 m' := by
  have h64 : 2 ^ N ≤ 64 := Nat.pow_le_pow_right (n := 2) (by decide) hN
  intro k
  induction k with
  | zero =>
    intro i a m g hi hg ha hf
    obtain ⟨g, rfl⟩ : ∃ h, g = h + 1 := ⟨g - 1, by omega⟩
    obtain rfl : i = 2 ^ N := by omega
    refine ⟨m, ?_, hf⟩
    rw [fX10_odds_c68, suF]
    dsimp only
    rw [two_n N (by omega), if_neg (fun z => Nat.lt_irrefl _ ((nn_lt (by omega) (by omega)).mp z)), Int64.toInt32_ofNat', Nat.add_zero]
  | succ k ih =>
    intro i a m g hi hg ha hf
    obtain ⟨g, rfl⟩ : ∃ h, g = h + 1 := ⟨g - 1, by omega⟩
    have hi64 : i < 64 := by omega
    have hp := pt_le c hc N 1000000000 (i / 2 ^ 0)
    have ep : fX10_partsOf m (Int32.ofNat i) (Int32.ofNat N) (Int32.ofNat c) = some (Int64.ofNat (ptM c N 1000000000 (i / 2 ^ 0)), m) := c_parts_l hN hc hi64 N 0 1000000000 fu (by omega) (by unfold fu; omega) (Nat.le_refl _)
    rw [Nat.pow_zero, Nat.div_one] at ep hp
    obtain ⟨E1, T1⟩ := EnvC_G hf E
    obtain ⟨m6, e6, g6, f6, bs6, bq6⟩ := c_startFrom E1 (b := b) (by rw [T1]; exact hl)
    have lo : ∀ a k, a < 583 → m.1 a k = m0.1 a k := fun a k z => hf.1 a k (WG_lo z)
    rw [T1, lo 14 3 (by decide), lo 15 _ (by decide)] at g6 bs6
    rw [T1] at bq6
    have f06 : fr WG m0 m6 := fr_trans hf (fr_mono W583_G f6)
    obtain ⟨m7, e7, f7⟩ := c_moles_l (o := o) (y := m0.1 14 5) (f := m0.1 14 6) bs6 E.2.2.2.1 hN hi64 N 0 fu m6 _ (by omega) (by unfold fu; omega) (HoldC_WG f06 E.2.2.2.2.1) (f06.1 14 5 (WG_lo (by decide))) (f06.1 14 6 (WG_lo (by decide))) bq6 (by show t + N < 5000; omega) g6
    rw [Nat.pow_zero, Nat.div_one] at e7
    have ev : fX10_valueByMoles m (34 + b) (Int32.ofNat i) (Int32.ofNat N) = _ := bs e6 e7
    have f07 : fr WG m0 m7 := fr_trans f06 f7
    rw [fX10_odds_c68, suF]
    dsimp only
    rw [two_n N (by omega), if_pos ((nn_lt (by omega) (by omega)).mpr (by omega)), ep]
    simp only [Option.bind_some, fX10_odds_c113, nn_s, lc_le]
    generalize hcm : ctM o (m0.1 14 5) (m0.1 14 6) (thc m0 34 b 1) (m0.1 15 (rowI (m0.1 14 3) (thc m0 34) b)) (besN (m0.1 14 3) (thc m0 34) (thc m0 34 b 2) 8 0 0) v c N (thc m0 34 b 0, thc m0 34 b 3, t) 1000000000 = F at ih ⊢
    have eF : F i = if (vlM o (m0.1 14 5) (m0.1 14 6) (thc m0 34 b 1) (m0.1 15 (rowI (m0.1 14 3) (thc m0 34) b)) (besN (m0.1 14 3) (thc m0 34) (thc m0 34 b 2) 8 0 0) N (thc m0 34 b 0, thc m0 34 b 3, t) i).1 < v then 0 else ptM c N 1000000000 i := by rw [← hcm]; rfl
    have h0 : Int64.ofNat (ptM c N 1000000000 i) ≤ 0 ↔ ptM c N 1000000000 i = 0 := by
      rw [show (0 : Int64) = Int64.ofNat 0 from rfl, Int64.ofNat_le_iff_le (by omega) (by decide)]; omega
    by_cases cz : ptM c N 1000000000 i = 0
    · have : F i = 0 := by rw [eF, cz]; split <;> rfl
      rw [if_pos (h0.mpr cz), this, Nat.zero_add]
      exact ih (i + 1) a m g (by omega) (by omega) (Nat.le_trans ha (Nat.mul_le_mul_right _ (Nat.le_succ i))) hf
    · rw [if_neg (fun z => cz (h0.mp z)), ev]
      simp only [Option.bind_some]
      by_cases cv : (vlM o (m0.1 14 5) (m0.1 14 6) (thc m0 34 b 1) (m0.1 15 (rowI (m0.1 14 3) (thc m0 34) b)) (besN (m0.1 14 3) (thc m0 34) (thc m0 34 b 2) 8 0 0) N (thc m0 34 b 0, thc m0 34 b 3, t) i).1 < v
      · rw [if_pos cv, eF, if_pos cv, Nat.zero_add]
        exact ih (i + 1) a m7 g (by omega) (by omega) (Nat.le_trans ha (Nat.mul_le_mul_right _ (Nat.le_succ i))) f07
      · rw [if_neg cv, eF, if_neg cv, ← Int64.ofNat_add, ← Nat.add_assoc]
        exact ih (i + 1) (a + ptM c N 1000000000 i) m7 g (by omega) (by omega) (by omega) f07
/-! the reference -/
def WO (d : Nat) : Nat → Nat → Bool := fun a k => a == 615 || a == 616 || a == 625 || (a == 606 && k == 32) || (a == 627 && Nat.ble (50 * d) k)
def frO (d : Nat) (m m' : mm_MM) : Prop := (∀ a k, WO d a k = false → m'.1 a k = m.1 a k) ∧ m'.2 0 19 = m.2 0 19 ∧ m'.2 606 35 = m.2 606 35
theorem frO_refl (d : Nat) (m : mm_MM) : frO d m m := ⟨fun _ _ _ => rfl, rfl, rfl⟩
theorem frO_trans {d : Nat} {a b c : mm_MM} (h : frO d a b) (h' : frO d b c) : frO d a c := ⟨fun x k z => (h'.1 x k z).trans (h.1 x k z), h'.2.1.trans h.2.1, h'.2.2.trans h.2.2⟩
theorem WO_f {d a k : Nat} (h : ¬ a = 615 ∧ ¬ a = 616 ∧ ¬ a = 625 ∧ ¬ (a = 606 ∧ k = 32) ∧ ¬ (a = 627 ∧ 50 * d ≤ k)) : WO d a k = false := by
  cases hb : WO d a k with
  | false => rfl
  | true =>
    simp only [WO, Nat.ble_eq, Bool.and_eq_true, Bool.or_eq_true, beq_iff_eq] at hb
    omega
theorem WO_n {d a k : Nat} (h : WO d a k = false) : ¬ a = 615 ∧ ¬ a = 616 ∧ ¬ a = 625 ∧ ¬ (a = 606 ∧ k = 32) ∧ ¬ (a = 627 ∧ 50 * d ≤ k) := by
  refine ⟨?_, ?_, ?_, ?_, ?_⟩ <;> intro z
  · subst z; simp [WO] at h
  · subst z; simp [WO] at h
  · subst z; simp [WO] at h
  · obtain ⟨rfl, rfl⟩ := z; simp [WO] at h
  · obtain ⟨rfl, z⟩ := z
    have : Nat.ble (50 * d) k = true := Nat.ble_eq_true_of_le z
    simp [WO, this] at h
theorem W2_f {a k : Nat} (h : ¬ a = 615 ∧ ¬ a = 616 ∧ ¬ a = 625 ∧ ¬ (a = 606 ∧ k = 32)) (h3 : ¬ a = 623 ∨ 50 ≤ k) : W2 a k = false := by
  cases hb : W2 a k with
  | false => rfl
  | true =>
    simp only [W2, Bool.and_eq_true, Bool.or_eq_true, beq_iff_eq, decide_eq_true_eq] at hb
    omega
def suT (T : TT) (b : Nat) (V : Int32) : TT := fun i k => if i = b ∧ k = 0 then V else T i k
theorem suT_o {T : TT} {b : Nat} {V : Int32} {i k : Nat} (h : ¬ k = 0) : suT T b V i k = T i k := if_neg (fun z => h z.2)
theorem suT_TB {T : TT} {b : Nat} {V : Int32} (h : TB W H T) (hV : 0 ≤ V ∧ V ≤ 200) : TB W H (suT T b V) := by
  intro i hi
  rw [suT_o (by decide)] at hi
  obtain ⟨a0, a1, a2, a3, a4, a5⟩ := h i hi
  rw [suT_o (k := 1) (by decide), suT_o (k := 2) (by decide), suT_o (k := 3) (by decide), suT_o (k := 4) (by decide)]
  refine ⟨?_, a1, a2, a3, a4, a5⟩
  unfold suT
  by_cases e : i = b ∧ 0 = 0
  · rw [if_pos e]; exact hV
  · rw [if_neg e]; exact a0
theorem suT_bes {w : Int32} {T : TT} {b : Nat} {V p : Int32} : besN w (suT T b V) p 8 0 0 = besN w T p 8 0 0 := besN_congr (fun i => ⟨suT_o (by decide), suT_o (by decide)⟩) 8 0 0
theorem thr_set {b : Nat} {V : Int32} (hb : b < 8) (h5 : thr m 623 0 b 5 = 1) : thr (wI m 623 (6 * b + 0) V) 623 0 = suT (thr m 623 0) b V := by
  funext i k
  have e5 : ∀ i, (wI m 623 (6 * b + 0) V).1 623 (0 + (6 * i + 5)) = m.1 623 (0 + (6 * i + 5)) := fun i => wI_nk (by omega)
  unfold suT thr
  rw [e5 i]
  by_cases c : i < 8 ∧ m.1 623 (0 + (6 * i + 5)) = 1
  · rw [if_pos c, if_pos c]
    by_cases hk : k < 6
    · rw [if_pos hk, if_pos hk]
      by_cases e : i = b ∧ k = 0
      · obtain ⟨rfl, rfl⟩ := e
        rw [if_pos ⟨rfl, rfl⟩, Nat.zero_add, wI_eq]
      · rw [if_neg e, wI_nk (by omega)]
    · rw [if_neg hk, if_neg hk, if_neg (by omega)]
  · rw [if_neg c, if_neg c, if_neg (fun z => c ⟨by omega, by
      have := (r_thr hb).mp h5
      rw [z.1, Nat.zero_add]; exact this⟩)]
/-- one of the two ways through a month -/
theorem r_odds1 {o : Option (List Cla)} {b : Nat} (hb : b < 8) {y f s d n v : Int32} {c k dd p g : Nat} (hdd : dd < 7)
    (IH : ∀ (m : mm_MM) (t : Nat), EnvR m W H o t → t + k < 10000 → m.1 620 2 = y → m.1 620 3 = f → lyT (thr m 623 0) b → thr m 623 0 b 1 = s → m.1 621 (rowI (m.1 620 0) (thr m 623 0) b) = d → besN (m.1 620 0) (thr m 623 0) (thr m 623 0 b 2) 8 0 0 = n → ∃ m', fX11_oddsFrom g m (Int32.ofNat (dd + 1)) (Int32.ofNat b) v (Int32.ofNat k) (Int32.ofNat c) (Int32.ofNat p) = some (Int32.ofNat (odM o y f s d n v c k (thr m 623 0 b 0, thr m 623 0 b 3, t) p), m') ∧ frO (dd + 1) m m')
    (V : Int32) (hV : 0 ≤ V ∧ V ≤ 200) (m : mm_MM) (t : Nat) (E : EnvR m W H o t) (ht : t + 1 + k < 10000) (ey : m.1 620 2 = y) (ef : m.1 620 3 = f) (hl : lyT (thr m 623 0) b) (e1 : thr m 623 0 b 1 = s) (eD : m.1 621 (rowI (m.1 620 0) (thr m 623 0) b) = d) (eN : besN (m.1 620 0) (thr m 623 0) (thr m 623 0 b 2) 8 0 0 = n) (hA : ∀ j, j < 50 → m.1 627 (50 * dd + j) = m.1 623 j) :
    ∃ m2 m3 m4 m5, fX11_set m (Int32.ofNat b) 0 V = some m2 ∧ fX11_live m2 = some m3 ∧ fX11_oddsFrom g m3 (Int32.ofNat (dd + 1)) (Int32.ofNat b) v (Int32.ofNat k) (Int32.ofNat c) (Int32.ofNat p) = some (Int32.ofNat (odM o y f s d n v c k (st1 o y f s d n (V, thr m 623 0 b 3, t)) p), m4) ∧ fX11_takeBack m4 (Int32.ofNat dd) = some m5 ∧ frO (dd + 1) m m5 ∧ ∀ j, m5.1 623 j = m.1 623 j := by
  have T2 := thr_set (V := V) hb hl.1
  have E2 : EnvR (wI m 623 (6 * b + 0) V) W H o t := EnvR_fr (W := fun a k => a == 623 && k == 6 * b + 0) (fr_wI (fr_refl _ _) (by simp)) rfl (fun a k h => by rcases h with rfl | rfl | rfl | rfl | rfl | rfl <;> rfl) (fun _ => rfl) (fun _ => rfl) (by rw [T2]; exact suT_TB E.2.2.2.2.2.1 hV) ((wI_nk (by omega)).trans E.2.2.2.2.2.2.2.1) E.2.2.2.2.2.2.2.2 E
  obtain ⟨m3, e3, f3, T3, -, -, E3⟩ := r_live E2 (by omega)
  have w20 : ∀ j, (wI m 623 (6 * b + 0) V).1 620 j = m.1 620 j := fun j => wI_ne (by decide)
  have w21 : (wI m 623 (6 * b + 0) V).1 621 = m.1 621 := funext fun j => wI_ne (by decide)
  rw [T2, w20, w20, w20, w21, ey, ef] at T3
  have z20 : ∀ j, m3.1 620 j = m.1 620 j := fun j => (f3.1 620 j (by simp [W2])).trans (w20 j)
  have z21 : ∀ j, m3.1 621 j = m.1 621 j := fun j => (f3.1 621 j (by simp [W2])).trans (wI_ne (by decide))
  have hl2 : lyT (suT (thr m 623 0) b V) b := ⟨(suT_o (by decide)).trans hl.1, by rw [suT_o (by decide)]; exact hl.2⟩
  have hr2 : rowI (m.1 620 0) (suT (thr m 623 0) b V) b = rowI (m.1 620 0) (thr m 623 0) b := by unfold rowI; rw [suT_o (by decide)]
  have hl3 : lyT (thr m3 623 0) b := by rw [T3]; exact nxT_ly.mpr hl2
  have s0 : suT (thr m 623 0) b V b 0 = V := if_pos ⟨rfl, rfl⟩
  have n0 : thr m3 623 0 b 0 = (st1 o y f s d n (V, thr m 623 0 b 3, t)).1 := by
    rw [T3]; unfold nxT
    rw [if_pos hl2, if_pos rfl, suT_o (k := 1) (by decide), suT_o (k := 2) (by decide), suT_o (k := 3) (by decide), hr2, suT_bes, s0, e1, eD, eN]
  have n3 : thr m3 623 0 b 3 = (st1 o y f s d n (V, thr m 623 0 b 3, t)).2.1 := by
    rw [T3]; unfold nxT
    rw [if_pos hl2, if_neg (by decide), if_pos rfl, suT_o (k := 1) (by decide), suT_o (k := 2) (by decide), suT_o (k := 3) (by decide), hr2, suT_bes, s0, e1, eD, eN]
  obtain ⟨m4, e4, f4⟩ := IH m3 (t + 1) E3 (by omega) ((z20 2).trans ey) ((z20 3).trans ef) hl3 (by rw [T3, nxT_o (by decide) (by decide), suT_o (by decide)]; exact e1) (by rw [z20, T3, nxT_row, hr2, z21]; exact eD) (by rw [z20, T3, nxT_o (k := 2) (by decide) (by decide), nxT_bes, suT_bes, suT_o (by decide)]; exact eN)
  rw [n0, n3] at e4
  have e5 := r_takeBack m4 (d := dd) (by omega)
  have h27 : ∀ j, j < 50 → m4.1 627 (50 * dd + j) = m.1 627 (50 * dd + j) := fun j hj => by
    rw [f4.1 _ _ (WO_f (by omega)), f3.1 _ _ (by simp [W2]), wI_ne (by decide)]
  refine ⟨_, m3, m4, _, r_set0 m V hb, e3, e4, e5, ⟨fun a k z => ?_, ?_, ?_⟩, fun j => ?_⟩
  · obtain ⟨q1, q2, q3, q4, q5⟩ := WO_n z
    by_cases ha : a = 623
    · subst ha
      by_cases hk : k < 50
      · have e := cpM_in (m := m4) (B := 623) (o := 0) (N := 50) (A := 627) (p := 50 * dd) hk
        rw [Nat.zero_add] at e
        rw [e, h27 k hk, hA k hk]
      · rw [cpM_out (by omega), f4.1 _ _ (WO_f (by omega)), f3.1 _ _ (W2_f (by omega) (by omega)), wI_nk (by omega)]
    · rw [cpM_ne ha, f4.1 a k z, f3.1 _ _ (W2_f ⟨q1, q2, q3, q4⟩ (Or.inl ha)), wI_ne ha]
  · exact f4.2.1.trans (f3.2 0 19 rfl)
  · exact f4.2.2.trans (f3.2 606 35 rfl)
  · by_cases hk : j < 50
    · have e := cpM_in (m := m4) (B := 623) (o := 0) (N := 50) (A := 627) (p := 50 * dd) hk
      rw [Nat.zero_add] at e
      rw [e, h27 j hk, hA j hk]
    · rw [cpM_out (by omega), f4.1 _ _ (WO_f (by omega)), f3.1 _ _ (W2_f (by omega) (by omega)), wI_nk (by omega)]
theorem frO_up {d : Nat} {a b : mm_MM} (h : frO (d + 1) a b) : frO d a b := ⟨fun x k z => h.1 x k (by
    obtain ⟨q1, q2, q3, q4, q5⟩ := WO_n z
    exact WO_f ⟨q1, q2, q3, q4, fun w => q5 ⟨w.1, by omega⟩⟩), h.2⟩
theorem EnvR_O {o : Option (List Cla)} {t d : Nat} (hB : frO d m m1) (E : EnvR m W H o t) : EnvR m1 W H o t ∧ thr m1 623 0 = thr m 623 0 := by
  obtain ⟨hL, a0, a1, hy, hH, hTB, hD, h49, ht⟩ := E
  have u : ∀ k, m1.1 620 k = m.1 620 k := fun k => hB.1 _ _ (WO_f (by omega))
  have n23 : ∀ k, m1.1 623 k = m.1 623 k := fun k => hB.1 _ _ (WO_f (by omega))
  have hT : thr m1 623 0 = thr m 623 0 := thr_now (fun k _ => n23 k)
  refine ⟨⟨hL, (u 0).trans a0, (u 1).trans a1, by rw [u 2]; exact hy, ?_, by rw [hT]; exact hTB, fun r hr => by rw [hB.1 621 r (WO_f (by omega))]; exact hD r hr, (n23 49).trans h49, ht⟩, hT⟩
  have e29 : m1.1 606 29 = m.1 606 29 := hB.1 _ _ (WO_f (by omega))
  rcases hH with ⟨rfl, h1⟩ | ⟨h, cs, rfl, hh, h1, hl, hw⟩
  · exact Or.inl ⟨rfl, e29.trans h1⟩
  · exact Or.inr ⟨h, cs, rfl, hh, e29.trans h1, LawR_fr (fun a ha k => hB.1 _ _ (WO_f (by omega))) hl, hw⟩
theorem mole32 {p c : Nat} (hp : p ≤ 1000000000) (hc : c ≤ 100) : Int64.toInt32 (((Int32.toInt64 (Int32.ofNat p)) * (Int32.toInt64 (Int32.ofNat c))) / 100) = Int32.ofNat (p * c / 100) := by
  rw [t64_n (c := p) (by omega), mole64 hp hc, Int64.toInt32_ofNat']
theorem r_odds_l {o : Option (List Cla)} {b : Nat} (hb : b < 8) {y f s d n v : Int32} {c : Nat} (hc : c ≤ 100) : ∀ (k dd p g : Nat) (m : mm_MM) (t : Nat), k < g → dd + k ≤ 6 → p ≤ 1000000000 → EnvR m W H o t → t + k < 10000 → m.1 620 2 = y → m.1 620 3 = f → lyT (thr m 623 0) b → thr m 623 0 b 1 = s → m.1 621 (rowI (m.1 620 0) (thr m 623 0) b) = d → besN (m.1 620 0) (thr m 623 0) (thr m 623 0 b 2) 8 0 0 = n → ∃ m', fX11_oddsFrom g m (Int32.ofNat dd) (Int32.ofNat b) v (Int32.ofNat k) (Int32.ofNat c) (Int32.ofNat p) = some (Int32.ofNat (odM o y f s d n v c k (thr m 623 0 b 0, thr m 623 0 b 3, t) p), m') ∧ frO dd m m' := by
  intro k
  induction k with
  | zero =>
    intro dd p g m t hg hdd hp E ht ey ef hl e1 eD eN
    obtain ⟨g, rfl⟩ : ∃ h, g = h + 1 := ⟨g - 1, by omega⟩
    refine ⟨m, ?_, frO_refl _ _⟩
    rw [fX11_oddsFrom, odM]
    dsimp only
    unfold fX11_oddsFrom_b
    rw [if_pos (show Int32.ofNat 0 = 0 from rfl), r_of0 m hb]
    simp only [Option.bind_some, fX11_oddsFrom_b_c21]
    rw [← thr_k0 hl.1 (show 0 < 6 by decide)]
    by_cases e : thr m 623 0 b 0 < v
    · rw [if_pos e, if_pos e]; rfl
    · rw [if_neg e, if_neg e]
  | succ k ih =>
    intro dd p g m t hg hdd hp E ht ey ef hl e1 eD eN
    obtain ⟨g, rfl⟩ : ∃ h, g = h + 1 := ⟨g - 1, by omega⟩
    have hm := mole_le (p := p) hc
    have hpA := r_putAside m (d := dd) (by omega)
    generalize hm1 : cpM m 627 (50 * dd) 50 623 0 = m1 at hpA
    have n1 : ∀ a j, ¬ a = 627 → m1.1 a j = m.1 a j := fun a j h => by rw [← hm1]; exact cpM_ne h
    have f1 : frO dd m m1 := by
      refine ⟨fun a j z => ?_, by rw [← hm1]; rfl, by rw [← hm1]; rfl⟩
      by_cases ha : a = 627
      · subst ha
        obtain ⟨-, -, -, -, q5⟩ := WO_n z
        rw [← hm1]; exact cpM_out (by omega)
      · exact n1 a j ha
    have hA1 : ∀ j, j < 50 → m1.1 627 (50 * dd + j) = m1.1 623 j := fun j hj => by
      rw [n1 623 j (by decide), ← hm1]
      have e := cpM_in (m := m) (B := 627) (o := 50 * dd) (N := 50) (A := 623) (p := 0) hj
      rw [Nat.zero_add] at e
      exact e
    obtain ⟨E1, T1⟩ := EnvR_O f1 E
    have hTB := E.2.2.2.2.2.1 b hl.1
    obtain ⟨m2, m3, m4, m5, s2, s3, s4, s5, f5, r5⟩ := r_odds1 (k := k) (dd := dd) (p := p - p * c / 100) (g := g) hb (by omega) (fun M t' z1 z2 z3 z4 z5 z6 z7 z8 => ih (dd + 1) (p - p * c / 100) g M t' (by omega) (by omega) (by omega) z1 z2 z3 z4 z5 z6 z7 z8) (thr m 623 0 b 0) hTB.1 m1 t E1 (by omega) ((n1 620 2 (by decide)).trans ey) ((n1 620 3 (by decide)).trans ef) (by rw [T1]; exact hl) (by rw [T1]; exact e1) (by rw [T1, n1 620 0 (by decide), n1 621 _ (by decide)]; exact eD) (by rw [T1, n1 620 0 (by decide)]; exact eN) hA1
    have n5 : ∀ a j, a = 620 ∨ a = 621 → m5.1 a j = m1.1 a j := fun a j h => f5.1 _ _ (WO_f (by omega))
    obtain ⟨E5, T5⟩ := EnvR_O f5 E1
    obtain ⟨m6, m7, m8, m9, s6, s7, s8, s9, f9, r9⟩ := r_odds1 (k := k) (dd := dd) (p := p * c / 100) (g := g) hb (by omega) (fun M t' z1 z2 z3 z4 z5 z6 z7 z8 => ih (dd + 1) (p * c / 100) g M t' (by omega) (by omega) (by omega) z1 z2 z3 z4 z5 z6 z7 z8) (thr m 623 0 b 0 / 2) (half_ok hTB.1) m5 t E5 (by omega) (by rw [n5 620 2 (Or.inl rfl)]; exact (n1 620 2 (by decide)).trans ey) (by rw [n5 620 3 (Or.inl rfl)]; exact (n1 620 3 (by decide)).trans ef) (by rw [T5, T1]; exact hl) (by rw [T5, T1]; exact e1) (by rw [T5, T1, n5 620 0 (Or.inl rfl), n1 620 0 (by decide), n5 621 _ (Or.inr rfl), n1 621 _ (by decide)]; exact eD) (by rw [T5, T1, n5 620 0 (Or.inl rfl), n1 620 0 (by decide)]; exact eN) (fun j hj => by
      rw [r5 j, f5.1 627 _ (WO_f (by omega))]; exact hA1 j hj)
    rw [T1] at s4
    rw [T5, T1] at s8
    have v1 : m1.1 623 (6 * b + 0) = thr m 623 0 b 0 := by rw [n1 623 _ (by decide), thr_k0 hl.1 (by decide)]
    refine ⟨m9, ?_, frO_trans f1 (frO_trans (frO_up f5) (frO_up f9))⟩
    rw [fX11_oddsFrom, odM]
    dsimp only
    unfold fX11_oddsFrom_b
    rw [if_neg (fun z => by have := nn_inj (k := 0) (by omega) (by decide) z; omega)]
    refine bs hpA ?_
    rw [mole32 hp hc]
    show fX11_oddsFrom_b_c47 (fX11_oddsFrom g) 20000 m1 (Int32.ofNat dd) (Int32.ofNat b) v (Int32.ofNat (k + 1)) (Int32.ofNat c) (Int32.ofNat p) (Int32.ofNat (p * c / 100)) 0 0 = _
    obtain ⟨K, hK⟩ : ∃ K : Nat, 20000 = K + 3 := ⟨19997, rfl⟩
    rw [hK, fX11_oddsFrom_b_c47]
    dsimp only
    rw [if_pos (show (0 : Int32) < 2 by decide)]
    refine bs (r_of0 m1 hb) ?_
    dsimp only
    rw [if_neg (show ¬ (0 : Int32) + 1 = 0 by decide), show (0 : Int32) + 1 = 1 from rfl, Int32.div_one, v1]
    refine bs s2 (bs s3 ?_)
    rw [if_neg (show ¬ (0 : Int32) = 1 by decide)]
    unfold fX11_oddsFrom_b_c104
    rw [nn_s, nn_p, ← Int32.ofNat_sub _ _ hm]
    refine bs s4 (bs s5 ?_)
    dsimp only
    rw [Int32.zero_add, show (0 : Int32) + 1 = 1 from rfl, fX11_oddsFrom_b_c47]
    dsimp only
    rw [if_pos (show (1 : Int32) < 2 by decide)]
    refine bs (r_of0 m5 hb) ?_
    dsimp only
    rw [if_neg (show ¬ (1 : Int32) + 1 = 0 by decide), show (1 : Int32) + 1 = 2 from rfl, r5, v1]
    refine bs s6 (bs s7 ?_)
    rw [if_pos rfl]
    unfold fX11_oddsFrom_b_c104
    rw [nn_s, nn_p]
    refine bs s8 (bs s9 ?_)
    dsimp only
    rw [show (1 : Int32) + 1 = 2 from rfl, fX11_oddsFrom_b_c47]
    dsimp only
    rw [if_neg (show ¬ (2 : Int32) < 2 by decide), ← Int32.ofNat_add]
    rfl
theorem in3 {x h : Int32} : (if x < 0 then (0 : Int32) else if x ≤ h then 1 else 0) = if ¬ x < 0 ∧ x ≤ h then 1 else 0 := by
  by_cases h1 : x < 0
  · rw [if_pos h1, if_neg (fun z => z.1 h1)]
  · by_cases h2 : x ≤ h
    · rw [if_neg h1, if_pos h2, if_pos ⟨h1, h2⟩]
    · rw [if_neg h1, if_neg h2, if_neg (fun z => h2 z.2)]
theorem q_odds (hi : Inv m) (x n v c : Int32) : EQ m (fun m => fX10_odds m x n v c) (fun m => fX11_odds m x n v c) := by
  obtain ⟨W, H, P, ls, h⟩ := id hi
  have hs := see0 h
  by_cases hx : lyX (thc m 34) x
  · have hxr : lyX (thr m 623 0) x := by rw [hs.1]; exact hx
    obtain ⟨h0, ex, hT5, htx⟩ := tx_b hx.1
    have hk := IA_known h hT5
    have hl2 : ¬ tx (thc m 34) x 2 = -1 := hx.2
    rw [htx] at hl2
    have hf := c_findLying m x
    rw [if_pos hx] at hf
    have hkd : mm_kd (34 + x.toNatClampNeg) = (9, 6) := kd_p (thc_5 hT5).1
    by_cases b1 : ¬ n < 0 ∧ n ≤ 6
    · by_cases b2 : ¬ v < 0 ∧ v ≤ 200
      · by_cases b3 : ¬ c < 0 ∧ c ≤ 100
        · have en := nn_of b1.1
          have hN := (nn_lek (k := 6) b1.1 (by decide)).mp b1.2
          have ec := nn_of b3.1
          have hC := (nn_lek (k := 100) b3.1 (by decide)).mp b3.2
          have hb8 := (thc_5 hT5).1
          generalize x.toNatClampNeg = b at ex hT5 htx hl2 hf hkd hb8
          obtain ⟨o, t, ht, EC, ER⟩ := IA_env h hk
          have hly : lyT (thc m 34) b := ⟨hT5, hl2⟩
          obtain ⟨m7, e7, f7⟩ := c_odds_l EC (by omega) hly (v := v) (N := n.toNatClampNeg) (c := c.toNatClampNeg) hN hC (2 ^ n.toNatClampNeg) 0 0 m fu (by omega) (by
            have : 2 ^ n.toNatClampNeg ≤ 2 ^ 6 := Nat.pow_le_pow_right (by decide) hN
            unfold fu; omega) (by omega) (fr_refl _ _)
          rw [ct_sum, ← en, ← ec, Nat.zero_add] at e7
          have hi7 : Inv m7 := Inv_q (fr_mono WG_Q f7) hi
          have w7 : ∀ a k, 606 ≤ a → m7.1 a k = m.1 a k := fun a k ha => f7.1 a k (WG_hi ha)
          have T7 : thr m7 623 0 = thc m 34 := (thr_now (fun k _ => w7 623 k (by decide))).trans hs.1
          have E7 : EnvR m7 W H o t := EnvR_fr (W := WG) f7 (WG_hi (by decide)) (fun a k z => WG_hi (by omega)) (fun k => WG_hi (by decide)) (fun k => WG_hi (by decide)) (by rw [T7, ← hs.1]; exact ER.2.2.2.2.2.1) ((w7 623 49 (by decide)).trans ER.2.2.2.2.2.2.2.1) ER.2.2.2.2.2.2.2.2 ER
          have hD : m7.1 621 (rowI (m.1 14 3) (thc m 34) b) = m.1 15 (rowI (m.1 14 3) (thc m 34) b) := by
            rw [w7 621 _ (by decide)]
            exact (h.1.2.2.2.1 _ (rowI_lt EC hly)).symm
          obtain ⟨m8, e8, f8⟩ := r_odds_l (o := o) (b := b) hb8 (y := m.1 14 5) (f := m.1 14 6) (s := thc m 34 b 1) (d := m.1 15 (rowI (m.1 14 3) (thc m 34) b)) (n := besN (m.1 14 3) (thc m 34) (thc m 34 b 2) 8 0 0) (v := v) hC n.toNatClampNeg 0 1000000000 12 m7 t (by omega) (by omega) (Nat.le_refl _) E7 (by omega) ((w7 620 2 (by decide)).trans hs.2.2.2.2.1) ((w7 620 3 (by decide)).trans hs.2.2.2.2.2.1) (by rw [T7]; exact hly) (by rw [T7]) (by rw [T7, w7 620 0 (by decide), hs.2.2.1]; exact hD) (by rw [T7, w7 620 0 (by decide), hs.2.2.1])
          rw [T7, ← en, ← ec, ← ex] at e8
          have iv8 : Inv m8 := Inv_B (m := m7) ⟨fun a k z => f8.1 a k (by
            cases hb : WO 0 a k with
            | false => rfl
            | true =>
              have : WQ a k = true := by
                simp only [WO, Nat.ble_eq, Bool.and_eq_true, Bool.or_eq_true, beq_iff_eq] at hb
                rcases hb with (((rfl | rfl) | rfl) | ⟨rfl, rfl⟩) | ⟨rfl, -⟩
                · simp [WQ]
                · simp [WQ]
                · simp [WQ]
                · simp [WQ]
                · simp [WQ, show Nat.ble 627 627 = true from rfl, show Nat.ble 585 627 = true from rfl, show Nat.blt 627 631 = true from rfl]
              rw [this] at z; cases z), f8.2⟩ hi7
          refine ⟨Int32.ofNat (odM o (m.1 14 5) (m.1 14 6) (thc m 34 b 1) (m.1 15 (rowI (m.1 14 3) (thc m 34) b)) (besN (m.1 14 3) (thc m 34) (thc m 34 b 2) 8 0 0) v c.toNatClampNeg n.toNatClampNeg (thc m 34 b 0, thc m 34 b 3, t) 1000000000), m7, m8, ?_, ?_, iv8⟩
          · simp only [fX10_odds, hf, Option.bind_some, if_pos hkd, if_neg b1.1, if_pos b1.2, if_neg b2.1, if_pos b2.2, if_neg b3.1, if_pos b3.2, fX10_odds_c48, if_neg (show ¬ (1 : Int32) = 0 by decide)]
            exact e7
          · have dl := r_doesLie m7 x
            rw [T7, if_pos hx] at dl
            simp only [fX11_odds, dl, Option.bind_some, if_neg (show ¬ (1 : Int32) = 0 by decide), r_in, in3, if_pos b1, if_pos b2, if_pos b3]
            exact bs e8 rfl
        · refine EQ_0 (v := -1) hi ?_ ?_
          · simp only [fX10_odds, hf, Option.bind_some, if_pos hkd, if_neg b1.1, if_pos b1.2, if_neg b2.1, if_pos b2.2, fX10_odds_c47, fX10_odds_c48, fX10_odds_c60, if_true]
            by_cases z1 : c < 0
            · rw [if_pos z1]
            · rw [if_neg z1, if_neg (fun z => b3 ⟨z1, z⟩)]
          · simp only [fX11_odds, r_doesLie, if_pos hxr, Option.bind_some, if_neg (show ¬ (1 : Int32) = 0 by decide), r_in, in3, if_pos b1, if_pos b2, if_neg b3, if_true, fX11_odds_c40]
      · refine EQ_0 (v := -1) hi ?_ ?_
        · simp only [fX10_odds, hf, Option.bind_some, if_pos hkd, if_neg b1.1, if_pos b1.2, fX10_odds_c47, fX10_odds_c48, fX10_odds_c60, if_true]
          by_cases z1 : v < 0
          · rw [if_pos z1]
          · rw [if_neg z1, if_neg (fun z => b2 ⟨z1, z⟩)]
        · simp only [fX11_odds, r_doesLie, if_pos hxr, Option.bind_some, if_neg (show ¬ (1 : Int32) = 0 by decide), r_in, in3, if_pos b1, if_neg b2, if_true, fX11_odds_c40]
    · refine EQ_0 (v := -1) hi ?_ ?_
      · simp only [fX10_odds, hf, Option.bind_some, if_pos hkd, fX10_odds_c47, fX10_odds_c48, fX10_odds_c60, if_true]
        by_cases z1 : n < 0
        · rw [if_pos z1]
        · rw [if_neg z1, if_neg (fun z => b1 ⟨z1, z⟩)]
      · simp only [fX11_odds, r_doesLie, if_pos hxr, Option.bind_some, if_neg (show ¬ (1 : Int32) = 0 by decide), r_in, in3, if_neg b1, if_true, fX11_odds_c40]
  · have hxr : ¬ lyX (thr m 623 0) x := by rw [hs.1]; exact hx
    refine EQ_0 (v := -1) hi ?_ ?_
    · simp only [fX10_odds, c_findLying, if_neg hx, Option.bind_some, fX10_odds_c47, fX10_odds_c48, fX10_odds_c60]
      by_cases z1 : n < 0
      · simp [z1]
      · by_cases z2 : n ≤ 6
        · by_cases z3 : v < 0
          · simp [z1, z2, z3]
          · by_cases z4 : v ≤ 200
            · by_cases z5 : c < 0
              · simp [z1, z2, z3, z4, z5]
              · by_cases z6 : c ≤ 100 <;> simp [z1, z2, z3, z4, z5, z6]
            · simp [z1, z2, z3, z4]
        · simp [z1, z2]
    · simp only [fX11_odds, r_doesLie, if_neg hxr, Option.bind_some, if_true, fX11_odds_c40]
end ODD
