/-! LEAST, GREATEST, AMOUNT; STEPS, BESIDE -/
def mi (a b : Int32) : Int32 := if a ≤ b then a else b
def ma (a b : Int32) : Int32 := if a < b then b else a
def ab (a : Int32) : Int32 := if a < 0 then -a else a
theorem j_min (m : mm_MM) (a b : Int32) : fJ9_min_7cf53 m a b = some (mi a b, m) := by
  unfold fJ9_min_7cf53 fJ9_min_7cf53_c10 mi
  by_cases h : a ≤ b <;> simp [h]
theorem j_max (m : mm_MM) (a b : Int32) : fJ9_max_7cf53 m a b = some (ma a b, m) := by
  unfold fJ9_max_7cf53 fJ9_max_7cf53_c10 ma
  by_cases h : a < b <;> simp [h]
theorem j_abs (m : mm_MM) (a : Int32) : fJ9_abs_0f7a4 m a = some (ab a, m) := by
  unfold fJ9_abs_0f7a4 fJ9_abs_0f7a4_c10 ab
  by_cases h : a < 0 <;> simp [h]
def rem (x w : Int32) : Int32 := x - x / w * w
def stp (w x y : Int32) : Int32 := ab (x / w - y / w) + ab (rem x w - rem y w)
theorem stp_self (w x : Int32) : ¬ stp w x x = 1 := by
  unfold stp
  rw [Int32.sub_self, Int32.sub_self]
  decide
theorem c_rowOf (m : mm_MM) {x : Int32} (hw : ¬ m.1 14 3 ≤ 0) : fX1_rowOf m 14 x = some (x / m.1 14 3, m) := by
  have h0 : ¬ m.1 14 3 = 0 := fun z => hw (by rw [z]; decide)
  simp [fX1_rowOf, fX1_rowOf_c17, hw, h0]
theorem c_steps (m : mm_MM) {x y : Int32} (hw : ¬ m.1 14 3 ≤ 0) : fX1_steps m 14 x y = some (stp (m.1 14 3) x y, m) := by
  have h0 : ¬ m.1 14 3 = 0 := fun z => hw (by rw [z]; decide)
  simp [fX1_steps, fX1_steps_c24, c_rowOf m hw, j_abs, hw, h0, stp, rem]
theorem r_stepsFrom (m : mm_MM) {x y : Int32} (hw : ¬ m.1 620 0 = 0) : fX11_stepsFrom m x y = some (stp (m.1 620 0) x y, m) := by
  simp [fX11_stepsFrom, j_abs, hw, stp, rem, Int32.add_comm]
/-- how many lie beside a plot -/
def besN (w : Int32) (T : TT) (p : Int32) : Nat → Nat → Int32 → Int32
  | 0, _, a => a
  | n + 1, b, a => besN w T p n (b + 1) (if lyT T b ∧ stp w p (T b 2) = 1 then a + 1 else a)
theorem c_countBeside_l (m : mm_MM) (p : Int32) (hw : ¬ m.1 14 3 ≤ 0) : ∀ (n b : Nat) (a : Int32) (f : Nat), b + n = 8 → n < f → fX10_countBeside_c4 f m p a (Int32.ofNat b) = some (besN (m.1 14 3) (thc m 34) p n b a, m) := by
  intro n
  induction n with
  | zero =>
    intro b a f hb hf
    obtain ⟨f, rfl⟩ : ∃ g, f = g + 1 := ⟨f - 1, by omega⟩
    obtain rfl : b = 8 := by omega
    rfl
  | succ n ih =>
    intro b a f hb hf
    obtain ⟨f, rfl⟩ : ∃ g, f = g + 1 := ⟨f - 1, by omega⟩
    have h8 : Int32.ofNat b < 8 := (nn_lt (k := 8) (by omega) (by decide)).mpr (by omega)
    have hb8 : b < 8 := by omega
    have hi := fun a => ih (b + 1) a f (by omega) (by omega)
    rw [← nn_s b] at hi
    simp only [fX10_countBeside_c4, fX10_countBeside_c45, if_pos h8, c_findLying_n m hb8, Option.bind_some, besN]
    by_cases h : lyT (thc m 34) b
    · have hk : mm_kd (34 + b) = (9, 6) := kd_p hb8
      simp only [if_pos h, hk, if_true, c_steps m hw, Option.bind_some, thc_k h.1 (show 2 < 5 by decide)]
      by_cases hp : stp (m.1 14 3) p (m.1 (34 + b) 3) = 1
      · simp [hp, if_pos h, hi]
      · simp [hp, hi]
    · simp [h, hi]
theorem c_countBeside (m : mm_MM) (p : Int32) (hw : ¬ m.1 14 3 ≤ 0) : fX10_countBeside m p = some (besN (m.1 14 3) (thc m 34) p 8 0 0, m) := c_countBeside_l m p hw 8 0 0 fu rfl (by decide)
theorem r_besideOf_l (m : mm_MM) {c : Nat} (hc : c < 8) (hw : ¬ m.1 620 0 = 0) (hT : thr m 623 0 c 5 = 1) : ∀ (n b : Nat) (a : Int32) (f : Nat), b + n = 8 → n < f → fX11_besideOf_c4 f m (Int32.ofNat c) a (Int32.ofNat b) = some (besN (m.1 620 0) (thr m 623 0) (thr m 623 0 c 2) n b a, m) := by
  intro n
  induction n with
  | zero =>
    intro b a f hb hf
    obtain ⟨f, rfl⟩ : ∃ g, f = g + 1 := ⟨f - 1, by omega⟩
    obtain rfl : b = 8 := by omega
    rfl
  | succ n ih =>
    intro b a f hb hf
    obtain ⟨f, rfl⟩ : ∃ g, f = g + 1 := ⟨f - 1, by omega⟩
    have h8 : Int32.ofNat b < 8 := (nn_lt (k := 8) (by omega) (by decide)).mpr (by omega)
    have hb8 : b < 8 := by omega
    have hi := fun a => ih (b + 1) a f (by omega) (by omega)
    rw [← nn_s b] at hi
    simp only [fX11_besideOf_c4, fX11_besideOf_c49, fX11_besideOf_c48, if_pos h8, r_doesLie_n m hb8, Option.bind_some, besN]
    by_cases hbc : b = c
    · subst hbc
      rw [if_pos rfl, if_neg (fun z => stp_self _ _ z.2), Int32.add_zero, hi]
    · rw [if_neg (fun z => hbc (nn_inj (by omega) (by omega) z))]
      by_cases h : lyT (thr m 623 0) b
      · have hs := r_stepsFrom m (x := thr m 623 0 c 2) (y := thr m 623 0 b 2) hw
        rw [thr_k0 hT (by decide), thr_k0 h.1 (by decide)] at hs
        simp only [if_pos h, r_of2 m hc, r_of2 m hb8, hs, Option.bind_some, thr_k0 h.1 (show 2 < 6 by decide), thr_k0 hT (show 2 < 6 by decide)]
        rw [thr_k0 hT (by decide)] at hi
        by_cases hp : stp (m.1 620 0) (m.1 623 (6 * c + 2)) (m.1 623 (6 * b + 2)) = 1
        · simp [hp, if_pos h, hi]
        · simp [hp, hi]
      · simp [h, hi]
theorem r_besideOf (m : mm_MM) {c : Nat} (hc : c < 8) (hw : ¬ m.1 620 0 = 0) (hT : thr m 623 0 c 5 = 1) : fX11_besideOf m (Int32.ofNat c) = some (besN (m.1 620 0) (thr m 623 0) (thr m 623 0 c 2) 8 0 0, m) := r_besideOf_l m hc hw hT 8 0 0 fu rfl (by decide)
/-! which plots and rows there are -/
abbrev isPl (kn w h x : Int32) : Prop := ¬ kn = 0 ∧ ¬ x < 0 ∧ x < w * h
abbrev isRw (kn h x : Int32) : Prop := ¬ kn = 0 ∧ ¬ x < 0 ∧ x < h
theorem le_sub1 {x P : Int32} (h : 0 < P) : (x ≤ P - 1) = (x < P) := by grind
theorem c_isPlot (m : mm_MM) (x : Int32) : fX10_isPlot m x = some (if isPl (m.1 0 14) (m.1 14 3) (m.1 14 4) x then 1 else 0, m) := by
  simp only [fX10_isPlot, fX10_isPlot_c26, fX10_isPlot_c27, fX1_plots, Option.bind_some]
  grind
theorem c_isRow (m : mm_MM) (x : Int32) : fX10_isRow m x = some (if isRw (m.1 0 14) (m.1 14 4) x then 1 else 0, m) := by
  simp only [fX10_isRow, fX10_isRow_c26, fX10_isRow_c27, Option.bind_some]
  grind
theorem r_isPlot (m : mm_MM) (x : Int32) (hp : 0 < m.1 620 0 * m.1 620 1) : fX11_isPlot m x = some (if isPl (m.1 606 26) (m.1 620 0) (m.1 620 1) x then 1 else 0, m) := by
  simp only [fX11_isPlot, fX11_isPlot_c25, fX11_isPlot_c26, fX11_plots, Option.bind_some, r_in]
  simp only [le_sub1 hp]
  by_cases h1 : m.1 606 26 = 0 <;> by_cases h2 : x < 0 <;> by_cases h3 : x < m.1 620 0 * m.1 620 1 <;> simp [h1, h2, h3]
theorem r_isRow (m : mm_MM) (x : Int32) (hp : 0 < m.1 620 1) : fX11_isRow m x = some (if isRw (m.1 606 26) (m.1 620 1) x then 1 else 0, m) := by
  simp only [fX11_isRow, fX11_isRow_c27, fX11_isRow_c28, Option.bind_some, r_in]
  grind
theorem c_pick (m : mm_MM) (a : Nat) (x : Int32) (n : Nat) (hn : (mm_kd a).2 = n) (h2 : n < 2 ^ 31) : fX10_pick m a x = some (if x < 0 then 0 else if x.toNatClampNeg < n then m.1 a x.toNatClampNeg else 0, m) := by
  unfold fX10_pick fX10_pick_c16 fX10_pick_c17
  rw [hn]
  by_cases h0 : x < 0
  · simp [h0]
  · have := nn_ltk (k := n) h0 h2
    by_cases h : x.toNatClampNeg < n
    · rw [if_neg h0, if_neg h0, if_pos (this.mpr h), nn_g h0 h, if_pos h]
    · rw [if_neg h0, if_neg h0, if_neg (fun z => h (this.mp z)), if_neg h]
theorem c_pick_n (m : mm_MM) (a : Nat) {b n : Nat} (hn : (mm_kd a).2 = n) (h2 : n < 2 ^ 31) (hb : b < n) : fX10_pick m a (Int32.ofNat b) = some (m.1 a b, m) := by
  rw [c_pick m a _ n hn h2, if_neg (nn_n0 (by omega)), nn_tn (by omega), if_pos hb]
theorem c_place_n (m : mm_MM) (a : Nat) {b n : Nat} (v : Int32) (hn : (mm_kd a).2 = n) (h2 : n < 2 ^ 31) (hb : b < n) : fX10_place m a (Int32.ofNat b) v = some (wI m a b v) := by
  have h0 : ¬ Int32.ofNat b < 0 := nn_n0 (by omega)
  have h1 : Int32.ofNat b < Int32.ofNat n := (nn_lt (by omega) h2).mpr hb
  simp only [fX10_place, hn]
  rw [if_neg h0, if_pos h1, nn_go (by omega) hb, nn_tn (by omega)]
  rfl
/-! a free place -/
def freP (T : TT) : Nat → Nat → Int32
  | 0, _ => -1
  | n + 1, b => if T b 5 = 1 then freP T n (b + 1) else Int32.ofNat b
theorem c_freePlace_l (m : mm_MM) : ∀ (n b f : Nat), b + n = 8 → n < f → fX7_freePlace_c2 f m 29 (Int32.ofNat b) = some (freP (thc m 34) n b, m) := by
  intro n
  induction n with
  | zero =>
    intro b f hb hf
    obtain ⟨f, rfl⟩ : ∃ g, f = g + 1 := ⟨f - 1, by omega⟩
    obtain rfl : b = 8 := by omega
    rfl
  | succ n ih =>
    intro b f hb hf
    obtain ⟨f, rfl⟩ : ∃ g, f = g + 1 := ⟨f - 1, by omega⟩
    have h8 : Int32.ofNat b < 8 := (nn_lt (k := 8) (by omega) (by decide)).mpr (by omega)
    have hb8 : b < 8 := by omega
    have hi := ih (b + 1) f (by omega) (by omega)
    rw [← nn_s b] at hi
    simp only [fX7_freePlace_c2, if_pos h8, c_find_n m hb8, Option.bind_some, freP]
    by_cases h : thc m 34 b 5 = 1
    · have hk : mm_kd (34 + b) = (9, 6) := kd_p hb8
      simp [h, hk, hi]
    · simp [h]
theorem c_freePlace (m : mm_MM) : fX7_freePlace m 29 = some (freP (thc m 34) 8 0, m) := c_freePlace_l m 8 0 fu rfl (by decide)
theorem r_freePlace_l (m : mm_MM) : ∀ (n b f : Nat), b + n = 8 → n < f → fX11_freePlace_c2 f m (Int32.ofNat b) = some (freP (thr m 623 0) n b, m) := by
  intro n
  induction n with
  | zero =>
    intro b f hb hf
    obtain ⟨f, rfl⟩ : ∃ g, f = g + 1 := ⟨f - 1, by omega⟩
    obtain rfl : b = 8 := by omega
    rfl
  | succ n ih =>
    intro b f hb hf
    obtain ⟨f, rfl⟩ : ∃ g, f = g + 1 := ⟨f - 1, by omega⟩
    have h8 : Int32.ofNat b < 8 := (nn_lt (k := 8) (by omega) (by decide)).mpr (by omega)
    have hb8 : b < 8 := by omega
    have hi := ih (b + 1) f (by omega) (by omega)
    rw [← nn_s b] at hi
    simp only [fX11_freePlace_c2, if_pos h8, r_isThere_n m hb8, Option.bind_some, freP]
    by_cases h : thr m 623 0 b 5 = 1
    · simp [h, hi]
    · simp [h]
theorem r_freePlace (m : mm_MM) : fX11_freePlace m = some (freP (thr m 623 0) 8 0, m) := r_freePlace_l m 8 0 fu rfl (by decide)
/-! the thing in a place: how it is read -/
theorem c_ripe (m : mm_MM) {b : Nat} (h : thc m 34 b 5 = 1) : fX10_isRipe m (34 + b) = some (if thc m 34 b 3 < m.1 14 5 then 0 else 1, m) := by
  rw [thc_k h (by decide)]
  simp only [fX10_isRipe, fX10_isRipe_c19]
  grind
