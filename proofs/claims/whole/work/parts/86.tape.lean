/-! THE TAPE, on both sides: heads, signs, numbers -/
theorem wI_self {m : mm_MM} {a k : Nat} {v : Int32} (h : m.1 a k = v) : wI m a k v = m := by
  refine Prod.ext (funext fun i => funext fun j => ?_) rfl
  show (if i = a ∧ j = k then v else m.1 i j) = m.1 i j
  by_cases c : i = a ∧ j = k
  · rw [if_pos c, c.1, c.2, h]
  · rw [if_neg c]
theorem wI_two {m : mm_MM} {a k : Nat} {v w : Int32} : wI (wI m a k v) a k w = wI m a k w := by
  refine Prod.ext (funext fun i => funext fun j => ?_) rfl
  show (if i = a ∧ j = k then w else (wI m a k v).1 i j) = if i = a ∧ j = k then w else m.1 i j
  by_cases c : i = a ∧ j = k
  · rw [if_pos c, if_pos c]
  · rw [if_neg c, if_neg c, wI_1, if_neg c]
theorem wI_swap {m : mm_MM} {a k b l : Nat} {v w : Int32} (h : ¬ (a = b ∧ k = l)) : wI (wI m a k v) b l w = wI (wI m b l w) a k v := by
  refine Prod.ext (funext fun i => funext fun j => ?_) rfl
  show (if i = b ∧ j = l then w else if i = a ∧ j = k then v else m.1 i j) = if i = a ∧ j = k then v else if i = b ∧ j = l then w else m.1 i j
  by_cases c : i = b ∧ j = l
  · rw [if_pos c, if_pos c, if_neg (fun z => h ⟨z.1.symm.trans c.1, z.2.symm.trans c.2⟩)]
  · rw [if_neg c, if_neg c]
def hC (m : mm_MM) (p : Nat) : mm_MM := wI m 1 2 (Int32.ofNat p)
def hR (m : mm_MM) (p : Nat) : mm_MM := wI m 606 3 (Int32.ofNat p)
theorem hC_2 (m : mm_MM) (p q : Nat) : hC (hC m p) q = hC m q := wI_two
theorem hR_2 (m : mm_MM) (p q : Nat) : hR (hR m p) q = hR m q := wI_two
theorem hC_h (m : mm_MM) (p : Nat) : (hC m p).1 1 2 = Int32.ofNat p := wI_eq
theorem hR_h (m : mm_MM) (p : Nat) : (hR m p).1 606 3 = Int32.ofNat p := wI_eq
theorem hC_n {m : mm_MM} {p a k : Nat} (h : ¬ (a = 1 ∧ k = 2)) : (hC m p).1 a k = m.1 a k := by
  show (wI m 1 2 _).1 a k = _
  rw [wI_1, if_neg h]
theorem hR_n {m : mm_MM} {p a k : Nat} (h : ¬ (a = 606 ∧ k = 3)) : (hR m p).1 a k = m.1 a k := by
  show (wI m 606 3 _).1 a k = _
  rw [wI_1, if_neg h]
theorem hC_s (m : mm_MM) (p : Nat) : wI (hC m p) 1 2 ((hC m p).1 1 2 + 1) = hC m (p + 1) := by
  rw [hC_h, nn_s]; exact wI_two
theorem hR_s (m : mm_MM) (p : Nat) : wI (hR m p) 606 3 ((hR m p).1 606 3 + 1) = hR m (p + 1) := by
  rw [hR_h, nn_s]; exact wI_two
section TAP
variable {B : Nat → Int32} {n : Nat} {m : mm_MM}
def tpeC (m : mm_MM) (B : Nat → Int32) (n : Nat) : Prop := m.1 1 1 = Int32.ofNat n ∧ ∀ i, i < n → m.1 2 i = B i
def tpeR (m : mm_MM) (B : Nat → Int32) (n : Nat) : Prop := m.1 606 2 = Int32.ofNat n ∧ ∀ i, i < n → m.1 607 i = B i
def sg (B : Nat → Int32) (n p : Nat) : Int32 := if p < n then B p else -1
def skF (B : Nat → Int32) : Nat → Nat → Nat
  | 0, p => p
  | k + 1, p => if B p = 32 then skF B k (p + 1) else p
def sk (B : Nat → Int32) (n p : Nat) : Nat := skF B (n - p) p
theorem sk_s {p : Nat} (h : p < n) (hb : B p = 32) : sk B n p = sk B n (p + 1) := by
  unfold sk
  rw [show n - p = n - (p + 1) + 1 by omega, skF, if_pos hb]
theorem sk_0 {p : Nat} (h : ¬ (p < n ∧ B p = 32)) : sk B n p = p := by
  unfold sk
  by_cases c : p < n
  · rw [show n - p = n - (p + 1) + 1 by omega, skF, if_neg (fun z => h ⟨c, z⟩)]
  · rw [show n - p = 0 by omega, skF]
theorem skF_b (B : Nat → Int32) : ∀ k p, p ≤ skF B k p ∧ skF B k p ≤ p + k
  | 0, p => ⟨Nat.le_refl _, Nat.le_refl _⟩
  | k + 1, p => by
    rw [skF]
    by_cases c : B p = 32
    · rw [if_pos c]; have := skF_b B k (p + 1); omega
    · rw [if_neg c]; omega
theorem sk_le (B : Nat → Int32) (n p : Nat) : p ≤ sk B n p := (skF_b B _ p).1
theorem sk_n {p : Nat} (h : p ≤ n) : sk B n p ≤ n := by have := (skF_b B (n - p) p).2; unfold sk; omega
theorem skF_no (B : Nat → Int32) (n : Nat) : ∀ k p, k = n - p → ¬ (skF B k p < n ∧ B (skF B k p) = 32)
  | 0, p, h => by rw [skF]; intro z; omega
  | k + 1, p, h => by
    rw [skF]
    by_cases c : B p = 32
    · rw [if_pos c]; exact skF_no B n k (p + 1) (by omega)
    · rw [if_neg c]; exact fun z => c z.2
theorem sk_no (p : Nat) : ¬ (sk B n p < n ∧ B (sk B n p) = 32) := skF_no B n _ p rfl
theorem sk_sk (p : Nat) : sk B n (sk B n p) = sk B n p := sk_0 (sk_no p)
theorem tpeC_h {p : Nat} (h : tpeC m B n) : tpeC (hC m p) B n := ⟨(hC_n (by omega)).trans h.1, fun i hi => (hC_n (by omega)).trans (h.2 i hi)⟩
theorem tpeR_h {p : Nat} (h : tpeR m B n) : tpeR (hR m p) B n := ⟨(hR_n (by omega)).trans h.1, fun i hi => (hR_n (by omega)).trans (h.2 i hi)⟩
theorem c_raw (h : tpeC m B n) (hn : n ≤ 240) {p : Nat} (hp : p < 1000) : fX8_raw (hC m p) = some (sg B n p, hC m p) := by
  unfold fX8_raw fX8_raw_c26 sg
  rw [hC_h, hC_n (show ¬ (1 = 1 ∧ 1 = 2) by decide), h.1]
  by_cases c : p < n
  · rw [if_pos ((nn_lt (by omega) (by omega)).mpr c), if_pos c, c_pick_n _ 2 (n := 240) rfl (by decide) (by omega), hC_n (by omega), h.2 p c]
    rfl
  · rw [if_neg (fun z => c ((nn_lt (by omega) (by omega)).mp z)), if_neg c]
theorem c_sign_l (h : tpeC m B n) (hn : n ≤ 240) : ∀ (k p g : Nat), n - p = k → p < 900 → k < g → fX8_sign_c0 g (hC m p) = some (sg B n (sk B n p), hC m (sk B n p)) := by
  intro k
  induction k with
  | zero =>
    intro p g hk hp hg
    obtain ⟨g, rfl⟩ : ∃ q, g = q + 1 := ⟨g - 1, by omega⟩
    rw [fX8_sign_c0]
    dsimp only
    rw [hC_h, hC_n (show ¬ (1 = 1 ∧ 1 = 2) by decide), h.1, if_neg (fun z => by have := (nn_lt (by omega) (by omega)).mp z; omega), sk_0 (by omega)]
    exact bs (c_raw h hn (by omega)) rfl
  | succ k ih =>
    intro p g hk hp hg
    obtain ⟨g, rfl⟩ : ∃ q, g = q + 1 := ⟨g - 1, by omega⟩
    rw [fX8_sign_c0]
    dsimp only
    rw [hC_h, hC_n (show ¬ (1 = 1 ∧ 1 = 2) by decide), h.1, if_pos ((nn_lt (by omega) (by omega)).mpr (by omega)), c_pick_n _ 2 (n := 240) rfl (by decide) (by omega), hC_n (by omega), h.2 p (by omega)]
    simp only [Option.bind_some]
    by_cases c : B p = 32
    · rw [if_pos c, hC_s, sk_s (by omega) c]
      exact ih (p + 1) g (by omega) (by omega) (by omega)
    · rw [if_neg c, sk_0 (fun z => c z.2)]
      exact bs (c_raw h hn (by omega)) rfl
theorem c_sign (h : tpeC m B n) (hn : n ≤ 240) {p : Nat} (hp : p < 900) : fX8_sign (hC m p) = some (sg B n (sk B n p), hC m (sk B n p)) := c_sign_l h hn (n - p) p fu rfl hp (by unfold fu; omega)
theorem c_skp (m : mm_MM) (p : Nat) : fX8_skip (hC m p) = some (hC m (p + 1)) := by
  unfold fX8_skip
  rw [hC_s]
theorem c_took (h : tpeC m B n) (hn : n ≤ 240) {p : Nat} (hp : p < 900) (x : Int32) : fX8_took (hC m p) x = some (if sg B n (sk B n p) = x then (1, hC m (sk B n p + 1)) else (0, hC m (sk B n p))) := by
  unfold fX8_took
  rw [c_sign h hn hp]
  simp only [Option.bind_some, hC_s]
  by_cases c : sg B n (sk B n p) = x
  · rw [if_pos c, if_pos c]
  · rw [if_neg c, if_neg c]
theorem r_here (h : tpeR m B n) (hn : n ≤ 240) {p : Nat} (hp : p < 1000) : fX11_here (hR m p) = some (sg B n p, hR m p) := by
  unfold fX11_here fX11_here_c24 sg
  rw [hR_h, hR_n (show ¬ (606 = 606 ∧ 2 = 3) by decide), h.1]
  by_cases c : p < n
  · rw [if_pos ((nn_lt (by omega) (by omega)).mpr c), if_pos c, nn_go (by omega) (by omega), nn_tn (by omega), hR_n (by omega), h.2 p c]
  · rw [if_neg (fun z => c ((nn_lt (by omega) (by omega)).mp z)), if_neg c]
theorem r_look_l (h : tpeR m B n) (hn : n ≤ 240) : ∀ (k p g : Nat), n - p = k → p < 900 → k < g → fX11_look_c0 g (hR m p) = some (sg B n (sk B n p), hR m (sk B n p)) := by
  intro k
  induction k with
  | zero =>
    intro p g hk hp hg
    obtain ⟨g, rfl⟩ : ∃ q, g = q + 1 := ⟨g - 1, by omega⟩
    have hs : sg B n p = -1 := if_neg (by omega)
    rw [fX11_look_c0]
    dsimp only
    rw [r_here h hn (by omega)]
    simp only [Option.bind_some]
    rw [hs, if_neg (by decide), sk_0 (by omega), r_here h hn (by omega)]
    rfl
  | succ k ih =>
    intro p g hk hp hg
    obtain ⟨g, rfl⟩ : ∃ q, g = q + 1 := ⟨g - 1, by omega⟩
    have hs : sg B n p = B p := if_pos (by omega)
    rw [fX11_look_c0]
    dsimp only
    rw [r_here h hn (by omega)]
    simp only [Option.bind_some, hR_s]
    by_cases c : B p = 32
    · rw [hs, if_pos c, sk_s (by omega) c]
      exact ih (p + 1) g (by omega) (by omega) (by omega)
    · rw [hs, if_neg c, sk_0 (fun z => c z.2), r_here h hn (by omega)]
      rfl
theorem r_look (h : tpeR m B n) (hn : n ≤ 240) {p : Nat} (hp : p < 900) : fX11_look (hR m p) = some (sg B n (sk B n p), hR m (sk B n p)) := r_look_l h hn (n - p) p fu rfl hp (by unfold fu; omega)
/-! digits -/
def dg (x : Int32) : Prop := ¬ x < 48 ∧ x ≤ 57
theorem dg_dec (x : Int32) : dg x ∨ ¬ dg x := Classical.em _
theorem c_isDigit (m : mm_MM) (x : Int32) (q : Bool) (hq : q = true ↔ dg x) : fX8_isDigit m x = some (if q = true then 1 else 0, m) := by
  unfold fX8_isDigit fX8_isDigit_c16 fX8_isDigit_c17
  unfold dg at hq
  by_cases h1 : x < 48
  · have : q = false := by cases q with | false => rfl | true => exact absurd h1 (hq.mp rfl).1
    rw [if_pos h1, this]; rfl
  · rw [if_neg h1]
    by_cases h2 : x ≤ 57
    · rw [if_pos h2, hq.mpr ⟨h1, h2⟩]; rfl
    · have : q = false := by cases q with | false => rfl | true => exact absurd (hq.mp rfl).2 h2
      rw [if_neg h2, this]; rfl
theorem r_isDigit (m : mm_MM) (x : Int32) (q : Bool) (hq : q = true ↔ dg x) : fX11_isDigit m x = some (if q = true then 1 else 0, m) := by
  unfold fX11_isDigit fX11_isDigit_c16 fX11_isDigit_c17
  unfold dg at hq
  by_cases h1 : x < 48
  · have : q = false := by cases q with | false => rfl | true => exact absurd h1 (hq.mp rfl).1
    rw [if_pos h1, this]; rfl
  · rw [if_neg h1]
    by_cases h2 : x ≤ 57
    · rw [if_pos h2, hq.mpr ⟨h1, h2⟩]; rfl
    · have : q = false := by cases q with | false => rfl | true => exact absurd (hq.mp rfl).2 h2
      rw [if_neg h2, this]; rfl
def dgB (x : Int32) : Bool := decide (¬ x < 48 ∧ x ≤ 57)
theorem dgB_i (x : Int32) : dgB x = true ↔ dg x := decide_eq_true_iff
theorem c_isD (m : mm_MM) (x : Int32) : fX8_isDigit m x = some (if dgB x = true then 1 else 0, m) := c_isDigit m x _ (dgB_i x)
theorem r_isD (m : mm_MM) (x : Int32) : fX11_isDigit m x = some (if dgB x = true then 1 else 0, m) := r_isDigit m x _ (dgB_i x)
theorem dg_lt {p : Nat} (h : dgB (sg B n p) = true) : p < n := by
  by_cases c : p < n
  · exact c
  · unfold sg at h
    rw [if_neg c] at h
    exact absurd h (by decide)
/-- digits read: value, place behind -/
def ndT (B : Nat → Int32) (n : Nat) : Nat → Nat → Int32 → Int32 × Nat
  | 0, p, v => (v, p)
  | k + 1, p, v => if dgB (sg B n p) = true then ndT B n k (p + 1) ((v * 10 + sg B n p) - 48) else (v, p)
theorem ndT_p : ∀ k p v, p ≤ (ndT B n k p v).2 ∧ (ndT B n k p v).2 ≤ p + k
  | 0, p, v => ⟨Nat.le_refl _, Nat.le_refl _⟩
  | k + 1, p, v => by
    rw [ndT]
    by_cases c : dgB (sg B n p) = true
    · rw [if_pos c]; have := ndT_p k (p + 1) ((v * 10 + sg B n p) - 48); omega
    · rw [if_neg c]; exact ⟨Nat.le_refl _, by show p ≤ p + (k + 1); omega⟩
theorem ndT_n : ∀ k p v, p ≤ n → (ndT B n k p v).2 ≤ n
  | 0, p, v, h => h
  | k + 1, p, v, h => by
    rw [ndT]
    by_cases c : dgB (sg B n p) = true
    · rw [if_pos c]; exact ndT_n k (p + 1) _ (dg_lt c)
    · rw [if_neg c]; exact h
theorem dg_v {x : Int32} (h : dgB x = true) : ∃ d, d ≤ 9 ∧ x = Int32.ofNat (48 + d) := by
  have h := (dgB_i x).mp h
  have h0 : ¬ x < 0 := fun z => h.1 (by grind)
  have h2 := (nn_lek (k := 57) h0 (by decide)).mp h.2
  have h1 : ¬ x.toNatClampNeg < 48 := fun z => h.1 ((nn_ltk (k := 48) h0 (by decide)).mpr z)
  exact ⟨x.toNatClampNeg - 48, by omega, by rw [show 48 + (x.toNatClampNeg - 48) = x.toNatClampNeg by omega]; exact nn_of h0⟩
theorem dg_st {v d : Nat} : (Int32.ofNat v * 10 + Int32.ofNat (48 + d)) - 48 = Int32.ofNat (10 * v + d) := by
  rw [Int32.ofNat_add 48 d, Int32.ofNat_add (10 * v) d, Int32.ofNat_mul]
  show (Int32.ofNat v * 10 + (48 + Int32.ofNat d)) - 48 = 10 * Int32.ofNat v + Int32.ofNat d
  grind
theorem ndT_v : ∀ k p v M, v < M → ∃ z, z < M * 10 ^ k ∧ (ndT B n k p (Int32.ofNat v)).1 = Int32.ofNat z
  | 0, p, v, M, h => ⟨v, by rw [Nat.pow_zero]; omega, rfl⟩
  | k + 1, p, v, M, h => by
    rw [ndT]
    by_cases c : dgB (sg B n p) = true
    · rw [if_pos c]
      obtain ⟨d, hd, e⟩ := dg_v c
      rw [e, dg_st]
      obtain ⟨z, h1, h2⟩ := ndT_v k (p + 1) (10 * v + d) (10 * M) (by omega)
      refine ⟨z, ?_, h2⟩
      rw [Nat.pow_succ, Nat.mul_comm (10 ^ k) 10, ← Nat.mul_assoc, Nat.mul_comm M 10]
      exact h1
    · rw [if_neg c]
      refine ⟨v, ?_, rfl⟩
      have : 1 ≤ 10 ^ (k + 1) := Nat.one_le_pow _ _ (by decide)
      exact Nat.lt_of_lt_of_le h (Nat.le_mul_of_pos_right M this)
theorem c_num_l (h : tpeC m B n) (hn : n ≤ 240) {mx : Nat} (hmx : mx ≤ 4) : ∀ (k i p g : Nat) (v : Int32), i + k = mx → p < 900 → k < g → fX8_number_c16 g (hC m p) (Int32.ofNat mx) v (Int32.ofNat i) = some (if dgB (sg B n (ndT B n k p v).2) = true then -1 else (ndT B n k p v).1, hC m (ndT B n k p v).2) := by
  intro k
  induction k with
  | zero =>
    intro i p g v hi hp hg
    obtain ⟨g, rfl⟩ : ∃ q, g = q + 1 := ⟨g - 1, by omega⟩
    rw [fX8_number_c16, ndT]
    dsimp only
    rw [if_neg (fun z => by have := (nn_lt (by omega) (by omega)).mp z; omega)]
    unfold fX8_number_c60 fX8_number_c75
    rw [c_raw h hn (by omega)]
    simp only [Option.bind_some, c_isD]
    by_cases c : dgB (sg B n p) = true
    · rw [if_pos c, if_pos c, if_neg (by decide)]
    · rw [if_neg c, if_neg c, if_pos rfl]
  | succ k ih =>
    intro i p g v hi hp hg
    obtain ⟨g, rfl⟩ : ∃ q, g = q + 1 := ⟨g - 1, by omega⟩
    rw [fX8_number_c16, ndT]
    dsimp only
    rw [if_pos ((nn_lt (by omega) (by omega)).mpr (by omega)), c_raw h hn (by omega)]
    simp only [Option.bind_some, c_isD]
    by_cases c : dgB (sg B n p) = true
    · have hlt := dg_lt c
      rw [if_pos c, if_neg (by decide), if_pos c, c_raw h hn (by omega)]
      simp only [Option.bind_some, hC_s, nn_s]
      exact ih (i + 1) (p + 1) g _ (by omega) (by omega) (by omega)
    · rw [if_neg c, if_pos rfl, if_neg c]
      unfold fX8_number_c60 fX8_number_c75
      rw [c_raw h hn (by omega)]
      simp only [Option.bind_some, c_isD]
      rw [if_neg c, if_pos rfl, if_neg c]
theorem c_number (h : tpeC m B n) (hn : n ≤ 240) {mx : Nat} (hmx : mx ≤ 4) {p : Nat} (hp : p ≤ n) : fX8_number (hC m p) (Int32.ofNat mx) = some (if dgB (sg B n (sk B n p)) = true then (if dgB (sg B n (ndT B n mx (sk B n p) 0).2) = true then -1 else (ndT B n mx (sk B n p) 0).1, hC m (ndT B n mx (sk B n p) 0).2) else (-1, hC m (sk B n p))) := by
  have hs := sk_n (B := B) hp
  unfold fX8_number
  rw [c_sign h hn (by omega)]
  simp only [Option.bind_some, c_isD]
  by_cases c : dgB (sg B n (sk B n p)) = true
  · rw [if_pos c, if_neg (by decide), if_pos c]
    exact c_num_l h hn hmx mx 0 (sk B n p) fu 0 (by omega) (by omega) (by unfold fu; omega)
  · rw [if_neg c, if_pos rfl, if_neg c]
end TAP
