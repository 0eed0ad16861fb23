/-! WHAT BOTH SIDES HOLD, AS ONE: things in eight places (0 VALUE, 1 STUFF, 2 PLOT, 3 MONTHS, 4 STAKE, 5 THERE); 0 all where none is -/
abbrev TT : Type := Nat → Nat → Int32
def thc (m : mm_MM) (s : Nat) : TT := fun b k => if b < 8 ∧ ¬ m.1 (s + b) 0 = 0 then (if k < 5 then m.1 (s + b) (k + 1) else if k = 5 then 1 else 0) else 0
def thr (m : mm_MM) (a o : Nat) : TT := fun b k => if b < 8 ∧ m.1 a (o + (6 * b + 5)) = 1 then (if k < 6 then m.1 a (o + (6 * b + k)) else 0) else 0
def tx (T : TT) (x : Int32) (k : Nat) : Int32 := if x < 0 then 0 else T x.toNatClampNeg k
abbrev lyT (T : TT) (b : Nat) : Prop := T b 5 = 1 ∧ ¬ T b 2 = -1
abbrev lyX (T : TT) (x : Int32) : Prop := tx T x 5 = 1 ∧ ¬ tx T x 2 = -1
theorem tx_n {T : TT} {b k : Nat} (hb : b < 2 ^ 31) : tx T (Int32.ofNat b) k = T b k := by
  unfold tx
  rw [if_neg (nn_n0 hb), nn_tn hb]
theorem thc_5 {m : mm_MM} {s b : Nat} (h : thc m s b 5 = 1) : b < 8 ∧ ¬ m.1 (s + b) 0 = 0 := by
  unfold thc at h
  by_cases hc : b < 8 ∧ ¬ m.1 (s + b) 0 = 0
  · exact hc
  · rw [if_neg hc] at h; exact absurd h (by decide)
theorem thc_k {m : mm_MM} {s b k : Nat} (h : thc m s b 5 = 1) (hk : k < 5) : thc m s b k = m.1 (s + b) (k + 1) := by
  have h := thc_5 h
  unfold thc
  rw [if_pos h, if_pos hk]
theorem thc_n {m : mm_MM} {s b k : Nat} (h : ¬ thc m s b 5 = 1) : thc m s b k = 0 := by
  unfold thc at h ⊢
  by_cases hc : b < 8 ∧ ¬ m.1 (s + b) 0 = 0
  · rw [if_pos hc] at h; exact absurd rfl h
  · rw [if_neg hc]
theorem thr_5 {m : mm_MM} {a o b : Nat} (h : thr m a o b 5 = 1) : b < 8 ∧ m.1 a (o + (6 * b + 5)) = 1 := by
  unfold thr at h
  by_cases hc : b < 8 ∧ m.1 a (o + (6 * b + 5)) = 1
  · exact hc
  · rw [if_neg hc] at h; exact absurd h (by decide)
theorem thr_k {m : mm_MM} {a o b k : Nat} (h : thr m a o b 5 = 1) (hk : k < 6) : thr m a o b k = m.1 a (o + (6 * b + k)) := by
  have h := thr_5 h
  unfold thr
  rw [if_pos h, if_pos hk]
theorem thr_n {m : mm_MM} {a o b k : Nat} (h : ¬ thr m a o b 5 = 1) : thr m a o b k = 0 := by
  unfold thr at h ⊢
  by_cases hc : b < 8 ∧ m.1 a (o + (6 * b + 5)) = 1
  · rw [if_pos hc, if_pos (by decide), hc.2] at h; exact absurd rfl h
  · rw [if_neg hc]
/-! the class: a place -/
theorem kd_p {b : Nat} (hb : b < 8) : mm_kd (29 + 5 + b) = (9, 6) := kd_Se (s := 29) rfl hb
theorem c_find (m : mm_MM) (x : Int32) : fX7_find m 29 x = some (if tx (thc m 34) x 5 = 1 then some (34 + x.toNatClampNeg) else none, m) := by
  by_cases h0 : x < 0
  · simp [fX7_find, fX7_slot, fX7_slot_c22, fX7_slot_c23, fX7_find_c21, fX7_find_c22, tx, h0]
  · by_cases h8 : x < 8
    · have hb : x.toNatClampNeg < 8 := (nn_ltk (k := 8) h0 (by decide)).mp h8
      have hk : mm_kd (34 + x.toNatClampNeg) = (9, 6) := kd_p hb
      have hb' : ¬ 8 ≤ x.toNatClampNeg := by omega
      by_cases hz : m.1 (34 + x.toNatClampNeg) 0 = 0
      · simp [fX7_find, fX7_slot, fX7_slot_c22, fX7_slot_c23, fX7_find_c21, fX7_find_c22, tx, thc, h0, h8, hb, hb', hk, hz]
      · simp [fX7_find, fX7_slot, fX7_slot_c22, fX7_slot_c23, fX7_find_c21, fX7_find_c22, tx, thc, h0, h8, hb, hb', hk, hz]
    · have hb : ¬ x.toNatClampNeg < 8 := fun h => h8 ((nn_ltk (k := 8) h0 (by decide)).mpr h)
      simp [fX7_find, fX7_slot, fX7_slot_c22, fX7_slot_c23, fX7_find_c21, fX7_find_c22, tx, thc, h0, h8, hb]
theorem c_findLying (m : mm_MM) (x : Int32) : fX7_findLying m 29 x = some (if lyX (thc m 34) x then some (34 + x.toNatClampNeg) else none, m) := by
  unfold fX7_findLying
  rw [c_find]
  by_cases h : tx (thc m 34) x 5 = 1
  · have h0 : ¬ x < 0 := fun z => by rw [tx, if_pos z] at h; exact absurd h (by decide)
    have h5 := h
    rw [tx, if_neg h0] at h5
    have hb := (thc_5 h5).1
    have hk : mm_kd (34 + x.toNatClampNeg) = (9, 6) := kd_p hb
    have h2 : tx (thc m 34) x 2 = m.1 (34 + x.toNatClampNeg) 3 := by rw [tx, if_neg h0, thc_k h5 (by decide)]
    by_cases hp : m.1 (34 + x.toNatClampNeg) 3 = -1
    · simp [h, hk, h2, hp, fX7_findLying_c22, fX7_findLying_c23]
    · simp [h, hk, h2, hp, fX7_findLying_c22, fX7_findLying_c23]
  · simp [h, fX7_findLying_c22, fX7_findLying_c23]
theorem c_find_n (m : mm_MM) {b : Nat} (hb : b < 8) : fX7_find m 29 (Int32.ofNat b) = some (if thc m 34 b 5 = 1 then some (34 + b) else none, m) := by
  rw [c_find, tx_n (by omega), nn_tn (by omega)]
theorem c_findLying_n (m : mm_MM) {b : Nat} (hb : b < 8) : fX7_findLying m 29 (Int32.ofNat b) = some (if lyT (thc m 34) b then some (34 + b) else none, m) := by
  simp only [c_findLying, lyX, tx_n (show b < 2 ^ 31 by omega), nn_tn (show b < 2 ^ 31 by omega)]
/-! the reference: a place -/
theorem r_ix {b k : Nat} : (6 * Int32.ofNat b + Int32.ofNat k) = Int32.ofNat (6 * b + k) := by
  rw [show (6 : Int32) = Int32.ofNat 6 from rfl, ← Int32.ofNat_mul, ← Int32.ofNat_add]
theorem r_of (m : mm_MM) {b k : Nat} (hb : b < 8) (hk : k < 6) : fX11_of m (Int32.ofNat b) (Int32.ofNat k) = some (m.1 623 (6 * b + k), m) := by
  unfold fX11_of
  rw [r_ix, nn_go (by omega) (by omega), nn_tn (by omega)]
theorem r_set (m : mm_MM) {b k : Nat} (v : Int32) (hb : b < 8) (hk : k < 6) : fX11_set m (Int32.ofNat b) (Int32.ofNat k) v = some (wI m 623 (6 * b + k) v) := by
  unfold fX11_set
  rw [r_ix, nn_go (by omega) (by omega), nn_tn (by omega)]
theorem r_of0 (m : mm_MM) {b : Nat} (hb : b < 8) : fX11_of m (Int32.ofNat b) 0 = some (m.1 623 (6 * b + 0), m) := r_of m hb (by decide)
theorem r_of1 (m : mm_MM) {b : Nat} (hb : b < 8) : fX11_of m (Int32.ofNat b) 1 = some (m.1 623 (6 * b + 1), m) := r_of m hb (by decide)
theorem r_of2 (m : mm_MM) {b : Nat} (hb : b < 8) : fX11_of m (Int32.ofNat b) 2 = some (m.1 623 (6 * b + 2), m) := r_of m hb (by decide)
theorem r_of3 (m : mm_MM) {b : Nat} (hb : b < 8) : fX11_of m (Int32.ofNat b) 3 = some (m.1 623 (6 * b + 3), m) := r_of m hb (by decide)
theorem r_of4 (m : mm_MM) {b : Nat} (hb : b < 8) : fX11_of m (Int32.ofNat b) 4 = some (m.1 623 (6 * b + 4), m) := r_of m hb (by decide)
theorem r_of5 (m : mm_MM) {b : Nat} (hb : b < 8) : fX11_of m (Int32.ofNat b) 5 = some (m.1 623 (6 * b + 5), m) := r_of m hb (by decide)
theorem r_in (m : mm_MM) (x l h : Int32) : fX11_in m x l h = some (if x < l then 0 else if x ≤ h then 1 else 0, m) := by
  unfold fX11_in fX11_in_c14 fX11_in_c15
  by_cases h1 : x < l
  · simp [h1]
  · by_cases h2 : x ≤ h
    · simp [h1, h2]
    · simp [h1, h2]
theorem r_thr {m : mm_MM} {b : Nat} (hb : b < 8) : thr m 623 0 b 5 = 1 ↔ m.1 623 (6 * b + 5) = 1 := by
  unfold thr
  rw [Nat.zero_add]
  by_cases h : m.1 623 (6 * b + 5) = 1
  · simp [hb, h]
  · simp [hb, h]
theorem thr_k0 {m : mm_MM} {a b k : Nat} (h : thr m a 0 b 5 = 1) (hk : k < 6) : thr m a 0 b k = m.1 a (6 * b + k) := by rw [thr_k h hk, Nat.zero_add]
theorem r_isThere_n (m : mm_MM) {b : Nat} (hb : b < 8) : fX11_isThere m (Int32.ofNat b) = some (if thr m 623 0 b 5 = 1 then 1 else 0, m) := by
  unfold fX11_isThere fX11_isThere_c24 fX11_isThere_c25
  have h7 : Int32.ofNat b ≤ 7 := (nn_le (k := 7) (by omega) (by decide)).mpr (by omega)
  rw [r_in, if_neg (nn_n0 (by omega)), if_pos h7]
  simp only [Option.bind_some]
  rw [if_neg (by decide), r_of5 m hb]
  simp only [Option.bind_some, r_thr hb]
  by_cases h : m.1 623 (6 * b + 5) = 1
  · simp [h]
  · simp [h]
theorem r_isThere (m : mm_MM) (x : Int32) : fX11_isThere m x = some (if tx (thr m 623 0) x 5 = 1 then 1 else 0, m) := by
  by_cases h0 : x < 0
  · simp [fX11_isThere, r_in, h0, tx, fX11_isThere_c24, fX11_isThere_c25]
  · by_cases h8 : x.toNatClampNeg < 8
    · rw [nn_of h0, r_isThere_n m h8, tx_n (by omega)]
    · have h7 : ¬ x ≤ 7 := fun z => h8 (by have := (nn_lek (k := 7) h0 (by decide)).mp z; omega)
      have ht : ¬ tx (thr m 623 0) x 5 = 1 := fun z => by rw [tx, if_neg h0] at z; exact h8 (thr_5 z).1
      rw [if_neg ht]
      simp [fX11_isThere, r_in, h0, h7, fX11_isThere_c24, fX11_isThere_c25]
theorem r_doesLie_n (m : mm_MM) {b : Nat} (hb : b < 8) : fX11_doesLie m (Int32.ofNat b) = some (if lyT (thr m 623 0) b then 1 else 0, m) := by
  unfold fX11_doesLie fX11_doesLie_c22 fX11_doesLie_c23
  rw [r_isThere_n m hb]
  simp only [Option.bind_some]
  by_cases h : thr m 623 0 b 5 = 1
  · rw [if_pos h, if_neg (by decide), r_of2 m hb]
    simp only [Option.bind_some]
    simp only [lyT, thr_k0 h (show 2 < 6 by decide)]
    by_cases h2 : m.1 623 (6 * b + 2) = -1
    · simp [h, h2]
    · simp [h, h2]
  · simp [h]
theorem r_doesLie (m : mm_MM) (x : Int32) : fX11_doesLie m x = some (if lyX (thr m 623 0) x then 1 else 0, m) := by
  by_cases h : tx (thr m 623 0) x 5 = 1
  · have h0 : ¬ x < 0 := fun z => by rw [tx, if_pos z] at h; exact absurd h (by decide)
    have h5 := h
    rw [tx, if_neg h0] at h5
    have hb := (thr_5 h5).1
    simp only [lyX, tx, if_neg h0]
    rw [nn_of h0, r_doesLie_n m hb, nn_tn (by omega)]
  · unfold fX11_doesLie fX11_doesLie_c22 fX11_doesLie_c23
    rw [r_isThere]
    simp [h]
theorem r_isRipe_n (m : mm_MM) {b : Nat} (hb : b < 8) : fX11_isRipe m (Int32.ofNat b) = some (if thr m 623 0 b 5 = 1 ∧ ¬ thr m 623 0 b 3 < m.1 620 2 then 1 else 0, m) := by
  unfold fX11_isRipe fX11_isRipe_c27 fX11_isRipe_c28
  rw [r_isThere_n m hb]
  simp only [Option.bind_some]
  by_cases h : thr m 623 0 b 5 = 1
  · rw [if_pos h, if_neg (by decide), r_of3 m hb]
    simp only [Option.bind_some]
    rw [thr_k0 h (show 3 < 6 by decide)]
    grind
  · simp [h]
/-! the thing in a plot -/
def inPl (T : TT) (l : Int32) : Nat → Nat → Int32
  | 0, _ => -1
  | n + 1, b => if lyT T b ∧ T b 2 = l then Int32.ofNat b else inPl T l n (b + 1)
theorem c_placeOfPlot_l (m : mm_MM) (l : Int32) : ∀ (n b f : Nat), b + n = 8 → n < f → fX7_placeOfPlot_c2 f m 29 l (Int32.ofNat b) = some (inPl (thc m 34) l n b, m) := by
  intro n
  induction n with
  | zero =>
    intro b f hb hf
    obtain ⟨f, rfl⟩ : ∃ g, f = g + 1 := ⟨f - 1, by omega⟩
    obtain rfl : b = 8 := by omega
    rfl
  | succ n ih =>
    intro b f hb hf
    obtain ⟨f, rfl⟩ : ∃ g, f = g + 1 := ⟨f - 1, by omega⟩
    have h8 : Int32.ofNat b < 8 := (nn_lt (k := 8) (by omega) (by decide)).mpr (by omega)
    have hi := ih (b + 1) f (by omega) (by omega)
    rw [← nn_s b] at hi
    simp only [fX7_placeOfPlot_c2, fX7_placeOfPlot_c28, if_pos h8, c_findLying_n m (show b < 8 by omega), Option.bind_some, inPl]
    by_cases h : lyT (thc m 34) b
    · have hk : mm_kd (34 + b) = (9, 6) := kd_p (by omega)
      simp only [if_pos h, hk, if_true, thc_k h.1 (show 2 < 5 by decide)]
      by_cases hp : m.1 (34 + b) 3 = l
      · simp [hp, h]
      · simp [hp, h, hi]
    · simp [h, hi]
theorem c_placeOfPlot (m : mm_MM) (l : Int32) : fX7_placeOfPlot m 29 l = some (inPl (thc m 34) l 8 0, m) := c_placeOfPlot_l m l 8 0 fu rfl (by decide)
theorem r_inPlot_l (m : mm_MM) (l : Int32) : ∀ (n b f : Nat), b + n = 8 → n < f → fX11_inPlot_c2 f m l (Int32.ofNat b) = some (inPl (thr m 623 0) l n b, m) := by
  intro n
  induction n with
  | zero =>
    intro b f hb hf
    obtain ⟨f, rfl⟩ : ∃ g, f = g + 1 := ⟨f - 1, by omega⟩
    obtain rfl : b = 8 := by omega
    rfl
  | succ n ih =>
    intro b f hb hf
    obtain ⟨f, rfl⟩ : ∃ g, f = g + 1 := ⟨f - 1, by omega⟩
    have h8 : Int32.ofNat b < 8 := (nn_lt (k := 8) (by omega) (by decide)).mpr (by omega)
    have hb8 : b < 8 := by omega
    have hi := ih (b + 1) f (by omega) (by omega)
    rw [← nn_s b] at hi
    simp only [fX11_inPlot_c2, fX11_inPlot_c28, if_pos h8, r_doesLie_n m hb8, Option.bind_some, inPl]
    by_cases h : lyT (thr m 623 0) b
    · simp only [if_pos h, r_of2 m hb8, Option.bind_some, thr_k0 h.1 (show 2 < 6 by decide)]
      by_cases hp : m.1 623 (6 * b + 2) = l
      · simp [hp, h]
      · simp [hp, h, hi]
    · simp [h, hi]
theorem r_inPlot (m : mm_MM) (l : Int32) : fX11_inPlot m l = some (inPl (thr m 623 0) l 8 0, m) := r_inPlot_l m l 8 0 fu rfl (by decide)
