/-! A FIELD'S ITEMS, both sides step by step -/
section ITM
variable {B : Nat → Int32} {n : Nat}
theorem cSg {M : mm_MM} (h : tpeC M B n) (hn : n ≤ 240) {p : Nat} (e : M.1 1 2 = Int32.ofNat p) (hp : p < 900) : fX8_sign M = some (sg B n (sk B n p), hC M (sk B n p)) := by
  have := c_sign h hn hp
  rw [show hC M p = M from wI_self e] at this
  exact this
theorem cSk {M : mm_MM} {p : Nat} (e : M.1 1 2 = Int32.ofNat p) : fX8_skip M = some (hC M (p + 1)) := by
  have := c_skp M p
  rw [show hC M p = M from wI_self e] at this
  exact this
theorem cNm {M : mm_MM} (h : tpeC M B n) (hn : n ≤ 240) {mx : Nat} (hmx : mx ≤ 4) {p : Nat} (e : M.1 1 2 = Int32.ofNat p) (hp : p ≤ n) : fX8_number M (Int32.ofNat mx) = some (if dgB (sg B n (sk B n p)) = true then (if dgB (sg B n (ndT B n mx (sk B n p) 0).2) = true then -1 else (ndT B n mx (sk B n p) 0).1, hC M (ndT B n mx (sk B n p) 0).2) else (-1, hC M (sk B n p))) := by
  have := c_number h hn hmx hp
  rw [show hC M p = M from wI_self e] at this
  exact this
theorem rLk {M : mm_MM} (h : tpeR M B n) (hn : n ≤ 240) {p : Nat} (e : M.1 606 3 = Int32.ofNat p) (hp : p < 900) : fX11_look M = some (sg B n (sk B n p), hR M (sk B n p)) := by
  have := r_look h hn hp
  rw [show hR M p = M from wI_self e] at this
  exact this
theorem rHr {M : mm_MM} (h : tpeR M B n) (hn : n ≤ 240) {p : Nat} (e : M.1 606 3 = Int32.ofNat p) (hp : p < 1000) : fX11_here M = some (sg B n p, M) := by
  have := r_here h hn hp
  rw [show hR M p = M from wI_self e] at this
  exact this
theorem rBad {M : mm_MM} {p : Nat} (e : M.1 606 3 = Int32.ofNat p) (e4 : M.1 606 4 = -1) : fX11_bad M = some (wI M 606 4 (Int32.ofNat p)) := by
  unfold fX11_bad fX11_bad_c20
  rw [if_pos e4, e]
/-! frames of the two readers -/
def cfr (m0 m : mm_MM) : Prop := (∀ a k, ¬ ((a = 1 ∧ k = 2) ∨ (3 ≤ a ∧ a ≤ 13)) → m.1 a k = m0.1 a k) ∧ m.2 = m0.2
def rfr (m0 m : mm_MM) : Prop := (∀ a k, ¬ ((a = 606 ∧ (k = 3 ∨ k = 4 ∨ k = 20 ∨ k = 21)) ∨ (617 ≤ a ∧ a ≤ 619)) → m.1 a k = m0.1 a k) ∧ m.2 = m0.2
theorem cfr_refl (m : mm_MM) : cfr m m := ⟨fun _ _ _ => rfl, rfl⟩
theorem rfr_refl (m : mm_MM) : rfr m m := ⟨fun _ _ _ => rfl, rfl⟩
theorem cfr_trans {a b c : mm_MM} (h : cfr a b) (h' : cfr b c) : cfr a c := ⟨fun x k z => (h'.1 x k z).trans (h.1 x k z), h'.2.trans h.2⟩
theorem rfr_trans {a b c : mm_MM} (h : rfr a b) (h' : rfr b c) : rfr a c := ⟨fun x k z => (h'.1 x k z).trans (h.1 x k z), h'.2.trans h.2⟩
theorem cfr_w {m0 m : mm_MM} {a k : Nat} {v : Int32} (h : cfr m0 m) (hw : (a = 1 ∧ k = 2) ∨ (3 ≤ a ∧ a ≤ 13)) : cfr m0 (wI m a k v) := ⟨fun x j z => by rw [wI_1, if_neg (fun e => z (by rw [e.1, e.2]; exact hw))]; exact h.1 x j z, h.2⟩
theorem rfr_w {m0 m : mm_MM} {a k : Nat} {v : Int32} (h : rfr m0 m) (hw : (a = 606 ∧ (k = 3 ∨ k = 4 ∨ k = 20 ∨ k = 21)) ∨ (617 ≤ a ∧ a ≤ 619)) : rfr m0 (wI m a k v) := ⟨fun x j z => by rw [wI_1, if_neg (fun e => z (by rw [e.1, e.2]; exact hw))]; exact h.1 x j z, h.2⟩
theorem cfr_h {m0 m : mm_MM} {p : Nat} (h : cfr m0 m) : cfr m0 (hC m p) := cfr_w h (Or.inl ⟨rfl, rfl⟩)
theorem rfr_h {m0 m : mm_MM} {p : Nat} (h : rfr m0 m) : rfr m0 (hR m p) := rfr_w h (Or.inl ⟨rfl, Or.inl rfl⟩)
theorem tpeC_f {m0 m : mm_MM} (h : cfr m0 m) (t : tpeC m0 B n) : tpeC m B n := ⟨(h.1 1 1 (by omega)).trans t.1, fun i hi => (h.1 2 i (by omega)).trans (t.2 i hi)⟩
theorem tpeR_f {m0 m : mm_MM} (h : rfr m0 m) (t : tpeR m0 B n) : tpeR m B n := ⟨(h.1 606 2 (by omega)).trans t.1, fun i hi => (h.1 607 i (by omega)).trans (t.2 i hi)⟩
/-! what a clause's letters are -/
def kOf (cl : Nat) (x : Int32) : Option Nat := if cl = 115 then (if x = 119 then some 0 else if x = 104 then some 1 else if x = 121 then some 2 else if x = 102 then some 3 else if x = 107 then some 4 else none) else if cl = 114 then (if x = 100 then some 0 else none) else (if x = 118 then some 0 else if x = 115 then some 1 else if x = 112 then some 2 else if x = 109 then some 3 else none)
def bsO (cl : Nat) : Nat := if cl = 115 then 0 else if cl = 114 then 5 else 6
def mnO (cl : Nat) : Nat := if cl = 115 then 5 else if cl = 114 then 1 else 4
def t2O (cl : Nat) : Nat := if cl = 115 then 617 else if cl = 114 then 618 else 619
def loO (cl k : Nat) : Nat := if cl = 115 then (if k ≤ 2 then 1 else 0) else if cl = 114 then 0 else if k = 0 then 1 else 0
def hiO (cl k : Nat) : Nat := if cl = 115 then (if k = 0 then 6 else if k = 1 then 4 else if k = 2 then 24 else if k = 3 then 9 else 99) else if cl = 114 then 9 else if k = 1 then 5 else if k = 2 then 23 else 99
def isCl (cl : Nat) : Prop := cl = 115 ∨ cl = 114 ∨ cl = 116
theorem kOf_lt {cl k : Nat} {x : Int32} (h : isCl cl) (e : kOf cl x = some k) : k < mnO cl := by
  rcases h with rfl | rfl | rfl
  · unfold kOf at e
    rw [if_pos rfl] at e
    show k < 5
    repeat' split at e
    all_goals first | (cases e; omega) | cases e
  · unfold kOf at e
    rw [if_neg (by decide), if_pos rfl] at e
    show k < 1
    repeat' split at e
    all_goals first | (cases e; omega) | cases e
  · unfold kOf at e
    rw [if_neg (by decide), if_neg (by decide)] at e
    show k < 4
    repeat' split at e
    all_goals first | (cases e; omega) | cases e
def oI (o : Option Nat) : Int32 := match o with | some k => Int32.ofNat k | none => -1
theorem r_itemOf (m : mm_MM) {cl : Nat} (h : isCl cl) (x : Int32) : fX11_itemOf m (Int32.ofNat cl) x = some (oI (kOf cl x), m) := by
  unfold fX11_itemOf fX11_itemOf_c79 fX11_itemOf_c91 fX11_itemOf_c133 kOf
  rcases h with rfl | rfl | rfl
  · rw [if_neg (show ¬ Int32.ofNat 115 = 114 by decide), if_pos (show Int32.ofNat 115 = 115 from rfl), if_pos rfl]
    by_cases c1 : x = 119
    · rw [if_pos c1, if_pos c1]; rfl
    · by_cases c2 : x = 104
      · rw [if_neg c1, if_neg c1, if_pos c2, if_pos c2]; rfl
      · by_cases c3 : x = 121
        · rw [if_neg c1, if_neg c1, if_neg c2, if_neg c2, if_pos c3, if_pos c3]; rfl
        · by_cases c4 : x = 102
          · rw [if_neg c1, if_neg c1, if_neg c2, if_neg c2, if_neg c3, if_neg c3, if_pos c4, if_pos c4]; rfl
          · by_cases c5 : x = 107
            · rw [if_neg c1, if_neg c1, if_neg c2, if_neg c2, if_neg c3, if_neg c3, if_neg c4, if_neg c4, if_pos c5, if_pos c5]; rfl
            · rw [if_neg c1, if_neg c1, if_neg c2, if_neg c2, if_neg c3, if_neg c3, if_neg c4, if_neg c4, if_neg c5, if_neg c5]; rfl
  · rw [if_pos (show Int32.ofNat 114 = 114 from rfl), if_neg (show ¬ 114 = 115 by decide), if_pos rfl]
    by_cases c1 : x = 100
    · rw [if_pos c1, if_pos c1]; rfl
    · rw [if_neg c1, if_neg c1]; rfl
  · rw [if_neg (show ¬ Int32.ofNat 116 = 114 by decide), if_neg (show ¬ Int32.ofNat 116 = 115 by decide), if_neg (show ¬ 116 = 115 by decide), if_neg (show ¬ 116 = 114 by decide)]
    by_cases c1 : x = 118
    · rw [if_pos c1, if_pos c1]; rfl
    · by_cases c2 : x = 115
      · rw [if_neg c1, if_neg c1, if_pos c2, if_pos c2]; rfl
      · by_cases c3 : x = 112
        · rw [if_neg c1, if_neg c1, if_neg c2, if_neg c2, if_pos c3, if_pos c3]; rfl
        · by_cases c4 : x = 109
          · rw [if_neg c1, if_neg c1, if_neg c2, if_neg c2, if_neg c3, if_neg c3, if_pos c4, if_pos c4]; rfl
          · rw [if_neg c1, if_neg c1, if_neg c2, if_neg c2, if_neg c3, if_neg c3, if_neg c4, if_neg c4]; rfl
def xT (e i : Nat) : Int32 := (mm_xf 0 (fun _ => 0) e).2 i
theorem x1_n (m : mm_MM) {i : Nat} (hi : i < 10) : fX10_pick_x1 m (Int32.ofNat i) = some (xT 1 i, m) := by
  unfold fX10_pick_x1 fX10_pick_x1_c17
  rw [if_neg (nn_n0 (by omega)), if_pos (show Int32.ofNat i < 10 from (nn_lt (k := 10) (by omega) (by decide)).mpr hi), nn_go (by omega) hi, nn_tn (by omega)]
  rfl
theorem x2_n (m : mm_MM) {i : Nat} (hi : i < 10) : fX10_pick_x2 m (Int32.ofNat i) = some (xT 2 i, m) := by
  unfold fX10_pick_x2 fX10_pick_x2_c17
  rw [if_neg (nn_n0 (by omega)), if_pos (show Int32.ofNat i < 10 from (nn_lt (k := 10) (by omega) (by decide)).mpr hi), nn_go (by omega) hi, nn_tn (by omega)]
  rfl
theorem x3_n (m : mm_MM) {i : Nat} (hi : i < 10) : fX10_pick_x3 m (Int32.ofNat i) = some (xT 3 i, m) := by
  unfold fX10_pick_x3 fX10_pick_x3_c17
  rw [if_neg (nn_n0 (by omega)), if_pos (show Int32.ofNat i < 10 from (nn_lt (k := 10) (by omega) (by decide)).mpr hi), nn_go (by omega) hi, nn_tn (by omega)]
  rfl
theorem x4_n (m : mm_MM) {i : Nat} (hi : i < 10) : fX10_pick_x4 m (Int32.ofNat i) = some (xT 4 i, m) := by
  unfold fX10_pick_x4 fX10_pick_x4_c17
  rw [if_neg (nn_n0 (by omega)), if_pos (show Int32.ofNat i < 10 from (nn_lt (k := 10) (by omega) (by decide)).mpr hi), nn_go (by omega) hi, nn_tn (by omega)]
  rfl
theorem xT_all : (∀ i, i < 5 → xT 2 i = 115) ∧ xT 2 5 = 114 ∧ (∀ i, 6 ≤ i → i < 10 → xT 2 i = 116) ∧ xT 1 0 = 119 ∧ xT 1 1 = 104 ∧ xT 1 2 = 121 ∧ xT 1 3 = 102 ∧ xT 1 4 = 107 ∧ xT 1 5 = 100 ∧ xT 1 6 = 118 ∧ xT 1 7 = 115 ∧ xT 1 8 = 112 ∧ xT 1 9 = 109 := by
  refine ⟨fun i hi => ?_, rfl, fun i h1 h2 => ?_, rfl, rfl, rfl, rfl, rfl, rfl, rfl, rfl, rfl, rfl⟩
  · obtain rfl | rfl | rfl | rfl | rfl : i = 0 ∨ i = 1 ∨ i = 2 ∨ i = 3 ∨ i = 4 := by omega
    all_goals rfl
  · obtain rfl | rfl | rfl | rfl : i = 6 ∨ i = 7 ∨ i = 8 ∨ i = 9 := by omega
    all_goals rfl
theorem xT_b : ∀ cl, (cl = 115 ∨ cl = 114 ∨ cl = 116) → ∀ k, k < mnO cl → xT 3 (bsO cl + k) = Int32.ofNat (loO cl k) ∧ xT 4 (bsO cl + k) = Int32.ofNat (hiO cl k) := by
  intro cl h k hk
  rcases h with rfl | rfl | rfl
  · have hk : k < 5 := hk
    obtain rfl | rfl | rfl | rfl | rfl : k = 0 ∨ k = 1 ∨ k = 2 ∨ k = 3 ∨ k = 4 := by omega
    all_goals exact ⟨rfl, rfl⟩
  · have hk : k < 1 := hk
    obtain rfl : k = 0 := by omega
    exact ⟨rfl, rfl⟩
  · have hk : k < 4 := hk
    obtain rfl | rfl | rfl | rfl : k = 0 ∨ k = 1 ∨ k = 2 ∨ k = 3 := by omega
    all_goals exact ⟨rfl, rfl⟩
def itC (x0 x : Int32) : Nat → Nat → Int32
  | 0, _ => -1
  | k + 1, i => if xT 2 i = x0 then (if xT 1 i = x then Int32.ofNat i else itC x0 x k (i + 1)) else itC x0 x k (i + 1)
theorem c_itemOf_l (m : mm_MM) (x0 x : Int32) : ∀ (k i g : Nat), i + k = 10 → k < g → fX1_itemOf_c2 g m x0 x (Int32.ofNat i) = some (itC x0 x k i, m) := by
  intro k
  induction k with
  | zero =>
    intro i g hi hg
    obtain ⟨g, rfl⟩ : ∃ q, g = q + 1 := ⟨g - 1, by omega⟩
    obtain rfl : i = 10 := by omega
    rw [fX1_itemOf_c2]
    exact if_neg (by decide)
  | succ k ih =>
    intro i g hi hg
    obtain ⟨g, rfl⟩ : ∃ q, g = q + 1 := ⟨g - 1, by omega⟩
    have e := ih (i + 1) g (by omega) (by omega)
    rw [fX1_itemOf_c2, itC]
    dsimp only
    rw [if_pos (show Int32.ofNat i < 10 from (nn_lt (k := 10) (by omega) (by decide)).mpr (by omega)), x2_n m (by omega)]
    simp only [Option.bind_some, x1_n m (show i < 10 by omega), fX1_itemOf_c34, nn_s]
    by_cases c1 : xT 2 i = x0
    · rw [if_pos c1, if_pos c1]
      by_cases c2 : xT 1 i = x
      · rw [if_pos c2, if_pos c2]
      · rw [if_neg c2, if_neg c2]; exact e
    · rw [if_neg c1, if_neg c1]; exact e
theorem c_itemOf (m : mm_MM) {cl : Nat} (h : isCl cl) (x : Int32) : fX1_itemOf m (Int32.ofNat cl) x = some (oI ((kOf cl x).map (fun k => bsO cl + k)), m) := by
  have e := c_itemOf_l m (Int32.ofNat cl) x 10 0 fu rfl (by decide)
  refine Eq.trans e (congrArg (fun v => some (v, m)) ?_)
  obtain ⟨a1, a2, a3, l0, l1, l2, l3, l4, l5, l6, l7, l8, l9⟩ := xT_all
  simp only [itC, a1 0 (by decide), a1 1 (by decide), a1 2 (by decide), a1 3 (by decide), a1 4 (by decide), a2, a3 6 (by decide) (by decide), a3 7 (by decide) (by decide), a3 8 (by decide) (by decide), a3 9 (by decide) (by decide), l0, l1, l2, l3, l4, l5, l6, l7, l8, l9]
  unfold kOf bsO
  rcases h with rfl | rfl | rfl
  · rw [if_pos (show (115 : Int32) = Int32.ofNat 115 from rfl), if_pos (show (115 : Int32) = Int32.ofNat 115 from rfl), if_pos (show (115 : Int32) = Int32.ofNat 115 from rfl), if_pos (show (115 : Int32) = Int32.ofNat 115 from rfl), if_pos (show (115 : Int32) = Int32.ofNat 115 from rfl), if_neg (show ¬ (114 : Int32) = Int32.ofNat 115 by decide)]
    simp only [if_neg (show ¬ (116 : Int32) = Int32.ofNat 115 by decide), if_true]
    by_cases c1 : x = 119
    · subst c1; rfl
    · by_cases c2 : x = 104
      · subst c2; rfl
      · by_cases c3 : x = 121
        · subst c3; rfl
        · by_cases c4 : x = 102
          · subst c4; rfl
          · by_cases c5 : x = 107
            · subst c5; rfl
            · rw [if_neg (Ne.symm c1), if_neg (Ne.symm c2), if_neg (Ne.symm c3), if_neg (Ne.symm c4), if_neg (Ne.symm c5), if_neg c1, if_neg c2, if_neg c3, if_neg c4, if_neg c5]; rfl
  · simp only [if_neg (show ¬ (115 : Int32) = Int32.ofNat 114 by decide), if_neg (show ¬ (116 : Int32) = Int32.ofNat 114 by decide), if_pos (show (114 : Int32) = Int32.ofNat 114 from rfl), if_neg (show ¬ 114 = 115 by decide), if_true]
    by_cases c1 : x = 100
    · subst c1; rfl
    · rw [if_neg (Ne.symm c1), if_neg c1]; rfl
  · simp only [if_neg (show ¬ (115 : Int32) = Int32.ofNat 116 by decide), if_neg (show ¬ (114 : Int32) = Int32.ofNat 116 by decide), if_pos (show (116 : Int32) = Int32.ofNat 116 from rfl), if_neg (show ¬ 116 = 115 by decide), if_neg (show ¬ 116 = 114 by decide)]
    by_cases c1 : x = 118
    · subst c1; rfl
    · by_cases c2 : x = 115
      · subst c2; rfl
      · by_cases c3 : x = 112
        · subst c3; rfl
        · by_cases c4 : x = 109
          · subst c4; rfl
          · rw [if_neg (Ne.symm c1), if_neg (Ne.symm c2), if_neg (Ne.symm c3), if_neg (Ne.symm c4), if_neg c1, if_neg c2, if_neg c3, if_neg c4]; rfl
theorem r_lowest (m : mm_MM) {cl k : Nat} (h : isCl cl) (hk : k < mnO cl) : fX11_lowest m (Int32.ofNat cl) (Int32.ofNat k) = some (Int32.ofNat (loO cl k), m) := by
  rcases h with rfl | rfl | rfl
  · have hk : k < 5 := hk
    obtain rfl | rfl | rfl | rfl | rfl : k = 0 ∨ k = 1 ∨ k = 2 ∨ k = 3 ∨ k = 4 := by omega
    all_goals rfl
  · have hk : k < 1 := hk
    obtain rfl : k = 0 := by omega
    rfl
  · have hk : k < 4 := hk
    obtain rfl | rfl | rfl | rfl : k = 0 ∨ k = 1 ∨ k = 2 ∨ k = 3 := by omega
    all_goals rfl
theorem r_highest (m : mm_MM) {cl k : Nat} (h : isCl cl) (hk : k < mnO cl) : fX11_highest m (Int32.ofNat cl) (Int32.ofNat k) = some (Int32.ofNat (hiO cl k), m) := by
  rcases h with rfl | rfl | rfl
  · have hk : k < 5 := hk
    obtain rfl | rfl | rfl | rfl | rfl : k = 0 ∨ k = 1 ∨ k = 2 ∨ k = 3 ∨ k = 4 := by omega
    all_goals rfl
  · have hk : k < 1 := hk
    obtain rfl : k = 0 := by omega
    rfl
  · have hk : k < 4 := hk
    obtain rfl | rfl | rfl | rfl : k = 0 ∨ k = 1 ∨ k = 2 ∨ k = 3 := by omega
    all_goals rfl
/-! bits that are set -/
theorem hasB_or {x y : Int32} {b : Nat} : hasB (x ||| y) b = (hasB x b || hasB y b) := by
  unfold hasB
  rw [Int32.shiftRight_or]
  generalize x >>> (Int32.ofNat b &&& 31) = u
  generalize y >>> (Int32.ofNat b &&& 31) = w
  have e : (u ||| w) &&& 1 = (u &&& 1) ||| (w &&& 1) := Int32.toBitVec_inj.mp (by
    simp only [Int32.toBitVec_and, Int32.toBitVec_or]
    exact BitVec.and_or_distrib_right)
  rw [e]
  rcases and1_01 u with h | h <;> rcases and1_01 w with h' | h' <;> rw [h, h'] <;> decide
theorem hasB_bit : ∀ j, j < 10 → ∀ i, i < 10 → hasB ((1 : Int32) <<< (Int32.ofNat j &&& 31)) i = decide (i = j) := by decide +kernel
def b2n (b : Bool) : Nat := if b then 1 else 0
def c5 (G : Nat → Bool) : Nat := b2n (G 0) + b2n (G 1) + b2n (G 2) + b2n (G 3) + b2n (G 4)
theorem c5_le (G : Nat → Bool) : c5 G ≤ 5 := by
  have h : ∀ b, b2n b ≤ 1 := fun b => by cases b <;> decide
  have := h (G 0); have := h (G 1); have := h (G 2); have := h (G 3); have := h (G 4)
  unfold c5; omega
def upG (G : Nat → Bool) (k : Nat) : Nat → Bool := fun i => G i || decide (i = k)
theorem c5_up {G : Nat → Bool} {k : Nat} (hk : k < 5) (h : G k = false) : c5 (upG G k) = c5 G + 1 := by
  unfold c5 upG
  obtain rfl | rfl | rfl | rfl | rfl : k = 0 ∨ k = 1 ∨ k = 2 ∨ k = 3 ∨ k = 4 := by omega
  all_goals (simp [h, b2n]; try omega)
def mkG (cl : Nat) (x3 x5 : Int32) (G : Nat → Bool) : Prop := ∀ k, k < mnO cl → hasB x3 (bsO cl + k) = G k ∧ hasB x5 k = G k
theorem cl_b {cl k : Nat} (h : isCl cl) (hk : k < mnO cl) : bsO cl + k < 10 ∧ k < 5 := by
  rcases h with rfl | rfl | rfl
  · have hk : k < 5 := hk
    exact ⟨by show 0 + k < 10; omega, hk⟩
  · have hk : k < 1 := hk
    exact ⟨by show 5 + k < 10; omega, by omega⟩
  · have hk : k < 4 := hk
    exact ⟨by show 6 + k < 10; omega, by omega⟩
theorem mkG_up {cl : Nat} (hc : isCl cl) {x3 x5 : Int32} {G : Nat → Bool} (h : mkG cl x3 x5 G) {k : Nat} (hk : k < mnO cl) : mkG cl (x3 ||| ((1 : Int32) <<< (Int32.ofNat (bsO cl + k) &&& 31))) (x5 ||| ((1 : Int32) <<< (Int32.ofNat k &&& 31))) (upG G k) := by
  intro i hi
  obtain ⟨a1, a2⟩ := h i hi
  obtain ⟨b1, b2⟩ := cl_b hc hk
  obtain ⟨d1, d2⟩ := cl_b hc hi
  rw [hasB_or, hasB_or, a1, a2, hasB_bit _ b1 _ d1, hasB_bit _ (by omega) _ (by omega)]
  unfold upG
  refine ⟨?_, rfl⟩
  by_cases e : i = k
  · subst e; simp
  · rw [decide_eq_false e, decide_eq_false (by omega)]
/-- the reference's number -/
theorem r_number {M : mm_MM} (h : tpeR M B n) (hn : n ≤ 240) {p lo hi : Nat} (e : M.1 606 3 = Int32.ofNat p) (e4 : M.1 606 4 = -1) (hp : p ≤ n) (hlo : lo < 1000) (hhi : hi < 1000) : fX11_number M (Int32.ofNat lo) (Int32.ofNat hi) = some (if dgB (sg B n (sk B n p)) = true then ((ndT B n 2 (sk B n p) 0).1, if dgB (sg B n (ndT B n 2 (sk B n p) 0).2) = true then wI (hR M (ndT B n 2 (sk B n p) 0).2) 606 4 (Int32.ofNat (ndT B n 2 (sk B n p) 0).2) else if (ndT B n 2 (sk B n p) 0).1 < Int32.ofNat lo ∨ ¬ (ndT B n 2 (sk B n p) 0).1 ≤ Int32.ofNat hi then wI (hR M ((ndT B n 2 (sk B n p) 0).2 - 1)) 606 4 (Int32.ofNat ((ndT B n 2 (sk B n p) 0).2 - 1)) else hR M (ndT B n 2 (sk B n p) 0).2) else (Int32.ofNat lo, wI (hR M (sk B n p)) 606 4 (Int32.ofNat (sk B n p)))) := by
  have hs := sk_n (B := B) hp
  generalize hp2 : sk B n p = p2 at hs
  have w4 : ∀ q, (hR M q).1 606 4 = -1 := fun q => (hR_n (by omega)).trans e4
  have c67 : ∀ (q : Nat) (v : Int32), 1 ≤ q → q ≤ n → fX11_number_c67 (hR M q) (Int32.ofNat lo) (Int32.ofNat hi) v = some (v, if dgB (sg B n q) = true then wI (hR M q) 606 4 (Int32.ofNat q) else if v < Int32.ofNat lo ∨ ¬ v ≤ Int32.ofNat hi then wI (hR M (q - 1)) 606 4 (Int32.ofNat (q - 1)) else hR M q) := by
    intro q v hq1 hq
    unfold fX11_number_c67 fX11_number_c107
    rw [r_here h hn (by omega)]
    simp only [Option.bind_some, r_isD]
    by_cases c : dgB (sg B n q) = true
    · rw [if_pos c, if_neg (by decide), if_pos c, rBad (hR_h M q) (w4 q)]
      rfl
    · rw [if_neg c, if_pos rfl, if_neg c, r_in]
      simp only [Option.bind_some]
      have back : wI (hR M q) 606 3 ((hR M q).1 606 3 - 1) = hR M (q - 1) := by
        obtain ⟨d, rfl⟩ : ∃ d, q = d + 1 := ⟨q - 1, by omega⟩
        rw [hR_h, nn_p]; exact wI_two
      by_cases c1 : v < Int32.ofNat lo
      · rw [if_pos c1, if_pos rfl, if_pos (Or.inl c1), back, rBad (hR_h M _) (w4 _)]; rfl
      · rw [if_neg c1]
        by_cases c2 : v ≤ Int32.ofNat hi
        · rw [if_pos c2, if_neg (by decide), if_neg (fun z => z.elim c1 (fun z => z c2))]
        · rw [if_neg c2, if_pos rfl, if_pos (Or.inr c2), back, rBad (hR_h M _) (w4 _)]; rfl
  unfold fX11_number
  rw [rLk h hn e (by omega), hp2]
  simp only [Option.bind_some, r_isD]
  by_cases c : dgB (sg B n p2) = true
  · have hlt := dg_lt c
    rw [if_pos c, if_neg (by decide), if_pos c, r_here h hn (by omega)]
    simp only [Option.bind_some, hR_s]
    rw [r_here h hn (by omega)]
    simp only [Option.bind_some, r_isD]
    have v1 : sg B n p2 - 48 = (0 * 10 + sg B n p2) - 48 := by grind
    by_cases c2 : dgB (sg B n (p2 + 1)) = true
    · have hlt2 := dg_lt c2
      have en : ndT B n 2 p2 0 = ((((0 * 10 + sg B n p2) - 48) * 10 + sg B n (p2 + 1)) - 48, p2 + 2) := by
        rw [ndT, if_pos c, ndT, if_pos c2, ndT]
      rw [if_pos c2, if_neg (by decide), r_here h hn (by omega)]
      simp only [Option.bind_some, hR_s]
      rw [c67 (p2 + 1 + 1) _ (by omega) (by omega), en, show ((10 : Int32) * (sg B n p2 - 48) + sg B n (p2 + 1)) - 48 = (((0 * 10 + sg B n p2) - 48) * 10 + sg B n (p2 + 1)) - 48 by grind]
    · have en : ndT B n 2 p2 0 = ((0 * 10 + sg B n p2) - 48, p2 + 1) := by
        rw [ndT, if_pos c, ndT, if_neg c2]
      rw [if_neg c2, if_pos rfl, c67 (p2 + 1) _ (by omega) (by omega), en, v1]
  · rw [if_neg c, if_pos rfl, if_neg c, rBad (hR_h M p2) (w4 p2)]
    rfl
end ITM
