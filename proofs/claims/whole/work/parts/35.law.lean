/-! LAWS, WORKED OUT: tokens (what, number): 0 a number, 1 a letter, 2 .. 11 the signs -/
abbrev Tok : Type := Nat × Nat
def encT (t : Tok) : Int32 := match t.1 with
  | 0 => Int32.ofNat t.2
  | 1 => (match t.2 with | 0 => -118 | 1 => -115 | 2 => -100 | 3 => -109 | 4 => -110 | _ => -116)
  | 2 => -43 | 3 => -45 | 4 => -42 | 5 => -47 | 6 => -61 | 7 => -60 | 8 => -62 | 9 => -33 | 10 => -38 | _ => -124
def miL (a b : Int64) : Int64 := if lg_cmp a b ≤ 0 then a else b
def maL (a b : Int64) : Int64 := if lg_cmp a b < 0 then b else a
def hl (x : Int64) : Int32 := (maL (-1000000) (miL 1000000 x)).toInt32
def opT (c : Nat) (a b : Int32) : Int32 := match c with
  | 2 => hl (a.toInt64 + b.toInt64)
  | 3 => hl (a.toInt64 - b.toInt64)
  | 4 => hl (a.toInt64 * b.toInt64)
  | 5 => if b = 0 then 0 else a / b
  | 6 => if a = b then 1 else 0
  | 7 => if a < b then 1 else 0
  | 8 => if a ≤ b then 0 else 1
  | 10 => a &&& b
  | _ => a ||| b
def exT (L : Nat → Int32) (t : Tok) (st : List Int32) : List Int32 := match t.1, st with
  | 0, st => Int32.ofNat t.2 :: st
  | 1, st => L t.2 :: st
  | 9, a :: st => (if a = 0 then 1 else 0) :: st
  | c, b :: a :: st => opT c a b :: st
  | _, st => st
def exTs (L : Nat → Int32) : List Tok → List Int32 → List Int32
  | [], st => st
  | t :: ts, st => exTs L ts (exT L t st)
/-- kinds on the stack: true a truth (0, 1), false a number -/
def tyT (t : Tok) (s : List Bool) : Option (List Bool) := match t.1, s with
  | 0, s => if t.2 ≤ 9999 ∧ s.length < 60 then some (false :: s) else none
  | 1, s => if t.2 ≤ 5 ∧ s.length < 60 then some (false :: s) else none
  | 9, true :: s => some (true :: s)
  | c, false :: false :: s => if 2 ≤ c ∧ c ≤ 5 then some (false :: s) else if 6 ≤ c ∧ c ≤ 8 then some (true :: s) else none
  | c, true :: true :: s => if 10 ≤ c ∧ c ≤ 11 then some (true :: s) else none
  | _, _ => none
def tyTs : List Tok → List Bool → Option (List Bool)
  | [], s => some s
  | t :: ts, s => (tyT t s).bind (tyTs ts)
theorem tyTs_app : ∀ (a b : List Tok) (s : List Bool), tyTs (a ++ b) s = (tyTs a s).bind (tyTs b)
  | [], b, s => rfl
  | t :: a, b, s => by
    show (tyT t s).bind (tyTs (a ++ b)) = ((tyT t s).bind (tyTs a)).bind (tyTs b)
    cases tyT t s with
    | none => rfl
    | some s' => exact tyTs_app a b s'
theorem exTs_app (L : Nat → Int32) : ∀ (a b : List Tok) (s : List Int32), exTs L (a ++ b) s = exTs L b (exTs L a s)
  | [], b, s => rfl
  | t :: a, b, s => exTs_app L a b _
def okV (t : Bool) (v : Int32) : Prop := if t then v = 0 ∨ v = 1 else (-1000000 ≤ v ∧ v ≤ 1000000)
def okS : List Bool → List Int32 → Prop
  | [], [] => True
  | t :: s, v :: st => okV t v ∧ okS s st
  | _, _ => False
theorem okS_len : ∀ {s : List Bool} {st : List Int32}, okS s st → s.length = st.length
  | [], [], _ => rfl
  | _ :: s, _ :: st, h => congrArg (· + 1) (okS_len (s := s) (st := st) h.2)
  | [], _ :: _, h => h.elim
  | _ :: _, [], h => h.elim
theorem lc_lt (a b : Int64) : lg_cmp a b < 0 ↔ a < b := by
  unfold lg_cmp
  by_cases h1 : a > b
  · rw [if_pos h1]; exact ⟨fun z => absurd z (by decide), fun z => absurd z (Int64.not_lt.mpr (Int64.le_of_lt h1))⟩
  · rw [if_neg h1]
    by_cases h2 : a = b
    · rw [if_pos h2, h2]; exact ⟨fun z => absurd z (by decide), fun z => by grind⟩
    · rw [if_neg h2]; exact ⟨fun _ => by grind, fun _ => by decide⟩
theorem lc_le (a b : Int64) : lg_cmp a b ≤ 0 ↔ a ≤ b := by
  unfold lg_cmp
  by_cases h1 : a > b
  · rw [if_pos h1]; exact ⟨fun z => absurd z (by decide), fun z => absurd z (by grind)⟩
  · rw [if_neg h1]
    by_cases h2 : a = b
    · rw [if_pos h2, h2]; exact ⟨fun z => by grind, fun z => by decide⟩
    · rw [if_neg h2]; exact ⟨fun _ => by grind, fun _ => by decide⟩
theorem lc_eq (a b : Int64) : lg_cmp a b = 0 ↔ a = b := by
  unfold lg_cmp
  by_cases h1 : a > b
  · rw [if_pos h1]; exact ⟨fun z => absurd z (by decide), fun z => by grind⟩
  · rw [if_neg h1]
    by_cases h2 : a = b
    · rw [if_pos h2]; exact ⟨fun _ => h2, fun _ => rfl⟩
    · rw [if_neg h2]; exact ⟨fun z => absurd z (by decide), fun z => absurd z h2⟩
theorem mi_L (a b : Int64) : miL a b = if a ≤ b then a else b := by unfold miL; simp only [lc_le]
theorem ma_L (a b : Int64) : maL a b = if a < b then b else a := by unfold maL; simp only [lc_lt]
theorem j_minL (m : mm_MM) (a b : Int64) : fJ9_min_f86c9 m a b = some (miL a b, m) := by
  unfold fJ9_min_f86c9 fJ9_min_f86c9_c11 miL
  by_cases h : lg_cmp a b ≤ 0 <;> simp [h]
theorem j_maxL (m : mm_MM) (a b : Int64) : fJ9_max_f86c9 m a b = some (maL a b, m) := by
  unfold fJ9_max_f86c9 fJ9_max_f86c9_c11 maL
  by_cases h : lg_cmp a b < 0 <;> simp [h]
theorem c_held (m : mm_MM) (x : Int64) : fX2_held m x = some (hl x, m) := by
  have e : hl x = if x ≤ 1000000 then (if x < -1000000 then (-1000000 : Int32) else x.toInt32) else 1000000 := by
    unfold hl
    rw [mi_L, ma_L]
    by_cases h1 : x ≤ 1000000
    · have e1 : (if (1000000 : Int64) ≤ x then 1000000 else x) = x := by grind
      rw [e1, if_pos h1]
      by_cases h2 : x < -1000000
      · rw [if_pos h2, if_neg (by grind)]; decide
      · rw [if_neg h2]
        by_cases h3 : -1000000 < x
        · rw [if_pos h3]
        · rw [if_neg h3, show x = -1000000 by grind]
    · have e1 : (if (1000000 : Int64) ≤ x then 1000000 else x) = 1000000 := by grind
      rw [e1, if_neg h1, if_pos (by decide)]; decide
  unfold fX2_held fX2_held_c28
  rw [e]
  by_cases h1 : x ≤ 1000000
  · rw [if_pos ((lc_le _ _).mpr h1), if_pos h1]
    by_cases h2 : x < -1000000
    · rw [if_pos ((lc_lt _ _).mpr h2), if_pos h2]
    · rw [if_neg (fun z => h2 ((lc_lt _ _).mp z)), if_neg h2]
  · rw [if_neg (fun z => h1 ((lc_le _ _).mp z)), if_neg h1]
theorem r_bounded (m : mm_MM) (x : Int64) : fX11_bounded m x = some (hl x, m) := by
  simp [fX11_bounded, j_minL, j_maxL, hl]
theorem t64_eq (a b : Int32) : a.toInt64 = b.toInt64 ↔ a = b := by rw [← Int64.toInt_inj, ← Int32.toInt_inj, Int32.toInt_toInt64, Int32.toInt_toInt64]
theorem t64_le (a b : Int32) : a.toInt64 ≤ b.toInt64 ↔ a ≤ b := by rw [Int64.le_iff_toInt_le, Int32.le_iff_toInt_le, Int32.toInt_toInt64, Int32.toInt_toInt64]
theorem t64_lt (a b : Int32) : a.toInt64 < b.toInt64 ↔ a < b := by rw [Int64.lt_iff_toInt_lt, Int32.lt_iff_toInt_lt, Int32.toInt_toInt64, Int32.toInt_toInt64]
theorem hl_id {x : Int32} (h : -1000000 ≤ x ∧ x ≤ 1000000) : hl x.toInt64 = x := by
  unfold hl
  have h1 : x.toInt64 ≤ 1000000 := (t64_le x 1000000).mpr h.2
  have h2 : -1000000 ≤ x.toInt64 := (t64_le (-1000000) x).mpr h.1
  have e1 : miL 1000000 x.toInt64 = x.toInt64 := by rw [mi_L]; grind
  rw [e1, ma_L]
  have e2 : (if -1000000 < x.toInt64 then x.toInt64 else -1000000) = x.toInt64 := by grind
  rw [e2]
  simp
theorem hl_ok (x : Int64) : -1000000 ≤ hl x ∧ hl x ≤ 1000000 := by
  unfold hl
  generalize hy : maL (-1000000) (miL 1000000 x) = y
  have h1 : -1000000 ≤ y ∧ y ≤ 1000000 := by
    rw [← hy, ma_L, mi_L]; grind
  have h3 : -1000000 ≤ y.toInt := (Int64.le_iff_toInt_le (x := -1000000)).mp h1.1
  have h4 : y.toInt ≤ 1000000 := (Int64.le_iff_toInt_le (y := 1000000)).mp h1.2
  have h2 : y.toInt32.toInt = y.toInt := by
    rw [Int64.toInt_toInt32, Int.bmod_def]
    split <;> omega
  constructor
  · rw [Int32.le_iff_toInt_le, h2]; exact h3
  · rw [Int32.le_iff_toInt_le, h2]; exact h4
theorem div_b {a b : Int32} (ha : -1000000 ≤ a ∧ a ≤ 1000000) : -1000000 ≤ a / b ∧ a / b ≤ 1000000 := by
  have hm : a ≠ Int32.minValue := fun z => by rw [z] at ha; exact absurd ha.1 (by decide)
  have h1 : (-1000000 : Int) ≤ a.toInt := (Int32.le_iff_toInt_le (x := -1000000)).mp ha.1
  have h2 : a.toInt ≤ 1000000 := (Int32.le_iff_toInt_le (y := 1000000)).mp ha.2
  have h3 : (a.toInt.tdiv b.toInt).natAbs ≤ a.toInt.natAbs := by
    rw [Int.natAbs_tdiv]
    exact Nat.div_le_self _ _
  constructor
  · rw [Int32.le_iff_toInt_le, Int32.toInt_div_of_ne_left _ _ hm]
    show (-1000000 : Int) ≤ _
    omega
  · rw [Int32.le_iff_toInt_le, Int32.toInt_div_of_ne_left _ _ hm]
    show _ ≤ (1000000 : Int)
    omega
theorem div_ok {a b : Int32} (ha : -1000000 ≤ a ∧ a ≤ 1000000) : hl (a.toInt64 / b.toInt64) = a / b := by
  have hm : a ≠ Int32.minValue := fun z => by rw [z] at ha; exact absurd ha.1 (by decide)
  rw [← Int32.toInt64_div_of_ne_left _ _ hm, hl_id (div_b ha)]
/-! the stack in a row -/
def stk (row : Nat → Int32) : List Int32 → Prop
  | [] => True
  | a :: s => row s.length = a ∧ stk row s
theorem stk_up {row row' : Nat → Int32} : ∀ {st : List Int32}, stk row st → (∀ j, j < st.length → row' j = row j) → stk row' st
  | [], _, _ => True.intro
  | a :: s, h, hr => ⟨(hr s.length (Nat.lt_succ_self _)).trans h.1, stk_up (st := s) h.2 (fun j hj => hr j (Nat.lt_succ_of_lt hj))⟩
theorem okS_c {t : Bool} {s : List Bool} {st : List Int32} (h : okS (t :: s) st) : ∃ a r, st = a :: r ∧ okV t a ∧ okS s r := by
  cases st with
  | nil => exact h.elim
  | cons a r => exact ⟨a, r, rfl, h.1, h.2⟩
theorem tyT_inv {t : Tok} {s s' : List Bool} {st : List Int32} (h : okS s st) (ht : tyT t s = some s') :
    (∃ v, t = (0, v) ∧ v ≤ 9999 ∧ s.length < 60 ∧ s' = false :: s) ∨
    (∃ v, t = (1, v) ∧ v ≤ 5 ∧ s.length < 60 ∧ s' = false :: s) ∨
    (∃ v a r q, t = (9, v) ∧ s = true :: q ∧ s' = true :: q ∧ st = a :: r ∧ okV true a ∧ okS q r) ∨
    (∃ c v a b r q, t = (c, v) ∧ 2 ≤ c ∧ c ≤ 5 ∧ s = false :: false :: q ∧ s' = false :: q ∧ st = b :: a :: r ∧ okV false b ∧ okV false a ∧ okS q r) ∨
    (∃ c v a b r q, t = (c, v) ∧ 6 ≤ c ∧ c ≤ 8 ∧ s = false :: false :: q ∧ s' = true :: q ∧ st = b :: a :: r ∧ okV false b ∧ okV false a ∧ okS q r) ∨
    (∃ c v a b r q, t = (c, v) ∧ 10 ≤ c ∧ c ≤ 11 ∧ s = true :: true :: q ∧ s' = true :: q ∧ st = b :: a :: r ∧ okV true b ∧ okV true a ∧ okS q r) := by
  obtain ⟨c, v⟩ := t
  unfold tyT at ht
  split at ht
  · rename_i hc
    obtain rfl : c = 0 := hc
    obtain ⟨h1, ht⟩ := sd_ift ht
    cases ht
    exact Or.inl ⟨v, rfl, h1.1, h1.2, rfl⟩
  · rename_i hc
    obtain rfl : c = 1 := hc
    obtain ⟨h1, ht⟩ := sd_ift ht
    cases ht
    exact Or.inr (Or.inl ⟨v, rfl, h1.1, h1.2, rfl⟩)
  · rename_i q hc
    obtain rfl : c = 9 := hc
    cases ht
    obtain ⟨a, r, rfl, h1, h2⟩ := okS_c h
    exact Or.inr (Or.inr (Or.inl ⟨v, a, r, q, rfl, rfl, rfl, rfl, h1, h2⟩))
  · rename_i q h0 h1
    obtain ⟨b, r, rfl, hb, h⟩ := okS_c h
    obtain ⟨a, r, rfl, ha, h⟩ := okS_c h
    dsimp only at ht
    by_cases h2 : 2 ≤ c ∧ c ≤ 5
    · rw [if_pos h2] at ht
      cases ht
      exact Or.inr (Or.inr (Or.inr (Or.inl ⟨c, v, a, b, r, q, rfl, h2.1, h2.2, rfl, rfl, rfl, hb, ha, h⟩)))
    · rw [if_neg h2] at ht
      obtain ⟨h3, ht⟩ := sd_ift ht
      cases ht
      exact Or.inr (Or.inr (Or.inr (Or.inr (Or.inl ⟨c, v, a, b, r, q, rfl, h3.1, h3.2, rfl, rfl, rfl, hb, ha, h⟩))))
  · rename_i q h0 h1 h9
    obtain ⟨b, r, rfl, hb, h⟩ := okS_c h
    obtain ⟨a, r, rfl, ha, h⟩ := okS_c h
    obtain ⟨h3, ht⟩ := sd_ift ht
    cases ht
    exact Or.inr (Or.inr (Or.inr (Or.inr (Or.inr ⟨c, v, a, b, r, q, rfl, h3.1, h3.2, rfl, rfl, rfl, hb, ha, h⟩))))
  · cases ht
theorem okv_n {v : Nat} (h : v ≤ 9999) : okV false (Int32.ofNat v) := by
  constructor
  · show Int32.ofNat 0 - Int32.ofNat 1000000 ≤ Int32.ofNat v
    have := nn_n0 (n := v) (by omega)
    have h2 : Int32.ofNat 0 - Int32.ofNat 1000000 ≤ 0 := by decide
    exact Int32.le_trans h2 (Int32.not_lt.mp this)
  · exact (nn_le (k := 1000000) (by omega) (by decide)).mpr (by omega)
theorem okS_exT {L : Nat → Int32} (hL : ∀ k, k ≤ 5 → okV false (L k)) {t : Tok} {s s' : List Bool} {st : List Int32} (h : okS s st) (ht : tyT t s = some s') : okS s' (exT L t st) := by
  rcases tyT_inv h ht with ⟨v, rfl, hv, hl, rfl⟩ | ⟨v, rfl, hv, hl, rfl⟩ | ⟨v, a, r, q, rfl, rfl, rfl, rfl, ha, hr⟩ | ⟨c, v, a, b, r, q, rfl, h1, h2, rfl, rfl, rfl, hb, ha, hr⟩ | ⟨c, v, a, b, r, q, rfl, h1, h2, rfl, rfl, rfl, hb, ha, hr⟩ | ⟨c, v, a, b, r, q, rfl, h1, h2, rfl, rfl, rfl, hb, ha, hr⟩
  · exact ⟨okv_n hv, h⟩
  · exact ⟨hL v hv, h⟩
  · refine ⟨?_, hr⟩
    by_cases h0 : a = 0
    · rw [if_pos h0]; exact Or.inr rfl
    · rw [if_neg h0]; exact Or.inl rfl
  · obtain rfl | rfl | rfl | rfl : c = 2 ∨ c = 3 ∨ c = 4 ∨ c = 5 := by omega
    · exact ⟨hl_ok _, hr⟩
    · exact ⟨hl_ok _, hr⟩
    · exact ⟨hl_ok _, hr⟩
    · refine ⟨?_, hr⟩
      show okV false (if b = 0 then 0 else a / b)
      by_cases h0 : b = 0
      · rw [if_pos h0]; exact ⟨by decide, by decide⟩
      · rw [if_neg h0]; exact div_b ha
  · obtain rfl | rfl | rfl : c = 6 ∨ c = 7 ∨ c = 8 := by omega
    · refine ⟨?_, hr⟩
      show okV true (if a = b then 1 else 0)
      by_cases h0 : a = b
      · rw [if_pos h0]; exact Or.inr rfl
      · rw [if_neg h0]; exact Or.inl rfl
    · refine ⟨?_, hr⟩
      show okV true (if a < b then 1 else 0)
      by_cases h0 : a < b
      · rw [if_pos h0]; exact Or.inr rfl
      · rw [if_neg h0]; exact Or.inl rfl
    · refine ⟨?_, hr⟩
      show okV true (if a ≤ b then 0 else 1)
      by_cases h0 : a ≤ b
      · rw [if_pos h0]; exact Or.inl rfl
      · rw [if_neg h0]; exact Or.inr rfl
  · obtain rfl | rfl : c = 10 ∨ c = 11 := by omega
    · refine ⟨?_, hr⟩
      show okV true (a &&& b)
      rcases ha with rfl | rfl <;> rcases hb with rfl | rfl <;> first | exact Or.inl rfl | exact Or.inr rfl
    · refine ⟨?_, hr⟩
      show okV true (a ||| b)
      rcases ha with rfl | rfl <;> rcases hb with rfl | rfl <;> first | exact Or.inl rfl | exact Or.inr rfl
theorem okS_exTs {L : Nat → Int32} (hL : ∀ k, k ≤ 5 → okV false (L k)) : ∀ {ts : List Tok} {s s' : List Bool} {st : List Int32}, okS s st → tyTs ts s = some s' → okS s' (exTs L ts st)
  | [], s, s', st, h, ht => by cases ht; exact h
  | t :: ts, s, s', st, h, ht => by
    obtain ⟨s1, h1, h2⟩ := Option.bind_eq_some_iff.mp ht
    exact okS_exTs hL (ts := ts) (st := exT L t st) (okS_exT hL h h1) h2
