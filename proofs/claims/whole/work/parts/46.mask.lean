/-! PLACES AS BITS -/
def bitI (b : Nat) : Int32 := (1 : Int32) <<< (Int32.ofNat b &&& 31)
def owN (p : Nat → Bool) : Nat → Nat → Int32 → Int32
  | 0, _, a => a
  | n + 1, b, a => owN p n (b + 1) (if p b = true then a ||| bitI b else a)
def mk8 (p : Nat → Bool) : Int32 := owN p 8 0 0
def hasP (x : Int32) (b : Nat) : Prop := (x >>> (Int32.ofNat b &&& 31)) &&& 1 = 1
def hasB (x : Int32) (b : Nat) : Bool := decide ((x >>> (Int32.ofNat b &&& 31)) &&& 1 = 1)
def m8 (a b c d e f g h : Bool) : Int32 := owN (fun i => match i with | 0 => a | 1 => b | 2 => c | 3 => d | 4 => e | 5 => f | 6 => g | _ => h) 8 0 0
theorem m8_eq (p : Nat → Bool) : mk8 p = m8 (p 0) (p 1) (p 2) (p 3) (p 4) (p 5) (p 6) (p 7) := rfl
theorem m8_has : ∀ a b c d e f g h : Bool, hasB (m8 a b c d e f g h) 0 = a ∧ hasB (m8 a b c d e f g h) 1 = b ∧ hasB (m8 a b c d e f g h) 2 = c ∧ hasB (m8 a b c d e f g h) 3 = d ∧ hasB (m8 a b c d e f g h) 4 = e ∧ hasB (m8 a b c d e f g h) 5 = f ∧ hasB (m8 a b c d e f g h) 6 = g ∧ hasB (m8 a b c d e f g h) 7 = h := by decide +kernel
def bcN (x : Int32) : Int32 := match fJ6_bitCount_0f7a4 (fun _ _ => 0, fun _ _ => 0) x with
  | some r => r.1
  | none => 0
theorem j_bit (m : mm_MM) (x : Int32) : fJ6_bitCount_0f7a4 m x = some (bcN x, m) := rfl
def c1 (b : Bool) : Int32 := if b then 1 else 0
theorem m8_bit : ∀ a b c d e f g h : Bool, bcN (m8 a b c d e f g h) = 0 + c1 a + c1 b + c1 c + c1 d + c1 e + c1 f + c1 g + c1 h := by decide +kernel
theorem mk8_has (p : Nat → Bool) {b : Nat} (hb : b < 8) : hasB (mk8 p) b = p b := by
  have := m8_has (p 0) (p 1) (p 2) (p 3) (p 4) (p 5) (p 6) (p 7)
  rw [← m8_eq] at this
  obtain ⟨h0, h1, h2, h3, h4, h5, h6, h7⟩ := this
  obtain rfl | rfl | rfl | rfl | rfl | rfl | rfl | rfl : b = 0 ∨ b = 1 ∨ b = 2 ∨ b = 3 ∨ b = 4 ∨ b = 5 ∨ b = 6 ∨ b = 7 := by omega
  all_goals assumption
/-- how many, one by one -/
def cnN (p : Nat → Bool) : Nat → Nat → Int32 → Int32
  | 0, _, a => a
  | n + 1, b, a => cnN p n (b + 1) (if p b = true then a + 1 else a)
theorem mk8_bit (p : Nat → Bool) : bcN (mk8 p) = cnN p 8 0 0 := by
  have e : ∀ (b : Bool) (a : Int32), (if b = true then a + 1 else a) = a + c1 b := fun b a => by cases b <;> simp [c1]
  rw [m8_eq, m8_bit]
  simp only [cnN, e]
theorem r_has (m : mm_MM) (x : Int32) (b : Nat) : fX11_has m x (Int32.ofNat b) = some (if hasB x b = true then 1 else 0, m) := by
  unfold fX11_has fX11_has_c14 hasB
  by_cases h : (x >>> (Int32.ofNat b &&& 31)) &&& 1 = 1
  · simp [h]
  · simp [h]
/-! the reference: which ones -/
def pB (T : TT) (b : Nat) : Bool := decide (T b 5 = 1)
def lyB (T : TT) (b : Nat) : Bool := decide (lyT T b)
def riB (y : Int32) (T : TT) (b : Nat) : Bool := decide (T b 5 = 1 ∧ ¬ T b 3 < y)
def noB (T : TT) (b : Nat) : Bool := decide (lyT T b ∧ T b 4 = 0)
theorem or0 (x : Int32) : x ||| 0 = x := Int32.or_zero
theorem owN_congr {p q : Nat → Bool} (h : ∀ b, b < 8 → p b = q b) : mk8 p = mk8 q := by
  rw [m8_eq, m8_eq, h 0 (by decide), h 1 (by decide), h 2 (by decide), h 3 (by decide), h 4 (by decide), h 5 (by decide), h 6 (by decide), h 7 (by decide)]
def whoB (y : Int32) (T : TT) (w : Nat) (b : Nat) : Bool := if w = 0 then pB T b else if w = 1 then lyB T b else if w = 2 then riB y T b else noB T b
theorem r_onesWho_l (m : mm_MM) {w : Nat} (hw : w < 4) : ∀ (n b : Nat) (a : Int32) (f : Nat), b + n = 8 → n < f → fX11_onesWho_c4 f m (Int32.ofNat w) a (Int32.ofNat b) = some (owN (whoB (m.1 620 2) (thr m 623 0) w) n b a, m) := by
  intro n
  induction n with
  | zero =>
    intro b a f hb hf
    obtain ⟨f, rfl⟩ : ∃ g, f = g + 1 := ⟨f - 1, by omega⟩
    obtain rfl : b = 8 := by omega
    rfl
  | succ n ih =>
    intro b a f hb hf
    obtain ⟨f, rfl⟩ : ∃ g, f = g + 1 := ⟨f - 1, by omega⟩
    have hb8 : b < 8 := by omega
    have hi := fun a => ih (b + 1) a f (by omega) (by omega)
    have h85 : ∀ (p : Bool) (s : Int32), s = (if p = true then 1 else 0) → whoB (m.1 620 2) (thr m 623 0) w b = p → fX11_onesWho_c70 (fX11_onesWho_c4 f) m (Int32.ofNat w) a (Int32.ofNat b) s = some (owN (whoB (m.1 620 2) (thr m 623 0) w) (n + 1) b a, m) := by
      intro p s hs hp
      unfold fX11_onesWho_c70 fX11_onesWho_c85
      rw [hs, owN, hp, nn_s, or0]
      cases p
      · rw [if_pos (show (if false = true then (1 : Int32) else 0) = 0 from rfl), if_neg (by decide)]; exact hi a
      · rw [if_neg (show ¬ (if true = true then (1 : Int32) else 0) = 0 by decide), if_pos rfl]; exact hi _
    rw [fX11_onesWho_c4]
    dsimp only
    rw [if_pos (nn_ll 8 hb8 (by decide))]
    obtain rfl | rfl | rfl | rfl : w = 0 ∨ w = 1 ∨ w = 2 ∨ w = 3 := by omega
    · rw [if_pos (show Int32.ofNat 0 = 0 from rfl), r_isThere_n m hb8]
      exact h85 (pB (thr m 623 0) b) _ (by simp [pB]) rfl
    · rw [if_neg (by decide), if_pos (show Int32.ofNat 1 = 1 from rfl), r_doesLie_n m hb8]
      exact h85 (lyB (thr m 623 0) b) _ (by simp [lyB]) rfl
    · rw [if_neg (by decide), if_neg (by decide), if_pos (show Int32.ofNat 2 = 2 from rfl), r_isRipe_n m hb8]
      exact h85 (riB (m.1 620 2) (thr m 623 0) b) _ (by simp [riB]) rfl
    · rw [if_neg (by decide), if_neg (by decide), if_neg (by decide), r_doesLie_n m hb8]
      simp only [Option.bind_some, fX11_onesWho_c69]
      by_cases h : lyT (thr m 623 0) b
      · rw [if_pos h, if_neg (by decide), r_of4 m hb8]
        simp only [Option.bind_some]
        rw [← thr_k0 h.1 (show 4 < 6 by decide)]
        by_cases h4 : thr m 623 0 b 4 = 0
        · rw [if_pos h4]
          exact h85 true _ rfl (by show noB _ _ = true; simp [noB, h, h4])
        · rw [if_neg h4]
          exact h85 false _ rfl (by show noB _ _ = false; simp [noB, h4])
      · rw [if_neg h, if_pos rfl]
        exact h85 false _ rfl (by show noB _ _ = false; simp [noB, h])
theorem r_onesWho (m : mm_MM) {w : Nat} (hw : w < 4) : fX11_onesWho m (Int32.ofNat w) = some (mk8 (whoB (m.1 620 2) (thr m 623 0) w), m) := r_onesWho_l m hw 8 0 0 fu rfl (by decide)
theorem r_ones0 (m : mm_MM) : fX11_onesWho m 0 = some (mk8 (pB (thr m 623 0)), m) := r_onesWho m (w := 0) (by decide)
theorem r_ones1 (m : mm_MM) : fX11_onesWho m 1 = some (mk8 (lyB (thr m 623 0)), m) := r_onesWho m (w := 1) (by decide)
theorem r_ones2 (m : mm_MM) : fX11_onesWho m 2 = some (mk8 (riB (m.1 620 2) (thr m 623 0)), m) := r_onesWho m (w := 2) (by decide)
theorem r_ones3 (m : mm_MM) : fX11_onesWho m 3 = some (mk8 (noB (thr m 623 0)), m) := r_onesWho m (w := 3) (by decide)
/-- VALUE of some, added up -/
def suN (p : Nat → Bool) (T : TT) : Nat → Nat → Int32 → Int32
  | 0, _, a => a
  | n + 1, b, a => suN p T n (b + 1) (if p b = true then a + T b 0 else a)
theorem r_valueOf_l (m : mm_MM) (p : Nat → Bool) (hp : ∀ b, b < 8 → p b = true → thr m 623 0 b 5 = 1) : ∀ (n b : Nat) (a : Int32) (f : Nat), b + n = 8 → n < f → fX11_valueOf_c4 f m (mk8 p) a (Int32.ofNat b) = some (suN p (thr m 623 0) n b a, m) := by
  intro n
  induction n with
  | zero =>
    intro b a f hb hf
    obtain ⟨f, rfl⟩ : ∃ g, f = g + 1 := ⟨f - 1, by omega⟩
    obtain rfl : b = 8 := by omega
    rfl
  | succ n ih =>
    intro b a f hb hf
    obtain ⟨f, rfl⟩ : ∃ g, f = g + 1 := ⟨f - 1, by omega⟩
    have hb8 : b < 8 := by omega
    have hi := fun a => ih (b + 1) a f (by omega) (by omega)
    rw [fX11_valueOf_c4]
    dsimp only
    rw [if_pos (nn_ll 8 hb8 (by decide)), r_has, mk8_has p hb8]
    simp only [Option.bind_some, fX11_valueOf_c29, nn_s, suN]
    cases hpb : p b with
    | false =>
      simp only [Bool.false_eq_true, if_false, if_true, Int32.add_zero]; exact hi a
    | true =>
      simp only [if_true, if_neg (show ¬ (1 : Int32) = 0 by decide), r_of0 m hb8, Option.bind_some]
      rw [thr_k0 (hp b hb8 hpb) (by decide)]; exact hi _
theorem r_valueOf (m : mm_MM) (p : Nat → Bool) (hp : ∀ b, b < 8 → p b = true → thr m 623 0 b 5 = 1) : fX11_valueOf m (mk8 p) = some (suN p (thr m 623 0) 8 0 0, m) := r_valueOf_l m p hp 8 0 0 fu rfl (by decide)
/-! the class: which ones -/
theorem c_so (m : mm_MM) {b w : Nat} (hw : w < 4) (h : thc m 34 b 5 = 1) : fX10_isSo m (34 + b) (Int32.ofNat (w + 4)) = some (if whoB (m.1 14 5) (thc m 34) w b = true then 1 else 0, m) := by
  have e2 := thc_k h (show 2 < 5 by decide)
  have e3 := thc_k h (show 3 < 5 by decide)
  have e4 := thc_k h (show 4 < 5 by decide)
  obtain rfl | rfl | rfl | rfl : w = 0 ∨ w = 1 ∨ w = 2 ∨ w = 3 := by omega
  · simp [fX10_isSo, whoB, pB, h]
  · by_cases h2 : m.1 (34 + b) 3 = -1
    · simp [fX10_isSo, fX10_isSo_c41, whoB, lyB, lyT, h, e2, h2]
    · simp [fX10_isSo, fX10_isSo_c41, whoB, lyB, lyT, h, e2, h2]
  · by_cases h2 : m.1 (34 + b) 4 < m.1 14 5
    · simp [fX10_isSo, c_ripe m h, whoB, riB, h, e3, h2]
    · simp [fX10_isSo, c_ripe m h, whoB, riB, h, e3, h2]
  · by_cases h2 : m.1 (34 + b) 3 = -1
    · simp [fX10_isSo, fX10_isSo_c67, fX10_isSo_c68, whoB, noB, lyT, h, e2, h2]
    · by_cases h5 : m.1 (34 + b) 5 = 0
      · simp [fX10_isSo, fX10_isSo_c67, fX10_isSo_c68, whoB, noB, lyT, h, e2, h2, e4, h5]
      · simp [fX10_isSo, fX10_isSo_c67, fX10_isSo_c68, whoB, noB, lyT, h, e2, h2, e4, h5]
theorem who_n {y : Int32} {T : TT} {w b : Nat} (h : ¬ T b 5 = 1) : whoB y T w b = false := by
  unfold whoB pB lyB riB noB lyT
  simp [h]
theorem c_places_l (m : mm_MM) {w : Nat} (hw : w < 4) : ∀ (n b : Nat) (a : Int32) (f : Nat), b + n = 8 → n < f → fX10_placesThatAre_c4 f m (Int32.ofNat (w + 4)) a (Int32.ofNat b) = some (owN (whoB (m.1 14 5) (thc m 34) w) n b a, m) := by
  intro n
  induction n with
  | zero =>
    intro b a f hb hf
    obtain ⟨f, rfl⟩ : ∃ g, f = g + 1 := ⟨f - 1, by omega⟩
    obtain rfl : b = 8 := by omega
    rfl
  | succ n ih =>
    intro b a f hb hf
    obtain ⟨f, rfl⟩ : ∃ g, f = g + 1 := ⟨f - 1, by omega⟩
    have hb8 : b < 8 := by omega
    have hi := fun a => ih (b + 1) a f (by omega) (by omega)
    rw [fX10_placesThatAre_c4]
    dsimp only
    rw [if_pos (nn_ll 8 hb8 (by decide)), c_find_n m hb8]
    simp only [Option.bind_some, fX10_placesThatAre_c41, nn_s, owN]
    by_cases h : thc m 34 b 5 = 1
    · have hk : mm_kd (34 + b) = (9, 6) := kd_p hb8
      rw [if_pos h]
      simp only [if_pos hk, c_so m hw h, Option.bind_some]
      cases hp : whoB (m.1 14 5) (thc m 34) w b with
      | false => simp only [Bool.false_eq_true, if_false, if_true]; exact hi a
      | true => simp only [if_true, if_neg (show ¬ (1 : Int32) = 0 by decide)]; exact hi _
    · rw [if_neg h]
      simp only
      rw [who_n h, if_neg (by decide)]
      exact hi a
theorem c_places (m : mm_MM) {w : Nat} (hw : w < 4) : fX10_placesThatAre m (Int32.ofNat (w + 4)) = some (mk8 (whoB (m.1 14 5) (thc m 34) w), m) := c_places_l m hw 8 0 0 fu rfl (by decide)
