/-! MOST ALIKE: how many say the same -/
section ALK
variable {m m1 : mm_MM}
def alkN (p : Nat → Prop) [DecidablePred p] (v : Nat → Int32) (i : Nat) : Nat → Nat → Int32 → Int32
  | 0, _, c => c
  | n + 1, j, c => alkN p v i n (j + 1) (if p i ∧ p j ∧ v i = v j then c + 1 else c)
def almN (p : Nat → Prop) [DecidablePred p] (v : Nat → Int32) : Nat → Nat → Int32 → Int32
  | 0, _, a => a
  | n + 1, i, a => almN p v n (i + 1) (ma a (alkN p v i 10 0 0))
theorem c_alk {p : Nat → Prop} [DecidablePred p] {v : Nat → Int32} {x : Int32} (hx : ∀ i j, i < 10 → j < 10 → (((((x : Int32) >>> (Int32.ofNat i &&& 31)) &&& ((x : Int32) >>> (Int32.ofNat j &&& 31))) &&& 1) = 1 ↔ p i ∧ p j)) (hv : ∀ i, i < 10 → p i → m.1 593 i = v i) (kr : mm_MM → Int32 → Int32 → Int32 → Option (Int32 × mm_MM)) {i : Nat} (hi : i < 10) (a : Int32) : ∀ (n j : Nat) (c : Int32) (g : Nat), j + n = 10 → n < g → fX10_mostAlike_c16 kr g m x a (Int32.ofNat i) c (Int32.ofNat j) = kr m x (ma a (alkN p v i n j c)) (Int32.ofNat (i + 1)) := by
  intro n
  induction n with
  | zero =>
    intro j c g hj hg
    obtain ⟨g, rfl⟩ : ∃ h, g = h + 1 := ⟨g - 1, by omega⟩
    obtain rfl : j = 10 := by omega
    rw [fX10_mostAlike_c16, alkN]
    dsimp only
    rw [if_neg (show ¬ Int32.ofNat 10 < 10 by decide), j_max]
    simp only [Option.bind_some, nn_s]
  | succ n ih =>
    intro j c g hj hg
    obtain ⟨g, rfl⟩ : ∃ h, g = h + 1 := ⟨g - 1, by omega⟩
    rw [fX10_mostAlike_c16, alkN]
    dsimp only
    rw [if_pos (show Int32.ofNat j < 10 from (nn_lt (k := 10) (by omega) (by decide)).mpr (by omega))]
    by_cases h : p i ∧ p j
    · rw [if_pos ((hx i j hi (by omega)).mpr h)]
      simp only [fX10_mostAlike_c42, if_neg (show ¬ (1 : Int32) = 0 by decide), c_pick_n m 593 (n := 10) (b := i) rfl (by decide) hi, c_pick_n m 593 (n := 10) (b := j) rfl (by decide) (show j < 10 by omega), Option.bind_some, hv i hi h.1, hv j (by omega) h.2, fX10_mostAlike_c72, nn_s]
      by_cases e : v i = v j
      · rw [if_pos e, if_pos ⟨h.1, h.2, e⟩]; exact ih (j + 1) (c + 1) g (by omega) (by omega)
      · rw [if_neg e, if_neg (fun z => e z.2.2)]; exact ih (j + 1) c g (by omega) (by omega)
    · rw [if_neg (fun z => h ((hx i j hi (by omega)).mp z)), if_neg (fun z => h ⟨z.1, z.2.1⟩)]
      simp only [fX10_mostAlike_c42, if_true, fX10_mostAlike_c72, nn_s]
      exact ih (j + 1) c g (by omega) (by omega)
theorem c_alike {p : Nat → Prop} [DecidablePred p] {v : Nat → Int32} {x : Int32} (hx : ∀ i j, i < 10 → j < 10 → (((((x : Int32) >>> (Int32.ofNat i &&& 31)) &&& ((x : Int32) >>> (Int32.ofNat j &&& 31))) &&& 1) = 1 ↔ p i ∧ p j)) (hv : ∀ i, i < 10 → p i → m.1 593 i = v i) : ∀ (n i : Nat) (a : Int32) (g : Nat), i + n = 10 → n < g → fX10_mostAlike_c4 g m x a (Int32.ofNat i) = some (almN p v n i a, m) := by
  intro n
  induction n with
  | zero =>
    intro i a g hi hg
    obtain ⟨g, rfl⟩ : ∃ h, g = h + 1 := ⟨g - 1, by omega⟩
    obtain rfl : i = 10 := by omega
    rw [fX10_mostAlike_c4, almN]
    exact if_neg (by decide)
  | succ n ih =>
    intro i a g hi hg
    obtain ⟨g, rfl⟩ : ∃ h, g = h + 1 := ⟨g - 1, by omega⟩
    rw [fX10_mostAlike_c4, almN]
    dsimp only
    rw [if_pos (show Int32.ofNat i < 10 from (nn_lt (k := 10) (by omega) (by decide)).mpr (by omega))]
    exact (c_alk hx hv (fX10_mostAlike_c4 g) (by omega) a 10 0 0 fu rfl (by decide)).trans (ih (i + 1) _ g (by omega) (by omega))
theorem r_alk {p : Nat → Prop} [DecidablePred p] {v : Nat → Int32} (hx : ∀ i, i < 10 → (¬ m.1 637 i = 0 ↔ p i)) (hv : ∀ i, i < 10 → p i → m.1 636 i = v i) (kr : mm_MM → Int32 → Int32 → Option (Int32 × mm_MM)) {i : Nat} (hi : i < 10) (a : Int32) : ∀ (n j : Nat) (c : Int32) (g : Nat), j + n = 10 → n < g → fX11_mostAlike_c15 kr g m a (Int32.ofNat i) c (Int32.ofNat j) = kr m (ma a (alkN p v i n j c)) (Int32.ofNat (i + 1)) := by
  intro n
  induction n with
  | zero =>
    intro j c g hj hg
    obtain ⟨g, rfl⟩ : ∃ h, g = h + 1 := ⟨g - 1, by omega⟩
    obtain rfl : j = 10 := by omega
    rw [fX11_mostAlike_c15, alkN]
    dsimp only
    rw [if_neg (show ¬ Int32.ofNat 10 ≤ 9 by decide), j_max]
    simp only [Option.bind_some, nn_s]
  | succ n ih =>
    intro j c g hj hg
    obtain ⟨g, rfl⟩ : ∃ h, g = h + 1 := ⟨g - 1, by omega⟩
    have gi : ∀ {α : Type} {A : Option α}, (if Int32.ofNat i < 0 ∨ 10 ≤ i then none else A) = A := fun {α A} => nn_gn (by omega) hi
    have gj : ∀ {α : Type} {A : Option α}, (if Int32.ofNat j < 0 ∨ 10 ≤ j then none else A) = A := fun {α A} => nn_gn (by omega) (by omega)
    have ti : (Int32.ofNat i).toNatClampNeg = i := nn_tn (by omega)
    have tj : (Int32.ofNat j).toNatClampNeg = j := nn_tn (by omega)
    rw [fX11_mostAlike_c15, alkN]
    simp only [if_pos (show Int32.ofNat j ≤ 9 from (nn_le (k := 9) (by omega) (by decide)).mpr (by omega)), ti, tj, gi, gj, fX11_mostAlike_c62, fX11_mostAlike_c63, nn_s]
    have c0 : c + 0 = c := Int32.add_zero c
    by_cases h1 : p i
    · rw [if_neg ((hx i hi).mpr h1)]
      by_cases h2 : p j
      · rw [if_neg ((hx j (by omega)).mpr h2), hv i hi h1, hv j (by omega) h2]
        by_cases e : v i = v j
        · rw [if_pos e, if_pos ⟨h1, h2, e⟩]; exact ih (j + 1) (c + 1) g (by omega) (by omega)
        · rw [if_neg e, if_neg (fun z => e z.2.2), c0]; exact ih (j + 1) c g (by omega) (by omega)
      · rw [if_pos (Decidable.byContradiction (fun z => h2 ((hx j (by omega)).mp z))), if_neg (fun z => h2 z.2.1), c0]; exact ih (j + 1) c g (by omega) (by omega)
    · rw [if_pos (Decidable.byContradiction (fun z => h1 ((hx i hi).mp z))), if_neg (fun z => h1 z.1), c0]; exact ih (j + 1) c g (by omega) (by omega)
theorem r_alike {p : Nat → Prop} [DecidablePred p] {v : Nat → Int32} (hx : ∀ i, i < 10 → (¬ m.1 637 i = 0 ↔ p i)) (hv : ∀ i, i < 10 → p i → m.1 636 i = v i) : ∀ (n i : Nat) (a : Int32) (g : Nat), i + n = 10 → n < g → fX11_mostAlike_c4 g m a (Int32.ofNat i) = some (almN p v n i a, m) := by
  intro n
  induction n with
  | zero =>
    intro i a g hi hg
    obtain ⟨g, rfl⟩ : ∃ h, g = h + 1 := ⟨g - 1, by omega⟩
    obtain rfl : i = 10 := by omega
    rw [fX11_mostAlike_c4, almN]
    exact if_neg (by decide)
  | succ n ih =>
    intro i a g hi hg
    obtain ⟨g, rfl⟩ : ∃ h, g = h + 1 := ⟨g - 1, by omega⟩
    rw [fX11_mostAlike_c4, almN]
    dsimp only
    rw [if_pos (show Int32.ofNat i ≤ 9 from (nn_le (k := 9) (by omega) (by decide)).mpr (by omega))]
    exact (r_alk hx hv (fX11_mostAlike_c4 g) (by omega) a 10 0 0 fu rfl (by decide)).trans (ih (i + 1) _ g (by omega) (by omega))
end ALK
