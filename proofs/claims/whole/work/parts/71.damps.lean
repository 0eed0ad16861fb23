/-! DAMPS -/
section DPS
variable {m m1 : mm_MM} {W H : Nat} {P : List Vw} {ls : Nat → List Cla}
theorem fr_B {a b : mm_MM} (h : fr WG a b) : frB a b := ⟨fun x k z => h.1 x k (WG_Q x k z), h.2 0 19 rfl, h.2 606 35 (WG_hi (by decide))⟩
def dmsN (q : Nat → Int32) (x : Int32) : Nat → Nat → Int32 → Int32
  | 0, _, c => if x = -1 then c else -1
  | n + 1, i, c => if q i = 0 then dmsN q x n (i + 1) c else if c = x then Int32.ofNat i else dmsN q x n (i + 1) (c + 1)
theorem c_damps_l {m0 : mm_MM} {q : Nat → Int32} {r x : Int32} (hq : ∀ i, i < 10 → ∀ m, fr WG m0 m → ∃ m', fX10_mayBeSoDamp m r (Int32.ofNat i) = some (q i, m') ∧ fr WG m0 m') : ∀ (n i : Nat) (c : Int32) (m : mm_MM) (g : Nat), i + n = 10 → n < g → fr WG m0 m → ∃ m', fX10_damps_c20 g m r x c (Int32.ofNat i) = some (dmsN q x n i c, m') ∧ fr WG m0 m' := by
  intro n
  induction n with
  | zero =>
    intro i c m g hi hg hf
    obtain ⟨g, rfl⟩ : ∃ h, g = h + 1 := ⟨g - 1, by omega⟩
    obtain rfl : i = 10 := by omega
    refine ⟨m, ?_, hf⟩
    rw [fX10_damps_c20, dmsN]
    dsimp only
    rw [if_neg (show ¬ Int32.ofNat 10 < 10 by decide)]
    by_cases h : x = -1
    · rw [if_pos h, if_pos h]; rfl
    · rw [if_neg h, if_neg h]; rfl
  | succ n ih =>
    intro i c m g hi hg hf
    obtain ⟨g, rfl⟩ : ∃ h, g = h + 1 := ⟨g - 1, by omega⟩
    obtain ⟨m2, e2, f2⟩ := hq i (by omega) m hf
    rw [fX10_damps_c20, dmsN]
    dsimp only
    rw [if_pos (show Int32.ofNat i < 10 from (nn_lt (k := 10) (by omega) (by decide)).mpr (by omega)), e2]
    simp only [Option.bind_some, fX10_damps_c48, nn_s]
    by_cases h : q i = 0
    · rw [if_pos h, if_pos h]; exact ih (i + 1) c m2 g (by omega) (by omega) f2
    · rw [if_neg h, if_neg h]
      by_cases h2 : c = x
      · rw [if_pos h2, if_pos h2]; exact ⟨m2, rfl, f2⟩
      · rw [if_neg h2, if_neg h2]; exact ih (i + 1) (c + 1) m2 g (by omega) (by omega) f2
theorem r_damps_l {m0 : mm_MM} {q : Nat → Int32} {r x : Int32} (hq : ∀ i, i < 10 → ∀ m, frB m0 m → ∃ m', fX11_isDamp m r (Int32.ofNat i) = some (q i, m') ∧ frB m0 m') : ∀ (n i : Nat) (c : Int32) (m : mm_MM) (g : Nat), i + n = 10 → n < g → frB m0 m → ∃ m', fX11_damps_c20 g m r x c (Int32.ofNat i) = some (dmsN q x n i c, m') ∧ frB m0 m' := by
  intro n
  induction n with
  | zero =>
    intro i c m g hi hg hf
    obtain ⟨g, rfl⟩ : ∃ h, g = h + 1 := ⟨g - 1, by omega⟩
    obtain rfl : i = 10 := by omega
    refine ⟨m, ?_, hf⟩
    rw [fX11_damps_c20, dmsN]
    dsimp only
    rw [if_neg (show ¬ Int32.ofNat 10 ≤ 9 by decide)]
    by_cases h : x = -1
    · rw [if_pos h, if_pos h]; rfl
    · rw [if_neg h, if_neg h]; rfl
  | succ n ih =>
    intro i c m g hi hg hf
    obtain ⟨g, rfl⟩ : ∃ h, g = h + 1 := ⟨g - 1, by omega⟩
    obtain ⟨m2, e2, f2⟩ := hq i (by omega) m hf
    rw [fX11_damps_c20, dmsN]
    dsimp only
    rw [if_pos (show Int32.ofNat i ≤ 9 from (nn_le (k := 9) (by omega) (by decide)).mpr (by omega)), e2]
    simp only [Option.bind_some, fX11_damps_c48, nn_s]
    by_cases h : q i = 0
    · rw [if_pos h, if_pos h]; exact ih (i + 1) c m2 g (by omega) (by omega) f2
    · rw [if_neg h, if_neg h]
      by_cases h2 : c = x
      · rw [if_pos h2, if_pos h2]; exact ⟨m2, rfl, f2⟩
      · rw [if_neg h2, if_neg h2]; exact ih (i + 1) (c + 1) m2 g (by omega) (by omega) f2
theorem d_ok {i : Nat} (h : i < 10) : 0 ≤ Int32.ofNat i ∧ Int32.ofNat i ≤ 9 := ⟨(nn_le (n := 0) (by decide) (by omega)).mpr (by omega), (nn_le (k := 9) (by omega) (by decide)).mpr (by omega)⟩
theorem q_damps (hi : Inv m) (r x : Int32) : EQ m (fun m => fX10_damps m r x) (fun m => fX11_damps m r x) := by
  obtain ⟨W, H, P, ls, h⟩ := id hi
  have hs := see0 h
  by_cases hr : isRw (m.1 0 14) (m.1 14 4) r
  · by_cases hx : x < -1
    · refine EQ_0 (v := -1) hi ?_ ?_
      · simp only [fX10_damps, c_isRow, if_pos hr, Option.bind_some, if_neg (show ¬ (1 : Int32) = 0 by decide), if_pos hx, fX10_damps_c13]
      · simp only [fX11_damps, r_isRw h hs, if_pos hr, Option.bind_some, if_neg (show ¬ (1 : Int32) = 0 by decide), if_pos hx, fX11_damps_c13]
    · have hk : m.1 0 14 = 1 := h.1.2.1.resolve_left hr.1
      obtain ⟨o, t, ht, EC, ER⟩ := IA_env h hk
      have er := nn_of hr.2.1
      have hrH : r.toNatClampNeg < H := (nn_ltk hr.2.1 (by have := EC.1.2.2.2; omega)).mp (EC.2.2.1 ▸ hr.2.2)
      obtain ⟨s, s10, s5, s6, -, sg⟩ := h.2.2.2.2.2.2
      obtain ⟨m7, e7, f7⟩ := c_damps_l (m0 := m) (r := r) (x := x) (q := fun i => dmpN m o r (Int32.ofNat i) s 0) (fun i hi M hM => c_damp_l h hk EC.2.2.2.2.1 (d_ok hi) s10 s5 sg s 0 M fu (by omega) (by unfold fu; omega) hM) 10 0 0 m fu rfl (by decide) (fr_refl _ _)
      have hi7 : Inv m7 := Inv_B (fr_B f7) hi
      have h7 : InvA m7 W H P ls := InvA_q (fr_mono WG_Q f7) h
      obtain ⟨m8, e8, f8⟩ := r_damps_l (m0 := m) (r := r) (x := x) (q := fun i => dmpN m o r (Int32.ofNat i) s 0) (fun i hi M hM => by
        have := r_damp_l h hk ER hrH (d_ok hi) s10 s6 sg s 0 M fu (by omega) (by unfold fu; omega) hM
        rw [← er] at this
        exact this) 10 0 0 m7 fu rfl (by decide) (fr_B f7)
      refine ⟨dmsN (fun i => dmpN m o r (Int32.ofNat i) s 0) x 10 0 0, m7, m8, ?_, ?_, Inv_B f8 hi⟩
      · simp only [fX10_damps, c_isRow, if_pos hr, Option.bind_some, if_neg (show ¬ (1 : Int32) = 0 by decide), if_neg hx]
        exact e7
      · have hs7 := see0 h7
        have r7 : isRw (m7.1 0 14) (m7.1 14 4) r := by rw [f7.1 0 14 (WG_lo (by decide)), f7.1 14 4 (WG_lo (by decide))]; exact hr
        simp only [fX11_damps, r_isRw h7 hs7, if_pos r7, Option.bind_some, if_neg (show ¬ (1 : Int32) = 0 by decide), if_neg hx]
        exact e8
  · refine EQ_0 (v := -1) hi ?_ ?_
    · simp only [fX10_damps, c_isRow, if_neg hr, Option.bind_some, if_true, fX10_damps_c13]
    · simp only [fX11_damps, r_isRw h hs, if_neg hr, Option.bind_some, if_true, fX11_damps_c13]
end DPS
