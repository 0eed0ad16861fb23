/-! ROWS COPIED -/
/-- N places of row A from p on, put into row B from o on -/
def cpM (m : mm_MM) (B o N A p : Nat) : mm_MM := (fun i j => if i = B ∧ o ≤ j ∧ j < o + N then m.1 A (p + (j - o)) else m.1 i j, m.2)
theorem cpM_0 (m : mm_MM) (B o A p : Nat) : cpM m B o 0 A p = m := by
  unfold cpM
  refine Prod.ext (funext fun i => funext fun j => ?_) rfl
  exact if_neg (by omega)
theorem cpM_s (m : mm_MM) {B o z A p : Nat} (h : ¬ A = B ∨ o ≤ p) : wI (cpM m B o z A p) B (o + z) ((cpM m B o z A p).1 A (p + z)) = cpM m B o (z + 1) A p := by
  have e : (cpM m B o z A p).1 A (p + z) = m.1 A (p + z) := by
    unfold cpM
    exact if_neg (by omega)
  rw [e]
  refine Prod.ext (funext fun i => funext fun j => ?_) rfl
  rw [wI_1]
  show (if i = B ∧ j = o + z then m.1 A (p + z) else if i = B ∧ o ≤ j ∧ j < o + z then m.1 A (p + (j - o)) else m.1 i j) = if i = B ∧ o ≤ j ∧ j < o + (z + 1) then m.1 A (p + (j - o)) else m.1 i j
  by_cases h1 : i = B ∧ j = o + z
  · rw [if_pos h1, if_pos (by omega), show p + (j - o) = p + z by omega]
  · rw [if_neg h1]
    by_cases h2 : i = B ∧ o ≤ j ∧ j < o + z
    · rw [if_pos h2, if_pos (by omega)]
    · rw [if_neg h2, if_neg (by omega)]
theorem cp_l {α : Type} {F : Nat → mm_MM → Int32 → Option α} {fin : mm_MM → Option α} {I : mm_MM → Prop} {A B o p c N : Nat} (hAB : ¬ A = B ∨ o ≤ p) (hI : ∀ m j v, I m → I (wI m B j v))
    (hs : ∀ n m z, z < N → I m → F (n + 1) m (Int32.ofNat (c + z)) = F n (wI m B (o + z) (m.1 A (p + z))) (Int32.ofNat (c + z + 1))) (he : ∀ n m, I m → F (n + 1) m (Int32.ofNat (c + N)) = fin m) {m : mm_MM} (hm : I m) : ∀ f, N < f → F f m (Int32.ofNat c) = fin (cpM m B o N A p) := by
  have key : ∀ n z f, z + n = N → n < f → I (cpM m B o z A p) → F f (cpM m B o z A p) (Int32.ofNat (c + z)) = fin (cpM m B o N A p) := by
    intro n
    induction n with
    | zero =>
      intro z f hz hf hi
      obtain ⟨f, rfl⟩ : ∃ g, f = g + 1 := ⟨f - 1, by omega⟩
      obtain rfl : z = N := by omega
      exact he f _ hi
    | succ n ih =>
      intro z f hz hf hi
      obtain ⟨f, rfl⟩ : ∃ g, f = g + 1 := ⟨f - 1, by omega⟩
      rw [hs f _ z (by omega) hi, cpM_s m hAB]
      exact ih (z + 1) f (by omega) (by omega) (by rw [← cpM_s m hAB]; exact hI _ _ _ hi)
  intro f hf
  have := key N 0 f (by omega) hf (by rw [cpM_0]; exact hm)
  rw [cpM_0] at this
  exact this
theorem cpM_in {m : mm_MM} {B o N A p j : Nat} (h : j < N) : (cpM m B o N A p).1 B (o + j) = m.1 A (p + j) := by
  refine (if_pos (by omega)).trans ?_
  rw [Nat.add_sub_cancel_left]
theorem cpM_ne {m : mm_MM} {B o N A p i j : Nat} (h : ¬ i = B) : (cpM m B o N A p).1 i j = m.1 i j := if_neg (by omega)
theorem cpM_out {m : mm_MM} {B o N A p i j : Nat} (h : ¬ (o ≤ j ∧ j < o + N)) : (cpM m B o N A p).1 i j = m.1 i j := if_neg (by omega)
theorem fr_cpM {W : Nat → Nat → Bool} {m0 m : mm_MM} {B o N A p : Nat} (h : fr W m0 m) (hW : ∀ j, o ≤ j → j < o + N → W B j = true) : fr W m0 (cpM m B o N A p) := by
  refine ⟨fun i j z => ?_, h.2⟩
  by_cases c : i = B ∧ o ≤ j ∧ j < o + N
  · rw [c.1, hW j c.2.1 c.2.2] at z; cases z
  · exact (if_neg c).trans (h.1 i j z)
/-! the class copies a row, a thing -/
theorem c_copyRow (m : mm_MM) {A B N : Nat} (hA : (mm_kd A).2 = N) (hB : (mm_kd B).2 = N) (hN : N < 10000) (hne : ¬ A = B) : fX10_copyRow m A B = some (cpM m B 0 N A 0) := by
  refine cp_l (F := fun n m x => fX10_copyRow_c2 n m A B x) (fin := some) (I := fun _ => True) (A := A) (B := B) (o := 0) (p := 0) (c := 0) (N := N) (Or.inl hne) (fun _ _ _ _ => trivial) ?_ ?_ trivial fu (by unfold fu; omega)
  · intro n m z hz _
    rw [fX10_copyRow_c2]
    have h1 : Int32.ofNat (0 + z) < Int32.ofNat N := (nn_lt (by omega) (by omega)).mpr (by omega)
    dsimp only
    rw [hA, hB, if_pos h1, if_pos h1, nn_go (by omega) (by omega), nn_go (by omega) (by omega), nn_tn (by omega), nn_s]
  · intro n m _
    rw [fX10_copyRow_c2]
    dsimp only
    rw [hA, if_neg (by rw [nn_lt (by omega) (by omega)]; omega)]
    rfl
def WT (a : Nat) : Nat → Nat → Bool := fun i _ => i == a
theorem c_copyT (m : mm_MM) {t u : Nat} (h : ¬ t = u) (h0 : m.1 u 0 = 0 ∨ m.1 u 0 = 1) (h5 : m.1 u 5 = 0 ∨ m.1 u 5 = 1) : ∃ m', fX9_copy m t u = some m' ∧ (∀ k, k < 6 → m'.1 t k = m.1 u k) ∧ fr (WT t) m m' := by
  have hn : ∀ (m : mm_MM) (j k : Nat) (v : Int32), (wI m t j v).1 u k = m.1 u k := fun m j k v => wI_ne (fun z => h z.symm)
  have e : fX9_copy m t u = some (wI (wI (wI (wI (wI (wI m t 0 (m.1 u 0)) t 1 (m.1 u 1)) t 2 (m.1 u 2)) t 3 (m.1 u 3)) t 4 (m.1 u 4)) t 5 (m.1 u 5)) := by
    unfold fX9_copy
    simp only [hn, if_pos h0, if_pos h5]
  refine ⟨_, e, fun k hk => ?_, fr_wI (fr_wI (fr_wI (fr_wI (fr_wI (fr_wI (fr_refl _ _) (by simp [WT])) (by simp [WT])) (by simp [WT])) (by simp [WT])) (by simp [WT])) (by simp [WT])⟩
  obtain rfl | rfl | rfl | rfl | rfl | rfl : k = 0 ∨ k = 1 ∨ k = 2 ∨ k = 3 ∨ k = 4 ∨ k = 5 := by omega
  all_goals simp [wI_1]
/-! THE VIEW OF A STAND: places, COINS, the MONTH, how long the LOG is, the LOG -/
abbrev Vw : Type := TT × Int32 × Int32 × Nat × (Nat → Nat → Int32)
def lgC (m : mm_MM) (s : Nat) (L N : Nat) : Nat → Nat → Int32 := fun j w => if j < L ∧ w < 3 then m.1 (s + 2 + w) ((N + 60 - L + j) % 60) else 0
def lgR (m : mm_MM) (a o : Nat) (L : Nat) : Nat → Nat → Int32 := fun j w => if j < L ∧ w < 3 then m.1 a (o + (51 + 3 * j + w)) else 0
def cV (m : mm_MM) (s : Nat) : Vw := (thc m (s + 5), m.1 s 6, m.1 s 7, (m.1 s 4).toNatClampNeg, lgC m s (m.1 s 4).toNatClampNeg (m.1 s 5).toNatClampNeg)
def rV (m : mm_MM) (a o : Nat) : Vw := (thr m a o, m.1 a (o + 48), m.1 a (o + 49), (m.1 a (o + 50)).toNatClampNeg, lgR m a o (m.1 a (o + 50)).toNatClampNeg)
/-- a stand of the class as it may be -/
def cOK (m : mm_MM) (s : Nat) : Prop := (∃ L N, m.1 s 4 = Int32.ofNat L ∧ L ≤ 60 ∧ m.1 s 5 = Int32.ofNat N ∧ N < 60) ∧ ∀ b, b < 8 → (m.1 (s + 5 + b) 0 = 0 ∨ m.1 (s + 5 + b) 0 = 1) ∧ (m.1 (s + 5 + b) 5 = 0 ∨ m.1 (s + 5 + b) 5 = 1)
def rOK (m : mm_MM) (a o : Nat) : Prop := ∃ L, m.1 a (o + 50) = Int32.ofNat L ∧ L ≤ 60
theorem thc_congr {m m' : mm_MM} {s s' : Nat} (h : ∀ b, b < 8 → ∀ k, k < 6 → m'.1 (s' + b) k = m.1 (s + b) k) : thc m' s' = thc m s := by
  funext b k
  unfold thc
  by_cases hb : b < 8
  · rw [h b hb 0 (by decide)]
    by_cases hk : k < 5
    · simp only [if_pos hk, h b hb (k + 1) (by omega)]
    · simp only [if_neg hk]
  · rw [if_neg (fun z => hb z.1), if_neg (fun z => hb z.1)]
theorem thr_congr {m m' : mm_MM} {a a' o o' : Nat} (h : ∀ k, k < 48 → m'.1 a' (o' + k) = m.1 a (o + k)) : thr m' a' o' = thr m a o := by
  funext b k
  unfold thr
  by_cases hb : b < 8
  · rw [h (6 * b + 5) (by omega)]
    by_cases hk : k < 6
    · simp only [if_pos hk, h (6 * b + k) (by omega)]
    · simp only [if_neg hk]
  · rw [if_neg (fun z => hb z.1), if_neg (fun z => hb z.1)]
theorem cV_congr {m m' : mm_MM} {s s' : Nat} (h1 : ∀ b, b < 8 → ∀ k, k < 6 → m'.1 (s' + 5 + b) k = m.1 (s + 5 + b) k) (h2 : ∀ k, 4 ≤ k → k < 8 → m'.1 s' k = m.1 s k) (h3 : ∀ w, w < 3 → ∀ j, j < 60 → m'.1 (s' + 2 + w) j = m.1 (s + 2 + w) j) : cV m' s' = cV m s := by
  have hl : lgC m' s' = lgC m s := by
    funext L N j w
    unfold lgC
    by_cases hj : j < L ∧ w < 3
    · rw [if_pos hj, if_pos hj]; exact h3 w hj.2 _ (Nat.mod_lt _ (by decide))
    · rw [if_neg hj, if_neg hj]
  unfold cV
  rw [thc_congr (s := s + 5) (s' := s' + 5) h1, h2 4 (by decide) (by decide), h2 5 (by decide) (by decide), h2 6 (by decide) (by decide), h2 7 (by decide) (by decide), hl]
theorem cOK_congr {m m' : mm_MM} {s s' : Nat} (h1 : ∀ b, b < 8 → ∀ k, k < 6 → m'.1 (s' + 5 + b) k = m.1 (s + 5 + b) k) (h2 : ∀ k, 4 ≤ k → k < 8 → m'.1 s' k = m.1 s k) (h : cOK m s) : cOK m' s' := by
  obtain ⟨⟨L, N, a1, a2, a3, a4⟩, hb⟩ := h
  refine ⟨⟨L, N, (h2 4 (by decide) (by decide)).trans a1, a2, (h2 5 (by decide) (by decide)).trans a3, a4⟩, fun b h8 => ?_⟩
  rw [h1 b h8 0 (by decide), h1 b h8 5 (by decide)]
  exact hb b h8
theorem rV_congr {m m' : mm_MM} {a a' o o' : Nat} (h : ∀ k, k < 231 → m'.1 a' (o' + k) = m.1 a (o + k)) (hr : rOK m a o) : rV m' a' o' = rV m a o := by
  obtain ⟨L, e, hL⟩ := hr
  have hl : lgR m' a' o' L = lgR m a o L := by
    funext j w
    unfold lgR
    by_cases hj : j < L ∧ w < 3
    · rw [if_pos hj, if_pos hj]; exact h (51 + 3 * j + w) (by omega)
    · rw [if_neg hj, if_neg hj]
  unfold rV
  rw [thr_congr (fun k hk => h k (by omega)), h 48 (by decide), h 49 (by decide), h 50 (by decide), e, nn_tn (by omega), hl]
theorem rOK_congr {m m' : mm_MM} {a a' o o' : Nat} (h : m'.1 a' (o' + 50) = m.1 a (o + 50)) (hr : rOK m a o) : rOK m' a' o' := by
  obtain ⟨L, e, hL⟩ := hr
  exact ⟨L, h.trans e, hL⟩
