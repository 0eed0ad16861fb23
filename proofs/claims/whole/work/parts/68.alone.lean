/-! A TOLD THING ALONE: what the reference puts up -/
section ALO
variable {m m1 : mm_MM} {W H : Nat} {P : List Vw} {ls : Nat → List Cla}
def W48 : Nat → Nat → Bool := fun a k => a == 623 && k < 48
theorem r_leave_l {m0 : mm_MM} {b : Nat} (hb : b < 8) : ∀ (n i : Nat) (m : mm_MM) (g : Nat), i + n = 8 → n < g → fr W48 m0 m → (∀ j, j < i → m.1 623 (6 * j + 5) = if j = b then 1 else 0) → ∃ m', fX11_leaveAlone_c2 g m (Int32.ofNat b) (Int32.ofNat i) = some m' ∧ fr W48 m0 m' ∧ ∀ j, j < 8 → m'.1 623 (6 * j + 5) = if j = b then 1 else 0 := by
  intro n
  induction n with
  | zero =>
    intro i m g hi hg hf hj
    obtain ⟨g, rfl⟩ : ∃ h, g = h + 1 := ⟨g - 1, by omega⟩
    obtain rfl : i = 8 := by omega
    refine ⟨m, ?_, hf, hj⟩
    rw [fX11_leaveAlone_c2]
    exact if_neg (by decide)
  | succ n ih =>
    intro i m g hi hg hf hj
    obtain ⟨g, rfl⟩ : ∃ h, g = h + 1 := ⟨g - 1, by omega⟩
    obtain ⟨m', e, f', g'⟩ := ih (i + 1) (wI m 623 (6 * i + 5) (if i = b then 1 else 0)) g (by omega) (by omega) (fr_wI hf (by simp [W48]; omega)) (fun j h => by
      by_cases e : j = i
      · subst e; rw [wI_eq]
      · rw [wI_nk (by omega)]; exact hj j (by omega))
    refine ⟨m', ?_, f', g'⟩
    rw [fX11_leaveAlone_c2]
    dsimp only
    rw [if_pos (show Int32.ofNat i < 8 from (nn_lt (k := 8) (by omega) (by decide)).mpr (by omega))]
    by_cases c : i = b
    · rw [if_pos c] at e
      rw [if_pos (congrArg Int32.ofNat c)]
      simp only [fX11_leaveAlone_c21, r_set5 m 1 (show i < 8 by omega), Option.bind_some, nn_s]
      exact e
    · rw [if_neg c] at e
      rw [if_neg (fun z => c (nn_inj (by omega) (by omega) z))]
      simp only [fX11_leaveAlone_c21, r_set5 m 0 (show i < 8 by omega), Option.bind_some, nn_s]
      exact e
theorem r_leave (m : mm_MM) {b : Nat} (hb : b < 8) : ∃ m', fX11_leaveAlone m (Int32.ofNat b) = some m' ∧ fr W48 m m' ∧ ∀ j, j < 8 → m'.1 623 (6 * j + 5) = if j = b then 1 else 0 := r_leave_l hb 8 0 m fu rfl (by decide) (fr_refl _ _) (fun j h => by omega)
theorem r_layTold (m : mm_MM) {b : Nat} (hb : b < 8) : ∃ v, (v = 0 ∨ v = 1) ∧ fX11_layTold m (Int32.ofNat b) = some (wI (wI (cpM m 623 (6 * b) 4 622 (4 * b)) 623 (6 * b + 4) v) 623 (6 * b + 5) 1) := by
  have hloop := cp_l (F := fun n m x => fX11_layTold_c2 n m (Int32.ofNat b) x) (fin := fun m => (fX11_of m (Int32.ofNat b) 2).bind fun r3 => (if r3.1 = ((-1) : Int32) then fX11_layTold_c47 r3.2 (Int32.ofNat b) (Int32.ofNat b) 4 0 else fX11_layTold_c47 r3.2 (Int32.ofNat b) (Int32.ofNat b) 4 1)) (I := fun _ => True) (A := 622) (B := 623) (o := 6 * b) (p := 4 * b) (c := 0) (N := 4) (Or.inl (by decide)) (fun _ _ _ _ => trivial) (fun n m z hz _ => by
      rw [fX11_layTold_c2]
      dsimp only
      have e : 4 * Int32.ofNat b + Int32.ofNat (0 + z) = Int32.ofNat (4 * b + z) := by rw [Nat.zero_add, Int32.ofNat_add, Int32.ofNat_mul]; rfl
      rw [if_pos (show Int32.ofNat (0 + z) < 4 from (nn_lt (k := 4) (by omega) (by decide)).mpr (by omega)), e, nn_go (by omega) (by omega), nn_tn (by omega), Nat.zero_add, r_set m _ hb (by omega)]
      simp only [Option.bind_some, nn_s]) (fun n m _ => by
      rw [fX11_layTold_c2]
      dsimp only
      rw [if_neg (show ¬ Int32.ofNat (0 + 4) < 4 by decide)]) (m := m) trivial fu (by unfold fu; omega)
  generalize hM : cpM m 623 (6 * b) 4 622 (4 * b) = M at hloop ⊢
  have e4 : ∀ v, fX11_layTold_c47 M (Int32.ofNat b) (Int32.ofNat b) 4 v = some (wI (wI M 623 (6 * b + 4) v) 623 (6 * b + 5) 1) := fun v => by
    simp only [fX11_layTold_c47, r_set4 M v hb, Option.bind_some, r_set5 _ 1 hb]
  have hloop : fX11_layTold m (Int32.ofNat b) = _ := hloop
  rw [hloop]
  simp only [r_of2 M hb, Option.bind_some]
  by_cases c : M.1 623 (6 * b + 2) = -1
  · exact ⟨0, Or.inl rfl, by rw [if_pos c, e4]⟩
  · exact ⟨1, Or.inr rfl, by rw [if_neg c, e4]⟩
/-- one thing alone -/
def aloT (b : Nat) (r : Nat → Int32) : TT := fun i k => if i = b ∧ k < 6 then r k else 0
theorem thr_alo {M : mm_MM} {b : Nat} {r : Nat → Int32} (hb : b < 8) (h5 : ∀ i, i < 8 → ¬ i = b → M.1 623 (6 * i + 5) = 0) (hr : ∀ k, k < 6 → M.1 623 (6 * b + k) = r k) (r5 : r 5 = 1) : thr M 623 0 = aloT b r := by
  funext i k
  unfold thr aloT
  by_cases e : i = b
  · subst e
    have h : M.1 623 (0 + (6 * i + 5)) = 1 := by rw [Nat.zero_add, hr 5 (by decide), r5]
    rw [if_pos ⟨hb, h⟩]
    by_cases hk : k < 6
    · rw [if_pos hk, if_pos ⟨rfl, hk⟩, Nat.zero_add, hr k hk]
    · rw [if_neg hk, if_neg (fun z => hk z.2)]
  · have c : ¬ (i = b ∧ k < 6) := fun z => e z.1
    have c2 : ¬ (i < 8 ∧ M.1 623 (0 + (6 * i + 5)) = 1) := by
      intro z
      have := h5 i z.1 e
      rw [Nat.zero_add, this] at z
      exact absurd z.2 (by decide)
    rw [if_neg c, if_neg c2]
theorem alo_ly {b : Nat} {r : Nat → Int32} {i : Nat} (h : lyT (aloT b r) i) : i = b := by
  by_cases e : i = b
  · exact e
  · have h1 := h.1
    unfold aloT at h1
    rw [if_neg (fun z => e z.1)] at h1
    exact absurd h1 (by decide)
theorem alo_bes {w : Int32} {b : Nat} {r : Nat → Int32} : ∀ (n i : Nat) (a : Int32), besN w (aloT b r) (aloT b r b 2) n i a = a
  | 0, _, _ => rfl
  | n + 1, i, a => by
    rw [besN, if_neg, alo_bes n (i + 1) a]
    intro z
    have e := alo_ly z.1
    subst e
    exact stp_self _ _ z.2
/-- the reference, up to the loop of months: what stands then -/
theorem r_setup {o : Option (List Cla)} {t b r : Nat} (E : EnvR m W H o t) (hb : b < 8) (hr : r < H) (j : Int32) (hj : 0 ≤ j ∧ j ≤ 9) (h0 : 0 ≤ m.1 622 (4 * b) ∧ m.1 622 (4 * b) ≤ 200) (h1 : 0 ≤ m.1 622 (4 * b + 1) ∧ m.1 622 (4 * b + 1) ≤ 5) (h3 : 0 ≤ m.1 622 (4 * b + 3) ∧ m.1 622 (4 * b + 3) ≤ 99) :
    ∃ M R, (fX11_putAside m 0).bind (fun r1 => (fX11_leaveAlone r1 (Int32.ofNat b)).bind fun r2 => (fX11_layTold r2 (Int32.ofNat b)).bind fun r3 => (fX11_set r3 (Int32.ofNat b) 2 (r3.1 620 0 * Int32.ofNat r)).bind fun r4 => some (wI (wI r4 623 49 0) 621 r j, r4.1 621 r)) = some (M, m.1 621 r) ∧ thr M 623 0 = aloT b R ∧ R 0 = m.1 622 (4 * b) ∧ R 1 = m.1 622 (4 * b + 1) ∧ R 2 = Int32.ofNat (W * r) ∧ R 3 = m.1 622 (4 * b + 3) ∧ R 5 = 1 ∧ EnvR M W H o 0 ∧ (∀ k, M.1 621 k = if k = r then j else m.1 621 k) ∧ (∀ k, k < 50 → M.1 627 k = m.1 623 k) ∧ (∀ a k, ¬ a = 623 → ¬ a = 627 → ¬ (a = 621 ∧ k = r) → M.1 a k = m.1 a k) ∧ (∀ k, 50 ≤ k → M.1 623 k = m.1 623 k) ∧ M.2 0 19 = m.2 0 19 ∧ M.2 606 35 = m.2 606 35 := by
  have hp := r_putAside m (d := 0) (by decide)
  have hp : fX11_putAside m 0 = some (cpM m 627 0 50 623 0) := hp
  obtain ⟨m2, e2, f2, g2⟩ := r_leave (cpM m 627 0 50 623 0) hb
  obtain ⟨v, hv, e3⟩ := r_layTold m2 hb
  generalize hm3 : wI (wI (cpM m2 623 (6 * b) 4 622 (4 * b)) 623 (6 * b + 4) v) 623 (6 * b + 5) 1 = m3 at e3
  have n2 : ∀ a k, ¬ a = 623 → ¬ a = 627 → m2.1 a k = m.1 a k := fun a k h1 h2 => (f2.1 a k (by simp [W48, h1])).trans (cpM_ne h2)
  have n3 : ∀ a k, ¬ a = 623 → ¬ a = 627 → m3.1 a k = m.1 a k := fun a k h1 h2 => by
    rw [← hm3, wI_ne h1, wI_ne h1, cpM_ne h1]
    exact n2 a k h1 h2
  have hv2 : m3.1 620 0 * Int32.ofNat r = Int32.ofNat (W * r) := by
    rw [n3 620 0 (by decide) (by decide), E.2.1, ← Int32.ofNat_mul]
  generalize hM : wI (wI (wI m3 623 (6 * b + 2) (Int32.ofNat (W * r))) 623 49 0) 621 r j = M
  have q : ∀ k, M.1 623 k = if k = 49 then 0 else if k = 6 * b + 2 then Int32.ofNat (W * r) else if k = 6 * b + 5 then 1 else if k = 6 * b + 4 then v else if 6 * b ≤ k ∧ k < 6 * b + 4 then m2.1 622 (4 * b + (k - 6 * b)) else m2.1 623 k := by
    intro k
    rw [← hM, wI_ne (by decide), ← hm3]
    simp only [wI_1, true_and, cpM]
  have n4 : ∀ a k, ¬ a = 623 → ¬ a = 627 → ¬ (a = 621 ∧ k = r) → M.1 a k = m.1 a k := fun a k h1 h2 h3 => by
    rw [← hM, wI_1, if_neg h3, wI_ne h1, wI_ne h1]
    exact n3 a k h1 h2
  have n5 : ∀ k, 50 ≤ k → M.1 623 k = m.1 623 k := fun k hk => by
    rw [q, if_neg (by omega), if_neg (by omega), if_neg (by omega), if_neg (by omega), if_neg (by omega), f2.1 623 k (by simp [W48]; omega)]
    exact cpM_ne (by decide)
  generalize hR : (fun k => if k = 2 then Int32.ofNat (W * r) else if k = 4 then v else if k = 5 then 1 else m.1 622 (4 * b + k) : Nat → Int32) = R
  have hRk : ∀ k, R k = if k = 2 then Int32.ofNat (W * r) else if k = 4 then v else if k = 5 then 1 else m.1 622 (4 * b + k) := fun k => by rw [← hR]
  have hT : thr M 623 0 = aloT b R := by
    refine thr_alo hb (fun i hi hne => ?_) (fun k hk => ?_) (by rw [hRk]; rfl)
    · rw [q, if_neg (by omega), if_neg (by omega), if_neg (by omega), if_neg (by omega), if_neg (by omega), g2 i hi, if_neg hne]
    · rw [q, hRk]
      obtain rfl | rfl | rfl | rfl | rfl | rfl : k = 0 ∨ k = 1 ∨ k = 2 ∨ k = 3 ∨ k = 4 ∨ k = 5 := by omega
      · rw [if_neg (by omega), if_neg (by omega), if_neg (by omega), if_neg (by omega), if_pos (by omega), n2 622 _ (by decide) (by decide), show 4 * b + (6 * b + 0 - 6 * b) = 4 * b + 0 by omega]; rfl
      · rw [if_neg (by omega), if_neg (by omega), if_neg (by omega), if_neg (by omega), if_pos (by omega), n2 622 _ (by decide) (by decide), show 4 * b + (6 * b + 1 - 6 * b) = 4 * b + 1 by omega]; rfl
      · rw [if_neg (by omega), if_pos (by omega), if_pos rfl]
      · rw [if_neg (by omega), if_neg (by omega), if_neg (by omega), if_neg (by omega), if_pos (by omega), n2 622 _ (by decide) (by decide), show 4 * b + (6 * b + 3 - 6 * b) = 4 * b + 3 by omega]; rfl
      · rw [if_neg (by omega), if_neg (by omega), if_neg (by omega), if_pos (by omega), if_neg (by decide), if_pos rfl]
      · rw [if_neg (by omega), if_neg (by omega), if_pos (by omega), if_neg (by decide), if_neg (by decide), if_pos rfl]
  have R0 : R 0 = m.1 622 (4 * b) := hRk 0
  have R1 : R 1 = m.1 622 (4 * b + 1) := hRk 1
  have R2 : R 2 = Int32.ofNat (W * r) := hRk 2
  have R3 : R 3 = m.1 622 (4 * b + 3) := hRk 3
  have R4 : R 4 = v := hRk 4
  have hP : W * r < W * H := Nat.mul_lt_mul_of_pos_left hr (by have := E.1.1; omega)
  have hW24 : W * H ≤ 6 * 4 := Nat.mul_le_mul E.1.2.1 E.1.2.2.2
  have hTB : TB W H (aloT b R) := by
    intro i hi
    have e : i = b := Decidable.byContradiction (fun z => by
      unfold aloT at hi
      rw [if_neg (fun w => z w.1)] at hi
      exact absurd hi (by decide))
    subst e
    have a : ∀ k, k < 6 → aloT i R i k = R k := fun k hk => if_pos ⟨rfl, hk⟩
    rw [a 0 (by decide), a 1 (by decide), a 2 (by decide), a 3 (by decide), a 4 (by decide), R0, R1, R2, R3, R4]
    exact ⟨h0, h1, Or.inr ⟨_, hP, rfl⟩, h3, hv, fun z => absurd z (ofN_ne (by omega))⟩
  have d21 : ∀ k, M.1 621 k = if k = r then j else m.1 621 k := fun k => by
    by_cases c : k = r
    · rw [if_pos c, ← hM, wI_1, if_pos ⟨rfl, c⟩]
    · rw [if_neg c]; exact n4 621 k (by decide) (by decide) (fun z => c z.2)
  have e49 : M.1 623 49 = Int32.ofNat 0 := by rw [q, if_pos rfl]; rfl
  have u : ∀ k, M.1 620 k = m.1 620 k := fun k => n4 620 k (by decide) (by decide) (fun z => absurd z.1 (by decide))
  obtain ⟨hL, a0, a1, hy, hH, hTB0, hD, h49, ht⟩ := E
  refine ⟨M, R, ?_, hT, R0, R1, R2, R3, hRk 5, ⟨hL, (u 0).trans a0, (u 1).trans a1, by rw [u 2]; exact hy, ?_, by rw [hT]; exact hTB, fun k hk => ?_, e49, by decide⟩, d21, fun k hk => ?_, n4, n5, ?_, ?_⟩
  · refine bs hp ?_
    refine bs e2 ?_
    refine bs e3 ?_
    simp only [hv2, r_set2 m3 _ hb, Option.bind_some, hM]
    rw [wI_ne (by decide), n3 621 r (by decide) (by decide)]
  · rcases hH with ⟨rfl, h1⟩ | ⟨h, cs, rfl, hh, h1, hl, hw⟩
    · exact Or.inl ⟨rfl, (n4 606 29 (by decide) (by decide) (fun z => absurd z.1 (by decide))).trans h1⟩
    · exact Or.inr ⟨h, cs, rfl, hh, (n4 606 29 (by decide) (by decide) (fun z => absurd z.1 (by decide))).trans h1, LawR_fr (fun a ha k => n4 a k (by omega) (by omega) (by omega)) hl, hw⟩
  · rw [d21]
    by_cases c : k = r
    · rw [if_pos c]; exact hj
    · rw [if_neg c]; exact hD k hk
  · rw [← hM, wI_ne (by decide), wI_ne (by decide), wI_ne (by decide), ← hm3, wI_ne (by decide), wI_ne (by decide), cpM_ne (by decide), f2.1 627 k (by simp [W48])]
    have e := cpM_in (m := m) (B := 627) (o := 0) (N := 50) (A := 623) (p := 0) hk
    rw [Nat.zero_add] at e
    exact e
  · rw [← hM, ← hm3]; exact f2.2 0 19 rfl
  · rw [← hM, ← hm3]; exact f2.2 606 35 rfl
end ALO
