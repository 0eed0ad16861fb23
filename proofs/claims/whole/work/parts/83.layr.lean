/-! LAYING, the reference: what is laid, rooms, all ways tried -/
section LYR
variable {m m1 : mm_MM} {W H : Nat} {P : List Vw} {ls : Nat → List Cla}
def W5 : Nat → Nat → Bool := fun a k => a == 623 && k % 6 == 5 && k < 48
theorem r_leave2_l {m0 : mm_MM} {b : Nat} (hb : b < 8) : ∀ (n i : Nat) (m : mm_MM) (g : Nat), i + n = 8 → n < g → fr W5 m0 m → (∀ j, j < i → m.1 623 (6 * j + 5) = if j = b then 1 else 0) → ∃ m', fX11_leaveAlone_c2 g m (Int32.ofNat b) (Int32.ofNat i) = some m' ∧ fr W5 m0 m' ∧ ∀ j, j < 8 → m'.1 623 (6 * j + 5) = if j = b then 1 else 0 := by
  intro n
  induction n with
  | zero =>
    intro i m g hi hg hf hj
    obtain ⟨g, rfl⟩ : ∃ h, g = h + 1 := ⟨g - 1, by omega⟩
    obtain rfl : i = 8 := by omega
    refine ⟨m, ?_, hf, hj⟩
    rw [fX11_leaveAlone_c2]
    exact if_neg (by decide)
  | succ n ih =>
    intro i m g hi hg hf hj
    obtain ⟨g, rfl⟩ : ∃ h, g = h + 1 := ⟨g - 1, by omega⟩
    obtain ⟨m', e, f', g'⟩ := ih (i + 1) (wI m 623 (6 * i + 5) (if i = b then 1 else 0)) g (by omega) (by omega) (fr_wI hf (by simp [W5]; omega)) (fun j h => by
      by_cases e : j = i
      · subst e; rw [wI_eq]
      · rw [wI_nk (by omega)]; exact hj j (by omega))
    refine ⟨m', ?_, f', g'⟩
    rw [fX11_leaveAlone_c2]
    dsimp only
    rw [if_pos (show Int32.ofNat i < 8 from (nn_lt (k := 8) (by omega) (by decide)).mpr (by omega))]
    by_cases c : i = b
    · rw [if_pos c] at e
      rw [if_pos (congrArg Int32.ofNat c)]
      simp only [fX11_leaveAlone_c21, r_set5 m 1 (show i < 8 by omega), Option.bind_some, nn_s]
      exact e
    · rw [if_neg c] at e
      rw [if_neg (fun z => c (nn_inj (by omega) (by omega) z))]
      simp only [fX11_leaveAlone_c21, r_set5 m 0 (show i < 8 by omega), Option.bind_some, nn_s]
      exact e
/-- what is scratch here -/
def scr (a k : Nat) : Prop := a = 615 ∨ a = 616 ∨ a = 625 ∨ (a = 606 ∧ (k = 32 ∨ k = 39 ∨ k = 40)) ∨ a = 627 ∨ a = 628 ∨ a = 629
def frS (m m' : mm_MM) : Prop := (∀ a k, ¬ scr a k → m'.1 a k = m.1 a k) ∧ m'.2 0 19 = m.2 0 19 ∧ m'.2 606 35 = m.2 606 35
theorem frS_refl (m : mm_MM) : frS m m := ⟨fun _ _ _ => rfl, rfl, rfl⟩
theorem frS_trans {a b c : mm_MM} (h : frS a b) (h' : frS b c) : frS a c := ⟨fun x k z => (h'.1 x k z).trans (h.1 x k z), h'.2.1.trans h.2.1, h'.2.2.trans h.2.2⟩
theorem frS_wI {m : mm_MM} {a k : Nat} {v : Int32} (h : scr a k) : frS m (wI m a k v) := ⟨fun x j z => by rw [wI_1, if_neg (fun e => z (by rw [e.1, e.2]; exact h))], rfl, rfl⟩
theorem frS_B (h : frS m m1) : frB m m1 := ⟨fun a k z => h.1 a k (fun s => by
    have : WQ a k = true := by
      rcases s with rfl | rfl | rfl | ⟨rfl, rfl | rfl | rfl⟩ | rfl | rfl | rfl
      · simp [WQ]
      · simp [WQ]
      · simp [WQ]
      · simp [WQ]
      · simp [WQ]
      · simp [WQ]
      · simp [WQ, show Nat.ble 627 627 = true from rfl, show Nat.blt 627 631 = true from rfl]
      · simp [WQ, show Nat.ble 627 628 = true from rfl, show Nat.blt 628 631 = true from rfl]
      · simp [WQ, show Nat.ble 627 629 = true from rfl, show Nat.blt 629 631 = true from rfl]
    rw [this] at z; cases z), h.2⟩
theorem frS_T (h : frS m m1) : thr m1 623 0 = thr m 623 0 := thr_now (fun k _ => h.1 _ _ (by unfold scr; omega))
theorem EnvR_S {o : Option (List Cla)} {t : Nat} (h : frS m m1) (E : EnvR m W H o t) : EnvR m1 W H o t := EnvR_B (frS_B h) E
/-- one thing in one row -/
theorem r_one {o : Option (List Cla)} {t b r N : Nat} (E : EnvR m W H o t) (h5 : thr m 623 0 b 5 = 1) (hr : r < H) (hN : N ≤ 24) (ht : t + N < 10000) (kr2 : mm_MM → Int32 → Int32 → Option mm_MM) (kr10 : mm_MM → Int32 → Int32 → Int32 → Option mm_MM) : ∃ m', ((fX11_putAside m 0).bind fun r4 => (fX11_leaveAlone r4 (Int32.ofNat b)).bind fun r5 => (fX11_set r5 (Int32.ofNat b) 2 (r5.1 620 0 * Int32.ofNat r)).bind fun r6 => fX11_layLaid_c55 kr2 kr10 fu r6 (Int32.ofNat N) (Int32.ofNat b) (Int32.ofNat r) 0) = kr10 m' (Int32.ofNat N) (Int32.ofNat b) (Int32.ofNat (r + 1)) ∧ m'.1 628 (5 * b + r) = VI o (m.1 620 2) (m.1 620 3) (m.1 621) N (thr m 623 0) t b r ∧ (∀ k, ¬ k = 5 * b + r → m'.1 628 k = m.1 628 k) ∧ frS m m' := by
  have hb := (thr_5 h5).1
  have hp := r_putAside m (d := 0) (by decide)
  have hp : fX11_putAside m 0 = some (cpM m 627 0 50 623 0) := hp
  obtain ⟨m2, e2, f2, g2⟩ := r_leave2_l hb 8 0 (cpM m 627 0 50 623 0) fu rfl (by decide) (fr_refl _ _) (fun j h => by omega)
  have hE := E
  obtain ⟨hL, a0, a1, hy, hH, hTB, hD, h49, htt⟩ := hE
  have n2 : ∀ a k, ¬ a = 623 → ¬ a = 627 → m2.1 a k = m.1 a k := fun a k h1 h2 => (f2.1 a k (by simp [W5, h1])).trans (cpM_ne h2)
  have v2 : ∀ k, ¬ k % 6 = 5 ∨ 48 ≤ k → m2.1 623 k = m.1 623 k := fun k hk => (f2.1 623 k (by simp [W5]; omega)).trans (cpM_ne (by decide))
  have hW : m2.1 620 0 * Int32.ofNat r = Int32.ofNat (W * r) := by rw [n2 620 0 (by decide) (by decide), a0, ← Int32.ofNat_mul]
  have hP : W * r < W * H := Nat.mul_lt_mul_of_pos_left hr (by have := hL.1; omega)
  have hW24 : W * H ≤ 6 * 4 := Nat.mul_le_mul hL.2.1 hL.2.2.2
  generalize hM : wI m2 623 (6 * b + 2) (Int32.ofNat (W * r)) = M
  have n4 : ∀ a k, ¬ a = 623 → ¬ a = 627 → M.1 a k = m.1 a k := fun a k h1 h2 => by rw [← hM, wI_ne h1]; exact n2 a k h1 h2
  have v4 : ∀ k, 48 ≤ k → M.1 623 k = m.1 623 k := fun k hk => by rw [← hM, wI_nk (by omega)]; exact v2 k (Or.inr hk)
  generalize hR : (fun k => if k = 2 then Int32.ofNat (W * r) else if k = 5 then 1 else m.1 623 (6 * b + k) : Nat → Int32) = R
  have hRk : ∀ k, R k = if k = 2 then Int32.ofNat (W * r) else if k = 5 then 1 else m.1 623 (6 * b + k) := fun k => by rw [← hR]
  have hT : thr M 623 0 = aloT b R := by
    refine thr_alo hb (fun i hi hne => ?_) (fun k hk => ?_) (by rw [hRk]; rfl)
    · rw [← hM, wI_nk (by omega), g2 i hi, if_neg hne]
    · rw [hRk, ← hM]
      by_cases k2 : k = 2
      · subst k2; rw [if_pos rfl, wI_eq]
      · rw [if_neg k2, wI_nk (by omega)]
        by_cases k5 : k = 5
        · subst k5; rw [if_pos rfl, g2 b hb, if_pos rfl]
        · rw [if_neg k5]; exact v2 _ (Or.inl (by omega))
  have q : ∀ k, k < 6 → ¬ k = 2 → ¬ k = 5 → R k = thr m 623 0 b k := fun k h1 h2 h3 => by rw [hRk, if_neg h2, if_neg h3, thr_k0 h5 h1]
  have R2 : R 2 = Int32.ofNat (W * r) := hRk 2
  have R5 : R 5 = 1 := hRk 5
  have hTBb := hTB b h5
  have hTB' : TB W H (aloT b R) := by
    intro i hi
    have e : i = b := Decidable.byContradiction (fun z => by
      unfold aloT at hi
      rw [if_neg (fun w => z w.1)] at hi
      exact absurd hi (by decide))
    subst e
    have a : ∀ k, k < 6 → aloT i R i k = R k := fun k hk => if_pos ⟨rfl, hk⟩
    rw [a 0 (by decide), a 1 (by decide), a 2 (by decide), a 3 (by decide), a 4 (by decide), q 0 (by decide) (by decide) (by decide), q 1 (by decide) (by decide) (by decide), q 3 (by decide) (by decide) (by decide), q 4 (by decide) (by decide) (by decide), R2]
    exact ⟨hTBb.1, hTBb.2.1, Or.inr ⟨_, hP, rfl⟩, hTBb.2.2.2.1, hTBb.2.2.2.2.1, fun z => absurd z (ofN_ne (by omega))⟩
  have u : ∀ k, M.1 620 k = m.1 620 k := fun k => n4 620 k (by decide) (by decide)
  have e21 : M.1 621 = m.1 621 := funext fun k => n4 621 k (by decide) (by decide)
  have EM : EnvR M W H o t := by
    refine ⟨hL, (u 0).trans a0, (u 1).trans a1, by rw [u 2]; exact hy, ?_, by rw [hT]; exact hTB', fun k hk => by rw [e21]; exact hD k hk, (v4 49 (by decide)).trans h49, htt⟩
    rcases hH with ⟨rfl, h1⟩ | ⟨h, cs, rfl, hh, h1, hl, hw⟩
    · exact Or.inl ⟨rfl, (n4 606 29 (by decide) (by decide)).trans h1⟩
    · exact Or.inr ⟨h, cs, rfl, hh, (n4 606 29 (by decide) (by decide)).trans h1, LawR_fr (fun a ha k => n4 a k (by omega) (by omega)) hl, hw⟩
  obtain ⟨mN, g, e1, f1, T2, E2⟩ := lives (F := fun n m x => fX11_layLaid_c55 kr2 kr10 n m (Int32.ofNat N) (Int32.ofNat b) (Int32.ofNat r) x) (N := N) (fun n m i hi => by
    rw [fX11_layLaid_c55]
    dsimp only
    rw [if_pos ((nn_lt (by omega) (by omega)).mpr hi), nn_s]) N 0 M t fu (by omega) (by unfold fu; omega) EM ht
  have a : ∀ k, k < 6 → aloT b R b k = R k := fun k hk => if_pos ⟨rfl, hk⟩
  have hly : lyT (aloT b R) b := ⟨(a 5 (by decide)).trans R5, by rw [a 2 (by decide), R2]; exact ofN_ne (by omega)⟩
  have hr4 : r < 4 := by have := hL.2.2.2; omega
  have hrow : rowI (M.1 620 0) (aloT b R) b = r := by
    unfold rowI
    rw [u, a0, a 2 (by decide), R2, ← Int32.ofNat_div (by omega) (by have := hL.2.1; omega), Nat.mul_div_cancel_left _ (by have := hL.1; omega), nn_tn (by omega)]
  have hval : thr mN 623 0 b 0 = VI o (m.1 620 2) (m.1 620 3) (m.1 621) N (thr m 623 0) t b r := by
    rw [T2, hT, (nxTs_b N _ t hly).1, hrow, alo_bes, e21, u, u, a 0 (by decide), a 1 (by decide), a 3 (by decide), q 0 (by decide) (by decide) (by decide), q 1 (by decide) (by decide) (by decide), q 3 (by decide) (by decide) (by decide)]
    rfl
  have hT5 : thr mN 623 0 b 5 = 1 := by rw [T2, hT, nxTs_o (by decide) (by decide)]; exact hly.1
  have e0 := thr_k0 hT5 (show 0 < 6 by decide)
  have hb' := r_takeBack (wI mN 628 (5 * b + r) (mN.1 623 (6 * b + 0))) (d := 0) (by decide)
  have hb' : fX11_takeBack (wI mN 628 (5 * b + r) (mN.1 623 (6 * b + 0))) 0 = some (cpM (wI mN 628 (5 * b + r) (mN.1 623 (6 * b + 0))) 623 0 50 627 0) := hb'
  refine ⟨cpM (wI mN 628 (5 * b + r) (mN.1 623 (6 * b + 0))) 623 0 50 627 0, ?_, ?_, fun k hk => ?_, ⟨fun x k z => ?_, ?_, ?_⟩⟩
  · refine bs hp (bs (show fX11_leaveAlone _ _ = some m2 from e2) ?_)
    rw [hW]
    refine bs (r_set2 m2 _ hb) ?_
    rw [hM]
    refine Eq.trans e1 ?_
    have ei : 5 * Int32.ofNat b + Int32.ofNat r = Int32.ofNat (5 * b + r) := by rw [Int32.ofNat_add, Int32.ofNat_mul]; rfl
    rw [fX11_layLaid_c55]
    dsimp only
    rw [if_neg (fun z => Nat.lt_irrefl _ ((nn_lt (by omega) (by omega)).mp z)), r_of0 _ hb]
    simp only [Option.bind_some]
    rw [ei, nn_go (by omega) (by omega), nn_tn (by omega)]
    refine bs hb' ?_
    rw [nn_s]
  · rw [cpM_ne (by decide), wI_eq, ← e0, hval]
  · rw [cpM_ne (by decide), wI_nk hk, f1.1 _ _ (by simp [W2]), n4 628 k (by decide) (by decide)]
  · unfold scr at z
    by_cases ha : x = 623
    · subst ha
      by_cases hk : k < 50
      · have e := cpM_in (m := wI mN 628 (5 * b + r) (mN.1 623 (6 * b + 0))) (B := 623) (o := 0) (N := 50) (A := 627) (p := 0) hk
        rw [Nat.zero_add] at e
        have e3 := cpM_in (m := m) (B := 627) (o := 0) (N := 50) (A := 623) (p := 0) hk
        rw [Nat.zero_add] at e3
        rw [e, wI_ne (by decide), f1.1 _ _ (by simp [W2]), ← hM, wI_ne (by decide), f2.1 627 k (by simp [W5])]
        exact e3
      · rw [cpM_out (by omega), wI_ne (by decide), f1.1 _ _ (by simp [W2]; omega), v4 k (by omega)]
    · rw [cpM_ne ha, wI_ne (by omega), f1.1 _ _ (W2_f (by omega) (Or.inl ha)), n4 x k ha (by omega)]
  · exact (f1.2 0 19 rfl).trans ((show M.2 0 19 = m2.2 0 19 by rw [← hM]; rfl).trans (f2.2 0 19 rfl))
  · exact (f1.2 606 35 rfl).trans ((show M.2 606 35 = m2.2 606 35 by rw [← hM]; rfl).trans (f2.2 606 35 rfl))
end LYR
