/-! WAY, the class: the table of fewest steps -/
section WYC
variable {m m1 : mm_MM}
def w0C (w : Int32) (sp : Nat → Int32) (i : Nat) : Int32 := stp w 0 (sp i)
def wsC (w : Int32) (sp : Nat → Int32) (i j : Nat) : Int32 := stp w (sp i) (sp j)
abbrev wyC (w : Int32) (sp : Nat → Int32) (M i : Nat) : Int32 := wyF (w0C w sp) (wsC w sp) 9 (bl M) i
/-- the table is right before (M, i) -/
def tabC (m : mm_MM) (w : Int32) (sp : Nat → Int32) (L M i : Nat) : Prop := ∀ M' j, j < L → M'.testBit j = true → (M' < M ∨ (M' = M ∧ j < i)) → m.1 591 (M' * 8 + j) = wyC w sp M' j
def spC (m : mm_MM) (sp : Nat → Int32) (L : Nat) : Prop := m.1 589 2 = Int32.ofNat L ∧ ∀ j, j < L → m.1 590 j = sp j
def stepF (w : Int32) (sp : Nat → Int32) (R i : Nat) : Int32 → Nat → Int32 := fun a o => mi a (wyC w sp R o + wsC w sp o i)
theorem ix_c (M i : Nat) : Int32.ofNat M * 8 + Int32.ofNat i = Int32.ofNat (M * 8 + i) := by
  rw [Int32.ofNat_add, Int32.ofNat_mul]; rfl
theorem c_to_l {w : Int32} {sp : Nat → Int32} {L R i : Nat} (hL : L ≤ 8) (hR : R < 256) (ew : m.1 14 3 = w) (hw : ¬ w ≤ 0) (hs : spC m sp L) (hi : i < L) (hT : ∀ j, j < L → R.testBit j = true → m.1 591 (R * 8 + j) = wyC w sp R j) : ∀ (n o g : Nat) (a : Int32), o + n = L → n < g → fX6_stepsTo_c39 g m 14 (Int32.ofNat R) (sp i) a (Int32.ofNat o) = some (loN R (stepF w sp R i) n o a, m) := by
  intro n
  induction n with
  | zero =>
    intro o g a ho hg
    obtain ⟨g, rfl⟩ : ∃ h, g = h + 1 := ⟨g - 1, by omega⟩
    rw [fX6_stepsTo_c39, loN]
    dsimp only
    rw [hs.1, if_neg (by rw [nn_lt (by omega) (by omega)]; omega)]
  | succ n ih =>
    intro o g a ho hg
    obtain ⟨g, rfl⟩ : ∃ h, g = h + 1 := ⟨g - 1, by omega⟩
    have hb := (rm_all R hR o (by omega)).2.2.2.2.2
    unfold hasB at hb
    rw [fX6_stepsTo_c39, loN]
    dsimp only
    rw [hs.1, if_pos (by rw [nn_lt (by omega) (by omega)]; omega)]
    simp only [fX6_stepsTo_c101, nn_s]
    by_cases c : R.testBit o = true
    · rw [c] at hb
      rw [if_pos (of_decide_eq_true hb), if_pos c, ix_c, c_pick_n m 591 (n := 2048) rfl (by decide) (by omega)]
      simp only [Option.bind_some, c_pick_n m 590 (n := 8) rfl (by decide) (show o < 8 by omega), hs.2 o (by omega), c_steps m (x := sp o) (y := sp i) (by rw [ew]; exact hw), j_min, hT o (by omega) c, ew]
      exact ih (o + 1) g _ (by omega) (by omega)
    · rw [Bool.not_eq_true] at c
      rw [c] at hb
      rw [if_neg (of_decide_eq_false hb), c, if_neg Bool.false_ne_true]
      exact ih (o + 1) g a (by omega) (by omega)
theorem c_stepsTo {w : Int32} {sp : Nat → Int32} {L M i : Nat} (hL : L ≤ 8) (hM : M < 2 ^ L) (hi : i < L) (hb : M.testBit i = true) (ew : m.1 14 3 = w) (hw : ¬ w ≤ 0) (hs : spC m sp L) (hT : tabC m w sp L M i) : fX6_stepsTo m 14 (Int32.ofNat M) (Int32.ofNat i) = some (wyC w sp M i, m) := by
  have h256 : 2 ^ L ≤ 2 ^ 8 := Nat.pow_le_pow_right (n := 2) (by decide) hL
  obtain ⟨r1, r2, r3, r4, r5, -⟩ := rm_all M (by omega) i (by omega)
  have r4 := r4 hb
  have hmem : i ∈ bl M := mem_bl.mpr ⟨by omega, hb⟩
  unfold fX6_stepsTo
  rw [c_pick_n m 590 (n := 8) rfl (by decide) (show i < 8 by omega), hs.2 i hi, r1]
  simp only [Option.bind_some]
  unfold wyC
  rw [show (9 : Nat) = 8 + 1 from rfl, wyF, ← r2]
  by_cases c : rmM M i = 0
  · rw [if_pos (by rw [c]; rfl), if_pos (by rw [r2]; exact r5.mp c), c_steps m (by rw [ew]; exact hw), ew]
    rfl
  · have hne : ¬ Int32.ofNat (rmM M i) = 0 := fun z => c (nn_inj (k := 0) (by omega) (by decide) z)
    rw [if_neg hne, if_neg (by rw [r2]; exact fun z => c (r5.mpr z))]
    have := c_to_l (m := m) (R := rmM M i) (a := 1000000) (g := fu) hL (by omega) ew hw hs hi (fun j hj hbj => hT (rmM M i) j hj hbj (Or.inl r4)) L 0 (by omega) (by unfold fu; omega)
    refine this.trans ?_
    rw [loN_L hL (by omega)]
    refine congrArg (fun v => some (v, m)) (fl_congr (fun a o ho => ?_))
    have := bl_len M
    have h7 : (bl (rmM M i)).length ≤ 8 := bl_len _
    unfold stepF wyC
    rw [wyF_ind _ _ 9 8 (bl (rmM M i)) o ho (by omega) h7]
theorem c_few1_l {w : Int32} {sp : Nat → Int32} {L M : Nat} {kr : mm_MM → Nat → Int32 → Int32 → Option (Int32 × mm_MM)} {x2 : Int32} (hL : L ≤ 8) (hM : M < 2 ^ L) (hw : ¬ w ≤ 0) : ∀ (n i g : Nat) (m : mm_MM), i + n = L → n < g → m.1 14 3 = w → spC m sp L → tabC m w sp L M i → ∃ m', fX6_fewestSteps_c26 kr g m 14 x2 (Int32.ofNat M) (Int32.ofNat i) = kr m' 14 x2 (Int32.ofNat (M + 1)) ∧ (∀ a k, ¬ a = 591 → m'.1 a k = m.1 a k) ∧ m'.2 = m.2 ∧ tabC m' w sp L (M + 1) 0 := by
  have h256 : 2 ^ L ≤ 2 ^ 8 := Nat.pow_le_pow_right (n := 2) (by decide) hL
  intro n
  induction n with
  | zero =>
    intro i g m hi hg ew hs hT
    obtain ⟨g, rfl⟩ : ∃ h, g = h + 1 := ⟨g - 1, by omega⟩
    obtain rfl : i = L := by omega
    refine ⟨m, ?_, fun _ _ _ => rfl, rfl, fun M' j hj hb hlt => hT M' j hj hb (by omega)⟩
    rw [fX6_fewestSteps_c26]
    dsimp only
    rw [hs.1, if_neg (by rw [nn_lt (by omega) (by omega)]; omega), nn_s]
  | succ n ih =>
    intro i g m hi hg ew hs hT
    obtain ⟨g, rfl⟩ : ∃ h, g = h + 1 := ⟨g - 1, by omega⟩
    have hb := (rm_all M (by omega) i (by omega)).2.2.2.2.2
    unfold hasB at hb
    rw [fX6_fewestSteps_c26]
    dsimp only
    rw [hs.1, if_pos (by rw [nn_lt (by omega) (by omega)]; omega)]
    simp only [fX6_fewestSteps_c67, nn_s]
    by_cases c : M.testBit i = true
    · rw [c] at hb
      rw [if_pos (of_decide_eq_true hb), c_stepsTo hL hM (by omega) c ew hw hs hT]
      simp only [Option.bind_some, ix_c, c_place_n m 591 _ (n := 2048) (b := M * 8 + i) rfl (by decide) (by omega)]
      obtain ⟨m', e, f1, f2, t'⟩ := ih (i + 1) g (wI m 591 (M * 8 + i) (wyC w sp M i)) (by omega) (by omega) ((wI_ne (by decide)).trans ew) ⟨(wI_ne (by decide)).trans hs.1, fun j hj => (wI_ne (by decide)).trans (hs.2 j hj)⟩ (fun M' j hj hbj hlt => by
        by_cases z : M' = M ∧ j = i
        · obtain ⟨rfl, rfl⟩ := z; rw [wI_eq]
        · rw [wI_nk (by omega)]; exact hT M' j hj hbj (by omega))
      exact ⟨m', e, fun a k h => (f1 a k h).trans (wI_ne h), f2, t'⟩
    · rw [Bool.not_eq_true] at c
      rw [c] at hb
      rw [if_neg (of_decide_eq_false hb)]
      exact ih (i + 1) g m (by omega) (by omega) ew hs (fun M' j hj hbj hlt => by
        by_cases z : M' = M ∧ j = i
        · obtain ⟨rfl, rfl⟩ := z; rw [c] at hbj; cases hbj
        · exact hT M' j hj hbj (by omega))
def endF (w : Int32) (sp : Nat → Int32) (M : Nat) : Int32 → Nat → Int32 := fun a i => mi a (wyC w sp M i + stp w (sp i) 0)
theorem c_few2_l {w : Int32} {sp : Nat → Int32} {L : Nat} (hL : L ≤ 8) (hw : ¬ w ≤ 0) (ew : m.1 14 3 = w) (hs : spC m sp L) (hT : tabC m w sp L (2 ^ L) 0) : ∀ (n i g : Nat) (a : Int32), i + n = L → n < g → fX6_fewestSteps_c85 g m 14 (Int32.ofNat (2 ^ L)) a (Int32.ofNat i) = some (loN (2 ^ L - 1) (endF w sp (2 ^ L - 1)) n i a, m) := by
  have h256 : 2 ^ L ≤ 2 ^ 8 := Nat.pow_le_pow_right (n := 2) (by decide) hL
  have h1 : 1 ≤ 2 ^ L := Nat.one_le_two_pow
  have hbit : ∀ i, i < L → (2 ^ L - 1).testBit i = true := fun i hi => by
    have : i ∈ bl (2 ^ L - 1) := by rw [(bl_all L (by omega)).1]; exact List.mem_range.mpr hi
    exact (mem_bl.mp this).2
  intro n
  induction n with
  | zero =>
    intro i g a hi hg
    obtain ⟨g, rfl⟩ : ∃ h, g = h + 1 := ⟨g - 1, by omega⟩
    rw [fX6_fewestSteps_c85, loN]
    dsimp only
    rw [hs.1, if_neg (by rw [nn_lt (by omega) (by omega)]; omega)]
  | succ n ih =>
    intro i g a hi hg
    obtain ⟨g, rfl⟩ : ∃ h, g = h + 1 := ⟨g - 1, by omega⟩
    have e1 : Int32.ofNat (2 ^ L) - 1 = Int32.ofNat (2 ^ L - 1) := by
      rw [show (1 : Int32) = Int32.ofNat 1 from rfl, ← Int32.ofNat_sub _ _ h1]
    rw [fX6_fewestSteps_c85, loN, if_pos (hbit i (by omega))]
    dsimp only
    rw [hs.1, if_pos (by rw [nn_lt (by omega) (by omega)]; omega), e1, ix_c, c_pick_n m 591 (n := 2048) rfl (by decide) (by omega)]
    simp only [Option.bind_some, c_pick_n m 590 (n := 8) rfl (by decide) (show i < 8 by omega), hs.2 i (by omega), c_steps m (x := sp i) (y := 0) (by rw [ew]; exact hw), j_min, hT (2 ^ L - 1) i (by omega) (hbit i (by omega)) (Or.inl (by omega)), ew, nn_s]
    exact ih (i + 1) g _ (by omega) (by omega)
theorem c_few_l {w : Int32} {sp : Nat → Int32} {L : Nat} (hL : L ≤ 8) (hw : ¬ w ≤ 0) : ∀ (n M g : Nat) (m : mm_MM), M + n = 2 ^ L → n < g → m.1 14 3 = w → spC m sp L → tabC m w sp L M 0 → ∃ m', fX6_fewestSteps_c18 g m 14 (Int32.ofNat (2 ^ L)) (Int32.ofNat M) = some ((bl (2 ^ L - 1)).foldl (endF w sp (2 ^ L - 1)) 1000000, m') ∧ (∀ a k, ¬ a = 591 → m'.1 a k = m.1 a k) ∧ m'.2 = m.2 := by
  have h256 : 2 ^ L ≤ 2 ^ 8 := Nat.pow_le_pow_right (n := 2) (by decide) hL
  have h1 : 1 ≤ 2 ^ L := Nat.one_le_two_pow
  intro n
  induction n with
  | zero =>
    intro M g m hM hg ew hs hT
    obtain ⟨g, rfl⟩ : ∃ h, g = h + 1 := ⟨g - 1, by omega⟩
    obtain rfl : M = 2 ^ L := by omega
    refine ⟨m, ?_, fun _ _ _ => rfl, rfl⟩
    rw [fX6_fewestSteps_c18]
    dsimp only
    rw [if_neg (by rw [nn_lt (by omega) (by omega)]; omega)]
    have := c_few2_l (m := m) hL hw ew hs hT L 0 fu 1000000 (by omega) (by unfold fu; omega)
    refine Eq.trans this ?_
    rw [loN_L hL (by omega)]
  | succ n ih =>
    intro M g m hM hg ew hs hT
    obtain ⟨g, rfl⟩ : ∃ h, g = h + 1 := ⟨g - 1, by omega⟩
    obtain ⟨m2, e2, f2, l2, t2⟩ := c_few1_l (kr := fX6_fewestSteps_c18 g) (x2 := Int32.ofNat (2 ^ L)) hL (show M < 2 ^ L by omega) hw L 0 fu m (by omega) (by unfold fu; omega) ew hs hT
    obtain ⟨m3, e3, f3, l3⟩ := ih (M + 1) g m2 (by omega) (by omega) ((f2 _ _ (by decide)).trans ew) ⟨(f2 _ _ (by decide)).trans hs.1, fun j hj => (f2 _ _ (by decide)).trans (hs.2 j hj)⟩ t2
    refine ⟨m3, ?_, fun a k h => (f3 a k h).trans (f2 a k h), l3.trans l2⟩
    rw [fX6_fewestSteps_c18]
    dsimp only
    rw [if_pos (by rw [nn_lt (by omega) (by omega)]; omega)]
    exact Eq.trans e2 e3
theorem c_fewest {w : Int32} {sp : Nat → Int32} {L : Nat} (hL : L ≤ 8) (hw : ¬ w ≤ 0) (ew : m.1 14 3 = w) (hs : spC m sp L) : ∃ m', fX6_fewestSteps m 14 = some (if L = 0 then 0 else (List.range L).foldl (endF w sp (2 ^ L - 1)) 1000000, m') ∧ (∀ a k, ¬ a = 591 → m'.1 a k = m.1 a k) ∧ m'.2 = m.2 := by
  have h256 : 2 ^ L ≤ 2 ^ 8 := Nat.pow_le_pow_right (n := 2) (by decide) hL
  have h1 : 1 ≤ 2 ^ L := Nat.one_le_two_pow
  unfold fX6_fewestSteps
  rw [hs.1]
  by_cases c : L = 0
  · subst c
    exact ⟨m, by rw [if_pos (show Int32.ofNat 0 = 0 from rfl), if_pos rfl], fun _ _ _ => rfl, rfl⟩
  · have hne : ¬ Int32.ofNat L = 0 := fun z => c (nn_inj (k := 0) (by omega) (by decide) z)
    rw [if_neg hne, if_neg c, (bl_all L (by omega)).2]
    obtain ⟨m', e, f, l⟩ := c_few_l (w := w) (sp := sp) hL hw (2 ^ L - 1) 1 fu m (by omega) (by unfold fu; omega) ew hs (fun M' j hj hb hlt => by
      have : M' = 0 := by omega
      subst this
      rw [Nat.zero_testBit] at hb; cases hb)
    rw [(bl_all L (by omega)).1] at e
    exact ⟨m', e, f, l⟩
/-! the stops, gathered -/
def wyB (y : Int32) (T : TT) (b : Nat) : Bool := lyB T b && riB y T b && !noB T b
theorem c_way_l {m0 : mm_MM} : ∀ (n b g : Nat) (m : mm_MM), b + n = 8 → n < g → (∀ a k, ¬ (a = 589 ∧ k = 2) → ¬ a = 590 → m.1 a k = m0.1 a k) → m.2 = m0.2 → m.1 589 2 = Int32.ofNat ((List.range b).filter (wyB (m0.1 14 5) (thc m0 34))).length → (∀ i x, ((List.range b).filter (wyB (m0.1 14 5) (thc m0 34)))[i]? = some x → m.1 590 i = thc m0 34 x 2) → ∃ m', fX10_way_c18 g m (Int32.ofNat b) = ((fX6_fewestSteps m' 14).bind fun r9 => some (r9.1, r9.2)) ∧ (∀ a k, ¬ (a = 589 ∧ k = 2) → ¬ a = 590 → m'.1 a k = m0.1 a k) ∧ m'.2 = m0.2 ∧ m'.1 589 2 = Int32.ofNat ((List.range 8).filter (wyB (m0.1 14 5) (thc m0 34))).length ∧ ∀ i x, ((List.range 8).filter (wyB (m0.1 14 5) (thc m0 34)))[i]? = some x → m'.1 590 i = thc m0 34 x 2 := by
  intro n
  induction n with
  | zero =>
    intro b g m hb hg hf hl h1 h2
    obtain ⟨g, rfl⟩ : ∃ h, g = h + 1 := ⟨g - 1, by omega⟩
    obtain rfl : b = 8 := by omega
    refine ⟨m, ?_, hf, hl, h1, h2⟩
    rw [fX10_way_c18]
    exact if_neg (by decide)
  | succ n ih =>
    intro b g m hb hg hf hl h1 h2
    obtain ⟨g, rfl⟩ : ∃ h, g = h + 1 := ⟨g - 1, by omega⟩
    have hb8 : b < 8 := by omega
    have hT : thc m 34 = thc m0 34 := thc_congr (fun b hb k hk => hf _ _ (by omega) (by omega))
    have e5 : m.1 14 5 = m0.1 14 5 := hf _ _ (by omega) (by omega)
    have hlen : ((List.range b).filter (wyB (m0.1 14 5) (thc m0 34))).length ≤ b := by
      have := List.length_filter_le (wyB (m0.1 14 5) (thc m0 34)) (List.range b)
      rwa [List.length_range] at this
    have skip : wyB (m0.1 14 5) (thc m0 34) b = false → ∃ m', fX10_way_c18 g m (Int32.ofNat (b + 1)) = ((fX6_fewestSteps m' 14).bind fun r9 => some (r9.1, r9.2)) ∧ (∀ a k, ¬ (a = 589 ∧ k = 2) → ¬ a = 590 → m'.1 a k = m0.1 a k) ∧ m'.2 = m0.2 ∧ m'.1 589 2 = Int32.ofNat ((List.range 8).filter (wyB (m0.1 14 5) (thc m0 34))).length ∧ ∀ i x, ((List.range 8).filter (wyB (m0.1 14 5) (thc m0 34)))[i]? = some x → m'.1 590 i = thc m0 34 x 2 := fun hp => by
      have e : (List.range (b + 1)).filter (wyB (m0.1 14 5) (thc m0 34)) = (List.range b).filter (wyB (m0.1 14 5) (thc m0 34)) := by
        rw [List.range_succ, List.filter_append]
        simp [hp]
      exact ih (b + 1) g m (by omega) (by omega) hf hl (by rw [e]; exact h1) (by rw [e]; exact h2)
    rw [fX10_way_c18]
    dsimp only
    rw [if_pos (nn_ll 8 hb8 (by decide)), c_findLying_n m hb8]
    simp only [Option.bind_some, fX10_way_c63, nn_s]
    by_cases h : lyT (thc m 34) b
    · have hkd : mm_kd (34 + b) = (9, 6) := kd_p hb8
      rw [if_pos h]
      simp only [if_pos hkd]
      rw [← thc_k h.1 (show 4 < 5 by decide)]
      have h' : lyT (thc m0 34) b := by rw [← hT]; exact h
      by_cases c4 : thc m 34 b 4 = 0
      · rw [if_pos c4]
        refine skip ?_
        unfold wyB
        rw [show noB (thc m0 34) b = true from decide_eq_true ⟨h', by rw [← hT]; exact c4⟩]
        simp
      · rw [if_neg c4, c_ripe m h.1]
        simp only [Option.bind_some]
        by_cases c3 : thc m 34 b 3 < m.1 14 5
        · rw [if_pos c3, if_pos rfl]
          refine skip ?_
          unfold wyB
          rw [show riB (m0.1 14 5) (thc m0 34) b = false from decide_eq_false (fun z => z.2 (by rw [← hT, ← e5]; exact c3))]
          simp
        · rw [if_neg c3, if_neg (by decide), ← thc_k h.1 (show 2 < 5 by decide)]
          have hp : wyB (m0.1 14 5) (thc m0 34) b = true := by
            unfold wyB
            rw [show lyB (thc m0 34) b = true from decide_eq_true h', show riB (m0.1 14 5) (thc m0 34) b = true from decide_eq_true ⟨h'.1, by rw [← hT, ← e5]; exact c3⟩, show noB (thc m0 34) b = false from decide_eq_false (fun z => c4 (by rw [hT]; exact z.2))]
            rfl
          have e : (List.range (b + 1)).filter (wyB (m0.1 14 5) (thc m0 34)) = (List.range b).filter (wyB (m0.1 14 5) (thc m0 34)) ++ [b] := by
            rw [List.range_succ, List.filter_append]
            simp [hp]
          generalize (List.range b).filter (wyB (m0.1 14 5) (thc m0 34)) = Q at h1 h2 hlen e
          unfold fX6_addStop fX6_addStop_c31
          rw [h1, if_pos (show Int32.ofNat Q.length < 8 from (nn_lt (k := 8) (by omega) (by decide)).mpr (by omega)), c_place_n m 590 _ (n := 8) rfl (by decide) (by omega)]
          simp only [Option.bind_some]
          rw [wI_ne (show ¬ 589 = 590 by decide), h1, nn_s]
          refine ih (b + 1) g _ (by omega) (by omega) (fun a k z1 z2 => ?_) hl ?_ (fun i x hix => ?_)
          · rw [wI_1, if_neg z1, wI_ne z2]; exact hf a k z1 z2
          · rw [wI_eq, e, List.length_append]; rfl
          · rw [wI_ne (by decide)]
            rw [e] at hix
            by_cases ci : i = Q.length
            · subst ci
              rw [wI_eq]
              rw [List.getElem?_append_right (Nat.le_refl _), Nat.sub_self] at hix
              cases hix
              rw [hT]
            · rw [wI_nk ci]
              by_cases cl : i < Q.length
              · rw [List.getElem?_append_left cl] at hix
                exact h2 i x hix
              · rw [List.getElem?_append_right (by omega)] at hix
                obtain ⟨d, hd⟩ : ∃ d, i - Q.length = d + 1 := ⟨i - Q.length - 1, by omega⟩
                rw [hd] at hix
                cases hix
    · rw [if_neg h]
      refine skip ?_
      unfold wyB
      rw [show lyB (thc m0 34) b = false from decide_eq_false (fun z => h (by rw [hT]; exact z))]
      rfl
end WYC
