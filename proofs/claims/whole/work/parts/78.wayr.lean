/-! WAY, the reference; both alike -/
section WYR
variable {m m1 : mm_MM} {W H : Nat} {P : List Vw} {ls : Nat → List Cla}
theorem wy_eq {w : Int32} {sp : Nat → Int32} {M i : Nat} (hM : M < 256) (hi : i < 8) (hb : M.testBit i = true) : wyC w sp M i = if rmM M i = 0 then w0C w sp i else loN (rmM M i) (stepF w sp (rmM M i) i) 8 0 1000000 := by
  obtain ⟨-, r2, r3, r4, r5, -⟩ := rm_all M hM i hi
  unfold wyC
  rw [show (9 : Nat) = 8 + 1 from rfl, wyF, ← r2]
  by_cases c : rmM M i = 0
  · rw [if_pos (by rw [r2]; exact r5.mp c), if_pos c]
  · rw [if_neg (by rw [r2]; exact fun z => c (r5.mpr z)), if_neg c, loN_8]
    refine fl_congr (fun a o ho => ?_)
    have h7 : (bl (rmM M i)).length ≤ 8 := bl_len _
    unfold stepF wyC
    rw [wyF_ind _ _ 8 9 (bl (rmM M i)) o ho h7 (by omega)]
def sbM (M A : Nat) : Prop := ∀ i, i < 8 → M.testBit i = true → A.testBit i = true
def tabR (m : mm_MM) (w : Int32) (sp : Nat → Int32) (A M i : Nat) : Prop := ∀ M' j, j < 8 → M'.testBit j = true → sbM M' A → (M' < M ∨ (M' = M ∧ j < i)) → m.1 630 (8 * M' + j) = wyC w sp M' j
def spR (m : mm_MM) (sp : Nat → Int32) (A : Nat) : Prop := ∀ j, j < 8 → A.testBit j = true → m.1 623 (6 * j + 2) = sp j
theorem ix_r (M i : Nat) : 8 * Int32.ofNat M + Int32.ofNat i = Int32.ofNat (8 * M + i) := by
  rw [Int32.ofNat_add, Int32.ofNat_mul]; rfl
theorem rm_sub {M i j : Nat} (hM : M < 256) (hi : i < 8) (hj : j < 8) (h : (rmM M i).testBit j = true) : M.testBit j = true := by
  have r2 := (rm_all M hM i hi).2.1
  have : j ∈ bl (rmM M i) := mem_bl.mpr ⟨hj, h⟩
  rw [r2] at this
  exact (mem_bl.mp (List.mem_filter.mp this).1).2
theorem r_way1_l {w : Int32} {sp : Nat → Int32} {A M b R k0 : Nat} {kr43 : mm_MM → Int32 → Int32 → Int32 → Option (Int32 × mm_MM)} {kr53 : mm_MM → Int32 → Int32 → Int32 → Int32 → Option (Int32 × mm_MM)} {x2 : Int32} (hA : A < 256) (hM : M < 256) (hb : b < 8) (hR : R < M) (hk : k0 = 8 * M + b) (hbA : A.testBit b = true) (hRA : ∀ o, o < 8 → R.testBit o = true → A.testBit o = true) (hw : ¬ w = 0) : ∀ (n o g : Nat) (m : mm_MM) (a : Int32), o + n = 8 → n < g → m.1 620 0 = w → spR m sp A → (∀ j, j < 8 → R.testBit j = true → m.1 630 (8 * R + j) = wyC w sp R j) → m.1 630 k0 = a →
    ∃ m', fX11_way_c139 kr43 kr53 g m (Int32.ofNat A) x2 (Int32.ofNat M) (Int32.ofNat b) (Int32.ofNat k0) (Int32.ofNat R) (Int32.ofNat o) = kr53 m' (Int32.ofNat A) (if M = A then mi x2 (loN R (stepF w sp R b) n o a + stp w (sp b) 0) else x2) (Int32.ofNat M) (Int32.ofNat (b + 1)) ∧ m'.1 630 k0 = loN R (stepF w sp R b) n o a ∧ (∀ a k, ¬ (a = 630 ∧ k = k0) → m'.1 a k = m.1 a k) ∧ m'.2 = m.2 := by
  intro n
  induction n with
  | zero =>
    intro o g m a ho hg ew hs hT ha
    obtain ⟨g, rfl⟩ : ∃ h, g = h + 1 := ⟨g - 1, by omega⟩
    obtain rfl : o = 8 := by omega
    refine ⟨m, ?_, ha, fun _ _ _ => rfl, rfl⟩
    rw [fX11_way_c139, loN]
    dsimp only
    rw [if_neg (show ¬ Int32.ofNat 8 < 8 by decide)]
    simp only [fX11_way_c254, fX11_way_c255, nn_s]
    by_cases c : M = A
    · have hsf : ∀ x y, fX11_stepsFrom m x y = some (stp w x y, m) := fun x y => by rw [r_stepsFrom m (by rw [ew]; exact hw), ew]
      rw [if_pos (congrArg Int32.ofNat c), if_pos c, nn_go (by omega) (by omega), r_of2 m hb]
      simp only [Option.bind_some, hsf, j_min, nn_tn (show k0 < 2 ^ 31 by omega), ha, hs b hb hbA, ew]
    · rw [if_neg (fun z => c (nn_inj (by omega) (by omega) z)), if_neg c]
  | succ n ih =>
    intro o g m a ho hg ew hs hT ha
    obtain ⟨g, rfl⟩ : ∃ h, g = h + 1 := ⟨g - 1, by omega⟩
    have ho8 : o < 8 := by omega
    have hbit := (rm_all R (by omega) o ho8).2.2.2.2.2
    have next : ∀ v, ∃ m', fX11_way_c139 kr43 kr53 g (wI m 630 k0 v) (Int32.ofNat A) x2 (Int32.ofNat M) (Int32.ofNat b) (Int32.ofNat k0) (Int32.ofNat R) (Int32.ofNat (o + 1)) = kr53 m' (Int32.ofNat A) (if M = A then mi x2 (loN R (stepF w sp R b) n (o + 1) v + stp w (sp b) 0) else x2) (Int32.ofNat M) (Int32.ofNat (b + 1)) ∧ m'.1 630 k0 = loN R (stepF w sp R b) n (o + 1) v ∧ (∀ a k, ¬ (a = 630 ∧ k = k0) → m'.1 a k = m.1 a k) ∧ m'.2 = m.2 := fun v => by
      obtain ⟨m', e, e2, f, l⟩ := ih (o + 1) g (wI m 630 k0 v) v (by omega) (by omega) ((wI_ne (by decide)).trans ew) (fun j h1 h2 => (wI_ne (by decide)).trans (hs j h1 h2)) (fun j h1 h2 => (wI_nk (by omega)).trans (hT j h1 h2)) wI_eq
      exact ⟨m', e, e2, fun a k z => (f a k z).trans (by rw [wI_1, if_neg z]), l⟩
    rw [fX11_way_c139, loN]
    dsimp only
    rw [if_pos (nn_ll 8 ho8 (by decide)), r_has, hbit]
    simp only [Option.bind_some, fX11_way_c214, nn_s]
    have gk : ∀ {α : Type} {Z : Option α}, (if Int32.ofNat k0 < 0 ∨ 2048 ≤ (Int32.ofNat k0).toNatClampNeg then none else Z) = Z := fun {α Z} => nn_go (by omega) (by omega)
    by_cases c : R.testBit o = true
    · have hsf : ∀ x y, fX11_stepsFrom m x y = some (stp w x y, m) := fun x y => by rw [r_stepsFrom m (by rw [ew]; exact hw), ew]
      rw [c, if_pos rfl, if_neg (by decide), gk, ix_r, nn_go (by omega) (by omega), r_of2 m ho8]
      simp only [Option.bind_some, r_of2 m hb, hsf, j_min, nn_tn (show k0 < 2 ^ 31 by omega), nn_tn (show 8 * R + o < 2 ^ 31 by omega), hT o ho8 c, ha, hs b hb hbA, hs o ho8 (hRA o ho8 c), ew, if_true]
      rw [nn_gn (by omega) (by omega)]
      exact next (stepF w sp R b a o)
    · rw [Bool.not_eq_true] at c
      rw [c, if_neg Bool.false_ne_true, if_pos rfl, gk, gk, if_neg Bool.false_ne_true, nn_tn (show k0 < 2 ^ 31 by omega), ha]
      exact next a
theorem r_way2_l {w : Int32} {sp : Nat → Int32} {A M : Nat} {kr43 : mm_MM → Int32 → Int32 → Int32 → Option (Int32 × mm_MM)} (hA : A < 256) (hM : M < 256) (hw : ¬ w = 0) : ∀ (n b g : Nat) (m : mm_MM) (x2 : Int32), b + n = 8 → n < g → m.1 620 0 = w → spR m sp A → tabR m w sp A M b →
    ∃ m', fX11_way_c53 kr43 g m (Int32.ofNat A) x2 (Int32.ofNat M) (Int32.ofNat b) = kr43 m' (Int32.ofNat A) (if M = A then loN A (endF w sp A) n b x2 else x2) (Int32.ofNat (M + 1)) ∧ tabR m' w sp A (M + 1) 0 ∧ (∀ a k, ¬ a = 630 → m'.1 a k = m.1 a k) ∧ m'.2 = m.2 := by
  intro n
  induction n with
  | zero =>
    intro b g m x2 hb hg ew hs hT
    obtain ⟨g, rfl⟩ : ∃ h, g = h + 1 := ⟨g - 1, by omega⟩
    obtain rfl : b = 8 := by omega
    refine ⟨m, ?_, fun M' j hj h1 h2 hlt => hT M' j hj h1 h2 (by omega), fun _ _ _ => rfl, rfl⟩
    rw [fX11_way_c53, loN]
    dsimp only
    rw [if_neg (show ¬ Int32.ofNat 8 < 8 by decide), nn_s]
    by_cases c : M = A
    · rw [if_pos c]
    · rw [if_neg c]
  | succ n ih =>
    intro b g m x2 hb hg ew hs hT
    obtain ⟨g, rfl⟩ : ∃ h, g = h + 1 := ⟨g - 1, by omega⟩
    have hb8 : b < 8 := by omega
    obtain ⟨r1, r2, r3, r4, r5, r6⟩ := rm_all M hM b hb8
    -- this place passed over
    have skip : ∀ m0 : mm_MM, (∀ a k, ¬ (a = 630 ∧ k = 8 * M + b) → m0.1 a k = m.1 a k) → m0.2 = m.2 → ¬ (M.testBit b = true ∧ sbM M A) → ∃ m', fX11_way_c53 kr43 g m0 (Int32.ofNat A) x2 (Int32.ofNat M) (Int32.ofNat (b + 1)) = kr43 m' (Int32.ofNat A) (if M = A then loN A (endF w sp A) n (b + 1) x2 else x2) (Int32.ofNat (M + 1)) ∧ tabR m' w sp A (M + 1) 0 ∧ (∀ a k, ¬ a = 630 → m'.1 a k = m.1 a k) ∧ m'.2 = m.2 := fun m0 hf hl hn => by
      obtain ⟨m', e, t, f, l⟩ := ih (b + 1) g m0 x2 (by omega) (by omega) ((hf _ _ (by omega)).trans ew) (fun j h1 h2 => (hf _ _ (by omega)).trans (hs j h1 h2)) (fun M' j hj h1 h2 hlt => by
        by_cases z : M' = M ∧ j = b
        · obtain ⟨rfl, rfl⟩ := z; exact absurd ⟨h1, h2⟩ hn
        · rw [hf _ _ (by omega)]; exact hT M' j hj h1 h2 (by omega))
      exact ⟨m', e, t, fun a k z => (f a k z).trans (hf a k (by omega)), l.trans hl⟩
    have hw1 : ∀ (v : Int32) (a k : Nat), ¬ (a = 630 ∧ k = 8 * M + b) → (wI m 630 (8 * M + b) v).1 a k = m.1 a k := fun v a k z => by rw [wI_1, if_neg z]
    have hbx : M = A → M.testBit b = A.testBit b := fun z => by rw [z]
    rw [fX11_way_c53]
    dsimp only
    rw [if_pos (nn_ll 8 hb8 (by decide)), ix_r, nn_go (by omega) (by omega), nn_tn (show 8 * M + b < 2 ^ 31 by omega)]
    simp only [fX11_way_c255, nn_s]
    by_cases c : sbM M A
    · rw [if_pos ((sub_n hM).mpr c), r_has, r6]
      simp only [Option.bind_some]
      by_cases cb : M.testBit b = true
      · have hA1 : A.testBit b = true := c b hb8 cb
        have r4 := r4 cb
        rw [cb, if_pos rfl, if_neg (by decide), r1]
        have fin : ∀ (m0 : mm_MM) (a : Int32), (∀ a k, ¬ (a = 630 ∧ k = 8 * M + b) → m0.1 a k = m.1 a k) → m0.2 = m.2 → m0.1 630 (8 * M + b) = a → loN (rmM M b) (stepF w sp (rmM M b) b) 8 0 a = wyC w sp M b → ∃ m', fX11_way_c139 kr43 (fX11_way_c53 kr43 g) fu m0 (Int32.ofNat A) x2 (Int32.ofNat M) (Int32.ofNat b) (Int32.ofNat (8 * M + b)) (Int32.ofNat (rmM M b)) 0 = kr43 m' (Int32.ofNat A) (if M = A then loN A (endF w sp A) (n + 1) b x2 else x2) (Int32.ofNat (M + 1)) ∧ tabR m' w sp A (M + 1) 0 ∧ (∀ a k, ¬ a = 630 → m'.1 a k = m.1 a k) ∧ m'.2 = m.2 := fun m0 a hf hl hv hz => by
          obtain ⟨m2, e2, v2, f2, l2⟩ := r_way1_l (w := w) (sp := sp) (kr43 := kr43) (kr53 := fX11_way_c53 kr43 g) (x2 := x2) hA hM hb8 r4 rfl hA1 (fun o ho h => c o ho (rm_sub hM hb8 ho h)) hw 8 0 fu m0 a rfl (by decide) ((hf _ _ (by omega)).trans ew) (fun j h1 h2 => (hf _ _ (by omega)).trans (hs j h1 h2)) (fun j h1 h2 => by
            rw [hf _ _ (by omega)]
            exact hT (rmM M b) j h1 h2 (fun i hi h => c i hi (rm_sub hM hb8 hi h)) (Or.inl r4)) hv
          rw [hz] at e2 v2
          obtain ⟨m3, e3, t3, f3, l3⟩ := ih (b + 1) g m2 (if M = A then mi x2 (wyC w sp M b + stp w (sp b) 0) else x2) (by omega) (by omega) ((f2 _ _ (by omega)).trans ((hf _ _ (by omega)).trans ew)) (fun j h1 h2 => (f2 _ _ (by omega)).trans ((hf _ _ (by omega)).trans (hs j h1 h2))) (fun M' j hj h1 h2 hlt => by
            by_cases z : M' = M ∧ j = b
            · obtain ⟨rfl, rfl⟩ := z; exact v2
            · rw [f2 _ _ (by omega), hf _ _ (by omega)]; exact hT M' j hj h1 h2 (by omega))
          refine ⟨m3, Eq.trans e2 (Eq.trans e3 ?_), t3, fun a k z => (f3 a k z).trans ((f2 a k (by omega)).trans (hf a k (by omega))), l3.trans (l2.trans hl)⟩
          by_cases cm : M = A
          · rw [if_pos cm, if_pos cm, if_pos cm, loN, if_pos hA1]
            subst cm; rfl
          · rw [if_neg cm, if_neg cm, if_neg cm]
        have heq := wy_eq (w := w) (sp := sp) hM hb8 cb
        simp only [fX11_way_c135]
        by_cases c0 : rmM M b = 0
        · rw [if_pos (show Int32.ofNat (rmM M b) = 0 by rw [c0]; rfl), r_of2 _ hb8]
          simp only [Option.bind_some]
          rw [hw1 _ _ _ (by omega), hs b hb8 hA1, r_stepsFrom _ (by rw [hw1 _ _ _ (by omega), ew]; exact hw), hw1 _ _ _ (by omega), ew]
          simp only [Option.bind_some]
          rw [nn_go (by omega) (by omega), nn_tn (show 8 * M + b < 2 ^ 31 by omega)]
          refine fin (wI (wI m 630 (8 * M + b) 1000000) 630 (8 * M + b) (stp w 0 (sp b))) (stp w 0 (sp b)) (fun a k z => by rw [wI_1, if_neg z, wI_1, if_neg z]) rfl wI_eq ?_
          rw [heq, if_pos c0, c0, loN_hi 8 0 _ (fun i _ => Nat.zero_testBit i)]
          rfl
        · have hne : ¬ Int32.ofNat (rmM M b) = 0 := fun z => c0 (nn_inj (k := 0) (by omega) (by decide) z)
          rw [if_neg hne, nn_go (by omega) (by omega), nn_tn (show 8 * M + b < 2 ^ 31 by omega)]
          refine fin (wI (wI m 630 (8 * M + b) 1000000) 630 (8 * M + b) 1000000) 1000000 (fun a k z => by rw [wI_1, if_neg z, wI_1, if_neg z]) rfl wI_eq ?_
          rw [heq, if_neg c0]
      · rw [Bool.not_eq_true] at cb
        rw [cb, if_neg Bool.false_ne_true, if_pos rfl]
        obtain ⟨m', e, r⟩ := skip _ (hw1 1000000) rfl (fun z => by rw [cb] at z; exact absurd z.1 Bool.false_ne_true)
        refine ⟨m', Eq.trans e ?_, r⟩
        by_cases cm : M = A
        · rw [if_pos cm, if_pos cm, loN, ← hbx cm, cb, if_neg Bool.false_ne_true]
        · rw [if_neg cm, if_neg cm]
    · rw [if_neg (fun z => c ((sub_n hM).mp z))]
      obtain ⟨m', e, r⟩ := skip _ (hw1 1000000) rfl (fun z => c z.2)
      refine ⟨m', Eq.trans e ?_, r⟩
      have cm : ¬ M = A := fun z => c (by rw [z]; exact fun i _ h => h)
      rw [if_neg cm, if_neg cm]
theorem r_way3_l {w : Int32} {sp : Nat → Int32} {A : Nat} (hA : A < 256) (hw : ¬ w = 0) : ∀ (n M g : Nat) (m : mm_MM) (x2 : Int32), M + n = 256 → n < g → m.1 620 0 = w → spR m sp A → tabR m w sp A M 0 →
    ∃ m', fX11_way_c43 g m (Int32.ofNat A) x2 (Int32.ofNat M) = some (if M ≤ A then (bl A).foldl (endF w sp A) x2 else x2, m') ∧ (∀ a k, ¬ a = 630 → m'.1 a k = m.1 a k) ∧ m'.2 = m.2 := by
  intro n
  induction n with
  | zero =>
    intro M g m x2 hM hg ew hs hT
    obtain ⟨g, rfl⟩ : ∃ h, g = h + 1 := ⟨g - 1, by omega⟩
    obtain rfl : M = 256 := by omega
    refine ⟨m, ?_, fun _ _ _ => rfl, rfl⟩
    rw [fX11_way_c43]
    dsimp only
    rw [if_neg (show ¬ Int32.ofNat 256 < 256 by decide), if_neg (by omega)]
  | succ n ih =>
    intro M g m x2 hM hg ew hs hT
    obtain ⟨g, rfl⟩ : ∃ h, g = h + 1 := ⟨g - 1, by omega⟩
    obtain ⟨m2, e2, t2, f2, l2⟩ := r_way2_l (kr43 := fX11_way_c43 g) hA (show M < 256 by omega) hw 8 0 fu m x2 rfl (by decide) ew hs hT
    obtain ⟨m3, e3, f3, l3⟩ := ih (M + 1) g m2 (if M = A then loN A (endF w sp A) 8 0 x2 else x2) (by omega) (by omega) ((f2 _ _ (by decide)).trans ew) (fun j h1 h2 => (f2 _ _ (by decide)).trans (hs j h1 h2)) t2
    refine ⟨m3, ?_, fun a k z => (f3 a k z).trans (f2 a k z), l3.trans l2⟩
    rw [fX11_way_c43]
    dsimp only
    rw [if_pos (show Int32.ofNat M < 256 from (nn_lt (k := 256) (by omega) (by decide)).mpr (by omega))]
    refine Eq.trans e2 (Eq.trans e3 ?_)
    by_cases c : M = A
    · rw [if_pos c, if_neg (by omega), if_pos (by omega), loN_8]
    · rw [if_neg c]
      by_cases c2 : M ≤ A
      · rw [if_pos c2, if_pos (by omega)]
      · rw [if_neg c2, if_neg (by omega)]
theorem rng_map (Q : List Nat) : (List.range Q.length).map (fun i => Q.getD i 0) = Q := by
  apply List.ext_getElem
  · simp
  · intro i h1 h2
    simp [h2]
theorem q_way (hi : Inv m) : EQ m (fun m => fX10_way m) (fun m => fX11_way m) := by
  obtain ⟨W, H, P, ls, h⟩ := id hi
  have hs := see0 h
  by_cases hk0 : m.1 0 14 = 0
  · refine EQ_0 (v := -1) hi ?_ ?_
    · simp only [fX10_way, if_pos hk0]
    · simp only [fX11_way, hs.2.1, if_pos hk0]
  · have hk : m.1 0 14 = 1 := h.1.2.1.resolve_left hk0
    obtain ⟨o, t, ht, EC, ER⟩ := IA_env h hk
    have hw := EnvC_w EC
    generalize hT : thc m 34 = T
    have hTr : thr m 623 0 = T := hs.1.trans hT
    obtain ⟨A, hA, eall, hbit⟩ : ∃ A, A < 256 ∧ (mk8 (lyB T) &&& mk8 (riB (m.1 14 5) T)) &&& (mk8 (noB T) ^^^ ((-1) : Int32)) = Int32.ofNat A ∧ ∀ b, b < 8 → A.testBit b = wyB (m.1 14 5) T b := by
      obtain ⟨a1, z1, l1, b1⟩ := mk8_nat (lyB T)
      obtain ⟨a2, z2, l2, b2⟩ := mk8_nat (riB (m.1 14 5) T)
      obtain ⟨a3, z3, l3, b3⟩ := mk8_nat (noB T)
      refine ⟨(a1 &&& a2) &&& (a3 ^^^ 4294967295), ?_, ?_, fun b hb => ?_⟩
      · rw [Nat.and_comm (a1 &&& a2), Nat.and_comm a1 a2, ← Nat.and_assoc]
        rw [Nat.and_comm]
        rw [Nat.and_comm]
        exact Nat.and_lt_two_pow _ (n := 8) l1
      · rw [z1, z2, z3, and_n, nx_n]
      · rw [Nat.testBit_and, Nat.testBit_and, Nat.testBit_xor, tb_all hb, b1 b hb, b2 b hb, b3 b hb]
        unfold wyB
        cases lyB T b <;> cases riB (m.1 14 5) T b <;> cases noB T b <;> rfl
    have hbl : (List.range 8).filter (wyB (m.1 14 5) T) = bl A := by
      unfold bl
      exact List.filter_congr (fun x hx => (hbit x (List.mem_range.mp hx)).symm)
    -- the class
    obtain ⟨m2, e2, f2, l2, n2, t2⟩ := c_way_l (m0 := m) 8 0 fu (wI m 589 2 0) rfl (by decide) (fun a k z1 z2 => by rw [wI_1, if_neg z1]) rfl (by rw [wI_eq]; rfl) (fun i x hix => by simp at hix)
    rw [hT, hbl] at n2 t2
    have hL := bl_len A
    have hsp : spC m2 (fun i => T ((bl A).getD i 0) 2) (bl A).length := ⟨n2, fun j hj => by
      have e : (bl A)[j]? = some ((bl A).getD j 0) := by simp [hj]
      rw [t2 j _ e]⟩
    have ew2 : m2.1 14 3 = m.1 14 3 := f2 _ _ (by omega) (by omega)
    obtain ⟨m3, e3, f3, l3⟩ := c_fewest (m := m2) hL hw ew2 hsp
    have cw : fX10_way m = some (if (bl A).length = 0 then 0 else (List.range (bl A).length).foldl (endF (m.1 14 3) (fun i => T ((bl A).getD i 0) 2) (2 ^ (bl A).length - 1)) 1000000, m3) := by
      unfold fX10_way
      rw [if_neg hk0]
      refine bs (show fX6_begin m = some (wI m 589 2 0) from rfl) ?_
      refine Eq.trans e2 ?_
      exact bs e3 rfl
    have w3 : ∀ a k, ¬ (a = 589 ∧ k = 2) → ¬ a = 590 → ¬ a = 591 → m3.1 a k = m.1 a k := fun a k z1 z2 z3 => (f3 a k z3).trans (f2 a k z1 z2)
    have hi3 : Inv m3 := Inv_q ⟨fun a k z => w3 a k (fun e => by obtain ⟨rfl, rfl⟩ := e; simp [WQ] at z) (fun e => by subst e; simp [WQ] at z) (fun e => by subst e; simp [WQ] at z), fun a k _ => by rw [l3, l2]⟩ hi
    -- the reference
    have T3 : thr m3 623 0 = T := (thr_now (fun k _ => w3 623 k (by omega) (by omega) (by omega))).trans hTr
    have e20 : ∀ k, m3.1 620 k = m.1 620 k := fun k => w3 620 k (by omega) (by omega) (by omega)
    have hw3 : ¬ m.1 14 3 = 0 := fun z => hw (by rw [z]; decide)
    have e14 : m3.1 620 0 = m.1 14 3 := (e20 0).trans hs.2.2.1
    have hsr : spR m3 (fun b => T b 2) A := fun j hj hb => by
      rw [hbit j hj] at hb
      unfold wyB at hb
      simp only [Bool.and_eq_true] at hb
      have hly : lyT T j := of_decide_eq_true hb.1.1
      have h5 : thr m3 623 0 j 5 = 1 := by rw [T3]; exact hly.1
      rw [← thr_k0 h5 (show 2 < 6 by decide), T3]
    have r1 := r_ones1 m3
    have r2 := r_ones2 m3
    have r3 := r_ones3 m3
    rw [T3] at r1 r2 r3
    rw [e20 2, hs.2.2.2.2.1] at r2
    have tab0 : tabR m3 (m.1 14 3) (fun b => T b 2) A 1 0 := fun M' j hj hb _ hlt => by
      have : M' = 0 := by omega
      subst this
      rw [Nat.zero_testBit] at hb; cases hb
    have hlen0 : (bl A).length = 0 ↔ A = 0 := by
      refine ⟨fun z => Nat.eq_of_testBit_eq (fun i => ?_), fun z => by rw [z]; decide⟩
      rw [Nat.zero_testBit]
      by_cases hi8 : i < 8
      · cases hb : A.testBit i with
        | false => rfl
        | true =>
          have : i ∈ bl A := mem_bl.mpr ⟨hi8, hb⟩
          rw [List.length_eq_zero_iff.mp z] at this
          cases this
      · exact tb_hi hA (by omega)
    have key : (if (bl A).length = 0 then (0 : Int32) else (List.range (bl A).length).foldl (endF (m.1 14 3) (fun i => T ((bl A).getD i 0) 2) (2 ^ (bl A).length - 1)) 1000000) = if A = 0 then 0 else (bl A).foldl (endF (m.1 14 3) (fun b => T b 2) A) 1000000 := by
      by_cases c : A = 0
      · rw [if_pos (hlen0.mpr c), if_pos c]
      · rw [if_neg (fun z => c (hlen0.mp z)), if_neg c]
        conv => rhs; rw [← rng_map (bl A)]
        rw [List.foldl_map]
        refine fl_congr (fun a i hi => ?_)
        have hi := List.mem_range.mp hi
        have hnd : (bl A).Nodup := List.Pairwise.filter _ List.nodup_range
        have := wyF_map (w0C (m.1 14 3) (fun b => T b 2)) (wsC (m.1 14 3) (fun b => T b 2)) (fun i => (bl A).getD i 0) (L := (bl A).length) (fun i j h1 h2 he => by
          exact (List.getD_inj h1 h2 hnd).mp he) 9 (List.range (bl A).length) i (fun x hx => List.mem_range.mp hx) hi
        rw [rng_map] at this
        unfold endF wyC
        rw [(bl_all (bl A).length (by omega)).1, ← this]
        rfl
    by_cases c : A = 0
    · obtain ⟨m4, e4, f4, l4⟩ := r_way3_l hA hw3 255 1 fu m3 0 rfl (by decide) e14 hsr tab0
      refine ⟨0, m3, m4, ?_, ?_, Inv_q ⟨fun a k z => f4 a k (fun e => by subst e; simp [WQ, show Nat.ble 627 630 = true from rfl, show Nat.blt 630 631 = true from rfl] at z), fun a k _ => by rw [l4]⟩ hi3⟩
      · refine Eq.trans cw ?_
        rw [key, if_pos c]
      · show fX11_way m3 = _
        unfold fX11_way fX11_way_c40
        rw [w3 606 26 (by omega) (by omega) (by omega), hs.2.1, if_neg hk0]
        refine bs r1 (bs r2 (bs r3 ?_))
        dsimp only
        rw [eall, if_pos (by rw [c]; rfl)]
        refine Eq.trans e4 ?_
        rw [if_neg (by omega)]
    · obtain ⟨m4, e4, f4, l4⟩ := r_way3_l hA hw3 255 1 fu m3 1000000 rfl (by decide) e14 hsr tab0
      refine ⟨(bl A).foldl (endF (m.1 14 3) (fun b => T b 2) A) 1000000, m3, m4, ?_, ?_, Inv_q ⟨fun a k z => f4 a k (fun e => by subst e; simp [WQ, show Nat.ble 627 630 = true from rfl, show Nat.blt 630 631 = true from rfl] at z), fun a k _ => by rw [l4]⟩ hi3⟩
      · refine Eq.trans cw ?_
        rw [key, if_neg c]
      · show fX11_way m3 = _
        unfold fX11_way fX11_way_c40
        rw [w3 606 26 (by omega) (by omega) (by omega), hs.2.1, if_neg hk0]
        refine bs r1 (bs r2 (bs r3 ?_))
        dsimp only
        have hne : ¬ Int32.ofNat A = 0 := fun z => c (nn_inj (k := 0) (by omega) (by decide) z)
        rw [eall, if_neg hne]
        refine Eq.trans e4 ?_
        rw [if_pos (by omega)]
end WYR
