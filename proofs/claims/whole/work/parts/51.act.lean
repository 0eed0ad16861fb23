/-! ACTS: what is refused; the stands' views behind writes -/
/-- a call: both sides answer alike, and all holds again -/
def EQ (m : mm_MM) (f g : mm_MM → Option (Int32 × mm_MM)) : Prop := ∃ v m1 m2, f m = some (v, m1) ∧ g m1 = some (v, m2) ∧ Inv m2
def WAc : Nat → Nat → Bool := fun a k => WA a k && Nat.blt a 606
def WAr : Nat → Nat → Bool := fun a k => WA a k && Nat.ble 606 a
theorem WAc_A : ∀ a k, WA a k = false → WAc a k = false := by intro a k h; simp [WAc, h]
theorem WAr_A : ∀ a k, WA a k = false → WAr a k = false := by intro a k h; simp [WAr, h]
theorem WAc_hi {a k : Nat} (h : 606 ≤ a) : WAc a k = false := by
  have : Nat.blt a 606 = false := by
    cases hb : Nat.blt a 606 with
    | false => rfl
    | true => simp only [Nat.blt_eq] at hb; omega
  simp [WAc, this]
theorem WAr_lo {a k : Nat} (h : a < 606) : WAr a k = false := by
  have : Nat.ble 606 a = false := by
    cases hb : Nat.ble 606 a with
    | false => rfl
    | true => simp only [Nat.ble_eq] at hb; omega
  simp [WAr, this]
theorem WAc_t {a k : Nat} (h : WA a k = true) (h' : a < 606) : WAc a k = true := by simp [WAc, h, h']
theorem WAr_t {a k : Nat} (h : WA a k = true) (h' : 606 ≤ a) : WAr a k = true := by simp [WAr, h, h']
theorem WA_29 {a : Nat} (h1 : 29 ≤ a) (h2 : a < 42) (k : Nat) : WA a k = true := by simp [WA, WSt_t h1 h2]
theorem WA_P {a k : Nat} (h : WP a k = true) : WA a k = true := by simp [WA, h]
theorem WA_Qt {a k : Nat} (h : WQ a k = true) : WA a k = true := by simp [WA, h]
theorem WP_c : ∀ a k, WAc a k = false → WP a k = false := by
  intro a k h
  cases hb : WP a k with
  | false => rfl
  | true =>
    have h' : a < 606 := by simp only [WP, Nat.ble_eq, Nat.blt_eq, Bool.and_eq_true, Bool.or_eq_true, beq_iff_eq] at hb; omega
    rw [WAc_t (WA_P hb) h'] at h; cases h
theorem WK_r : ∀ a k, WAr a k = false → WK a k = false := by
  intro a k h
  cases hb : WK a k with
  | false => rfl
  | true =>
    have h' : 606 ≤ a := by simp only [WK, Bool.and_eq_true, Bool.or_eq_true, beq_iff_eq] at hb; omega
    have h2 : WA a k = true := by
      simp only [WK, Bool.and_eq_true, Bool.or_eq_true, beq_iff_eq] at hb
      simp only [WA, Bool.or_eq_true, Bool.and_eq_true, beq_iff_eq]
      omega
    rw [WAr_t h2 h'] at h; cases h
/-- the same ints, other longs -/
theorem fr_2 {W : Nat → Nat → Bool} {m m' : mm_MM} (h : fr W m m') : fr W m (m'.1, m.2) := ⟨h.1, fun _ _ _ => rfl⟩
section ACT
variable {m m1 m2 : mm_MM} {W H : Nat} {P P1 : List Vw} {ls : Nat → List Cla} {V V1 : Vw}
def StepC (m m1 : mm_MM) (V1 : Vw) (P1 : List Vw) : Prop := fr WAc m (m1.1, m.2) ∧ (∀ k, m1.1 592 k = m.1 592 k) ∧ cV m1 29 = V1 ∧ cOK m1 29 ∧ PC m1 P1
def StepR (m m1 : mm_MM) (V1 : Vw) (P1 : List Vw) : Prop := fr WAr m (m1.1, m.2) ∧ (∀ k, m1.1 624 k = m.1 624 k) ∧ rV m1 623 0 = V1 ∧ rOK m1 623 0 ∧ PR m1 P1
theorem InvA_2 {l : Nat → Nat → Int64} (h : InvA (m.1, l) W H P ls) : InvA m W H P ls := by
  obtain ⟨h1, h2, h3, h4, ⟨q, a1, a2, a3, a4, a5, a6⟩, h6, h7⟩ := h
  exact ⟨h1, h2, h3, h4, ⟨q, a1, a2, a3, fun i hi => ⟨(a4 i hi).1, LawR_fr (m := (m.1, l)) (fun _ _ _ => rfl) (a4 i hi).2.1, (a4 i hi).2.2⟩, a5, a6⟩, h6, h7⟩
theorem Inv_step (h : InvA m W H P ls) (hk : m.1 0 14 = 1) (hc : StepC m m1 V1 P1) (hr : StepR m1 m2 V1 P1) (hV : VB W H V1) (hP : ∀ V ∈ P1, VB W H V) : Inv m2 := by
  obtain ⟨c1, c2, c3, c4, c5⟩ := hc
  obtain ⟨r1, r2, r3, r4, r5⟩ := hr
  have f1 : fr WA m (m1.1, m.2) := fr_mono WAc_A c1
  have f2 : fr WA (m1.1, m.2) (m2.1, m.2) := ⟨fun a k z => r1.1 a k (WAr_A a k z), fun _ _ _ => rfl⟩
  have f12 := fr_trans f1 f2
  have lo : ∀ a k, a < 606 → m2.1 a k = m1.1 a k := fun a k ha => r1.1 a k (WAr_lo ha)
  have hv : cV m2 29 = cV m1 29 := cV_congr (fun b hb k hk => lo _ _ (by omega)) (fun k _ _ => lo _ _ (by omega)) (fun w hw j hj => lo _ _ (by omega))
  have hS : InvS (m2.1, m.2) W H P1 := by
    show InvS m2 W H P1
    refine ⟨by rw [hv, c3, r3], cOK_congr (fun b hb k hk => lo _ _ (by omega)) (fun k _ _ => lo _ _ (by omega)) c4, r4, by rw [hv, c3]; exact hV, PC_fr (m := m1) (m' := (m2.1, m1.2)) ⟨fun a k z => r1.1 a k z, fun _ _ _ => rfl⟩ (fun a k ha => WAr_lo (by omega)) c5, r5, hP, fun h0 => ?_⟩
    rw [show m2.1 0 14 = 1 from ((lo 0 14 (by decide)).trans (c1.1 0 14 (WAc_A _ _ (WA_f (by omega))))).trans hk] at h0
    exact absurd h0 (by decide)
  refine ⟨W, H, P1, ls, InvA_2 (l := m.2) (InvA_act f12 hS (fun k hk => ?_) h)⟩
  show m2.1 592 k = m2.1 624 k
  rw [lo 592 k (by decide), c2, r2, show m1.1 624 k = m.1 624 k from c1.1 624 k (WAc_hi (by decide))]
  exact h.2.2.2.2.2.1.2 k hk
/-! the reference's side of the view, behind what the class wrote -/
theorem rV_c (h : fr WAc m (m1.1, m.2)) (ho : rOK m 623 0) : rV m1 623 0 = rV m 623 0 := rV_congr (fun k _ => h.1 _ _ (WAc_hi (by decide))) ho
theorem rOK_c (h : fr WAc m (m1.1, m.2)) (ho : rOK m 623 0) : rOK m1 623 0 := rOK_congr (h.1 _ _ (WAc_hi (by decide))) ho
theorem PR_c (h : fr WAc m (m1.1, m.2)) (hp : PR m P) : PR m1 P := PR_fr (W := WAc) (m := m) (m' := (m1.1, m.2)) h (fun k => WAc_hi (by decide)) (WAc_hi (by decide)) hp
theorem hi_c (h : fr WAc m (m1.1, m.2)) {a k : Nat} (ha : 606 ≤ a) : m1.1 a k = m.1 a k := h.1 a k (WAc_hi ha)
theorem thr_c (h : fr WAc m (m1.1, m.2)) : thr m1 623 0 = thr m 623 0 := thr_congr (fun k _ => h.1 _ _ (WAc_hi (by decide)))
/-! refused -/
theorem c_refuse (m : mm_MM) {k : Nat} (hk : k < 5) : fX10_refuse m (Int32.ofNat k) = some (-1, wI m 592 k (m.1 592 k + 1)) := by
  unfold fX10_refuse
  rw [c_pick_n m 592 (n := 5) rfl (by decide) hk]
  simp only [Option.bind_some, c_place_n m 592 _ (n := 5) rfl (by decide) hk]
theorem r_refused (m : mm_MM) {k : Nat} (hk : k < 5) : fX11_isRefused m (Int32.ofNat k) = some (1, wI m 624 k (m.1 624 k + 1)) := by
  have hn : ¬ Int32.ofNat k = -1 := fun z => nn_n0 (n := k) (by omega) (by rw [z]; decide)
  unfold fX11_isRefused fX11_isRefused_c15 fX11_isRefused_c25
  rw [if_neg hn, nn_go (by omega) hk, nn_go (by omega) hk, nn_tn (by omega), if_neg hn]
  rfl
theorem r_ref0 (m : mm_MM) : fX11_isRefused m (-1) = some (0, m) := rfl
theorem c_ref (m : mm_MM) : fX10_refuse m 0 = some (-1, wI m 592 0 (m.1 592 0 + 1)) ∧ fX10_refuse m 1 = some (-1, wI m 592 1 (m.1 592 1 + 1)) ∧ fX10_refuse m 2 = some (-1, wI m 592 2 (m.1 592 2 + 1)) ∧ fX10_refuse m 3 = some (-1, wI m 592 3 (m.1 592 3 + 1)) ∧ fX10_refuse m 4 = some (-1, wI m 592 4 (m.1 592 4 + 1)) := ⟨c_refuse m (by decide), c_refuse m (by decide), c_refuse m (by decide), c_refuse m (by decide), c_refuse m (by decide)⟩
theorem r_ref (m : mm_MM) : fX11_isRefused m 0 = some (1, wI m 624 0 (m.1 624 0 + 1)) ∧ fX11_isRefused m 1 = some (1, wI m 624 1 (m.1 624 1 + 1)) ∧ fX11_isRefused m 2 = some (1, wI m 624 2 (m.1 624 2 + 1)) ∧ fX11_isRefused m 3 = some (1, wI m 624 3 (m.1 624 3 + 1)) ∧ fX11_isRefused m 4 = some (1, wI m 624 4 (m.1 624 4 + 1)) := ⟨r_refused m (by decide), r_refused m (by decide), r_refused m (by decide), r_refused m (by decide), r_refused m (by decide)⟩
/-- the memory behind a refusal of the class -/
def mR (m : mm_MM) (k : Nat) : mm_MM := wI m 592 k (m.1 592 k + 1)
theorem mR_ne {k a j : Nat} (h : ¬ a = 592) : (mR m k).1 a j = m.1 a j := wI_ne h
theorem mR_c {k : Nat} : fr WAc m ((mR m k).1, m.2) := fr_2 (fr_wI (fr_refl _ _) (WAc_t (by simp [WA]) (by decide)))
theorem Inv_refuse (h : InvA m W H P ls) (k : Nat) : Inv (wI (mR m k) 624 k ((mR m k).1 624 k + 1)) := by
  have hf : fr WA m (wI (mR m k) 624 k ((mR m k).1 624 k + 1)) := fr_wI (fr_wI (fr_refl _ _) (by simp [WA])) (by simp [WA])
  have q : ∀ {a j : Nat}, ¬ a = 592 → ¬ a = 624 → (wI (mR m k) 624 k ((mR m k).1 624 k + 1)).1 a j = m.1 a j := fun h1 h2 => by rw [wI_ne h2, mR_ne h1]
  obtain ⟨a1, a2, a3, a4, a5, a6, a7, a8⟩ := h.2.1
  have v1 : cV (wI (mR m k) 624 k ((mR m k).1 624 k + 1)) 29 = cV m 29 := cV_congr (fun b hb k hk => q (by omega) (by omega)) (fun k _ _ => q (by omega) (by omega)) (fun w hw j hj => q (by omega) (by omega))
  have v2 : rV (wI (mR m k) 624 k ((mR m k).1 624 k + 1)) 623 0 = rV m 623 0 := rV_congr (fun k _ => q (by omega) (by omega)) a3
  have fW : fr (fun a _ => a == 592 || a == 624) m (wI (mR m k) 624 k ((mR m k).1 624 k + 1)) := fr_wI (fr_wI (fr_refl _ _) rfl) rfl
  have nW : ∀ a j, a = 55 ∨ (57 ≤ a ∧ a < 577) → (fun a (_ : Nat) => a == 592 || a == 624) a j = false := by
    intro a j ha
    simp only [Bool.or_eq_false_iff, beq_eq_false_iff_ne]; omega
  refine ⟨W, H, P, ls, InvA_act hf ⟨by rw [v1, v2]; exact a1, cOK_congr (fun b hb k hk => q (by omega) (by omega)) (fun k _ _ => q (by omega) (by omega)) a2, rOK_congr (q (by omega) (by omega)) a3, by rw [v1]; exact a4, PC_fr fW nW a5, PR_fr fW (fun _ => rfl) rfl a6, a7, ?_⟩ (fun j hj => ?_) h⟩
  · have vt : thc (wI (mR m k) 624 k ((mR m k).1 624 k + 1)) 34 = thc m 34 := congrArg Prod.fst v1
    rw [q (by decide) (by decide), vt]; exact a8
  · have := h.2.2.2.2.2.1.2 j hj
    rw [wI_ne (by decide), mR, wI_1, wI_1, wI_ne (by decide), wI_ne (by decide)]
    by_cases hjk : j = k
    · subst hjk; simp [this]
    · simp [hjk, this]
theorem EQ_refuse {f g : mm_MM → Option (Int32 × mm_MM)} {v : Int32} (h : InvA m W H P ls) (k : Nat) (hf : f m = some (v, mR m k)) (hg : g (mR m k) = some (v, wI (mR m k) 624 k ((mR m k).1 624 k + 1))) : EQ m f g := ⟨v, _, _, hf, hg, Inv_refuse h k⟩
/-! writes, seen -/
def upT (T : TT) (b k : Nat) (v : Int32) : TT := fun b' k' => if b' = b ∧ k' = k then v else T b' k'
theorem cV_coin {v : Int32} : cV (wI m 29 6 v) 29 = ((cV m 29).1, v, (cV m 29).2.2) := by
  have hl : ∀ L N, lgC (wI m 29 6 v) 29 L N = lgC m 29 L N := fun L N => by
    funext j w
    unfold lgC
    by_cases hj : j < L ∧ w < 3
    · rw [if_pos hj, if_pos hj, wI_ne (by omega)]
    · rw [if_neg hj, if_neg hj]
  unfold cV
  rw [thc_congr (m := m) (s := 29 + 5) (s' := 29 + 5) (fun b hb k hk => wI_ne (by omega)), wI_eq, wI_nk (by decide), wI_nk (by decide), wI_nk (by decide), hl]
theorem thc_fld {b k : Nat} {v : Int32} (h : thc m 34 b 5 = 1) (hk : k < 5) : thc (wI m (34 + b) (k + 1) v) 34 = upT (thc m 34) b k v := by
  funext b' k'
  unfold upT
  by_cases hb : b' = b
  · subst hb
    have h5 : thc (wI m (34 + b') (k + 1) v) 34 b' 5 = 1 := by
      have := thc_5 h
      unfold thc
      rw [wI_nk (by omega), if_pos this]; rfl
    by_cases hk' : k' < 5
    · rw [thc_k h5 hk', wI_1]
      by_cases e : k' = k
      · rw [if_pos (by omega), if_pos ⟨rfl, e⟩]
      · rw [if_neg (by omega), if_neg (by omega), thc_k h hk']
    · rw [if_neg (by omega)]
      unfold thc
      rw [wI_nk (show ¬ 0 = k + 1 by omega)]
      simp only [if_neg hk']
  · rw [if_neg (by omega)]
    exact thc_at (m := m) (s := 34) (b := b') (fun k _ => wI_ne (by omega)) k'
theorem cV_fld {b k : Nat} {v : Int32} (h : thc m 34 b 5 = 1) (hk : k < 5) : cV (wI m (34 + b) (k + 1) v) 29 = (upT (cV m 29).1 b k v, (cV m 29).2) := by
  have hl : ∀ L N, lgC (wI m (34 + b) (k + 1) v) 29 L N = lgC m 29 L N := fun L N => by
    funext j w
    unfold lgC
    by_cases hj : j < L ∧ w < 3
    · rw [if_pos hj, if_pos hj, wI_ne (by omega)]
    · rw [if_neg hj, if_neg hj]
  unfold cV
  rw [show (29 + 5 : Nat) = 34 from rfl, thc_fld h hk, wI_ne (by omega), wI_ne (by omega), wI_ne (by omega), wI_ne (by omega), hl]
theorem rV_coin {v : Int32} : rV (wI m 623 48 v) 623 0 = ((rV m 623 0).1, v, (rV m 623 0).2.2) := by
  have hl : ∀ L, lgR (wI m 623 48 v) 623 0 L = lgR m 623 0 L := fun L => by
    funext j w
    unfold lgR
    by_cases hj : j < L ∧ w < 3
    · rw [if_pos hj, if_pos hj, wI_nk (by omega)]
    · rw [if_neg hj, if_neg hj]
  unfold rV
  rw [thr_congr (m := m) (a := 623) (o := 0) (a' := 623) (o' := 0) (fun k hk => wI_nk (by omega)), hl, wI_nk (show ¬ 0 + 49 = 48 by decide), wI_nk (show ¬ 0 + 50 = 48 by decide)]
  rfl
theorem thr_fld {b k : Nat} {v : Int32} (h : thr m 623 0 b 5 = 1) (hk : k < 5) : thr (wI m 623 (6 * b + k) v) 623 0 = upT (thr m 623 0) b k v := by
  have hb8 := (thr_5 h).1
  funext b' k'
  unfold upT
  by_cases hb : b' = b
  · subst hb
    have h5 : thr (wI m 623 (6 * b' + k) v) 623 0 b' 5 = 1 := (r_thr hb8).mpr (by rw [wI_nk (by omega)]; exact (r_thr hb8).mp h)
    by_cases hk' : k' < 6
    · rw [thr_k0 h5 hk', wI_1]
      by_cases e : k' = k
      · rw [if_pos (by omega), if_pos ⟨rfl, e⟩]
      · rw [if_neg (by omega), if_neg (by omega), thr_k0 h hk']
    · rw [if_neg (by omega)]
      unfold thr
      rw [wI_nk (show ¬ 0 + (6 * b' + 5) = 6 * b' + k by omega)]
      simp only [if_neg hk']
  · rw [if_neg (by omega)]
    unfold thr
    by_cases hb' : b' < 8
    · rw [wI_nk (show ¬ 0 + (6 * b' + 5) = 6 * b + k by omega)]
      by_cases hk' : k' < 6
      · rw [wI_nk (show ¬ 0 + (6 * b' + k') = 6 * b + k by omega)]
      · simp only [if_neg hk']
    · simp [hb']
theorem rV_fld {b k : Nat} {v : Int32} (h : thr m 623 0 b 5 = 1) (hk : k < 5) : rV (wI m 623 (6 * b + k) v) 623 0 = (upT (rV m 623 0).1 b k v, (rV m 623 0).2) := by
  have hb8 := (thr_5 h).1
  have hl : ∀ L, lgR (wI m 623 (6 * b + k) v) 623 0 L = lgR m 623 0 L := fun L => by
    funext j w
    unfold lgR
    by_cases hj : j < L ∧ w < 3
    · rw [if_pos hj, if_pos hj, wI_nk (by omega)]
    · rw [if_neg hj, if_neg hj]
  unfold rV
  rw [thr_fld h hk, hl, wI_nk (by omega), wI_nk (by omega), wI_nk (by omega)]
theorem cOK_coin {v : Int32} (h : cOK m 29) : cOK (wI m 29 6 v) 29 := by
  obtain ⟨⟨L, N, a1, a2, a3, a4⟩, hb⟩ := h
  refine ⟨⟨L, N, by rw [wI_nk (by decide)]; exact a1, a2, by rw [wI_nk (by decide)]; exact a3, a4⟩, fun b h8 => ?_⟩
  rw [wI_ne (by omega), wI_ne (by omega)]; exact hb b h8
theorem cOK_fld {b k : Nat} {v : Int32} (hv : (k = 0 ∨ k = 5) → v = 0 ∨ v = 1) (h : cOK m 29) : cOK (wI m (34 + b) k v) 29 := by
  obtain ⟨⟨L, N, a1, a2, a3, a4⟩, hb⟩ := h
  refine ⟨⟨L, N, by rw [wI_ne (by omega)]; exact a1, a2, by rw [wI_ne (by omega)]; exact a3, a4⟩, fun b' h8 => ?_⟩
  have := hb b' h8
  rw [wI_1, wI_1]
  constructor
  · by_cases e : 29 + 5 + b' = 34 + b ∧ 0 = k
    · rw [if_pos e]; exact hv (Or.inl e.2.symm)
    · rw [if_neg e]; exact this.1
  · by_cases e : 29 + 5 + b' = 34 + b ∧ 5 = k
    · rw [if_pos e]; exact hv (Or.inr e.2.symm)
    · rw [if_neg e]; exact this.2
theorem rOK_w {k : Nat} {v : Int32} (hk : ¬ k = 50) (h : rOK m 623 0) : rOK (wI m 623 k v) 623 0 := rOK_congr (wI_nk (by omega)) h
theorem PC_w {a k : Nat} {v : Int32} (h1 : ¬ (a = 55 ∨ (57 ≤ a ∧ a < 577))) (h : PC m P) : PC (wI m a k v) P := PC_fr (W := fun i _ => i == a) (fr_wI (fr_refl _ _) (by simp)) (fun i j hi => by simp only [beq_eq_false_iff_ne]; omega) h
theorem PR_w {k : Nat} {v : Int32} (h : PR m P) : PR (wI m 623 k v) P := PR_fr (W := fun i _ => i == 623) (fr_wI (fr_refl _ _) rfl) (fun _ => rfl) rfl h
/-! a step begins: it is kept -/
theorem StepC_keep (h : InvA m W H P ls) : ∃ m1, fX3_keep m 29 = some m1 ∧ StepC m m1 (cV m 29) (kp (cV m 29) P) ∧ ∀ a k, ¬ (a = 55 ∨ (57 ≤ a ∧ a < 577)) → m1.1 a k = m.1 a k := by
  obtain ⟨m1, e, p, f⟩ := c_keep h.2.1.2.1 h.2.1.2.2.2.2.1
  have q : ∀ a k, ¬ (a = 55 ∨ (57 ≤ a ∧ a < 577)) → m1.1 a k = m.1 a k := fun a k ha => f.1 a k (WP_f ha)
  exact ⟨m1, e, ⟨fr_2 (fr_mono WP_c f), fun k => q _ _ (by omega), cV_congr (fun b hb k hk => q _ _ (by omega)) (fun k _ _ => q _ _ (by omega)) (fun w hw j hj => q _ _ (by omega)), cOK_congr (fun b hb k hk => q _ _ (by omega)) (fun k _ _ => q _ _ (by omega)) h.2.1.2.1, p⟩, q⟩
theorem StepR_keep (h : InvA m W H P ls) (hc : fr WAc m (m1.1, m.2)) : ∃ m2, fX11_keep m1 = some m2 ∧ StepR m1 m2 (cV m 29) (kp (cV m 29) P) ∧ ∀ a k, ¬ a = 626 → ¬ (a = 606 ∧ k = 34) → m2.1 a k = m1.1 a k := by
  have ho := rOK_c hc h.2.1.2.2.1
  have hv : rV m1 623 0 = cV m 29 := (rV_c hc h.2.1.2.2.1).trans h.2.1.1.symm
  obtain ⟨m2, e, p, f⟩ := r_keep ho (PR_c hc h.2.1.2.2.2.2.2.1)
  rw [hv] at p
  have q : ∀ a k, ¬ a = 626 → ¬ (a = 606 ∧ k = 34) → m2.1 a k = m1.1 a k := fun a k h1 h2 => f.1 a k (by
    cases hb : WK a k with
    | false => rfl
    | true => simp only [WK, Bool.and_eq_true, Bool.or_eq_true, beq_iff_eq] at hb; omega)
  exact ⟨m2, e, ⟨fr_2 (fr_mono WK_r f), fun k => q _ _ (by decide) (by omega), (rV_congr (fun k _ => q _ _ (by decide) (by omega)) ho).trans hv, rOK_congr (q _ _ (by decide) (by omega)) ho, p⟩, q⟩
theorem kp_mem {W H : Nat} (h : ∀ V ∈ P, VB W H V) (hV : VB W H V) : ∀ V' ∈ kp V P, VB W H V' := by
  intro V' hm
  unfold kp at hm
  split at hm
  · rcases List.mem_append.mp hm with h1 | h1
    · exact h V' h1
    · rw [List.mem_singleton.mp h1]; exact hV
  · rcases List.mem_append.mp hm with h1 | h1
    · exact h V' (List.mem_of_mem_tail h1)
    · rw [List.mem_singleton.mp h1]; exact hV
/-! a step goes on: writes of both sides -/
theorem StepC_coin {v : Int32} (h : StepC m m1 V1 P1) : StepC m (wI m1 29 6 v) (V1.1, v, V1.2.2) P1 := by
  obtain ⟨a1, a2, a3, a4, a5⟩ := h
  exact ⟨fr_wI (m := (m1.1, m.2)) a1 (WAc_t (WA_29 (by decide) (by decide) _) (by decide)), fun k => (wI_ne (by decide)).trans (a2 k), by rw [cV_coin, a3], cOK_coin a4, PC_w (by omega) a5⟩
theorem StepC_fld {b k : Nat} {v : Int32} (h : StepC m m1 V1 P1) (hb : V1.1 b 5 = 1) (hk : k < 5) (hv : k = 4 → v = 0 ∨ v = 1) : StepC m (wI m1 (34 + b) (k + 1) v) (upT V1.1 b k v, V1.2) P1 := by
  obtain ⟨a1, a2, a3, a4, a5⟩ := h
  have ht : thc m1 34 b 5 = 1 := by rw [← a3] at hb; exact hb
  have hb8 := (thc_5 ht).1
  exact ⟨fr_wI (m := (m1.1, m.2)) a1 (WAc_t (WA_29 (by omega) (by omega) _) (by omega)), fun k => (wI_ne (by omega)).trans (a2 k), by rw [cV_fld ht hk, a3], cOK_fld (fun z => hv (by omega)) a4, PC_w (by omega) a5⟩
theorem StepR_coin {v : Int32} (h : StepR m m1 V1 P1) : StepR m (wI m1 623 48 v) (V1.1, v, V1.2.2) P1 := by
  obtain ⟨a1, a2, a3, a4, a5⟩ := h
  exact ⟨fr_wI (m := (m1.1, m.2)) a1 (WAr_t (by simp [WA]) (by decide)), fun k => (wI_ne (by decide)).trans (a2 k), by rw [rV_coin, a3], rOK_w (by decide) a4, PR_w a5⟩
theorem StepR_fld {b k : Nat} {v : Int32} (h : StepR m m1 V1 P1) (hb : V1.1 b 5 = 1) (hk : k < 5) : StepR m (wI m1 623 (6 * b + k) v) (upT V1.1 b k v, V1.2) P1 := by
  obtain ⟨a1, a2, a3, a4, a5⟩ := h
  have ht : thr m1 623 0 b 5 = 1 := by rw [← a3] at hb; exact hb
  have hb8 := (thr_5 ht).1
  exact ⟨fr_wI (m := (m1.1, m.2)) a1 (WAr_t (by simp [WA]) (by decide)), fun k => (wI_ne (by omega)).trans (a2 k), by rw [rV_fld ht hk, a3], rOK_w (by omega) a4, PR_w a5⟩
end ACT
