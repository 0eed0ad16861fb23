/-! ASK: a told thing's worth, as before, with more that stays; the month that tells most -/
section ASK2
variable {m m1 : mm_MM} {W H : Nat} {P : List Vw} {ls : Nat → List Cla}
def frD (m m' : mm_MM) : Prop := frB m m' ∧ ∀ a k, a = 636 ∨ a = 637 → m'.1 a k = m.1 a k
theorem frD_refl (m : mm_MM) : frD m m := ⟨frB_refl m, fun _ _ _ => rfl⟩
theorem frD_trans {a b c : mm_MM} (h : frD a b) (h' : frD b c) : frD a c := ⟨frB_trans h.1 h'.1, fun x k z => (h'.2 x k z).trans (h.2 x k z)⟩
theorem r_told2 {o : Option (List Cla)} {t b r N : Nat} (E : EnvR m W H o t) (hb : b < 8) (hr : r < H) (hN : N ≤ 99) (j : Int32) (hj : 0 ≤ j ∧ j ≤ 9) (h0 : 0 ≤ m.1 622 (4 * b) ∧ m.1 622 (4 * b) ≤ 200) (h1 : 0 ≤ m.1 622 (4 * b + 1) ∧ m.1 622 (4 * b + 1) ≤ 5) (h3 : 0 ≤ m.1 622 (4 * b + 3) ∧ m.1 622 (4 * b + 3) ≤ 99) :
    ∃ m', fX11_toldValue m (Int32.ofNat b) (Int32.ofNat r) j (Int32.ofNat N) = some ((it o (m.1 620 2) (m.1 620 3) (m.1 622 (4 * b + 1)) j 0 N (m.1 622 (4 * b), m.1 622 (4 * b + 3), 0)).1, m') ∧ frD m m' := by
  obtain ⟨M, R, hc, hT, R0, R1, R2, R3, R5, EM, d21, d27, n4, n5, l1, l2⟩ := r_setup E hb hr j hj h0 h1 h3
  have hr4 : r < 4 := by have := E.1.2.2.2; omega
  obtain ⟨r1, a1, hc⟩ := Option.bind_eq_some_iff.mp hc
  obtain ⟨r2, a2, hc⟩ := Option.bind_eq_some_iff.mp hc
  obtain ⟨r3, a3, hc⟩ := Option.bind_eq_some_iff.mp hc
  obtain ⟨r4, a4, hc⟩ := Option.bind_eq_some_iff.mp hc
  have hc1 := Option.some.inj hc
  have c1 : wI (wI r4 623 49 0) 621 r j = M := congrArg Prod.fst hc1
  have c2 : r4.1 621 r = m.1 621 r := congrArg Prod.snd hc1
  obtain ⟨m1, g, e1, f1, T2, E2⟩ := lives (F := fun n m x => fX11_toldValue_c55 n m (Int32.ofNat b) (Int32.ofNat r) (Int32.ofNat N) (r4.1 621 r) x) (N := N) (fun n m i hi => by
    rw [fX11_toldValue_c55]
    dsimp only
    rw [if_pos ((nn_lt (by omega) (by omega)).mpr hi), nn_s]) N 0 M 0 fu (by omega) (by unfold fu; omega) EM (by omega)
  have a : ∀ k, k < 6 → aloT b R b k = R k := fun k hk => if_pos ⟨rfl, hk⟩
  have hP : W * r < W * H := Nat.mul_lt_mul_of_pos_left hr (by have := E.1.1; omega)
  have hW24 : W * H ≤ 6 * 4 := Nat.mul_le_mul E.1.2.1 E.1.2.2.2
  have hly : lyT (aloT b R) b := ⟨(a 5 (by decide)).trans R5, by rw [a 2 (by decide), R2]; exact ofN_ne (by omega)⟩
  have u : ∀ k, M.1 620 k = m.1 620 k := fun k => n4 620 k (by decide) (by decide) (fun z => absurd z.1 (by decide))
  have hrow : rowI (M.1 620 0) (aloT b R) b = r := by
    unfold rowI
    rw [u, E.2.1, a 2 (by decide), R2, ← Int32.ofNat_div (by omega) (by have := E.1.2.1; omega), Nat.mul_div_cancel_left _ (by have := E.1.1; omega), nn_tn (by omega)]
  have hval : thr m1 623 0 b 0 = (it o (m.1 620 2) (m.1 620 3) (m.1 622 (4 * b + 1)) j 0 N (m.1 622 (4 * b), m.1 622 (4 * b + 3), 0)).1 := by
    rw [T2, hT, (nxTs_b N _ 0 hly).1, hrow, alo_bes, d21, if_pos rfl, u, u, a 0 (by decide), a 1 (by decide), a 3 (by decide), R0, R1, R3]
  have hT5 : thr m1 623 0 b 5 = 1 := by rw [T2, hT, nxTs_o (by decide) (by decide)]; exact hly.1
  have e0 := thr_k0 hT5 (show 0 < 6 by decide)
  have hb' := r_takeBack (wI m1 621 r (m.1 621 r)) (d := 0) (by decide)
  have hb' : fX11_takeBack (wI m1 621 r (m.1 621 r)) 0 = some (cpM (wI m1 621 r (m.1 621 r)) 623 0 50 627 0) := hb'
  refine ⟨cpM (wI m1 621 r (m.1 621 r)) 623 0 50 627 0, ?_, ⟨⟨fun x k z => ?_, ?_, ?_⟩, fun x k z => ?_⟩⟩
  · have hlast : fX11_toldValue_c55 fu M (Int32.ofNat b) (Int32.ofNat r) (Int32.ofNat N) (r4.1 621 r) 0 = some ((it o (m.1 620 2) (m.1 620 3) (m.1 622 (4 * b + 1)) j 0 N (m.1 622 (4 * b), m.1 622 (4 * b + 3), 0)).1, cpM (wI m1 621 r (m.1 621 r)) 623 0 50 627 0) := by
      refine e1.trans ?_
      rw [fX11_toldValue_c55]
      dsimp only
      rw [if_neg (fun z => Nat.lt_irrefl _ ((nn_lt (by omega) (by omega)).mp z)), nn_go (by omega) hr4, nn_tn (by omega), r_of0 _ hb, c2]
      simp only [Option.bind_some, hb']
      rw [wI_ne (show ¬ 623 = 621 by decide), ← e0, hval]
    unfold fX11_toldValue
    refine bs a1 ?_
    refine bs a2 ?_
    refine bs a3 ?_
    refine bs a4 ?_
    rw [nn_go (by omega) hr4, nn_go (by omega) hr4, nn_tn (by omega), c1]
    exact hlast
  · by_cases ha : x = 623
    · subst ha
      by_cases hk : k < 50
      · have e := cpM_in (m := wI m1 621 r (m.1 621 r)) (B := 623) (o := 0) (N := 50) (A := 627) (p := 0) hk
        rw [Nat.zero_add] at e
        rw [e, wI_ne (by decide), f1.1 _ _ (by simp [W2]), d27 k hk]
      · rw [cpM_out (by omega), wI_ne (by decide), f1.1 _ _ (by simp [W2]; omega), n5 k (by omega)]
    · obtain ⟨q1, q2⟩ := W2_Q z ha
      rw [cpM_ne ha, wI_1]
      by_cases c : x = 621 ∧ k = r
      · rw [if_pos c, c.1, c.2]
      · rw [if_neg c, f1.1 _ _ q1, n4 x k ha q2 c]
  · exact (f1.2 0 19 rfl).trans l1
  · exact (f1.2 606 35 rfl).trans l2
  · rw [cpM_ne (by omega), wI_ne (by omega), f1.1 _ _ (by rcases z with rfl | rfl <;> simp [W2]), n4 x k (by omega) (by omega) (by omega)]
theorem r_damp2_l {m0 : mm_MM} {o : Option (List Cla)} {t : Nat} (h0 : InvA m0 W H P ls) (hk : m0.1 0 14 = 1) (E0 : EnvR m0 W H o t) {rr : Nat} (hrr : rr < H) {j : Int32} (hj : 0 ≤ j ∧ j ≤ 9) {s : Nat} (hs10 : s ≤ 10) (es : m0.1 606 47 = Int32.ofNat s) (hsig : ∀ i, i < s → sigI m0 i) : ∀ (n i : Nat) (m : mm_MM) (g : Nat), i + n = s → n < g → frD m0 m → ∃ m', fX11_isDamp_c2 g m (Int32.ofNat rr) j (Int32.ofNat i) = some (dmpN m0 o (Int32.ofNat rr) j n i, m') ∧ frD m0 m' := by
  intro n
  induction n with
  | zero =>
    intro i m g hi hg hf
    obtain ⟨g, rfl⟩ : ∃ h, g = h + 1 := ⟨g - 1, by omega⟩
    refine ⟨m, ?_, hf⟩
    have e5 : m.1 606 47 = Int32.ofNat s := (hf.1.1 606 47 (WA_q (by omega))).trans es
    rw [fX11_isDamp_c2, dmpN]
    dsimp only
    rw [e5, if_neg (fun z => by have := (nn_lt (by omega) (by omega)).mp z; omega)]
  | succ n ih =>
    intro i m g hi hg hf
    obtain ⟨g, rfl⟩ : ∃ h, g = h + 1 := ⟨g - 1, by omega⟩
    have e5 : m.1 606 47 = Int32.ofNat s := (hf.1.1 606 47 (WA_q (by omega))).trans es
    obtain ⟨⟨q1, q2, q3, q4, q5⟩, p2, ⟨N, N1, N2, eN⟩, p4, p5, p6, p7⟩ := hsig i (by omega)
    have w : ∀ M : mm_MM, frD m0 M → ∀ a k, 631 ≤ a → a < 636 → M.1 a k = m0.1 a k := fun M hM a k z1 z2 => hM.1.1 _ _ (WA_q (by omega))
    obtain ⟨nt, t1, t2, -, -, tt⟩ := told_n h0
    have tb := (nn_ltk p4 (by omega)).mp (t2 ▸ p5)
    obtain ⟨-, T622, T0, T1, T3⟩ := tt _ tb
    have eb := nn_of p4
    have hlt : Int32.ofNat i < Int32.ofNat s := (nn_lt (by omega) (by omega)).mpr (by omega)
    have w622 : ∀ k, k < 4 → m.1 622 (4 * (m0.1 578 i).toNatClampNeg + k) = m0.1 (17 + (m0.1 578 i).toNatClampNeg) (k + 1) := fun k hk => (hf.1.1 _ _ (WA_q (by omega))).trans (T622 k hk).symm
    have w620 : ∀ k, m.1 620 k = m0.1 620 k := fun k => hf.1.1 _ _ (WA_q (by omega))
    have hs0 := see0 h0
    have hgo : ∀ {α : Type} {A : Option α}, (if Int32.ofNat i < 0 ∨ 10 ≤ i then none else A) = A := fun {α A} => nn_gn (by omega) (by omega)
    have etn : (Int32.ofNat i).toNatClampNeg = i := nn_tn (by omega)
    by_cases hr : m0.1 579 i = Int32.ofNat rr
    · have E := EnvR_B hf.1 E0
      have v0 := w622 0 (by decide)
      have v1 := w622 1 (by decide)
      have v3 := w622 3 (by decide)
      rw [Nat.add_zero] at v0
      obtain ⟨m2, e2, f2⟩ := r_told2 (N := N) E (show (m0.1 578 i).toNatClampNeg < 8 by omega) hrr (by omega) j hj (by rw [v0]; exact T0) (by rw [v1]; exact T1) (by rw [v3]; exact T3)
      have hv : (it o (m.1 620 2) (m.1 620 3) (m.1 622 (4 * (m0.1 578 i).toNatClampNeg + 1)) j 0 N (m.1 622 (4 * (m0.1 578 i).toNatClampNeg), m.1 622 (4 * (m0.1 578 i).toNatClampNeg + 3), 0)).1 = tvI m0 o j i := by
        unfold tvI
        rw [w620, w620, hs0.2.2.2.2.1, hs0.2.2.2.2.2.1, v0, v1, v3, eN, nn_tn (by omega)]
      rw [hv, ← eb] at e2
      have f2' : frD m0 m2 := frD_trans hf f2
      obtain ⟨m3, e3, f3⟩ := ih (i + 1) m2 g (by omega) (by omega) f2'
      have key : ∀ v : Int32, ∃ m', fX11_isDamp_c52 (fX11_isDamp_c2 g) m2 (Int32.ofNat rr) j (Int32.ofNat i) v = some (if v = m0.1 582 i then dmpN m0 o (Int32.ofNat rr) j n (i + 1) else 0, m') ∧ frD m0 m' := by
        intro v
        simp only [fX11_isDamp_c52, fX11_isDamp_c63, etn, hgo, w m2 f2' 635 _ (by decide) (by decide), ← q5, nn_s]
        by_cases c : v = m0.1 582 i
        · rw [if_pos c, if_pos c]; exact ⟨m3, e3, f3⟩
        · rw [if_neg c, if_neg c]; exact ⟨m2, rfl, f2'⟩
      rw [fX11_isDamp_c2, dmpN, if_pos hr]
      simp only [e5, if_pos hlt, etn, hgo, w m hf 632 _ (by decide) (by decide), w m hf 631 _ (by decide) (by decide), w m hf 633 _ (by decide) (by decide), ← q1, ← q2, ← q3, if_pos hr, eN, e2, Option.bind_some, w m2 f2' 634 _ (by decide) (by decide), ← q4]
      by_cases c : tvI m0 o j i < m0.1 581 i
      · rw [if_pos c, if_pos c]; exact key 0
      · rw [if_neg c, if_neg c]; exact key 1
    · obtain ⟨m3, e3, f3⟩ := ih (i + 1) m g (by omega) (by omega) hf
      refine ⟨m3, ?_, f3⟩
      rw [fX11_isDamp_c2, dmpN, if_neg hr]
      simp only [e5, if_pos hlt, etn, hgo, w m hf 632 _ (by decide) (by decide), ← q2, if_neg hr, fX11_isDamp_c63, nn_s]
      exact e3
theorem it_ld (o : Option (List Cla)) (y f s d n : Int32) : ∀ (k : Nat) (v l : Int32) (t : Nat), (it o y f s d n k (v, l, t)).2.1 = ldn f k l t
  | 0, _, _, _ => rfl
  | k + 1, v, l, t => it_ld o y f s d n k _ _ _
def WV : Nat → Nat → Bool := fun a k => WG a k || a == 593
theorem WV_G : ∀ a k, WV a k = false → WG a k = false := by intro a k h; simp only [WV, Bool.or_eq_false_iff] at h; exact h.1
theorem WV_Q : ∀ a k, WQ a k = false → WV a k = false := by
  intro a k h
  have h1 := WG_Q a k h
  simp only [WQ, Bool.or_eq_false_iff] at h
  simp only [WV, Bool.or_eq_false_iff]
  exact ⟨h1, h.1.1.1.1.1.1.1.2⟩
theorem WV_lo {a k : Nat} (h : a < 583) : WV a k = false := by
  simp only [WV, Bool.or_eq_false_iff]
  exact ⟨WG_lo h, by simp; omega⟩
theorem WV_hi {a k : Nat} (h : 606 ≤ a) : WV a k = false := by
  simp only [WV, Bool.or_eq_false_iff]
  exact ⟨WG_hi h, by simp; omega⟩
theorem WV_t (k : Nat) : WV 593 k = true := by simp [WV]
theorem WG_593 (k : Nat) : WG 593 k = false := by simp [WG, WS]
theorem HoldC_WV {o : Option (List Cla)} (hf : fr WV m m1) (h : HoldC m o) : HoldC m1 o := HoldC_fr (W := WV) rfl (fun h k hh => by
    have := WG_1 h k hh
    simp only [WV, Bool.or_eq_false_iff]
    exact ⟨this, by simp; omega⟩) (fun h hh => by
    have := WG_2 h hh
    simp only [WV, Bool.or_eq_false_iff]
    exact ⟨this, by simp; omega⟩) hf h
theorem tvI_cg {m0 : mm_MM} {o : Option (List Cla)} {j : Int32} (h : ∀ a k, a < 583 → m.1 a k = m0.1 a k) {i : Nat} (hb : (m0.1 578 i).toNatClampNeg < 8) : tvI m o j i = tvI m0 o j i := by
  unfold tvI
  rw [h 578 i (by decide), h 14 5 (by decide), h 14 6 (by decide), h 580 i (by decide), h (17 + (m0.1 578 i).toNatClampNeg) 2 (by omega), h (17 + (m0.1 578 i).toNatClampNeg) 1 (by omega), h (17 + (m0.1 578 i).toNatClampNeg) 4 (by omega)]
theorem dmpN_cg {m0 : mm_MM} {o : Option (List Cla)} {r j : Int32} (h : ∀ a k, a < 583 → m.1 a k = m0.1 a k) {s : Nat} (hb : ∀ i, i < s → (m0.1 578 i).toNatClampNeg < 8) : ∀ n i, i + n = s → dmpN m o r j n i = dmpN m0 o r j n i
  | 0, _, _ => rfl
  | n + 1, i, hi => by
    rw [dmpN, dmpN, h 579 i (by decide), h 581 i (by decide), h 582 i (by decide), tvI_cg h (hb i (by omega)), dmpN_cg h hb n (i + 1) (by omega)]
theorem dmpN_01 {m0 : mm_MM} {o : Option (List Cla)} {r j : Int32} : ∀ n i, dmpN m0 o r j n i = 0 ∨ dmpN m0 o r j n i = 1
  | 0, _ => Or.inr rfl
  | n + 1, i => by
    have ih := dmpN_01 (m0 := m0) (o := o) (r := r) (j := j) n (i + 1)
    rw [dmpN]
    by_cases c1 : m0.1 579 i = r
    · rw [if_pos c1]
      by_cases c2 : (if tvI m0 o j i < m0.1 581 i then (0 : Int32) else 1) = m0.1 582 i
      · rw [if_pos c2]; exact ih
      · rw [if_neg c2]; exact Or.inl rfl
    · rw [if_neg c1]; exact ih
/-! the mask of ten -/
def qB (q : Nat → Int32) (i : Nat) : Bool := decide (¬ q i = 0)
def m10 (a b c d e f g h i j : Bool) : Int32 := owN (fun n => match n with | 0 => a | 1 => b | 2 => c | 3 => d | 4 => e | 5 => f | 6 => g | 7 => h | 8 => i | _ => j) 10 0 0
theorem m10_eq (p : Nat → Bool) : owN p 10 0 0 = m10 (p 0) (p 1) (p 2) (p 3) (p 4) (p 5) (p 6) (p 7) (p 8) (p 9) := rfl
theorem m10_has : ∀ a b c d e f g h i j : Bool, hasB (m10 a b c d e f g h i j) 0 = a ∧ hasB (m10 a b c d e f g h i j) 1 = b ∧ hasB (m10 a b c d e f g h i j) 2 = c ∧ hasB (m10 a b c d e f g h i j) 3 = d ∧ hasB (m10 a b c d e f g h i j) 4 = e ∧ hasB (m10 a b c d e f g h i j) 5 = f ∧ hasB (m10 a b c d e f g h i j) 6 = g ∧ hasB (m10 a b c d e f g h i j) 7 = h ∧ hasB (m10 a b c d e f g h i j) 8 = i ∧ hasB (m10 a b c d e f g h i j) 9 = j := by decide +kernel
theorem mk10_has (p : Nat → Bool) {b : Nat} (hb : b < 10) : hasB (owN p 10 0 0) b = p b := by
  have := m10_has (p 0) (p 1) (p 2) (p 3) (p 4) (p 5) (p 6) (p 7) (p 8) (p 9)
  rw [← m10_eq] at this
  obtain ⟨h0, h1, h2, h3, h4, h5, h6, h7, h8, h9⟩ := this
  obtain rfl | rfl | rfl | rfl | rfl | rfl | rfl | rfl | rfl | rfl : b = 0 ∨ b = 1 ∨ b = 2 ∨ b = 3 ∨ b = 4 ∨ b = 5 ∨ b = 6 ∨ b = 7 ∨ b = 8 ∨ b = 9 := by omega
  all_goals assumption
theorem mk10_0 (p : Nat → Bool) : owN p 10 0 0 = 0 ↔ ∀ i, i < 10 → p i = false := by
  refine ⟨fun z i hi => ?_, fun z => ?_⟩
  · rw [← mk10_has p hi, z]
    obtain rfl | rfl | rfl | rfl | rfl | rfl | rfl | rfl | rfl | rfl : i = 0 ∨ i = 1 ∨ i = 2 ∨ i = 3 ∨ i = 4 ∨ i = 5 ∨ i = 6 ∨ i = 7 ∨ i = 8 ∨ i = 9 := by omega
    all_goals rfl
  · rw [m10_eq, z 0 (by decide), z 1 (by decide), z 2 (by decide), z 3 (by decide), z 4 (by decide), z 5 (by decide), z 6 (by decide), z 7 (by decide), z 8 (by decide), z 9 (by decide)]
    rfl
theorem mk10_two (q : Nat → Int32) {i j : Nat} (hi : i < 10) (hj : j < 10) : (((((owN (qB q) 10 0 0) >>> (Int32.ofNat i &&& 31)) &&& ((owN (qB q) 10 0 0) >>> (Int32.ofNat j &&& 31))) &&& 1) = 1 ↔ ¬ q i = 0 ∧ ¬ q j = 0) := by
  have h1 := mk10_has (qB q) hi
  have h2 := mk10_has (qB q) hj
  unfold hasB qB at h1 h2
  rw [and1_iff]
  exact and_congr (by rw [← decide_eq_decide]; exact h1) (by rw [← decide_eq_decide]; exact h2)
theorem dms_no {q : Nat → Int32} : ∀ n i, (dmsN q 0 n i 0 = -1 ↔ ∀ j, i ≤ j → j < i + n → q j = 0) ∨ 2 ^ 31 ≤ i + n
  | 0, i => Or.inl ⟨fun _ j h1 h2 => by omega, fun _ => by unfold dmsN; rw [if_neg (by decide)]⟩
  | n + 1, i => by
    by_cases hb : i + n + 1 < 2 ^ 31
    · left
      rw [dmsN]
      by_cases c : q i = 0
      · rw [if_pos c]
        have := (dms_no (q := q) n (i + 1)).resolve_right (by omega)
        rw [this]
        refine ⟨fun z j h1 h2 => ?_, fun z j h1 h2 => z j (by omega) (by omega)⟩
        by_cases e : j = i
        · subst e; exact c
        · exact z j (by omega) (by omega)
      · rw [if_neg c, if_pos rfl]
        exact ⟨fun z => absurd z (ofN_ne (by omega)), fun z => absurd (z i (by omega) (by omega)) c⟩
    · right; omega
/-! how many alike: ten at most -/
theorem alk_b (p : Nat → Prop) [DecidablePred p] (v : Nat → Int32) (i : Nat) : ∀ (n j c : Nat), ∃ c', c' ≤ c + n ∧ alkN p v i n j (Int32.ofNat c) = Int32.ofNat c'
  | 0, _, c => ⟨c, by omega, rfl⟩
  | n + 1, j, c => by
    rw [alkN]
    by_cases h : p i ∧ p j ∧ v i = v j
    · rw [if_pos h, nn_s]
      obtain ⟨c', h1, h2⟩ := alk_b p v i n (j + 1) (c + 1)
      exact ⟨c', by omega, h2⟩
    · rw [if_neg h]
      obtain ⟨c', h1, h2⟩ := alk_b p v i n (j + 1) c
      exact ⟨c', by omega, h2⟩
theorem alm_b (p : Nat → Prop) [DecidablePred p] (v : Nat → Int32) : ∀ (n i a : Nat), a ≤ 10 → ∃ a', a' ≤ 10 ∧ almN p v n i (Int32.ofNat a) = Int32.ofNat a'
  | 0, _, a, h => ⟨a, h, rfl⟩
  | n + 1, i, a, h => by
    rw [almN]
    obtain ⟨c, h1, h2⟩ := alk_b p v i 10 0 0
    have h2 : alkN p v i 10 0 0 = Int32.ofNat c := h2
    rw [h2]
    unfold ma
    by_cases e : Int32.ofNat a < Int32.ofNat c
    · rw [if_pos e]; exact alm_b p v n (i + 1) c (by omega)
    · rw [if_neg e]; exact alm_b p v n (i + 1) a h
/-- the first month with fewest -/
def asN (a : Nat → Int32) : Nat → Nat → Int32 → Int32 → Int32
  | 0, _, w, _ => w
  | k + 1, i, w, f => if a i < f then asN a k (i + 1) (Int32.ofNat i) (a i) else asN a k (i + 1) w f
/-! the class -/
theorem c_askP_l {m0 : mm_MM} {q : Nat → Int32} {r : Int32} {t3 : Nat} (ht3 : t3 < 583) (hq : ∀ i, i < 10 → ∀ m, fr WV m0 m → ∃ m', fX10_mayBeSoDamp m r (Int32.ofNat i) = some (q i, m') ∧ fr WG m m') : ∀ (n i : Nat) (x : Int32) (m : mm_MM) (g : Nat), i + n = 10 → n < g → fr WV m0 m → (∀ j, j < i → m.1 593 j = m0.1 t3 1) → ∃ m', fX10_ask_c26 g m r t3 x (Int32.ofNat i) = (if owN (qB q) n i x = 0 then some (-1, m') else (fX10_askWhen m' t3 (owN (qB q) n i x)).bind fun r5 => some (r5.1, r5.2)) ∧ fr WV m0 m' ∧ ∀ j, j < 10 → m'.1 593 j = m0.1 t3 1 := by
  intro n
  induction n with
  | zero =>
    intro i x m g hi hg hf hj
    obtain ⟨g, rfl⟩ : ∃ h, g = h + 1 := ⟨g - 1, by omega⟩
    obtain rfl : i = 10 := by omega
    refine ⟨m, ?_, hf, hj⟩
    rw [fX10_ask_c26, owN]
    dsimp only
    rw [if_neg (show ¬ Int32.ofNat 10 < 10 by decide)]
    rfl
  | succ n ih =>
    intro i x m g hi hg hf hj
    obtain ⟨g, rfl⟩ : ∃ h, g = h + 1 := ⟨g - 1, by omega⟩
    obtain ⟨m2, e2, f2⟩ := hq i (by omega) m hf
    have f3 : fr WV m0 (wI m2 593 i (m2.1 t3 1)) := fr_wI (fr_trans hf (fr_mono WV_G f2)) (WV_t _)
    have ev : m2.1 t3 1 = m0.1 t3 1 := (f2.1 t3 1 (WG_lo ht3)).trans (hf.1 t3 1 (WV_lo ht3))
    have hi2 := fun x => ih (i + 1) x (wI m2 593 i (m2.1 t3 1)) g (by omega) (by omega) f3 (fun j h => by
      by_cases e : j = i
      · subst e; rw [wI_eq, ev]
      · rw [wI_nk e, f2.1 593 j (WG_593 j)]; exact hj j (by omega))
    rw [fX10_ask_c26, owN]
    dsimp only
    rw [if_pos (show Int32.ofNat i < 10 from (nn_lt (k := 10) (by omega) (by decide)).mpr (by omega)), e2]
    simp only [Option.bind_some, fX10_ask_c53, c_place_n m2 593 _ (n := 10) (b := i) rfl (by decide) (by omega), nn_s]
    by_cases h : q i = 0
    · rw [if_pos h, show qB q i = false from decide_eq_false (fun z => z h), if_neg (by decide), or0]; exact hi2 x
    · rw [if_neg h, show qB q i = true from decide_eq_true h, if_pos rfl]; exact hi2 _
theorem c_when1_l {m0 : mm_MM} {o : Option (List Cla)} (ho : HoldC m0 o) {y f s v l : Int32} (ey : m0.1 14 5 = y) (ef : m0.1 14 6 = f) (hy : ¬ y ≤ 0) {t1 : Nat} (ht : t1 < 583) (es : m0.1 t1 2 = s) (hs : 0 ≤ s ∧ s ≤ 5) (hq : bdQ (v, l, 0)) (kr : mm_MM → Nat → Int32 → Int32 → Int32 → Int32 → Int32 → Option (Int32 × mm_MM)) (x2 x3 x4 : Int32) {N : Nat} (hN : N < 100) : ∀ (n i : Nat) (m : mm_MM) (g : Nat), i + n = 10 → n < g → fr WV m0 m → (∀ j, j < i → m.1 593 j = (it o y f s (Int32.ofNat j) 0 (N + 1) (v, l, 0)).1) → (∀ j, i ≤ j → j < 10 → m.1 593 j = (it o y f s (Int32.ofNat j) 0 N (v, l, 0)).1) → (0 < i → m.1 583 2 = ldn f (N + 1) l 0) → ∃ m', fX10_askWhen_c25 kr g m t1 x2 x3 x4 (ldn f N l 0) (Int32.ofNat (N + 1)) (Int32.ofNat i) = ((fX10_mostAlike m' x2).bind fun r6 => if r6.1 < x4 then kr r6.2 t1 x2 (Int32.ofNat (N + 1)) r6.1 (ldn f (N + 1) l 0) (Int32.ofNat (N + 2)) else kr r6.2 t1 x2 x3 x4 (ldn f (N + 1) l 0) (Int32.ofNat (N + 2))) ∧ fr WV m0 m' ∧ ∀ j, j < 10 → m'.1 593 j = (it o y f s (Int32.ofNat j) 0 (N + 1) (v, l, 0)).1 := by
  intro n
  induction n with
  | zero =>
    intro i m g hi hg hf h1 h2 h3
    obtain ⟨g, rfl⟩ : ∃ h, g = h + 1 := ⟨g - 1, by omega⟩
    obtain rfl : i = 10 := by omega
    refine ⟨m, ?_, hf, h1⟩
    rw [fX10_askWhen_c25]
    dsimp only
    rw [if_neg (show ¬ Int32.ofNat 10 < 10 by decide), h3 (by decide)]
    simp only [fX10_askWhen_c128, nn_s]
  | succ n ih =>
    intro i m g hi hg hf h1 h2 h3
    obtain ⟨g, rfl⟩ : ∃ h, g = h + 1 := ⟨g - 1, by omega⟩
    generalize hB : wI (wI (wI (wI (wI (wI m 583 0 (m.1 t1 1)) 583 1 (m.1 t1 2)) 583 2 (m.1 t1 4)) 583 3 (Int32.ofNat i)) 583 4 0) 583 5 (Int32.ofNat N) = B
    have eB : fX0_begin m t1 (Int32.ofNat i) (Int32.ofNat (N + 1) - 1) = some B := by
      unfold fX0_begin
      rw [wI_ne (show ¬ t1 = 583 by omega), wI_ne (show ¬ t1 = 583 by omega), wI_ne (show ¬ t1 = 583 by omega), nn_p, hB]
    have fB : fr WG m B := by
      rw [← hB]
      refine fr_wI (fr_wI (fr_wI (fr_wI (fr_wI (fr_wI (fr_refl _ _) ?_) ?_) ?_) ?_) ?_) ?_ <;> simp [WG]
    have pB' : fX10_pick B 593 (Int32.ofNat i) = some ((it o y f s (Int32.ofNat i) 0 N (v, l, 0)).1, B) := by
      rw [c_pick_n B 593 (n := 10) (b := i) rfl (by decide) (by omega), fB.1 593 i (WG_593 i), h2 i (by omega) (by omega)]
    generalize hC : wI (wI B 583 0 (it o y f s (Int32.ofNat i) 0 N (v, l, 0)).1) 583 2 (ldn f N l 0) = C
    have fC : fr WG m C := by
      rw [← hC]
      exact fr_wI (fr_wI fB (by simp [WG])) (by simp [WG])
    have fC0 : fr WV m0 C := fr_trans hf (fr_mono WV_G fC)
    have gC : GS C s (Int32.ofNat i) 0 (it o y f s (Int32.ofNat i) 0 N (v, l, 0)) := by
      rw [← hC, ← hB]
      have e2 : m.1 t1 2 = s := (hf.1 t1 2 (WV_lo ht)).trans es
      refine ⟨?_, ?_, ?_, ?_, ?_, ?_⟩
      · simp [wI_1]
      · simp [wI_1, e2]
      · simp [wI_1, it_ld]
      · simp [wI_1]
      · simp [wI_1]
      · rw [it_t]; simp [wI_1]
    obtain ⟨m7, e7, g7, f7⟩ := c_grow (N := 1) (by decide) (HoldC_WV fC0 ho) (by rw [fC0.1 14 5 (WV_lo (by decide)), ey]; exact hy) ⟨hs, d_ok (by omega), by decide, by decide⟩ (bdQ_it o y f s (Int32.ofNat i) 0 N hq) gC (by rw [it_t]; show 0 + N < 10000; omega)
    rw [fC0.1 14 5 (WV_lo (by decide)), fC0.1 14 6 (WV_lo (by decide)), ey, ef, ← it_add] at g7
    have f8 : fr WV m0 (wI m7 593 i (m7.1 583 0)) := fr_wI (fr_trans fC0 (fr_mono WV_G f7)) (WV_t _)
    have ff : ∀ j, m7.1 593 j = m.1 593 j := fun j => (f7.1 593 j (WG_593 j)).trans (fC.1 593 j (WG_593 j))
    obtain ⟨m9, e9, f9, h9⟩ := ih (i + 1) (wI m7 593 i (m7.1 583 0)) g (by omega) (by omega) f8 (fun j h => by
      by_cases e : j = i
      · subst e; rw [wI_eq]; exact g7.1
      · rw [wI_nk e, ff]; exact h1 j (by omega)) (fun j ha hb => by rw [wI_nk (by omega), ff]; exact h2 j (by omega) hb) (fun _ => by rw [wI_ne (by decide), g7.2.2.1, it_ld])
    refine ⟨m9, ?_, f9, h9⟩
    rw [fX10_askWhen_c25]
    dsimp only
    rw [if_pos (show Int32.ofNat i < 10 from (nn_lt (k := 10) (by omega) (by decide)).mpr (by omega))]
    refine bs eB (bs pB' ?_)
    dsimp only
    rw [hC]
    refine bs (show fX10_grow C 1 = some m7 from e7) (bs (c_place_n m7 593 _ (n := 10) (b := i) rfl (by decide) (by omega)) ?_)
    rw [nn_s]
    exact e9
theorem c_when_l {m0 : mm_MM} {o : Option (List Cla)} (ho : HoldC m0 o) {y f s v l : Int32} (ey : m0.1 14 5 = y) (ef : m0.1 14 6 = f) (hy : ¬ y ≤ 0) {t1 : Nat} (ht : t1 < 583) (es : m0.1 t1 2 = s) (hs : 0 ≤ s ∧ s ≤ 5) (hq : bdQ (v, l, 0)) {x2 : Int32} {a : Nat → Int32} (ha : ∀ n m, (∀ j, j < 10 → m.1 593 j = (it o y f s (Int32.ofNat j) 0 n (v, l, 0)).1) → fX10_mostAlike m x2 = some (a n, m)) : ∀ (k N : Nat) (w e : Int32) (m : mm_MM) (g : Nat), N + k = 24 → k < g → fr WV m0 m → (∀ j, j < 10 → m.1 593 j = (it o y f s (Int32.ofNat j) 0 N (v, l, 0)).1) → ∃ m', fX10_askWhen_c15 g m t1 x2 w e (ldn f N l 0) (Int32.ofNat (N + 1)) = some (asN a k (N + 1) w e, m') ∧ fr WV m0 m' := by
  intro k
  induction k with
  | zero =>
    intro N w e m g hi hg hf h1
    obtain ⟨g, rfl⟩ : ∃ h, g = h + 1 := ⟨g - 1, by omega⟩
    obtain rfl : N = 24 := by omega
    refine ⟨m, ?_, hf⟩
    rw [fX10_askWhen_c15, asN]
    dsimp only
    rw [if_neg (show ¬ Int32.ofNat (24 + 1) ≤ 24 by decide)]
  | succ k ih =>
    intro N w e m g hi hg hf h1
    obtain ⟨g, rfl⟩ : ∃ h, g = h + 1 := ⟨g - 1, by omega⟩
    obtain ⟨m2, e2, f2, h2⟩ := c_when1_l ho ey ef hy ht es hs hq (fX10_askWhen_c15 g) x2 w e (N := N) (by omega) 10 0 m fu rfl (by decide) hf (fun j h => by omega) (fun j _ h => h1 j h) (fun h => by omega)
    rw [fX10_askWhen_c15, asN]
    dsimp only
    rw [if_pos (show Int32.ofNat (N + 1) ≤ 24 from (nn_le (k := 24) (by omega) (by decide)).mpr (by omega))]
    have e2 : fX10_askWhen_c25 (fX10_askWhen_c15 g) fu m t1 x2 w e (ldn f N l 0) (Int32.ofNat (N + 1)) 0 = _ := e2
    rw [e2, ha (N + 1) m2 h2]
    simp only [Option.bind_some]
    by_cases c : a (N + 1) < e
    · rw [if_pos c, if_pos c]; exact ih (N + 1) _ _ m2 g (by omega) (by omega) f2 h2
    · rw [if_neg c, if_neg c]; exact ih (N + 1) _ _ m2 g (by omega) (by omega) f2 h2
/-! the reference -/
theorem r_askP_l {m0 : mm_MM} {q : Nat → Int32} {r x2 : Int32} (hq : ∀ i, i < 10 → ∀ m, frB m0 m → ∃ m', fX11_isDamp m r (Int32.ofNat i) = some (q i, m') ∧ frD m m') (h01 : ∀ i, q i = 0 ∨ q i = 1) : ∀ (n i : Nat) (m : mm_MM) (g : Nat), i + n = 10 → n < g → frB m0 m → (∀ j, j < i → m.1 637 j = q j) → ∃ m', fX11_ask_c30 g m r x2 (Int32.ofNat i) = fX11_ask_c62 fu m' r x2 (-1) 0 1 ∧ frB m0 m' ∧ ∀ j, j < 10 → m'.1 637 j = q j := by
  intro n
  induction n with
  | zero =>
    intro i m g hi hg hf hj
    obtain ⟨g, rfl⟩ : ∃ h, g = h + 1 := ⟨g - 1, by omega⟩
    obtain rfl : i = 10 := by omega
    refine ⟨m, ?_, hf, hj⟩
    rw [fX11_ask_c30]
    exact if_neg (show ¬ Int32.ofNat 10 ≤ 9 by decide)
  | succ n ih =>
    intro i m g hi hg hf hj
    obtain ⟨g, rfl⟩ : ∃ h, g = h + 1 := ⟨g - 1, by omega⟩
    obtain ⟨m2, e2, f2⟩ := hq i (by omega) m hf
    have f3 : frB m0 (wI m2 637 i (q i)) := by
      refine frB_trans hf (frB_trans f2.1 ⟨fun a k z => wI_ne (fun e => ?_), rfl, rfl⟩)
      subst e; simp [WQ] at z
    obtain ⟨m4, e4, f4, h4⟩ := ih (i + 1) (wI m2 637 i (q i)) g (by omega) (by omega) f3 (fun j h => by
      by_cases e : j = i
      · subst e; rw [wI_eq]
      · rw [wI_nk e, f2.2 637 j (Or.inr rfl)]; exact hj j (by omega))
    refine ⟨m4, ?_, f4, h4⟩
    rw [fX11_ask_c30]
    dsimp only
    rw [if_pos (show Int32.ofNat i ≤ 9 from (nn_le (k := 9) (by omega) (by decide)).mpr (by omega)), e2]
    simp only [Option.bind_some]
    rw [nn_go (by omega) (by omega), if_pos (h01 i), nn_tn (by omega), nn_s]
    exact e4
theorem r_when1_l {m0 : mm_MM} {q U : Nat → Int32} {r b : Int32} {N : Nat} (hU : ∀ j, j < 10 → ∀ m, frB m0 m → ∃ m', fX11_toldValue m b r (Int32.ofNat j) (Int32.ofNat N) = some (U j, m') ∧ frD m m') (kr : mm_MM → Int32 → Int32 → Int32 → Int32 → Int32 → Option (Int32 × mm_MM)) (x3 x4 : Int32) : ∀ (n i : Nat) (m : mm_MM) (g : Nat), i + n = 10 → n < g → frB m0 m → (∀ j, j < 10 → m.1 637 j = q j) → (∀ j, j < i → ¬ q j = 0 → m.1 636 j = U j) → ∃ m', fX11_ask_c72 kr g m r b x3 x4 (Int32.ofNat N) (Int32.ofNat i) = ((fX11_mostAlike m').bind fun r4 => if x3 = ((-1) : Int32) then kr r4.2 r b (Int32.ofNat N) r4.1 (Int32.ofNat (N + 1)) else if r4.1 < x4 then kr r4.2 r b (Int32.ofNat N) r4.1 (Int32.ofNat (N + 1)) else kr r4.2 r b x3 x4 (Int32.ofNat (N + 1))) ∧ frB m0 m' ∧ (∀ j, j < 10 → m'.1 637 j = q j) ∧ ∀ j, j < 10 → ¬ q j = 0 → m'.1 636 j = U j := by
  intro n
  induction n with
  | zero =>
    intro i m g hi hg hf hj hu
    obtain ⟨g, rfl⟩ : ∃ h, g = h + 1 := ⟨g - 1, by omega⟩
    obtain rfl : i = 10 := by omega
    refine ⟨m, ?_, hf, hj, hu⟩
    rw [fX11_ask_c72]
    dsimp only
    rw [if_neg (show ¬ Int32.ofNat 10 ≤ 9 by decide)]
    simp only [fX11_ask_c134, fX11_ask_c141, nn_s]
  | succ n ih =>
    intro i m g hi hg hf hj hu
    obtain ⟨g, rfl⟩ : ∃ h, g = h + 1 := ⟨g - 1, by omega⟩
    have w6 : ∀ (M : mm_MM) (x : Int32), frB m0 M → frB m0 (wI M 636 i x) := fun M x hM => by
      refine frB_trans hM ⟨fun a k z => wI_ne (fun e => ?_), rfl, rfl⟩
      subst e; simp [WQ] at z
    rw [fX11_ask_c72]
    dsimp only
    rw [if_pos (show Int32.ofNat i ≤ 9 from (nn_le (k := 9) (by omega) (by decide)).mpr (by omega)), nn_go (by omega) (by omega), nn_tn (by omega), hj i (by omega)]
    by_cases c : q i = 0
    · rw [if_pos c]
      simp only [fX11_ask_c109]
      rw [nn_go (by omega) (by omega), nn_tn (by omega), nn_s]
      exact ih (i + 1) (wI m 636 i 0) g (by omega) (by omega) (w6 m 0 hf) (fun j h => by rw [wI_ne (by decide)]; exact hj j h) (fun j h hq => by
        rw [wI_nk (fun e => hq (by rw [e]; exact c))]
        exact hu j (by
          have : ¬ j = i := fun e => hq (by rw [e]; exact c)
          omega) hq)
    · obtain ⟨m2, e2, f2⟩ := hU i (by omega) m hf
      rw [if_neg c, e2]
      simp only [Option.bind_some, fX11_ask_c109]
      rw [nn_go (by omega) (by omega), nn_tn (by omega), nn_s]
      exact ih (i + 1) (wI m2 636 i (U i)) g (by omega) (by omega) (w6 m2 _ (frB_trans hf f2.1)) (fun j h => by rw [wI_ne (by decide), f2.2 637 j (Or.inr rfl)]; exact hj j h) (fun j h hq => by
        by_cases e : j = i
        · subst e; rw [wI_eq]
        · rw [wI_nk e, f2.2 636 j (Or.inl rfl)]; exact hu j (by omega) hq)
theorem r_when_l {m0 : mm_MM} {q : Nat → Int32} {U : Nat → Nat → Int32} {r b : Int32} (hU : ∀ N, N ≤ 24 → ∀ j, j < 10 → ∀ m, frB m0 m → ∃ m', fX11_toldValue m b r (Int32.ofNat j) (Int32.ofNat N) = some (U N j, m') ∧ frD m m') {a : Nat → Int32} (ha : ∀ n m, (∀ j, j < 10 → m.1 637 j = q j) → (∀ j, j < 10 → ¬ q j = 0 → m.1 636 j = U n j) → fX11_mostAlike m = some (a n, m)) : ∀ (k N : Nat) (w e : Int32) (m : mm_MM) (g : Nat), N + k = 25 → k < g → frB m0 m → (∀ j, j < 10 → m.1 637 j = q j) → ¬ w = -1 → ∃ m', fX11_ask_c62 g m r b w e (Int32.ofNat N) = some (asN a k N w e, m') ∧ frB m0 m' := by
  intro k
  induction k with
  | zero =>
    intro N w e m g hi hg hf h1 hw
    obtain ⟨g, rfl⟩ : ∃ h, g = h + 1 := ⟨g - 1, by omega⟩
    obtain rfl : N = 25 := by omega
    refine ⟨m, ?_, hf⟩
    rw [fX11_ask_c62, asN]
    dsimp only
    rw [if_neg (show ¬ Int32.ofNat 25 ≤ 24 by decide)]
  | succ k ih =>
    intro N w e m g hi hg hf h1 hw
    obtain ⟨g, rfl⟩ : ∃ h, g = h + 1 := ⟨g - 1, by omega⟩
    obtain ⟨m2, e2, f2, h2, u2⟩ := r_when1_l (q := q) (hU N (by omega)) (fX11_ask_c62 g) w e 10 0 m fu rfl (by decide) hf h1 (fun j h => by omega)
    have e2 : fX11_ask_c72 (fX11_ask_c62 g) fu m r b w e (Int32.ofNat N) 0 = _ := e2
    rw [fX11_ask_c62, asN]
    dsimp only
    rw [if_pos (show Int32.ofNat N ≤ 24 from (nn_le (k := 24) (by omega) (by decide)).mpr (by omega)), e2, ha N m2 h2 u2]
    simp only [Option.bind_some, if_neg hw]
    by_cases c : a N < e
    · rw [if_pos c, if_pos c]; exact ih (N + 1) _ _ m2 g (by omega) (by omega) f2 h2 (ofN_ne (by omega))
    · rw [if_neg c, if_neg c]; exact ih (N + 1) _ _ m2 g (by omega) (by omega) f2 h2 hw
theorem q_ask (hi : Inv m) (r x : Int32) : EQ m (fun m => fX10_ask m r x) (fun m => fX11_ask m r x) := by
  obtain ⟨W, H, P, ls, h⟩ := id hi
  have hs := see0 h
  have e25 : m.1 606 25 = m.1 14 9 := by obtain ⟨n, -, n2, n3, -⟩ := told_n h; rw [n2, n3]
  have rT := r_isTold h hs.2.1 e25 x
  have rR := r_isRw h hs r
  have cT := c_toldThing h x
  by_cases ht : isRw (m.1 0 14) (m.1 14 9) x
  · obtain ⟨nt, t1, t2, -, -, tt⟩ := told_n h
    have tb := (nn_ltk ht.2.1 (by omega)).mp (t2 ▸ ht.2.2)
    have hkd : mm_kd (17 + x.toNatClampNeg) = (9, 6) := kd_t (by omega)
    have ex := nn_of ht.2.1
    obtain ⟨-, T622, T0, T1, T3⟩ := tt _ tb
    rw [if_pos ht] at rT cT
    by_cases hr : isRw (m.1 0 14) (m.1 14 4) r
    · rw [if_pos hr] at rR
      have hk : m.1 0 14 = 1 := h.1.2.1.resolve_left hr.1
      obtain ⟨o, t, htt, EC, ER⟩ := IA_env h hk
      have er := nn_of hr.2.1
      have hrH : r.toNatClampNeg < H := (nn_ltk hr.2.1 (by have := EC.1.2.2.2; omega)).mp (EC.2.2.1 ▸ hr.2.2)
      obtain ⟨s, s10, s5, s6, -, sg⟩ := h.2.2.2.2.2.2
      generalize hq : (fun i => dmpN m o r (Int32.ofNat i) s 0) = q
      have q01 : ∀ i, q i = 0 ∨ q i = 1 := fun i => by rw [← hq]; exact dmpN_01 _ _
      have hsb : ∀ i, i < s → (m.1 578 i).toNatClampNeg < 8 := fun i hi => by
        obtain ⟨-, -, -, p4, p5, -⟩ := sg i hi
        have := (nn_ltk p4 (by omega)).mp (t2 ▸ p5)
        omega
      have hqc : ∀ i, i < 10 → ∀ M, fr WV m M → ∃ m', fX10_mayBeSoDamp M r (Int32.ofNat i) = some (q i, m') ∧ fr WG M m' := fun i hi M hM => by
        have hA : InvA M W H P ls := InvA_q (fr_mono WV_Q hM) h
        have lo : ∀ a k, a < 583 → M.1 a k = m.1 a k := fun a k z => hM.1 a k (WV_lo z)
        have sgM : ∀ i, i < s → sigI M i := fun i hi => by
          obtain ⟨s', z1, z2, z3, -, z5⟩ := hA.2.2.2.2.2.2
          have : s' = s := nn_inj (by omega) (by omega) (z2.symm.trans ((lo 577 5 (by decide)).trans s5))
          exact z5 i (by omega)
        obtain ⟨m', e', f'⟩ := c_damp_l hA ((lo 0 14 (by decide)).trans hk) (HoldC_WV hM EC.2.2.2.2.1) (r := r) (j := Int32.ofNat i) (d_ok hi) s10 ((lo 577 5 (by decide)).trans s5) sgM s 0 M fu (by omega) (by unfold fu; omega) (fr_refl _ _)
        refine ⟨m', ?_, f'⟩
        rw [← hq]
        show fX10_mayBeSoDamp_c2 fu M r (Int32.ofNat i) 0 = _
        rw [dmpN_cg lo hsb s 0 (by omega)] at e'
        exact e'
      have hqr0 : ∀ i, i < 10 → ∀ M, frB m M → ∃ m', fX11_isDamp M r (Int32.ofNat i) = some (q i, m') ∧ frB m m' := fun i hi M hM => by
        have := r_damp_l h hk ER hrH (d_ok hi) s10 s6 sg s 0 M fu (by omega) (by unfold fu; omega) hM
        rw [← er] at this
        rw [← hq]; exact this
      have hqr : ∀ i, i < 10 → ∀ M, frB m M → ∃ m', fX11_isDamp M r (Int32.ofNat i) = some (q i, m') ∧ frD M m' := fun i hi M hM => by
        have hA : InvA M W H P ls := by
          have : InvA (M.1, m.2) W H P ls := InvA_q ⟨hM.1, fun _ _ _ => rfl⟩ h
          exact InvA_2 this
        have lo : ∀ a k, a < 583 → M.1 a k = m.1 a k := fun a k z => by
          by_cases w : a < 29 ∨ (42 ≤ a ∧ a < 55) ∨ 577 ≤ a
          · exact hM.1 a k (WA_q (by omega))
          · exact hM.1 a k (WQ_f (by omega))
        have sgM : ∀ i, i < s → sigI M i := fun i hi => by
          obtain ⟨s', z1, z2, z3, -, z5⟩ := hA.2.2.2.2.2.2
          have : s' = s := nn_inj (by omega) (by omega) (z2.symm.trans ((lo 577 5 (by decide)).trans s5))
          exact z5 i (by omega)
        have e47 : M.1 606 47 = Int32.ofNat s := (hM.1 606 47 (WA_q (by omega))).trans s6
        obtain ⟨m', e', f'⟩ := r_damp2_l hA ((lo 0 14 (by decide)).trans hk) (EnvR_B hM ER) hrH (j := Int32.ofNat i) (d_ok hi) s10 e47 sgM s 0 M fu (by omega) (by unfold fu; omega) (frD_refl _)
        refine ⟨m', ?_, f'⟩
        rw [← hq]
        show fX11_isDamp_c2 fu M r (Int32.ofNat i) 0 = _
        rw [dmpN_cg lo hsb s 0 (by omega), ← er] at e'
        exact e'
      generalize hv : m.1 (17 + x.toNatClampNeg) 1 = v at T0
      generalize hst : m.1 (17 + x.toNatClampNeg) 2 = st at T1
      generalize hl : m.1 (17 + x.toNatClampNeg) 4 = l at T3
      generalize hU : (fun N j => (it o (m.1 14 5) (m.1 14 6) st (Int32.ofNat j) 0 N (v, l, 0)).1 : Nat → Nat → Int32) = U
      have hbq : bdQ (v, l, 0) := ⟨T0, T3⟩
      obtain ⟨m7, e7, f7, h7⟩ := c_askP_l (m0 := m) (q := q) (r := r) (t3 := 17 + x.toNatClampNeg) (by omega) hqc 10 0 0 m fu rfl (by decide) (fr_refl _ _) (fun j h => by omega)
      have e7 : fX10_ask_c26 fu m r (17 + x.toNatClampNeg) 0 0 = _ := e7
      have cask : fX10_ask m r x = fX10_ask_c26 fu m r (17 + x.toNatClampNeg) 0 0 := by
        simp only [fX10_ask, cT, Option.bind_some, if_pos hkd, c_isRow, if_pos hr, if_neg (show ¬ (1 : Int32) = 0 by decide)]
      generalize ha : (fun n => almN (fun i => ¬ q i = 0) (U n) 10 0 0) = a
      have a10 : ∀ n, ∃ z, z ≤ 10 ∧ a n = Int32.ofNat z := fun n => by rw [← ha]; exact alm_b _ _ 10 0 0 (by decide)
      -- the class's end, whatever the mask
      have cend : ∃ m8, fX10_ask m r x = some (if (∀ i, i < 10 → q i = 0) then -1 else asN a 24 1 (-1) 11, m8) ∧ fr WV m m8 := by
        rw [cask, e7]
        by_cases hall : ∀ i, i < 10 → q i = 0
        · refine ⟨m7, ?_, f7⟩
          rw [if_pos hall, if_pos ((mk10_0 (qB q)).mpr (fun i hi => decide_eq_false (fun z => z (hall i hi))))]
        · have hnz : ¬ owN (qB q) 10 0 0 = 0 := fun z => hall (fun i hi => by
            have := (mk10_0 _).mp z i hi
            exact Decidable.not_not.mp (of_decide_eq_false this))
          rw [if_neg hall, if_neg hnz]
          obtain ⟨m8, e8, f8⟩ := c_when_l (m0 := m) EC.2.2.2.2.1 rfl rfl EC.2.2.2.1 (t1 := 17 + x.toNatClampNeg) (by omega) hst T1 hbq (x2 := owN (qB q) 10 0 0) (a := a) (fun n M hM => by
            rw [← ha]
            refine c_alike (p := fun i => ¬ q i = 0) (v := U n) (fun i j hi hj => mk10_two q hi hj) (fun i hi _ => ?_) 10 0 0 fu rfl (by decide)
            rw [← hU]; exact hM i hi) 24 0 (-1) 11 m7 fu rfl (by decide) f7 (fun j hj => (h7 j hj).trans hv)
          refine ⟨m8, ?_, f8⟩
          have hw : fX10_askWhen m7 (17 + x.toNatClampNeg) (owN (qB q) 10 0 0) = some (asN a 24 1 (-1) 11, m8) := by
            unfold fX10_askWhen
            rw [(f7.1 _ 4 (WV_lo (by omega))).trans hl]
            exact e8
          exact bs hw rfl
      obtain ⟨m8, e8, f8⟩ := cend
      have i8 : Inv m8 := Inv_q (fr_mono WV_Q f8) hi
      have b8 : frB m m8 := ⟨fun a k z => f8.1 a k (WV_Q a k z), f8.2 0 19 (WV_lo (by decide)), f8.2 606 35 (WV_hi (by decide))⟩
      have h8 : InvA m8 W H P ls := InvA_q (fr_mono WV_Q f8) h
      have rR8 : fX11_isRow m8 r = some (1, m8) := by
        have := r_isRw h8 (see0 h8) r
        rw [f8.1 0 14 (WV_lo (by decide)), f8.1 14 4 (WV_lo (by decide)), if_pos hr] at this
        exact this
      have rT8 : fX11_isTold m8 x = some (1, m8) := by
        have := r_isTold h (m1 := m8) ((f8.1 606 26 (WV_hi (by decide))).trans hs.2.1) ((f8.1 606 25 (WV_hi (by decide))).trans e25) x
        rw [if_pos ht] at this
        exact this
      obtain ⟨m9, e9, f9⟩ := r_damps_l (m0 := m) (r := r) (x := 0) (q := q) hqr0 10 0 0 m8 fu rfl (by decide) b8
      have e9 : fX11_damps m8 r 0 = some (dmsN q 0 10 0 0, m9) := by
        simp only [fX11_damps, rR8, Option.bind_some, if_neg (show ¬ (1 : Int32) = 0 by decide), if_neg (show ¬ (0 : Int32) < -1 by decide)]
        exact e9
      have hno := (dms_no (q := q) 10 0).resolve_right (by decide)
      by_cases hall : ∀ i, i < 10 → q i = 0
      · rw [if_pos hall] at e8
        refine ⟨-1, m8, m9, e8, ?_, Inv_B f9 hi⟩
        simp only [fX11_ask, rR8, rT8, e9, Option.bind_some, if_neg (show ¬ (1 : Int32) = 0 by decide)]
        rw [if_pos (hno.mpr (fun j _ h2 => hall j (by omega)))]
        rfl
      · rw [if_neg hall] at e8
        obtain ⟨m10, e10, f10, h10⟩ := r_askP_l (m0 := m) (q := q) (r := r) (x2 := x) hqr q01 10 0 m9 fu rfl (by decide) f9 (fun j h => by omega)
        have e10 : fX11_ask_c30 fu m9 r x 0 = _ := e10
        have hUr : ∀ N, N ≤ 24 → ∀ j, j < 10 → ∀ M, frB m M → ∃ m', fX11_toldValue M x r (Int32.ofNat j) (Int32.ofNat N) = some (U N j, m') ∧ frD M m' := fun N hN j hj M hM => by
          have w : ∀ k, k < 4 → M.1 622 (4 * x.toNatClampNeg + k) = m.1 (17 + x.toNatClampNeg) (k + 1) := fun k hk => (hM.1 _ _ (WA_q (by omega))).trans (T622 k hk).symm
          have w0 := w 0 (by decide)
          have w1 := w 1 (by decide)
          have w3 := w 3 (by decide)
          rw [Nat.add_zero, hv] at w0
          rw [hst] at w1
          rw [hl] at w3
          have u : ∀ k, M.1 620 k = m.1 620 k := fun k => hM.1 _ _ (WA_q (by omega))
          obtain ⟨m', e', f'⟩ := r_told2 (N := N) (EnvR_B hM ER) (show x.toNatClampNeg < 8 by omega) hrH (by omega) (Int32.ofNat j) (d_ok hj) (by rw [w0]; exact T0) (by rw [w1]; exact T1) (by rw [w3]; exact T3)
          refine ⟨m', ?_, f'⟩
          rw [w0, w1, w3, u, u, hs.2.2.2.2.1, hs.2.2.2.2.2.1, ← ex, ← er] at e'
          rw [← hU]; exact e'
        have har : ∀ n M, (∀ j, j < 10 → M.1 637 j = q j) → (∀ j, j < 10 → ¬ q j = 0 → M.1 636 j = U n j) → fX11_mostAlike M = some (a n, M) := fun n M h1 h2 => by
          rw [← ha]
          exact r_alike (p := fun i => ¬ q i = 0) (v := U n) (fun i hi => by rw [h1 i hi]) h2 10 0 0 fu rfl (by decide)
        obtain ⟨z1, hz1, ez1⟩ := a10 1
        have l11 : a 1 < 11 := by rw [ez1]; exact (nn_lt (k := 11) (by omega) (by decide)).mpr (by omega)
        obtain ⟨g, hg, hgK⟩ : ∃ g, fu = g + 1 ∧ 100 < g := ⟨19999, rfl, by decide⟩
        obtain ⟨m11, e11, f11, h11, u11⟩ := r_when1_l (m0 := m) (q := q) (U := U 1) (r := r) (b := x) (N := 1) (hUr 1 (by decide)) (fX11_ask_c62 g) (-1) 0 10 0 m10 fu rfl (by decide) f10 h10 (fun j h => by omega)
        have e11 : fX11_ask_c72 (fX11_ask_c62 g) fu m10 r x (-1) 0 (Int32.ofNat 1) 0 = _ := e11
        obtain ⟨m12, e12, f12⟩ := r_when_l (m0 := m) (q := q) (U := U) (r := r) (b := x) hUr har 23 2 (Int32.ofNat 1) (a 1) m11 g rfl (by omega) f11 h11 (ofN_ne (by decide))
        refine ⟨asN a 24 1 (-1) 11, m8, m12, e8, ?_, Inv_B f12 hi⟩
        simp only [fX11_ask, rR8, rT8, e9, Option.bind_some, if_neg (show ¬ (1 : Int32) = 0 by decide)]
        rw [if_neg (fun z => hall (fun i hi => hno.mp z i (by omega) (by omega))), e10, hg, fX11_ask_c62]
        dsimp only
        rw [if_pos (show (1 : Int32) ≤ 24 by decide)]
        refine Eq.trans e11 ?_
        rw [har 1 m11 h11 u11]
        simp only [Option.bind_some, if_true]
        rw [asN, if_pos l11]
        exact e12
    · rw [if_neg hr] at rR
      refine EQ_0 (v := -1) hi ?_ ?_
      · simp only [fX10_ask, cT, Option.bind_some, if_pos hkd, c_isRow, if_neg hr, if_true, fX10_ask_c18]
      · simp only [fX11_ask, rR, Option.bind_some, if_true, fX11_ask_c26]
  · rw [if_neg ht] at rT cT
    refine EQ_0 (v := -1) hi ?_ ?_
    · simp only [fX10_ask, cT, Option.bind_some, fX10_ask_c18]
    · by_cases hr : isRw (m.1 0 14) (m.1 14 4) r
      · rw [if_pos hr] at rR
        simp only [fX11_ask, rR, rT, Option.bind_some, if_true, if_neg (show ¬ (1 : Int32) = 0 by decide), fX11_ask_c26]
      · rw [if_neg hr] at rR
        simp only [fX11_ask, rR, Option.bind_some, if_true, fX11_ask_c26]
end ASK2
