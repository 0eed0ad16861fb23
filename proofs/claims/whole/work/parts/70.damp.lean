/-! MAY IT BE SO DAMP: all that was seen in a row -/
section DMP
variable {m m1 : mm_MM} {W H : Nat} {P : List Vw} {ls : Nat → List Cla}
/-- what told thing of signal i would be worth -/
def tvI (m : mm_MM) (o : Option (List Cla)) (j : Int32) (i : Nat) : Int32 := (it o (m.1 14 5) (m.1 14 6) (m.1 (17 + (m.1 578 i).toNatClampNeg) 2) j 0 (m.1 580 i).toNatClampNeg (m.1 (17 + (m.1 578 i).toNatClampNeg) 1, m.1 (17 + (m.1 578 i).toNatClampNeg) 4, 0)).1
def dmpN (m : mm_MM) (o : Option (List Cla)) (r j : Int32) : Nat → Nat → Int32
  | 0, _ => 1
  | n + 1, i => if m.1 579 i = r then (if (if tvI m o j i < m.1 581 i then (0 : Int32) else 1) = m.1 582 i then dmpN m o r j n (i + 1) else 0) else dmpN m o r j n (i + 1)
theorem c_damp_l {m0 : mm_MM} {o : Option (List Cla)} (h0 : InvA m0 W H P ls) (hk : m0.1 0 14 = 1) (ho : HoldC m0 o) {r j : Int32} (hj : 0 ≤ j ∧ j ≤ 9) {s : Nat} (hs10 : s ≤ 10) (es : m0.1 577 5 = Int32.ofNat s) (hsig : ∀ i, i < s → sigI m0 i) : ∀ (n i : Nat) (m : mm_MM) (g : Nat), i + n = s → n < g → fr WG m0 m → ∃ m', fX10_mayBeSoDamp_c2 g m r j (Int32.ofNat i) = some (dmpN m0 o r j n i, m') ∧ fr WG m0 m' := by
  intro n
  induction n with
  | zero =>
    intro i m g hi hg hf
    obtain ⟨g, rfl⟩ : ∃ h, g = h + 1 := ⟨g - 1, by omega⟩
    refine ⟨m, ?_, hf⟩
    have e5 : m.1 577 5 = Int32.ofNat s := (hf.1 577 5 (WG_lo (by decide))).trans es
    rw [fX10_mayBeSoDamp_c2, dmpN]
    simp only [fX5_size, Option.bind_some, e5]
    rw [if_neg (fun z => by have := (nn_lt (by omega) (by omega)).mp z; omega)]
  | succ n ih =>
    intro i m g hi hg hf
    obtain ⟨g, rfl⟩ : ∃ h, g = h + 1 := ⟨g - 1, by omega⟩
    have e5 : m.1 577 5 = Int32.ofNat s := (hf.1 577 5 (WG_lo (by decide))).trans es
    obtain ⟨p1, p2, p3, p4, p5, p6, p7⟩ := hsig i (by omega)
    obtain ⟨N, N1, N2, eN⟩ := p3
    have hA : InvA m W H P ls := InvA_q (fr_mono WG_Q hf) h0
    have w : ∀ a k, a < 583 → m.1 a k = m0.1 a k := fun a k ha => hf.1 a k (WG_lo ha)
    obtain ⟨nt, t1, t2, -, -, tt⟩ := told_n h0
    have tb := (nn_ltk p4 (by omega)).mp (t2 ▸ p5)
    obtain ⟨-, -, T0, T1, T3⟩ := tt _ tb
    have hrw : isRw (m.1 0 14) (m.1 14 9) (m0.1 578 i) := ⟨by rw [w 0 14 (by decide)]; exact kn_ne hk, p4, by rw [w 14 9 (by decide)]; exact p5⟩
    have hto := c_toldThing hA (m0.1 578 i)
    rw [if_pos hrw] at hto
    have hkd : mm_kd (17 + (m0.1 578 i).toNatClampNeg) = (9, 6) := kd_t (by omega)
    have hlt : Int32.ofNat i < Int32.ofNat s := (nn_lt (by omega) (by omega)).mpr (by omega)
    have pk : ∀ (M : mm_MM) a, 578 ≤ a → a < 583 → fr WG m0 M → fX10_pick M a (Int32.ofNat i) = some (m0.1 a i, M) := fun M a z1 z2 hM => by
      have := c_pick_n M a (n := 10) (b := i) (by obtain rfl | rfl | rfl | rfl | rfl : a = 578 ∨ a = 579 ∨ a = 580 ∨ a = 581 ∨ a = 582 := by omega
                                                  all_goals rfl) (by decide) (by omega)
      rw [this, hM.1 a i (WG_lo z2)]
    by_cases hr : m0.1 579 i = r
    · obtain ⟨m2, e2, f2⟩ := c_alone (m := m) (o := o) (u := 17 + (m0.1 578 i).toNatClampNeg) (N := N) (by omega) (HoldC_WG hf ho) (by
        obtain ⟨-, -, -, ⟨Y, y1, y2, y3⟩, -⟩ := h0.1.2.2.2.2.1 hk
        rw [w 14 5 (by decide), y3, show (0 : Int32) = Int32.ofNat 0 from rfl, nn_le (by omega) (by decide)]; omega) hj (by rw [w _ _ (by omega)]; exact T0) (by rw [w _ _ (by omega)]; exact T1) (by rw [w _ _ (by omega)]; exact T3) (by omega)
      have hv : (it o (m.1 14 5) (m.1 14 6) (m.1 (17 + (m0.1 578 i).toNatClampNeg) 2) j 0 N (m.1 (17 + (m0.1 578 i).toNatClampNeg) 1, m.1 (17 + (m0.1 578 i).toNatClampNeg) 4, 0)).1 = tvI m0 o j i := by
        unfold tvI
        rw [w 14 5 (by decide), w 14 6 (by decide), w _ 2 (by omega), w _ 1 (by omega), w _ 4 (by omega), eN, nn_tn (by omega)]
      rw [hv] at e2
      have f2' : fr WG m0 m2 := fr_trans hf f2
      obtain ⟨m3, e3, f3⟩ := ih (i + 1) m2 g (by omega) (by omega) f2'
      have key : ∀ v : Int32, ∃ m', fX10_mayBeSoDamp_c88 (fX10_mayBeSoDamp_c2 g) m2 r j (Int32.ofNat i) v = some (if v = m0.1 582 i then dmpN m0 o r j n (i + 1) else 0, m') ∧ fr WG m0 m' := by
        intro v
        simp only [fX10_mayBeSoDamp_c88, pk m2 582 (by decide) (by decide) f2', Option.bind_some, fX10_mayBeSoDamp_c112, fX10_mayBeSoDamp_c117, nn_s]
        rcases p2 with p2 | p2
        · rw [p2, if_neg (show ¬ (0 : Int32) = 1 by decide)]
          by_cases c : v = 0
          · rw [if_pos c, if_pos c]; exact ⟨m3, e3, f3⟩
          · rw [if_neg c, if_neg c]; exact ⟨m2, rfl, f2'⟩
        · rw [p2, if_pos rfl]
          by_cases c : v = 1
          · rw [if_pos c, if_pos c]; exact ⟨m3, e3, f3⟩
          · rw [if_neg c, if_neg c]; exact ⟨m2, rfl, f2'⟩
      rw [fX10_mayBeSoDamp_c2, dmpN, if_pos hr]
      simp only [fX5_size, Option.bind_some, e5, if_pos hlt, pk m 578 (by decide) (by decide) hf, hto, if_pos hkd, pk m 579 (by decide) (by decide) hf, if_pos hr, pk m 580 (by decide) (by decide) hf, eN, e2, pk m2 581 (by decide) (by decide) f2']
      by_cases c : tvI m0 o j i < m0.1 581 i
      · rw [if_pos c, if_pos c]; exact key 0
      · rw [if_neg c, if_neg c]; exact key 1
    · obtain ⟨m3, e3, f3⟩ := ih (i + 1) m g (by omega) (by omega) hf
      refine ⟨m3, ?_, f3⟩
      rw [fX10_mayBeSoDamp_c2, dmpN, if_neg hr]
      simp only [fX5_size, Option.bind_some, e5, if_pos hlt, pk m 578 (by decide) (by decide) hf, hto, if_pos hkd, pk m 579 (by decide) (by decide) hf, if_neg hr, fX10_mayBeSoDamp_c117, nn_s]
      exact e3
theorem frB_refl (m : mm_MM) : frB m m := ⟨fun _ _ _ => rfl, rfl, rfl⟩
theorem frB_trans {a b c : mm_MM} (h : frB a b) (h' : frB b c) : frB a c := ⟨fun x k z => (h'.1 x k z).trans (h.1 x k z), h'.2.1.trans h.2.1, h'.2.2.trans h.2.2⟩
theorem WA_q {a k : Nat} (h : a < 29 ∨ (42 ≤ a ∧ a < 55) ∨ (577 ≤ a ∧ a < 583) ∨ (a = 607 ∨ (608 ≤ a ∧ a < 615) ∨ (617 ≤ a ∧ a < 623) ∨ (631 ≤ a ∧ a < 636) ∨ a = 638) ∨ (a = 606 ∧ (k = 2 ∨ k = 13 ∨ k = 25 ∨ k = 26 ∨ k = 29 ∨ k = 30 ∨ k = 47 ∨ k = 51))) : WQ a k = false := WA_Q _ _ (WA_f h)
theorem EnvR_B {o : Option (List Cla)} {t : Nat} (hB : frB m m1) (E : EnvR m W H o t) : EnvR m1 W H o t := by
  obtain ⟨hL, a0, a1, hy, hH, hTB, hD, h49, ht⟩ := E
  have u : ∀ k, m1.1 620 k = m.1 620 k := fun k => hB.1 _ _ (WA_q (by omega))
  have n23 : ∀ k, m1.1 623 k = m.1 623 k := fun k => hB.1 _ _ (WQ_f (by omega))
  refine ⟨hL, (u 0).trans a0, (u 1).trans a1, by rw [u 2]; exact hy, ?_, by rw [thr_now (fun k _ => n23 k)]; exact hTB, fun r hr => by rw [hB.1 621 r (WA_q (by omega))]; exact hD r hr, (n23 49).trans h49, ht⟩
  have e29 : m1.1 606 29 = m.1 606 29 := hB.1 _ _ (WA_q (by omega))
  rcases hH with ⟨rfl, h1⟩ | ⟨h, cs, rfl, hh, h1, hl, hw⟩
  · exact Or.inl ⟨rfl, e29.trans h1⟩
  · exact Or.inr ⟨h, cs, rfl, hh, e29.trans h1, LawR_fr (fun a ha k => hB.1 _ _ (WA_q (by omega))) hl, hw⟩
theorem r_damp_l {m0 : mm_MM} {o : Option (List Cla)} {t : Nat} (h0 : InvA m0 W H P ls) (hk : m0.1 0 14 = 1) (E0 : EnvR m0 W H o t) {rr : Nat} (hrr : rr < H) {j : Int32} (hj : 0 ≤ j ∧ j ≤ 9) {s : Nat} (hs10 : s ≤ 10) (es : m0.1 606 47 = Int32.ofNat s) (hsig : ∀ i, i < s → sigI m0 i) : ∀ (n i : Nat) (m : mm_MM) (g : Nat), i + n = s → n < g → frB m0 m → ∃ m', fX11_isDamp_c2 g m (Int32.ofNat rr) j (Int32.ofNat i) = some (dmpN m0 o (Int32.ofNat rr) j n i, m') ∧ frB m0 m' := by
  intro n
  induction n with
  | zero =>
    intro i m g hi hg hf
    obtain ⟨g, rfl⟩ : ∃ h, g = h + 1 := ⟨g - 1, by omega⟩
    refine ⟨m, ?_, hf⟩
    have e5 : m.1 606 47 = Int32.ofNat s := (hf.1 606 47 (WA_q (by omega))).trans es
    rw [fX11_isDamp_c2, dmpN]
    dsimp only
    rw [e5, if_neg (fun z => by have := (nn_lt (by omega) (by omega)).mp z; omega)]
  | succ n ih =>
    intro i m g hi hg hf
    obtain ⟨g, rfl⟩ : ∃ h, g = h + 1 := ⟨g - 1, by omega⟩
    have e5 : m.1 606 47 = Int32.ofNat s := (hf.1 606 47 (WA_q (by omega))).trans es
    obtain ⟨⟨q1, q2, q3, q4, q5⟩, p2, ⟨N, N1, N2, eN⟩, p4, p5, p6, p7⟩ := hsig i (by omega)
    have w : ∀ M : mm_MM, frB m0 M → ∀ a k, 631 ≤ a → a < 636 → M.1 a k = m0.1 a k := fun M hM a k z1 z2 => hM.1 _ _ (WA_q (by omega))
    obtain ⟨nt, t1, t2, -, -, tt⟩ := told_n h0
    have tb := (nn_ltk p4 (by omega)).mp (t2 ▸ p5)
    obtain ⟨-, T622, T0, T1, T3⟩ := tt _ tb
    have eb := nn_of p4
    have hlt : Int32.ofNat i < Int32.ofNat s := (nn_lt (by omega) (by omega)).mpr (by omega)
    have w622 : ∀ k, k < 4 → m.1 622 (4 * (m0.1 578 i).toNatClampNeg + k) = m0.1 (17 + (m0.1 578 i).toNatClampNeg) (k + 1) := fun k hk => (hf.1 _ _ (WA_q (by omega))).trans (T622 k hk).symm
    have w620 : ∀ k, m.1 620 k = m0.1 620 k := fun k => hf.1 _ _ (WA_q (by omega))
    have hs0 := see0 h0
    have hgo : ∀ {α : Type} {A : Option α}, (if Int32.ofNat i < 0 ∨ 10 ≤ i then none else A) = A := fun {α A} => nn_gn (by omega) (by omega)
    have etn : (Int32.ofNat i).toNatClampNeg = i := nn_tn (by omega)
    by_cases hr : m0.1 579 i = Int32.ofNat rr
    · have E := EnvR_B hf E0
      have v0 := w622 0 (by decide)
      have v1 := w622 1 (by decide)
      have v3 := w622 3 (by decide)
      rw [Nat.add_zero] at v0
      obtain ⟨m2, e2, f2⟩ := r_told (N := N) E (show (m0.1 578 i).toNatClampNeg < 8 by omega) hrr (by omega) j hj (by rw [v0]; exact T0) (by rw [v1]; exact T1) (by rw [v3]; exact T3)
      have hv : (it o (m.1 620 2) (m.1 620 3) (m.1 622 (4 * (m0.1 578 i).toNatClampNeg + 1)) j 0 N (m.1 622 (4 * (m0.1 578 i).toNatClampNeg), m.1 622 (4 * (m0.1 578 i).toNatClampNeg + 3), 0)).1 = tvI m0 o j i := by
        unfold tvI
        rw [w620, w620, hs0.2.2.2.2.1, hs0.2.2.2.2.2.1, v0, v1, v3, eN, nn_tn (by omega)]
      rw [hv, ← eb] at e2
      have f2' : frB m0 m2 := frB_trans hf f2
      obtain ⟨m3, e3, f3⟩ := ih (i + 1) m2 g (by omega) (by omega) f2'
      have key : ∀ v : Int32, ∃ m', fX11_isDamp_c52 (fX11_isDamp_c2 g) m2 (Int32.ofNat rr) j (Int32.ofNat i) v = some (if v = m0.1 582 i then dmpN m0 o (Int32.ofNat rr) j n (i + 1) else 0, m') ∧ frB m0 m' := by
        intro v
        simp only [fX11_isDamp_c52, fX11_isDamp_c63, etn, hgo, w m2 f2' 635 _ (by decide) (by decide), ← q5, nn_s]
        by_cases c : v = m0.1 582 i
        · rw [if_pos c, if_pos c]; exact ⟨m3, e3, f3⟩
        · rw [if_neg c, if_neg c]; exact ⟨m2, rfl, f2'⟩
      rw [fX11_isDamp_c2, dmpN, if_pos hr]
      simp only [e5, if_pos hlt, etn, hgo, w m hf 632 _ (by decide) (by decide), w m hf 631 _ (by decide) (by decide), w m hf 633 _ (by decide) (by decide), ← q1, ← q2, ← q3, if_pos hr, eN, e2, Option.bind_some, w m2 f2' 634 _ (by decide) (by decide), ← q4]
      by_cases c : tvI m0 o j i < m0.1 581 i
      · rw [if_pos c, if_pos c]; exact key 0
      · rw [if_neg c, if_neg c]; exact key 1
    · obtain ⟨m3, e3, f3⟩ := ih (i + 1) m g (by omega) (by omega) hf
      refine ⟨m3, ?_, f3⟩
      rw [fX11_isDamp_c2, dmpN, if_neg hr]
      simp only [e5, if_pos hlt, etn, hgo, w m hf 632 _ (by decide) (by decide), ← q2, if_neg hr, fX11_isDamp_c63, nn_s]
      exact e3
end DMP
