/-! MAY IT BE SO DAMP: all that was seen in a row -/
section DMP
variable {m m1 : mm_MM} {W H : Nat} {P : List Vw} {ls : Nat → List Cla}
/-- what told thing of signal i would be worth -/
def tvI (m : mm_MM) (o : Option (List Cla)) (j : Int32) (i : Nat) : Int32 := (it o (m.1 14 5) (m.1 14 6) (m.1 (17 + (m.1 578 i).toNatClampNeg) 2) j 0 (m.1 580 i).toNatClampNeg (m.1 (17 + (m.1 578 i).toNatClampNeg) 1, m.1 (17 + (m.1 578 i).toNatClampNeg) 4, 0)).1
def dmpN (m : mm_MM) (o : Option (List Cla)) (r j : Int32) : Nat → Nat → Int32
  | 0, _ => 1
  | n + 1, i => if m.1 579 i = r then (if (if tvI m o j i < m.1 581 i then (0 : Int32) else 1) = m.1 582 i then dmpN m o r j n (i + 1) else 0) else dmpN m o r j n (i + 1)
theorem c_damp_l {m0 : mm_MM} {o : Option (List Cla)} (h0 : InvA m0 W H P ls) (hk : m0.1 0 14 = 1) (ho : HoldC m0 o) {r j : Int32} (hj : 0 ≤ j ∧ j ≤ 9) {s : Nat} (hs10 : s ≤ 10) (es : m0.1 577 5 = Int32.ofNat s) (hsig : ∀ i, i < s → sigI m0 i) : ∀ (n i : Nat) (m : mm_MM) (g : Nat), i + n = s → n < g → fr WG m0 m → ∃ m', fX10_mayBeSoDamp_c2 g m r j (Int32.ofNat i) = some (dmpN m0 o r j n i, m') ∧ fr WG m0 m' := by
  intro n
  induction n with
  | zero =>
    intro i m g hi hg hf
    obtain ⟨g, rfl⟩ : ∃ h, g = h + 1 := ⟨g - 1, by omega⟩
    refine ⟨m, ?_, hf⟩
    have e5 : m.1 577 5 = Int32.ofNat s := (hf.1 577 5 (WG_lo (by decide))).trans es
    rw [fX10_mayBeSoDamp_c2, dmpN]
    simp only [fX5_size, Option.bind_some, e5]
    rw [if_neg (fun z => by have := (nn_lt (by omega) (by omega)).mp z; omega)]
  | succ n ih =>
    intro i m g hi hg hf
    obtain ⟨g, rfl⟩ : ∃ h, g = h + 1 := ⟨g - 1, by omega⟩
    have e5 : m.1 577 5 = Int32.ofNat s := (hf.1 577 5 (WG_lo (by decide))).trans es
    obtain ⟨p1, p2, p3, p4, p5, p6, p7⟩ := hsig i (by omega)
    obtain ⟨N, N1, N2, eN⟩ := p3
    have hA : InvA m W H P ls := InvA_q (fr_mono WG_Q hf) h0
    have w : ∀ a k, a < 583 → m.1 a k = m0.1 a k := fun a k ha => hf.1 a k (WG_lo ha)
    obtain ⟨nt, t1, t2, -, -, tt⟩ := told_n h0
    have tb := (nn_ltk p4 (by omega)).mp (t2 ▸ p5)
    obtain ⟨-, -, T0, T1, T3⟩ := tt _ tb
    have hrw : isRw (m.1 0 14) (m.1 14 9) (m0.1 578 i) := ⟨by rw [w 0 14 (by decide)]; exact kn_ne hk, p4, by rw [w 14 9 (by decide)]; exact p5⟩
    have hto := c_toldThing hA (m0.1 578 i)
    rw [if_pos hrw] at hto
    have hkd : mm_kd (17 + (m0.1 578 i).toNatClampNeg) = (9, 6) := kd_t (by omega)
    have hlt : Int32.ofNat i < Int32.ofNat s := (nn_lt (by omega) (by omega)).mpr (by omega)
    have pk : ∀ (M : mm_MM) a, 578 ≤ a → a < 583 → fr WG m0 M → fX10_pick M a (Int32.ofNat i) = some (m0.1 a i, M) := fun M a z1 z2 hM => by
      have := c_pick_n M a (n := 10) (b := i) (by obtain rfl | rfl | rfl | rfl | rfl : a = 578 ∨ a = 579 ∨ a = 580 ∨ a = 581 ∨ a = 582 := by omega
                                                  all_goals rfl) (by decide) (by omega)
      rw [this, hM.1 a i (WG_lo z2)]
    by_cases hr : m0.1 579 i = r
    · obtain ⟨m2, e2, f2⟩ := c_alone (m := m) (o := o) (u := 17 + (m0.1 578 i).toNatClampNeg) (N := N) (by omega) (HoldC_WG hf ho) (by
        obtain ⟨-, -, -, ⟨Y, y1, y2, y3⟩, -⟩ := h0.1.2.2.2.2.1 hk
        rw [w 14 5 (by decide), y3, show (0 : Int32) = Int32.ofNat 0 from rfl, nn_le (by omega) (by decide)]; omega) hj (by rw [w _ _ (by omega)]; exact T0) (by rw [w _ _ (by omega)]; exact T1) (by rw [w _ _ (by omega)]; exact T3) (by omega)
      have hv : (it o (m.1 14 5) (m.1 14 6) (m.1 (17 + (m0.1 578 i).toNatClampNeg) 2) j 0 N (m.1 (17 + (m0.1 578 i).toNatClampNeg) 1, m.1 (17 + (m0.1 578 i).toNatClampNeg) 4, 0)).1 = tvI m0 o j i := by
        unfold tvI
        rw [w 14 5 (by decide), w 14 6 (by decide), w _ 2 (by omega), w _ 1 (by omega), w _ 4 (by omega), eN, nn_tn (by omega)]
      rw [hv] at e2
      have f2' : fr WG m0 m2 := fr_trans hf f2
      obtain ⟨m3, e3, f3⟩ := ih (i + 1) m2 g (by omega) (by omega) f2'
      have key : ∀ v : Int32, ∃ m', fX10_mayBeSoDamp_c88 (fX10_mayBeSoDamp_c2 g) m2 r j (Int32.ofNat i) v = some (if v = m0.1 582 i then dmpN m0 o r j n (i + 1) else 0, m') ∧ fr WG m0 m' := by
        intro v
        simp only [fX10_mayBeSoDamp_c88, pk m2 582 (by decide) (by decide) f2', Option.bind_some, fX10_mayBeSoDamp_c112, fX10_mayBeSoDamp_c117, nn_s]
        rcases p2 with p2 | p2
        · rw [p2, if_neg (show ¬ (0 : Int32) = 1 by decide)]
          by_cases c : v = 0
          · rw [if_pos c, if_pos c]; exact ⟨m3, e3, f3⟩
          · rw [if_neg c, if_neg c]; exact ⟨m2, rfl, f2'⟩
        · rw [p2, if_pos rfl]
          by_cases c : v = 1
          · rw [if_pos c, if_pos c]; exact ⟨m3, e3, f3⟩
          · rw [if_neg c, if_neg c]; exact ⟨m2, rfl, f2'⟩
      rw [fX10_mayBeSoDamp_c2, dmpN, if_pos hr]
      simp only [fX5_size, Option.bind_some, e5, if_pos hlt, pk m 578 (by decide) (by decide) hf, hto, if_pos hkd, pk m 579 (by decide) (by decide) hf, if_pos hr, pk m 580 (by decide) (by decide) hf, eN, e2, pk m2 581 (by decide) (by decide) f2']
      by_cases c : tvI m0 o j i < m0.1 581 i
      · rw [if_pos c, if_pos c]; exact key 0
      · rw [if_neg c, if_neg c]; exact key 1
    · obtain ⟨m3, e3, f3⟩ := ih (i + 1) m g (by omega) (by omega) hf
      refine ⟨m3, ?_, f3⟩
      rw [fX10_mayBeSoDamp_c2, dmpN, if_neg hr]
      simp only [fX5_size, Option.bind_some, e5, if_pos hlt, pk m 578 (by decide) (by decide) hf, hto, if_pos hkd, pk m 579 (by decide) (by decide) hf, if_neg hr, fX10_mayBeSoDamp_c117, nn_s]
      exact e3
end DMP
