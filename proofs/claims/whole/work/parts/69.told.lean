/-! A TOLD THING'S WORTH after months: class and reference -/
section TLD
variable {m m1 : mm_MM} {W H : Nat} {P : List Vw} {ls : Nat → List Cla}
theorem r_told {o : Option (List Cla)} {t b r N : Nat} (E : EnvR m W H o t) (hb : b < 8) (hr : r < H) (hN : N ≤ 99) (j : Int32) (hj : 0 ≤ j ∧ j ≤ 9) (h0 : 0 ≤ m.1 622 (4 * b) ∧ m.1 622 (4 * b) ≤ 200) (h1 : 0 ≤ m.1 622 (4 * b + 1) ∧ m.1 622 (4 * b + 1) ≤ 5) (h3 : 0 ≤ m.1 622 (4 * b + 3) ∧ m.1 622 (4 * b + 3) ≤ 99) :
    ∃ m', fX11_toldValue m (Int32.ofNat b) (Int32.ofNat r) j (Int32.ofNat N) = some ((it o (m.1 620 2) (m.1 620 3) (m.1 622 (4 * b + 1)) j 0 N (m.1 622 (4 * b), m.1 622 (4 * b + 3), 0)).1, m') ∧ frB m m' := by
  obtain ⟨M, R, hc, hT, R0, R1, R2, R3, R5, EM, d21, d27, n4, n5, l1, l2⟩ := r_setup E hb hr j hj h0 h1 h3
  have hr4 : r < 4 := by have := E.1.2.2.2; omega
  obtain ⟨r1, a1, hc⟩ := Option.bind_eq_some_iff.mp hc
  obtain ⟨r2, a2, hc⟩ := Option.bind_eq_some_iff.mp hc
  obtain ⟨r3, a3, hc⟩ := Option.bind_eq_some_iff.mp hc
  obtain ⟨r4, a4, hc⟩ := Option.bind_eq_some_iff.mp hc
  have hc1 := Option.some.inj hc
  have c1 : wI (wI r4 623 49 0) 621 r j = M := congrArg Prod.fst hc1
  have c2 : r4.1 621 r = m.1 621 r := congrArg Prod.snd hc1
  obtain ⟨m1, g, e1, f1, T2, E2⟩ := lives (F := fun n m x => fX11_toldValue_c55 n m (Int32.ofNat b) (Int32.ofNat r) (Int32.ofNat N) (r4.1 621 r) x) (N := N) (fun n m i hi => by
    rw [fX11_toldValue_c55]
    dsimp only
    rw [if_pos ((nn_lt (by omega) (by omega)).mpr hi), nn_s]) N 0 M 0 fu (by omega) (by unfold fu; omega) EM (by omega)
  have a : ∀ k, k < 6 → aloT b R b k = R k := fun k hk => if_pos ⟨rfl, hk⟩
  have hP : W * r < W * H := Nat.mul_lt_mul_of_pos_left hr (by have := E.1.1; omega)
  have hW24 : W * H ≤ 6 * 4 := Nat.mul_le_mul E.1.2.1 E.1.2.2.2
  have hly : lyT (aloT b R) b := ⟨(a 5 (by decide)).trans R5, by rw [a 2 (by decide), R2]; exact ofN_ne (by omega)⟩
  have u : ∀ k, M.1 620 k = m.1 620 k := fun k => n4 620 k (by decide) (by decide) (fun z => absurd z.1 (by decide))
  have hrow : rowI (M.1 620 0) (aloT b R) b = r := by
    unfold rowI
    rw [u, E.2.1, a 2 (by decide), R2, ← Int32.ofNat_div (by omega) (by have := E.1.2.1; omega), Nat.mul_div_cancel_left _ (by have := E.1.1; omega), nn_tn (by omega)]
  have hval : thr m1 623 0 b 0 = (it o (m.1 620 2) (m.1 620 3) (m.1 622 (4 * b + 1)) j 0 N (m.1 622 (4 * b), m.1 622 (4 * b + 3), 0)).1 := by
    rw [T2, hT, (nxTs_b N _ 0 hly).1, hrow, alo_bes, d21, if_pos rfl, u, u, a 0 (by decide), a 1 (by decide), a 3 (by decide), R0, R1, R3]
  have hT5 : thr m1 623 0 b 5 = 1 := by rw [T2, hT, nxTs_o (by decide) (by decide)]; exact hly.1
  have e0 := thr_k0 hT5 (show 0 < 6 by decide)
  have hb' := r_takeBack (wI m1 621 r (m.1 621 r)) (d := 0) (by decide)
  have hb' : fX11_takeBack (wI m1 621 r (m.1 621 r)) 0 = some (cpM (wI m1 621 r (m.1 621 r)) 623 0 50 627 0) := hb'
  refine ⟨cpM (wI m1 621 r (m.1 621 r)) 623 0 50 627 0, ?_, ⟨fun x k z => ?_, ?_, ?_⟩⟩
  · have hlast : fX11_toldValue_c55 fu M (Int32.ofNat b) (Int32.ofNat r) (Int32.ofNat N) (r4.1 621 r) 0 = some ((it o (m.1 620 2) (m.1 620 3) (m.1 622 (4 * b + 1)) j 0 N (m.1 622 (4 * b), m.1 622 (4 * b + 3), 0)).1, cpM (wI m1 621 r (m.1 621 r)) 623 0 50 627 0) := by
      refine e1.trans ?_
      rw [fX11_toldValue_c55]
      dsimp only
      rw [if_neg (fun z => Nat.lt_irrefl _ ((nn_lt (by omega) (by omega)).mp z)), nn_go (by omega) hr4, nn_tn (by omega), r_of0 _ hb, c2]
      simp only [Option.bind_some, hb']
      rw [wI_ne (show ¬ 623 = 621 by decide), ← e0, hval]
    unfold fX11_toldValue
    refine bs a1 ?_
    refine bs a2 ?_
    refine bs a3 ?_
    refine bs a4 ?_
    rw [nn_go (by omega) hr4, nn_go (by omega) hr4, nn_tn (by omega), c1]
    exact hlast
  · by_cases ha : x = 623
    · subst ha
      by_cases hk : k < 50
      · have e := cpM_in (m := wI m1 621 r (m.1 621 r)) (B := 623) (o := 0) (N := 50) (A := 627) (p := 0) hk
        rw [Nat.zero_add] at e
        rw [e, wI_ne (by decide), f1.1 _ _ (by simp [W2]), d27 k hk]
      · rw [cpM_out (by omega), wI_ne (by decide), f1.1 _ _ (by simp [W2]; omega), n5 k (by omega)]
    · obtain ⟨q1, q2⟩ := W2_Q z ha
      rw [cpM_ne ha, wI_1]
      by_cases c : x = 621 ∧ k = r
      · rw [if_pos c, c.1, c.2]
      · rw [if_neg c, f1.1 _ _ q1, n4 x k ha q2 c]
  · exact (f1.2 0 19 rfl).trans l1
  · exact (f1.2 606 35 rfl).trans l2
theorem c_alone {o : Option (List Cla)} {u N : Nat} (hu : u < 583) (ho : HoldC m o) (hy : ¬ m.1 14 5 ≤ 0) {j : Int32} (hj : 0 ≤ j ∧ j ≤ 9) (h0 : 0 ≤ m.1 u 1 ∧ m.1 u 1 ≤ 200) (h1 : 0 ≤ m.1 u 2 ∧ m.1 u 2 ≤ 5) (h3 : 0 ≤ m.1 u 4 ∧ m.1 u 4 ≤ 99) (hN : N ≤ 99) :
    ∃ m', fX10_valueAlone m u j 0 (Int32.ofNat N) = some ((it o (m.1 14 5) (m.1 14 6) (m.1 u 2) j 0 N (m.1 u 1, m.1 u 4, 0)).1, m') ∧ fr WG m m' := by
  have hu' : ¬ u = 583 := by omega
  generalize hm1 : wI (wI (wI (wI (wI (wI m 583 0 (m.1 u 1)) 583 1 (m.1 u 2)) 583 2 (m.1 u 4)) 583 3 j) 583 4 0) 583 5 0 = m1
  have e1 : fX0_begin m u j 0 = some m1 := by
    unfold fX0_begin
    rw [wI_ne hu', wI_ne hu', wI_ne hu', hm1]
  have f1 : fr WG m m1 := by
    rw [← hm1]
    refine fr_wI (fr_wI (fr_wI (fr_wI (fr_wI (fr_wI (fr_refl _ _) ?_) ?_) ?_) ?_) ?_) ?_ <;> simp [WG]
  have g1 : GS m1 (m.1 u 2) j 0 (m.1 u 1, m.1 u 4, 0) := by
    rw [← hm1]
    refine ⟨?_, ?_, ?_, ?_, ?_, ?_⟩ <;> simp [wI_1]
  have e5 : m1.1 14 5 = m.1 14 5 := f1.1 14 5 (WG_lo (by decide))
  have e6 : m1.1 14 6 = m.1 14 6 := f1.1 14 6 (WG_lo (by decide))
  obtain ⟨m2, e2, g2, f2⟩ := c_grow (N := N) (by omega) (HoldC_WG f1 ho) (by rw [e5]; exact hy) ⟨h1, hj, by decide, by decide⟩ ⟨h0, h3⟩ g1 (show 0 < 10000 by decide)
  refine ⟨m2, ?_, fr_trans f1 f2⟩
  unfold fX10_valueAlone
  refine bs e1 ?_
  refine bs e2 ?_
  rw [g2.1, e5, e6]
end TLD
