/-! YEARS BY DRAWS -/
def dr (x : Int64) : Int64 := x * 6364136223846793005 + 1442695040888963407
def dv (x : Int64) (j : Int32) : Int32 := Int64.toInt32 (((Int64.toUInt64 x >>> ((Int32.toInt64 33).toUInt64 &&& Int64.toUInt64 63)).toInt64 : Int64) - (Int64.toUInt64 x >>> ((Int32.toInt64 33).toUInt64 &&& Int64.toUInt64 63)).toInt64 / (Int32.toInt64 j) * (Int32.toInt64 j))
section YE
variable {m m1 : mm_MM} {W H : Nat} {P P1 : List Vw} {ls : Nat → List Cla} {V V1 : Vw}
theorem t64_ne {j : Int32} (h : ¬ j = 0) : ¬ Int32.toInt64 j = (0 : Int64) := fun z => h ((t64_eq j 0).mp z)
theorem c_draw (m : mm_MM) {j : Int32} (h : ¬ j ≤ 0) : fX10_draw m j = some (dv (dr (m.2 0 19)) j, wL m 0 19 (dr (m.2 0 19))) := by
  have h0 : ¬ j = 0 := fun z => h (by rw [z]; decide)
  unfold fX10_draw fX10_draw_c35
  rw [if_neg h, if_neg (t64_ne h0)]
  rfl
theorem r_draw (m : mm_MM) {j : Int32} (h0 : ¬ j = 0) : fX11_draw m j = some (dv (dr (m.2 606 35)) j, wL m 606 35 (dr (m.2 606 35))) := by
  unfold fX11_draw
  rw [if_neg (t64_ne h0)]
  rfl
theorem wL_eq {m : mm_MM} {a k : Nat} {v : Int64} : (wL m a k v).2 a k = v := if_pos ⟨rfl, rfl⟩
theorem thc_L {m : mm_MM} {a k s : Nat} {v : Int64} : thc (wL m a k v) s = thc m s := rfl
theorem thr_L {m : mm_MM} {a k b o : Nat} {v : Int64} : thr (wL m a k v) b o = thr m b o := rfl
theorem cV_L {m : mm_MM} {a k s : Nat} {v : Int64} : cV (wL m a k v) s = cV m s := rfl
theorem rV_L {m : mm_MM} {a k b o : Nat} {v : Int64} : rV (wL m a k v) b o = rV m b o := rfl
def DrC (R : Int64 → Int64) (D : Int64 → Int32 → Int32) : Prop := ∀ (m : mm_MM) (j : Int32), ¬ j ≤ 0 → fX10_draw m j = some (D (R (m.2 0 19)) j, wL m 0 19 (R (m.2 0 19)))
def DrR (R : Int64 → Int64) (D : Int64 → Int32 → Int32) : Prop := ∀ (m : mm_MM) (j : Int32), ¬ j = 0 → fX11_draw m j = some (D (R (m.2 606 35)) j, wL m 606 35 (R (m.2 606 35)))
theorem drC : DrC dr dv := fun m _ h => c_draw m h
theorem drR : DrR dr dv := fun m _ h => r_draw m h
def moleT (R : Int64 → Int64) (D : Int64 → Int32 → Int32) (mo pl : Int32) (T : TT) (x : Int64) : TT × Int64 := if D (R x) 10 < mo then ((if inPl T (D (R (R x)) pl) 8 0 = -1 then T else upT T (inPl T (D (R (R x)) pl) 8 0).toNatClampNeg 0 (T (inPl T (D (R (R x)) pl) 8 0).toNatClampNeg 0 / 2)), R (R x)) else (T, R x)
def thiefT (R : Int64 → Int64) (D : Int64 → Int32 → Int32) (T : TT) (x : Int64) : TT × Int64 := if D (R x) 10 < 2 then ((if lyX T (D (R (R x)) 8) then upT T (D (R (R x)) 8).toNatClampNeg 4 0 else T), R (R x)) else (T, R x)
theorem half_b {v : Int32} (h : 0 ≤ v ∧ v ≤ 200) : 0 ≤ v / 2 ∧ v / 2 ≤ 200 := by
  have h0 : ¬ v < 0 := Int32.not_lt.mpr h.1
  have e := nn_of h0
  have a2 : v.toNatClampNeg ≤ 200 := (nn_lek (k := 200) h0 (by decide)).mp h.2
  generalize v.toNatClampNeg = n at e a2
  subst e
  rw [show (2 : Int32) = Int32.ofNat 2 from rfl, ← Int32.ofNat_div (by omega) (by decide), show (0 : Int32) = Int32.ofNat 0 from rfl, show (200 : Int32) = Int32.ofNat 200 from rfl, nn_le (by decide) (by omega), nn_le (by omega) (by decide)]
  omega
theorem moleT_TB {R : Int64 → Int64} {D : Int64 → Int32 → Int32} {mo pl : Int32} {T : TT} {x : Int64} (h : TB W H T) : TB W H (moleT R D mo pl T x).1 := by
  unfold moleT
  by_cases h1 : D (R x) 10 < mo
  · rw [if_pos h1]
    dsimp only
    by_cases h2 : inPl T (D (R (R x)) pl) 8 0 = -1
    · rw [if_pos h2]; exact h
    · rw [if_neg h2]
      rcases inPl_s T (D (R (R x)) pl) 8 0 rfl with hn | ⟨b, hb8, eb, hly, -⟩
      · exact absurd hn h2
      · rw [eb, nn_tn (by omega)]
        obtain ⟨b0, b1, b2, b3, b4, b5⟩ := h b hly.1
        refine TB_row h b (fun i k hib => by unfold upT; rw [if_neg (by omega)]) (fun _ => ?_)
        unfold rowOK
        rw [up_eq, up_ne (show ¬ 1 = 0 by decide), up_ne (show ¬ 2 = 0 by decide), up_ne (show ¬ 3 = 0 by decide), up_ne (show ¬ 4 = 0 by decide)]
        exact ⟨half_b b0, b1, b2, b3, b4, b5⟩
  · rw [if_neg h1]; exact h
theorem thiefT_TB {R : Int64 → Int64} {D : Int64 → Int32 → Int32} {T : TT} {x : Int64} (h : TB W H T) : TB W H (thiefT R D T x).1 := by
  unfold thiefT
  by_cases h1 : D (R x) 10 < 2
  · rw [if_pos h1]
    dsimp only
    by_cases h2 : lyX T (D (R (R x)) 8)
    · rw [if_pos h2]
      obtain ⟨h0, ex, hT5, htx⟩ := tx_b h2.1
      generalize (D (R (R x)) 8).toNatClampNeg = b at hT5
      obtain ⟨b0, b1, b2, b3, b4, b5⟩ := h b hT5
      refine TB_row h b (fun i k hib => by unfold upT; rw [if_neg (by omega)]) (fun _ => ?_)
      unfold rowOK
      rw [up_eq, up_ne (show ¬ 0 = 4 by decide), up_ne (show ¬ 1 = 4 by decide), up_ne (show ¬ 2 = 4 by decide), up_ne (show ¬ 3 = 4 by decide)]
      exact ⟨b0, b1, b2, b3, Or.inl rfl, fun _ => rfl⟩
    · rw [if_neg h2]; exact h
  · rw [if_neg h1]; exact h
/-- what a draw's doings leave -/
def sameC (m m' : mm_MM) : Prop := ∀ a k, ¬ (34 ≤ a ∧ a < 42) → m'.1 a k = m.1 a k
theorem c_mole {R : Int64 → Int64} {D : Int64 → Int32 → Int32} (hD : DrC R D) {t : Nat} {o : Option (List Cla)} (E : EnvC m W H o t) (ho : cOK m 29) : ∃ m', fX10_sendMole m = some m' ∧ cV m' 29 = ((moleT R D (m.1 0 18) (m.1 14 3 * m.1 14 4) (thc m 34) (m.2 0 19)).1, (cV m 29).2) ∧ cOK m' 29 ∧ m'.2 0 19 = (moleT R D (m.1 0 18) (m.1 14 3 * m.1 14 4) (thc m 34) (m.2 0 19)).2 ∧ sameC m m' := by
  obtain ⟨⟨l1, l2, l3, l4⟩, e3, e4, -⟩ := E
  have hpl : ¬ m.1 14 3 * m.1 14 4 ≤ 0 := by
    have hW : 1 * 1 ≤ W * H := Nat.mul_le_mul l1 l3
    have hW2 : W * H ≤ 6 * 4 := Nat.mul_le_mul l2 l4
    rw [e3, e4, ← Int32.ofNat_mul, show (0 : Int32) = Int32.ofNat 0 from rfl, nn_le (by omega) (by decide)]
    omega
  unfold fX10_sendMole moleT
  rw [hD m _ (show ¬ (10 : Int32) ≤ 0 by decide)]
  generalize R (m.2 0 19) = x1
  generalize hd : D x1 10 = d
  simp only [Option.bind_some, wL_1, fX10_sendMole_c53]
  by_cases h1 : d < m.1 0 18
  · simp only [h1, if_true, fX1_plots, Option.bind_some, wL_1]
    rw [hD _ _ hpl, wL_eq]
    generalize R x1 = x2
    generalize D x2 (m.1 14 3 * m.1 14 4) = l
    simp only [Option.bind_some, c_placeOfPlot, thc_L]
    rcases inPl_s (thc m 34) l 8 0 rfl with hn | ⟨b, hb8, eb, hly, -⟩
    · rw [hn, c_find_m1]
      refine ⟨wL (wL m 0 19 x1) 0 19 x2, rfl, ?_, ho, wL_eq, fun a k _ => rfl⟩
      rw [if_pos rfl, cV_L, cV_L]; rfl
    · have hkd : mm_kd (34 + b) = (9, 6) := kd_p hb8
      rw [eb, c_find_n _ hb8, thc_L, thc_L, if_pos hly.1]
      simp only [Option.bind_some, if_pos hkd]
      rw [if_neg (ofN_ne (show b < 2 ^ 31 by omega)), nn_tn (by omega)]
      refine ⟨wI (wL (wL m 0 19 x1) 0 19 x2) (34 + b) 1 (m.1 (34 + b) 1 / 2), rfl, ?_, ?_, by rw [wI_2, wL_eq], fun a k z => wI_ne (by omega)⟩
      · have hf := cV_fld (m := wL (wL m 0 19 x1) 0 19 x2) (b := b) (k := 0) (v := m.1 (34 + b) 1 / 2) hly.1 (by decide)
        rw [thc_k hly.1 (show 0 < 5 by decide)]
        exact hf
      · exact cOK_fld (m := wL (wL m 0 19 x1) 0 19 x2) (fun z => absurd z (by decide)) ho
  · simp only [h1, if_false]
    exact ⟨wL m 0 19 x1, rfl, rfl, ho, wL_eq, fun a k _ => rfl⟩
theorem c_thief {R : Int64 → Int64} {D : Int64 → Int32 → Int32} (hD : DrC R D) (ho : cOK m 29) : ∃ m', fX10_sendThief m = some m' ∧ cV m' 29 = ((thiefT R D (thc m 34) (m.2 0 19)).1, (cV m 29).2) ∧ cOK m' 29 ∧ m'.2 0 19 = (thiefT R D (thc m 34) (m.2 0 19)).2 ∧ sameC m m' := by
  unfold fX10_sendThief thiefT
  rw [hD m _ (show ¬ (10 : Int32) ≤ 0 by decide)]
  generalize R (m.2 0 19) = x1
  generalize hd : D x1 10 = d
  simp only [Option.bind_some, fX10_sendThief_c33]
  by_cases h1 : d < 2
  · simp only [h1, if_true]
    rw [hD _ _ (show ¬ (8 : Int32) ≤ 0 by decide), wL_eq]
    generalize R x1 = x2
    generalize D x2 8 = l
    simp only [Option.bind_some]
    rw [c_findLying, thc_L, thc_L]
    by_cases h2 : lyX (thc m 34) l
    · rw [if_pos h2]
      obtain ⟨h0, ex, hT5, htx⟩ := tx_b h2.1
      rw [if_pos h2]
      generalize l.toNatClampNeg = b at hT5
      have hb8 := (thc_5 hT5).1
      have hkd : mm_kd (34 + b) = (9, 6) := kd_p hb8
      simp only [Option.bind_some, if_pos hkd]
      refine ⟨wI (wL (wL m 0 19 x1) 0 19 x2) (34 + b) 5 0, rfl, ?_, ?_, by rw [wI_2, wL_eq], fun a k z => wI_ne (by omega)⟩
      · exact cV_fld (m := wL (wL m 0 19 x1) 0 19 x2) (b := b) (k := 4) (v := 0) hT5 (by decide)
      · exact cOK_fld (m := wL (wL m 0 19 x1) 0 19 x2) (fun _ => Or.inl rfl) ho
    · rw [if_neg h2, if_neg h2]
      exact ⟨wL (wL m 0 19 x1) 0 19 x2, rfl, rfl, ho, wL_eq, fun a k _ => rfl⟩
  · simp only [h1, if_false]
    exact ⟨wL m 0 19 x1, rfl, rfl, ho, wL_eq, fun a k _ => rfl⟩
def sameR (m m' : mm_MM) : Prop := ∀ a k, ¬ (a = 623 ∧ k < 48) → m'.1 a k = m.1 a k
theorem r_c45 {R : Int64 → Int64} {D : Int64 → Int32 → Int32} (hD : DrR R D) (ho : rOK m 623 0) : ∃ m', fX11_drawMonth_c45 m = some m' ∧ rV m' 623 0 = ((thiefT R D (thr m 623 0) (m.2 606 35)).1, (rV m 623 0).2) ∧ rOK m' 623 0 ∧ m'.2 606 35 = (thiefT R D (thr m 623 0) (m.2 606 35)).2 ∧ sameR m m' := by
  unfold fX11_drawMonth_c45 thiefT
  rw [hD m _ (show ¬ (10 : Int32) = 0 by decide)]
  generalize R (m.2 606 35) = x1
  generalize hd : D x1 10 = d
  simp only [Option.bind_some, fX11_drawMonth_c77]
  by_cases h1 : d < 2
  · simp only [h1, if_true]
    rw [hD _ _ (show ¬ (8 : Int32) = 0 by decide), wL_eq]
    generalize R x1 = x2
    generalize D x2 8 = l
    simp only [Option.bind_some]
    rw [r_doesLie, thr_L, thr_L]
    by_cases h2 : lyX (thr m 623 0) l
    · rw [if_pos h2]
      obtain ⟨h0, ex, hT5, htx⟩ := tx_b h2.1
      rw [if_pos h2]
      simp only [Option.bind_some, if_neg (show ¬ (1 : Int32) = 0 by decide)]
      rw [ex]
      generalize l.toNatClampNeg = b at hT5
      have hb8 := (thr_5 hT5).1
      rw [r_set4 _ _ hb8, nn_tn (by omega)]
      refine ⟨wI (wL (wL m 606 35 x1) 606 35 x2) 623 (6 * b + 4) 0, rfl, ?_, ?_, by rw [wI_2, wL_eq], fun a k z => (by rw [wI_1, if_neg (by omega)]; rfl)⟩
      · exact rV_fld (m := wL (wL m 606 35 x1) 606 35 x2) (b := b) (k := 4) (v := 0) hT5 (by decide)
      · exact rOK_w (m := wL (wL m 606 35 x1) 606 35 x2) (by omega) ho
    · rw [if_neg h2, if_neg h2]
      exact ⟨wL (wL m 606 35 x1) 606 35 x2, rfl, rfl, ho, wL_eq, fun a k _ => rfl⟩
  · simp only [h1, if_false]
    exact ⟨wL m 606 35 x1, rfl, rfl, ho, wL_eq, fun a k _ => rfl⟩
theorem r_drawMonth {R : Int64 → Int64} {D : Int64 → Int32 → Int32} (hD : DrR R D) {t : Nat} {o : Option (List Cla)} (E : EnvR m W H o t) (ho : rOK m 623 0) : ∃ m', fX11_drawMonth m = some m' ∧ rV m' 623 0 = ((thiefT R D (moleT R D (m.1 606 30) (m.1 620 0 * m.1 620 1) (thr m 623 0) (m.2 606 35)).1 (moleT R D (m.1 606 30) (m.1 620 0 * m.1 620 1) (thr m 623 0) (m.2 606 35)).2).1, (rV m 623 0).2) ∧ rOK m' 623 0 ∧ m'.2 606 35 = (thiefT R D (moleT R D (m.1 606 30) (m.1 620 0 * m.1 620 1) (thr m 623 0) (m.2 606 35)).1 (moleT R D (m.1 606 30) (m.1 620 0 * m.1 620 1) (thr m 623 0) (m.2 606 35)).2).2 ∧ sameR m m' := by
  obtain ⟨⟨l1, l2, l3, l4⟩, e3, e4, -⟩ := E
  have hpl : ¬ m.1 620 0 * m.1 620 1 = 0 := by
    have hW : 1 * 1 ≤ W * H := Nat.mul_le_mul l1 l3
    have hW2 : W * H ≤ 6 * 4 := Nat.mul_le_mul l2 l4
    rw [e3, e4, ← Int32.ofNat_mul]
    exact fun z => by have := nn_inj (k := 0) (by omega) (by decide) z; omega
  -- through the mole
  suffices key : ∃ m1, fX11_drawMonth m = fX11_drawMonth_c45 m1 ∧ rV m1 623 0 = ((moleT R D (m.1 606 30) (m.1 620 0 * m.1 620 1) (thr m 623 0) (m.2 606 35)).1, (rV m 623 0).2) ∧ rOK m1 623 0 ∧ m1.2 606 35 = (moleT R D (m.1 606 30) (m.1 620 0 * m.1 620 1) (thr m 623 0) (m.2 606 35)).2 ∧ sameR m m1 by
    obtain ⟨m1, e1, v1, o1, x1, s1⟩ := key
    obtain ⟨m2, e2, v2, o2, x2, s2⟩ := r_c45 hD o1
    have t1 : thr m1 623 0 = (moleT R D (m.1 606 30) (m.1 620 0 * m.1 620 1) (thr m 623 0) (m.2 606 35)).1 := congrArg Prod.fst v1
    rw [t1, x1] at v2 x2
    refine ⟨m2, e1.trans e2, ?_, o2, x2, fun a k z => (s2 a k z).trans (s1 a k z)⟩
    rw [v2, v1]
  unfold fX11_drawMonth moleT
  rw [hD m _ (show ¬ (10 : Int32) = 0 by decide)]
  generalize R (m.2 606 35) = x1
  generalize hd : D x1 10 = d
  simp only [Option.bind_some, wL_1]
  by_cases h1 : d < m.1 606 30
  · simp only [h1, if_true, fX11_plots, Option.bind_some, wL_1]
    rw [hD _ _ hpl, wL_eq]
    generalize R x1 = x2
    generalize D x2 (m.1 620 0 * m.1 620 1) = l
    simp only [Option.bind_some]
    have hip : fX11_inPlot (wL (wL m 606 35 x1) 606 35 x2) l = some (inPl (thr m 623 0) l 8 0, wL (wL m 606 35 x1) 606 35 x2) := r_inPlot _ _
    have hsp := inPl_s (thr m 623 0) l 8 0 rfl
    generalize inPl (thr m 623 0) l 8 0 = p at hip hsp
    rw [hip]
    simp only [Option.bind_some]
    rcases hsp with hpe | ⟨b, hb8, hpe, hly, -⟩
    · rw [if_pos hpe, if_pos hpe]
      exact ⟨wL (wL m 606 35 x1) 606 35 x2, rfl, rfl, ho, wL_eq, fun a k _ => rfl⟩
    · have hn1 : ¬ p = -1 := fun z => ofN_ne (show b < 2 ^ 31 by omega) (hpe ▸ z)
      rw [if_neg hn1, if_neg hn1, hpe, nn_tn (show b < 2 ^ 31 by omega), r_of0 _ hb8]
      have hse : ∀ w : Int32, ((some ((wL (wL m 606 35 x1) 606 35 x2).1 623 (6 * b + 0), wL (wL m 606 35 x1) 606 35 x2) : Option (Int32 × mm_MM)).bind fun r7 => (fX11_set r7.2 (Int32.ofNat b) 0 (r7.1 / 2)).bind fun r8 => fX11_drawMonth_c45 r8) = fX11_drawMonth_c45 (wI (wL (wL m 606 35 x1) 606 35 x2) 623 (6 * b + 0) (m.1 623 (6 * b + 0) / 2)) := fun _ => by
        rw [Option.bind_some, r_set0 _ _ hb8, Option.bind_some]
        simp only [wL_1]
      refine ⟨wI (wL (wL m 606 35 x1) 606 35 x2) 623 (6 * b + 0) (m.1 623 (6 * b + 0) / 2), hse 0, ?_, ?_, by rw [wI_2, wL_eq], fun a k z => (by rw [wI_1, if_neg (by omega)]; rfl)⟩
      · have hf := rV_fld (m := wL (wL m 606 35 x1) 606 35 x2) (b := b) (k := 0) (v := m.1 623 (6 * b + 0) / 2) hly.1 (by decide)
        rw [thr_k0 hly.1 (show 0 < 6 by decide)]
        exact hf
      · exact rOK_w (m := wL (wL m 606 35 x1) 606 35 x2) (by omega) ho
  · simp only [h1, if_false]
    exact ⟨wL m 606 35 x1, rfl, rfl, ho, wL_eq, fun a k _ => rfl⟩
end YE
