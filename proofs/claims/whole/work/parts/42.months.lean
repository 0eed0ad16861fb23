/-! MONTHS OF THE REFERENCE, and one thing in them -/
theorem nxT_o {o : Option (List Cla)} {y f w : Int32} {D : Nat → Int32} {T : TT} {t b k : Nat} (h0 : ¬ k = 0) (h3 : ¬ k = 3) : nxT o y f w D T t b k = T b k := by
  unfold nxT
  by_cases h : lyT T b
  · rw [if_pos h, if_neg h0, if_neg h3]
  · rw [if_neg h]
theorem nxT_n {o : Option (List Cla)} {y f w : Int32} {D : Nat → Int32} {T : TT} {t b k : Nat} (h : ¬ lyT T b) : nxT o y f w D T t b k = T b k := by
  unfold nxT; rw [if_neg h]
theorem nxT_ly {o : Option (List Cla)} {y f w : Int32} {D : Nat → Int32} {T : TT} {t b : Nat} : lyT (nxT o y f w D T t) b ↔ lyT T b := by
  simp only [lyT, nxT_o (k := 5) (by decide) (by decide), nxT_o (k := 2) (by decide) (by decide)]
theorem nxT_row {o : Option (List Cla)} {y f w : Int32} {D : Nat → Int32} {T : TT} {t b : Nat} : rowI w (nxT o y f w D T t) b = rowI w T b := by
  unfold rowI; rw [nxT_o (k := 2) (by decide) (by decide)]
theorem nxT_bes {o : Option (List Cla)} {y f w : Int32} {D : Nat → Int32} {T : TT} {t : Nat} {p : Int32} : besN w (nxT o y f w D T t) p 8 0 0 = besN w T p 8 0 0 := besN_congr (fun b => ⟨nxT_o (by decide) (by decide), nxT_o (by decide) (by decide)⟩) 8 0 0
theorem nxT_TB {o : Option (List Cla)} {y f w : Int32} {D : Nat → Int32} {T : TT} {t W H : Nat} (h : TB W H T) : TB W H (nxT o y f w D T t) := by
  intro b hb
  rw [nxT_o (by decide) (by decide)] at hb
  obtain ⟨a0, a1, a2, a3, a4, a5⟩ := h b hb
  rw [nxT_o (k := 1) (by decide) (by decide), nxT_o (k := 2) (by decide) (by decide), nxT_o (k := 4) (by decide) (by decide)]
  by_cases hl : lyT T b
  · have := bdQ_st o y f (T b 1) (D (rowI w T b)) (besN w T (T b 2) 8 0 0) (q := (T b 0, T b 3, t)) ⟨a0, a3⟩
    refine ⟨?_, a1, a2, ?_, a4, a5⟩
    · unfold nxT; rw [if_pos hl, if_pos rfl]; exact this.1
    · unfold nxT; rw [if_pos hl, if_neg (by decide), if_pos rfl]; exact this.2
  · rw [nxT_n hl, nxT_n hl]; exact ⟨a0, a1, a2, a3, a4, a5⟩
def nxTs (o : Option (List Cla)) (y f w : Int32) (D : Nat → Int32) : Nat → TT → Nat → TT
  | 0, T, _ => T
  | n + 1, T, t => nxTs o y f w D n (nxT o y f w D T t) (t + 1)
theorem nxTs_o {o : Option (List Cla)} {y f w : Int32} {D : Nat → Int32} {b k : Nat} (h0 : ¬ k = 0) (h3 : ¬ k = 3) : ∀ (n : Nat) (T : TT) (t : Nat), nxTs o y f w D n T t b k = T b k
  | 0, _, _ => rfl
  | n + 1, T, t => (nxTs_o h0 h3 n _ _).trans (nxT_o h0 h3)
/-- one thing in them -/
theorem nxTs_b {o : Option (List Cla)} {y f w : Int32} {D : Nat → Int32} {b : Nat} : ∀ (n : Nat) (T : TT) (t : Nat), lyT T b → nxTs o y f w D n T t b 0 = (it o y f (T b 1) (D (rowI w T b)) (besN w T (T b 2) 8 0 0) n (T b 0, T b 3, t)).1 ∧ nxTs o y f w D n T t b 3 = (it o y f (T b 1) (D (rowI w T b)) (besN w T (T b 2) 8 0 0) n (T b 0, T b 3, t)).2.1
  | 0, _, _, _ => ⟨rfl, rfl⟩
  | n + 1, T, t, h => by
    have := nxTs_b (o := o) (y := y) (f := f) (w := w) (D := D) n (nxT o y f w D T t) (t + 1) (nxT_ly.mpr h)
    rw [nxT_o (k := 1) (by decide) (by decide), nxT_o (k := 2) (by decide) (by decide), nxT_row, nxT_bes] at this
    have e0 : nxT o y f w D T t b 0 = (st1 o y f (T b 1) (D (rowI w T b)) (besN w T (T b 2) 8 0 0) (T b 0, T b 3, t)).1 := by unfold nxT; rw [if_pos h, if_pos rfl]
    have e3 : nxT o y f w D T t b 3 = (st1 o y f (T b 1) (D (rowI w T b)) (besN w T (T b 2) 8 0 0) (T b 0, T b 3, t)).2.1 := by unfold nxT; rw [if_pos h, if_neg (by decide), if_pos rfl]
    rw [e0, e3] at this
    exact this
theorem nxTs_n {o : Option (List Cla)} {y f w : Int32} {D : Nat → Int32} {b k : Nat} : ∀ (n : Nat) (T : TT) (t : Nat), ¬ lyT T b → nxTs o y f w D n T t b k = T b k
  | 0, _, _, _ => rfl
  | n + 1, T, t, h => (nxTs_n n _ _ (fun z => h (nxT_ly.mp z))).trans (nxT_n h)
theorem nxTs_s {o : Option (List Cla)} {y f w : Int32} {D : Nat → Int32} : ∀ (n : Nat) (T : TT) (t : Nat), nxTs o y f w D (n + 1) T t = nxT o y f w D (nxTs o y f w D n T t) (t + n)
  | 0, _, _ => rfl
  | n + 1, T, t => by
    have := nxTs_s (o := o) (y := y) (f := f) (w := w) (D := D) n (nxT o y f w D T t) (t + 1)
    rw [show t + 1 + n = t + (n + 1) by omega] at this
    exact this
theorem W2_1 : ∀ a k, W2 a k = false → W1 a k = false := by intro a k; simp only [W1, W2]; grind
theorem EnvR_fr {W : Nat → Nat → Bool} {m m' : mm_MM} {W' H : Nat} {o : Option (List Cla)} {t t' : Nat} (hf : fr W m m') (h0 : W 606 29 = false) (hW : ∀ a k, a = 608 ∨ a = 609 ∨ a = 611 ∨ a = 612 ∨ a = 613 ∨ a = 614 → W a k = false) (h620 : ∀ k, W 620 k = false) (h621 : ∀ k, W 621 k = false) (hT : TB W' H (thr m' 623 0)) (ht : m'.1 623 49 = Int32.ofNat t') (ht' : t' < 10000) (E : EnvR m W' H o t) : EnvR m' W' H o t' := by
  obtain ⟨hL, e0, e1, hy, hH, hTB, hD, h49, -⟩ := E
  exact ⟨hL, (hf.1 _ _ (h620 0)).trans e0, (hf.1 _ _ (h620 1)).trans e1, by rw [hf.1 _ _ (h620 2)]; exact hy, HoldR_fr h0 hW hf hH, hT, fun r hr => by rw [hf.1 _ _ (h621 r)]; exact hD r hr, ht, ht'⟩
theorem r_live {m : mm_MM} {W H : Nat} {o : Option (List Cla)} {t : Nat} (E : EnvR m W H o t) (ht1 : t + 1 < 10000) : ∃ m1, fX11_live m = some m1 ∧ fr W2 m m1 ∧ thr m1 623 0 = nxT o (m.1 620 2) (m.1 620 3) (m.1 620 0) (m.1 621) (thr m 623 0) t ∧ m1.1 623 48 = m.1 623 48 ∧ m1.1 606 32 = ripM (m.1 620 2) (frL (m.1 620 3) t) (thr m 623 0) 8 0 0 ∧ EnvR m1 W H o (t + 1) := by
  obtain ⟨ma, ga, fa, ea⟩ := r_live1 E 8 0 m fu (by omega) (by unfold fu; omega) (fr_refl _ _) (fun j hj => by omega)
  have fa2 : fr W2 m (wI ma 606 32 0) := fr_wI (fr_mono W2_1 fa) rfl
  obtain ⟨mb, eb, fb, gb, h48, h49, h32⟩ := r_live2 (m0 := m) (G := gT o (m.1 620 2) (m.1 620 0) (m.1 621) (thr m 623 0) t) (L := frL (m.1 620 3) t) 8 0 (wI ma 606 32 0) fu (by omega) (by unfold fu; omega) fa2 (fun j hj => by rw [wI_ne (by decide)]; exact ga j hj) (fun j hj => by omega) (fun j hj => by rw [wI_ne (by decide)]; exact fa.1 623 j rfl)
  have hE := E
  obtain ⟨hL, e0, e1, hy, hH, hTB, hD, hm49, ht⟩ := hE
  have hT : thr mb 623 0 = nxT o (m.1 620 2) (m.1 620 3) (m.1 620 0) (m.1 621) (thr m 623 0) t := by
    funext b k
    by_cases hb : b < 8
    · have hraw : ∀ k, k < 6 → mb.1 623 (6 * b + k) = nR (m.1 623) (thr m 623 0) (gT o (m.1 620 2) (m.1 620 0) (m.1 621) (thr m 623 0) t) (frL (m.1 620 3) t) (6 * b + k) := fun k hk => gb _ (by omega)
      have hdiv : ∀ k, k < 6 → (6 * b + k) / 6 = b ∧ (6 * b + k) % 6 = k := fun k hk => ⟨by omega, by omega⟩
      have h5 : mb.1 623 (6 * b + 5) = m.1 623 (6 * b + 5) := by
        rw [hraw 5 (by decide), nR, (hdiv 5 (by decide)).1, (hdiv 5 (by decide)).2]
        by_cases h : lyT (thr m 623 0) b
        · rw [if_pos h, if_neg (by decide), if_neg (by decide)]
        · rw [if_neg h]
      by_cases hth : thr m 623 0 b 5 = 1
      · have hth' : thr mb 623 0 b 5 = 1 := (r_thr hb).mpr (h5.trans ((r_thr hb).mp hth))
        by_cases hk : k < 6
        · rw [thr_k0 hth' hk, hraw k hk, nR, (hdiv k hk).1, (hdiv k hk).2, nxT]
          by_cases h : lyT (thr m 623 0) b
          · rw [if_pos h, if_pos h]
            by_cases k0 : k = 0
            · subst k0
              rw [if_pos rfl, if_pos rfl, st1, gT, if_pos h, thr_k0 hth (by decide)]
            · rw [if_neg k0, if_neg k0]
              by_cases k3 : k = 3
              · subst k3
                rw [if_pos rfl, if_pos rfl, st1, thr_k0 hth (show 3 < 6 by decide)]; rfl
              · rw [if_neg k3, if_neg k3, thr_k0 hth hk]
          · rw [if_neg h, if_neg h, thr_k0 hth hk]
        · rw [nxT_o (by omega) (by omega)]
          unfold thr
          simp only [if_neg hk]
          by_cases z1 : b < 8 ∧ mb.1 623 (0 + (6 * b + 5)) = 1
          · rw [if_pos z1]; by_cases z2 : b < 8 ∧ m.1 623 (0 + (6 * b + 5)) = 1 <;> simp [z2]
          · rw [if_neg z1]; by_cases z2 : b < 8 ∧ m.1 623 (0 + (6 * b + 5)) = 1 <;> simp [z2]
      · have hth' : ¬ thr mb 623 0 b 5 = 1 := fun z => hth ((r_thr hb).mpr (h5.symm.trans ((r_thr hb).mp z)))
        rw [thr_n hth', nxT_n (fun z => hth z.1), thr_n hth]
    · have z1 : ¬ thr m 623 0 b 5 = 1 := fun z => hb (thr_5 z).1
      have z2 : ¬ thr mb 623 0 b 5 = 1 := fun z => hb (thr_5 z).1
      rw [thr_n z2, nxT_n (fun z => z1 z.1), thr_n z1]
  refine ⟨mb, ?_, fb, hT, h48, by rw [h32, wI_eq], EnvR_fr fb rfl (fun a k ha => by rcases ha with rfl | rfl | rfl | rfl | rfl | rfl <;> simp [W2]) (fun k => by simp [W2]) (fun k => by simp [W2]) (by rw [hT]; exact nxT_TB hTB) (by rw [h49, hm49, nn_s]) ht1 E⟩
  show fX11_live_c2 fu m (Int32.ofNat 0) = some mb
  rw [ea]
  exact eb
