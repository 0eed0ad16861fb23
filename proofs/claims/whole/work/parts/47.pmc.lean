/-! A MONTH OF THE CLASS -/
def EnvC (m : mm_MM) (W H : Nat) (o : Option (List Cla)) (t : Nat) : Prop := okL W H ∧ m.1 14 3 = Int32.ofNat W ∧ m.1 14 4 = Int32.ofNat H ∧ ¬ m.1 14 5 ≤ 0 ∧ HoldC m o ∧ TB W H (thc m 34) ∧ (∀ r, r < 4 → 0 ≤ m.1 15 r ∧ m.1 15 r ≤ 9) ∧ m.1 29 7 = Int32.ofNat t ∧ t < 10000
theorem EnvC_w {m : mm_MM} {W H : Nat} {o : Option (List Cla)} {t : Nat} (h : EnvC m W H o t) : ¬ m.1 14 3 ≤ 0 := by
  rw [h.2.1, show (0 : Int32) = Int32.ofNat 0 from rfl, nn_le (by have := h.1.2.1; omega) (by decide)]
  have := h.1.1; omega
def W583 : Nat → Nat → Bool := fun a _ => a == 583
theorem c_startFrom {m : mm_MM} {W H : Nat} {o : Option (List Cla)} {t : Nat} (E : EnvC m W H o t) {b : Nat} (h : lyT (thc m 34) b) : ∃ m', fX10_startFrom m (34 + b) = some m' ∧ GS m' (thc m 34 b 1) (m.1 15 (rowI (m.1 14 3) (thc m 34) b)) (besN (m.1 14 3) (thc m 34) (thc m 34 b 2) 8 0 0) (thc m 34 b 0, thc m 34 b 3, t) ∧ fr W583 m m' ∧ bdS (thc m 34 b 1) (m.1 15 (rowI (m.1 14 3) (thc m 34) b)) (besN (m.1 14 3) (thc m 34) (thc m 34 b 2) 8 0 0) ∧ bdQ (thc m 34 b 0, thc m 34 b 3, t) := by
  have hw := EnvC_w E
  obtain ⟨hL, e3, e4, hy, hH, hTB, hD, h7, ht⟩ := E
  obtain ⟨P, hP, eP, eR, hR⟩ := lyT_bd hTB hL h
  have hb := (thc_5 h.1).1
  have hR4 : P / W < 4 := by have := hL.2.2.2; omega
  have hrow : rowI (m.1 14 3) (thc m 34) b = P / W := by unfold rowI; rw [e3, eR, nn_tn (by omega)]
  have q0 := thc_k h.1 (show 0 < 5 by decide)
  have q1 := thc_k h.1 (show 1 < 5 by decide)
  have q2 := thc_k h.1 (show 2 < 5 by decide)
  have q3 := thc_k h.1 (show 3 < 5 by decide)
  have hrw : fX1_rowOf m 14 (m.1 (34 + b) 3) = some (Int32.ofNat (P / W), m) := by
    rw [c_rowOf m hw, ← q2, e3, eR]
  have n583 : ∀ (m : mm_MM) (j k : Nat) (v : Int32), (wI m 583 j v).1 (34 + b) k = m.1 (34 + b) k := fun m j k v => wI_ne (by omega)
  have n29 : ∀ (m : mm_MM) (j k : Nat) (v : Int32), (wI m 583 j v).1 29 k = m.1 29 k := fun m j k v => wI_ne (by decide)
  have hTb := hTB b h.1
  refine ⟨wI (wI (wI (wI (wI (wI (wI m 583 0 (m.1 (34 + b) 1)) 583 1 (m.1 (34 + b) 2)) 583 2 (m.1 (34 + b) 4)) 583 3 (m.1 15 (P / W))) 583 4 0) 583 5 (Int32.ofNat t)) 583 4 (besN (m.1 14 3) (thc m 34) (thc m 34 b 2) 8 0 0), ?_, ?_, ?_, ?_, hTb.1, hTb.2.2.2.1⟩
  · unfold fX10_startFrom
    rw [hrw]
    simp only [Option.bind_some, c_pick_n m 15 (n := 4) rfl (by decide) hR4, fX0_begin, n583, h7]
    have hc := c_countBeside (wI (wI (wI (wI (wI (wI m 583 0 (m.1 (34 + b) 1)) 583 1 (m.1 (34 + b) 2)) 583 2 (m.1 (34 + b) 4)) 583 3 (m.1 15 (P / W))) 583 4 0) 583 5 (Int32.ofNat t)) (m.1 (34 + b) 3) (by simp only [wI_ne (show ¬ (14 : Nat) = 583 by decide)]; exact hw)
    rw [hc]
    simp only [Option.bind_some, wI_ne (show ¬ (14 : Nat) = 583 by decide)]
    rw [q2]
    have ht : thc (wI (wI (wI (wI (wI (wI m 583 0 (m.1 (34 + b) 1)) 583 1 (m.1 (34 + b) 2)) 583 2 (m.1 (34 + b) 4)) 583 3 (m.1 15 (P / W))) 583 4 0) 583 5 (Int32.ofNat t)) 34 = thc m 34 := thc_congr (fun b hb k hk => by
      rw [wI_ne (by omega), wI_ne (by omega), wI_ne (by omega), wI_ne (by omega), wI_ne (by omega), wI_ne (by omega)])
    rw [ht]
  · rw [hrow]
    refine ⟨by simp [wI_1, q0], by simp [wI_1, q1], by simp [wI_1, q3], by simp [wI_1], by simp [wI_1], by simp [wI_1]⟩
  · exact fr_wI (fr_wI (fr_wI (fr_wI (fr_wI (fr_wI (fr_wI (fr_refl _ _) rfl) rfl) rfl) rfl) rfl) rfl) rfl
  · rw [hrow]; exact ⟨hTb.2.1, hD _ hR4, besN_b _ _ _⟩
def Wpm : Nat → Nat → Bool := fun a k => WG a k || (Nat.ble 34 a && Nat.blt a 42 && (k == 1 || k == 4))
theorem Wpm_G : ∀ a k, Wpm a k = false → WG a k = false := by intro a k h; simp only [Wpm, Bool.or_eq_false_iff] at h; exact h.1
theorem W583_G : ∀ a k, WG a k = false → W583 a k = false := by intro a k h; simp only [WG, Bool.or_eq_false_iff] at h; exact h.2
theorem Wpm_1 {b : Nat} (hb : b < 8) : Wpm (34 + b) 1 = true ∧ Wpm (34 + b) 4 = true := by
  constructor <;> simp only [Wpm, Nat.ble_eq, Nat.blt_eq, Bool.and_eq_true, Bool.or_eq_true] <;> exact Or.inr ⟨⟨by omega, by omega⟩, by decide⟩
theorem Wpm_n {b k : Nat} (hb : b < 8) (h1 : ¬ k = 1) (h4 : ¬ k = 4) : Wpm (34 + b) k = false := by
  cases h : Wpm (34 + b) k with
  | false => rfl
  | true =>
    simp only [Wpm, WG, WS, Nat.ble_eq, Nat.blt_eq, Bool.and_eq_true, Bool.or_eq_true, beq_iff_eq] at h
    omega
theorem Wpm_lo {a k : Nat} (h : a < 34) : Wpm a k = false := by
  cases hb : Wpm a k with
  | false => rfl
  | true =>
    simp only [Wpm, WG, WS, Nat.ble_eq, Nat.blt_eq, Bool.and_eq_true, Bool.or_eq_true, beq_iff_eq] at hb
    omega
theorem Wpm_law1 : ∀ h k, h < 4 → Wpm (595 + 3 * h) k = false := by
  intro h k hh
  obtain rfl | rfl | rfl | rfl : h = 0 ∨ h = 1 ∨ h = 2 ∨ h = 3 := by omega
  all_goals simp [Wpm, WG, WS]
theorem Wpm_law2 : ∀ h, h < 4 → Wpm (594 + 3 * h) 2 = false := by
  intro h hh
  obtain rfl | rfl | rfl | rfl : h = 0 ∨ h = 1 ∨ h = 2 ∨ h = 3 := by omega
  all_goals rfl
theorem thc_at {m m' : mm_MM} {s b : Nat} (h : ∀ k, k < 6 → m'.1 (s + b) k = m.1 (s + b) k) : ∀ k, thc m' s b k = thc m s b k := by
  intro k
  unfold thc
  rw [h 0 (by decide)]
  by_cases hk : k < 5
  · simp only [if_pos hk, h (k + 1) (by omega)]
  · simp only [if_neg hk]
theorem lyB_T {T : TT} {b : Nat} (h : lyT T b) : lyB T b = true := by unfold lyB; exact decide_eq_true h
theorem lyB_F {T : TT} {b : Nat} (h : ¬ lyT T b) : lyB T b = false := by unfold lyB; exact decide_eq_false h
section PMC
variable {m0 : mm_MM} {W H : Nat} {o : Option (List Cla)} {t : Nat}
abbrev nx0 (m0 : mm_MM) (o : Option (List Cla)) (t : Nat) : TT := nxT o (m0.1 14 5) (m0.1 14 6) (m0.1 14 3) (m0.1 15) (thc m0 34) t
theorem c_pm_l (E : EnvC m0 W H o t) (ht1 : t + 1 < 10000) : ∀ (n b : Nat) (m : mm_MM) (v c r : Int32) (f : Nat), b + n = 8 → n < f → fr Wpm m0 m → (∀ j, j < b → m.1 (34 + j) 1 = (if lyT (thc m0 34) j then nx0 m0 o t j 0 else m0.1 (34 + j) 1) ∧ m.1 (34 + j) 4 = (if lyT (thc m0 34) j then nx0 m0 o t j 3 else m0.1 (34 + j) 4)) → (∀ j, b ≤ j → j < 8 → ∀ k, m.1 (34 + j) k = m0.1 (34 + j) k) →
    ∃ m1, fX10_passMonth_c9 f m v c r (Int32.ofNat b) = fX10_passMonth_c9 1 m1 (suN (lyB (nx0 m0 o t)) (nx0 m0 o t) n b v) (cnN (lyB (nx0 m0 o t)) n b c) (ripM (m0.1 14 5) (frL (m0.1 14 6) t) (thc m0 34) n b r) 8 ∧ fr Wpm m0 m1 ∧ (∀ j, j < 8 → m1.1 (34 + j) 1 = (if lyT (thc m0 34) j then nx0 m0 o t j 0 else m0.1 (34 + j) 1) ∧ m1.1 (34 + j) 4 = (if lyT (thc m0 34) j then nx0 m0 o t j 3 else m0.1 (34 + j) 4)) := by
  have hE := E
  obtain ⟨hL, e3, e4, hy, hH, hTB, hD, h7, ht⟩ := hE
  intro n
  induction n with
  | zero =>
    intro b m v c r f hb hf hfr hlo hhi
    obtain ⟨f, rfl⟩ : ∃ g, f = g + 1 := ⟨f - 1, by omega⟩
    obtain rfl : b = 8 := by omega
    refine ⟨m, ?_, hfr, hlo⟩
    show fX10_passMonth_c9 (f + 1) m v c r 8 = fX10_passMonth_c9 (0 + 1) m v c r 8
    rw [fX10_passMonth_c9, fX10_passMonth_c9]
    dsimp only
    rw [if_neg (by decide), if_neg (by decide)]
  | succ n ih =>
    intro b m v c r f hb hf hfr hlo hhi
    obtain ⟨f, rfl⟩ : ∃ g, f = g + 1 := ⟨f - 1, by omega⟩
    have hb8 : b < 8 := by omega
    have hTb : ∀ k, thc m 34 b k = thc m0 34 b k := thc_at (fun k _ => hhi b (Nat.le_refl _) hb8 k)
    have h52 : ∀ j, thc m 34 j 5 = thc m0 34 j 5 ∧ thc m 34 j 2 = thc m0 34 j 2 := fun j => by
      unfold thc
      by_cases hj : j < 8
      · rw [hfr.1 (34 + j) 0 (Wpm_n hj (by decide) (by decide))]
        simp only [show (2 : Nat) < 5 by decide, show ¬ (5 : Nat) < 5 by decide, if_true, if_false]
        rw [hfr.1 (34 + j) 3 (Wpm_n hj (by decide) (by decide))]
        simp
      · simp [hj]
    have h14 : ∀ k, m.1 14 k = m0.1 14 k := fun k => hfr.1 14 k (Wpm_lo (by decide))
    have h15 : ∀ k, m.1 15 k = m0.1 15 k := fun k => hfr.1 15 k (Wpm_lo (by decide))
    rw [fX10_passMonth_c9]
    dsimp only
    rw [if_pos (nn_ll 8 hb8 (by decide)), c_findLying_n m hb8]
    simp only [Option.bind_some, suN, cnN, ripM]
    by_cases h : lyT (thc m0 34) b
    · have hm : lyT (thc m 34) b := by simp only [lyT, hTb]; exact h
      have hk : mm_kd (34 + b) = (9, 6) := kd_p hb8
      have hx : lyT (nx0 m0 o t) b := nxT_ly.mpr h
      rw [if_pos hm, lyB_T hx, if_pos h]
      simp only [if_pos hk, if_true]
      rw [c_ripe m hm.1, hTb, h14]
      simp only [Option.bind_some]
      -- the environment of the memory as it stands
      have E' : EnvC m W H o t := by
        refine ⟨hL, (h14 3).trans e3, (h14 4).trans e4, by rw [h14]; exact hy, HoldC_fr (Wpm_lo (by decide)) Wpm_law1 Wpm_law2 hfr hH, ?_, fun q hq => by rw [h15]; exact hD q hq, (hfr.1 29 7 (Wpm_lo (by decide))).trans h7, ht⟩
        intro j hj
        have hj0 : thc m0 34 j 5 = 1 := (h52 j).1 ▸ hj
        have hj8 := (thc_5 hj).1
        have q : ∀ k, k < 5 → ¬ k = 0 → ¬ k = 3 → thc m 34 j k = thc m0 34 j k := fun k hk k0 k3 => by
          rw [thc_k hj hk, thc_k hj0 hk, hfr.1 (34 + j) (k + 1) (Wpm_n hj8 (by omega) (by omega))]
        have b0 := hTB j hj0
        rw [q 1 (by decide) (by decide) (by decide), q 2 (by decide) (by decide) (by decide), q 4 (by decide) (by decide) (by decide)]
        by_cases hjb : j < b
        · have hl := hlo j hjb
          rw [thc_k hj (show 0 < 5 by decide), thc_k hj (show 3 < 5 by decide), hl.1, hl.2]
          by_cases hly : lyT (thc m0 34) j
          · rw [if_pos hly, if_pos hly]
            have := nxT_TB (o := o) (y := m0.1 14 5) (f := m0.1 14 6) (w := m0.1 14 3) (D := m0.1 15) (t := t) hTB j (by rw [nxT_o (by decide) (by decide)]; exact hj0)
            exact ⟨this.1, b0.2.1, b0.2.2.1, this.2.2.2.1, b0.2.2.2.2⟩
          · rw [if_neg hly, if_neg hly, ← thc_k hj0 (show 0 < 5 by decide), ← thc_k hj0 (show 3 < 5 by decide)]
            exact b0
        · have z := thc_at (m := m0) (m' := m) (s := 34) (b := j) (fun k _ => hhi j (by omega) hj8 k)
          rw [z 0, z 3]
          exact b0
      obtain ⟨m1, s1, s2, s3, s4, s5⟩ := c_startFrom E' hm
      have hbes : besN (m.1 14 3) (thc m 34) (thc m 34 b 2) 8 0 0 = besN (m0.1 14 3) (thc m0 34) (thc m0 34 b 2) 8 0 0 := by
        rw [h14, hTb]; exact besN_congr h52 8 0 0
      have hrw : m.1 15 (rowI (m.1 14 3) (thc m 34) b) = m0.1 15 (rowI (m0.1 14 3) (thc m0 34) b) := by
        unfold rowI; rw [h15, h14, hTb]
      rw [hbes, hrw, hTb, hTb, hTb] at s2
      rw [hbes, hrw, hTb] at s4
      rw [hTb, hTb] at s5
      obtain ⟨m2, g1, g2, g3⟩ := c_grow (m := m1) (N := 1) (by decide) (HoldC_fr (W := W583) rfl (fun h k hh => by simp only [W583, beq_eq_false_iff_ne]; omega) (fun h hh => by simp only [W583, beq_eq_false_iff_ne]; omega) s3 E'.2.2.2.2.1) (by rw [s3.1 14 5 rfl, h14]; exact hy) s4 s5 s2 ht
      rw [s3.1 14 5 rfl, s3.1 14 6 rfl, h14, h14] at g2
      have x0 : m2.1 583 0 = nx0 m0 o t b 0 := by rw [g2.1]; unfold nx0 nxT; rw [if_pos h, if_pos rfl]; rfl
      have x3 : m2.1 583 2 = nx0 m0 o t b 3 := by rw [g2.2.2.1]; unfold nx0 nxT; rw [if_pos h, if_neg (by decide), if_pos rfl]; rfl
      have x3m : nx0 m0 o t b 3 = mi 99 (thc m0 34 b 3 + frL (m0.1 14 6) t) := by unfold nx0 nxT; rw [if_pos h, if_neg (by decide), if_pos rfl]; rfl
      have f2 : fr Wpm m0 m2 := fr_trans hfr (fr_trans (fr_mono (fun a k z => W583_G a k (Wpm_G a k z)) s3) (fr_mono Wpm_G g3))
      have f2m : fr WG m m2 := fr_trans (fr_mono W583_G s3) g3
      generalize hm3 : wI (wI m2 (34 + b) 1 (nx0 m0 o t b 0)) (34 + b) 4 (nx0 m0 o t b 3) = m3
      have f3 : fr Wpm m0 m3 := by rw [← hm3]; exact fr_wI (fr_wI f2 (Wpm_1 hb8).1) (Wpm_1 hb8).2
      have v3 : ∀ j k, j < 8 → m3.1 (34 + j) k = if j = b then (if k = 1 then nx0 m0 o t b 0 else if k = 4 then nx0 m0 o t b 3 else m.1 (34 + j) k) else m.1 (34 + j) k := fun j k hj => by
        have : m2.1 (34 + j) k = m.1 (34 + j) k := f2m.1 _ _ (by
          cases hq : WG (34 + j) k with
          | false => rfl
          | true => simp only [WG, WS, Bool.and_eq_true, Bool.or_eq_true, beq_iff_eq] at hq; omega)
        rw [← hm3, wI_1, wI_1, this]
        by_cases hjb : j = b
        · subst hjb
          by_cases k1 : k = 1
          · subst k1; simp
          · by_cases k4 : k = 4
            · subst k4; simp
            · simp [k1, k4]
        · rw [if_neg (by omega), if_neg (by omega), if_neg hjb]
      have t3 : thc m3 34 b 5 = 1 := by
        have := hm.1
        have e : m3.1 (34 + b) 0 = m.1 (34 + b) 0 := by rw [v3 b 0 hb8]; simp
        unfold thc at this ⊢
        rw [e]
        exact this
      have hrip3 := c_ripe m3 t3
      have q33 : thc m3 34 b 3 = nx0 m0 o t b 3 := by rw [thc_k t3 (by decide), v3 b 4 hb8, if_pos rfl, if_neg (by decide), if_pos rfl]
      rw [q33, f3.1 14 5 (Wpm_lo (by decide))] at hrip3
      have v31 : m3.1 (34 + b) 1 = nx0 m0 o t b 0 := by rw [v3 b 1 hb8, if_pos rfl, if_pos rfl]
      have hgo : ∀ x : Int32, ∃ m1, fX10_passMonth_c9 f m3 (v + nx0 m0 o t b 0) (c + 1) (r ||| x) (Int32.ofNat (b + 1)) = fX10_passMonth_c9 1 m1 (suN (lyB (nx0 m0 o t)) (nx0 m0 o t) n (b + 1) (v + nx0 m0 o t b 0)) (cnN (lyB (nx0 m0 o t)) n (b + 1) (c + 1)) (ripM (m0.1 14 5) (frL (m0.1 14 6) t) (thc m0 34) n (b + 1) (r ||| x)) 8 ∧ fr Wpm m0 m1 ∧ (∀ j, j < 8 → m1.1 (34 + j) 1 = (if lyT (thc m0 34) j then nx0 m0 o t j 0 else m0.1 (34 + j) 1) ∧ m1.1 (34 + j) 4 = (if lyT (thc m0 34) j then nx0 m0 o t j 3 else m0.1 (34 + j) 4)) := fun x =>
        ih (b + 1) m3 _ _ _ f (by omega) (by omega) f3 (fun j hj => by
          rw [v3 j 1 (by omega), v3 j 4 (by omega)]
          by_cases hjb : j = b
          · subst hjb; simp [if_pos h]
          · rw [if_neg hjb, if_neg hjb]; exact hlo j (by omega)) (fun j hj hj8 k => by
          rw [v3 j k hj8, if_neg (by omega)]; exact hhi j (by omega) hj8 k)
      have hgrow : fX10_grow m1 1 = some m2 := g1
      by_cases c1 : thc m0 34 b 3 < m0.1 14 5
      · rw [if_pos c1]
        simp only [if_true, fX10_passMonth_c46, s1, Option.bind_some, hgrow, if_neg (show ¬ (1 : Int32) = 0 by decide), x0]
        rw [wI_ne (show ¬ (583 : Nat) = 34 + b by omega), x3, hm3, hrip3]
        simp only [Option.bind_some, v31]
        by_cases c2 : nx0 m0 o t b 3 < m0.1 14 5
        · rw [if_pos c2]
          have := hgo 0
          simp only [if_true, fX10_passMonth_c116, fX10_passMonth_c117, fX10_passMonth_c119, nn_s, c1, ← x3m, c2, not_true, and_false, if_false]
          exact this
        · rw [if_neg c2]
          have := hgo ((1 : Int32) <<< (Int32.ofNat b &&& 31))
          simp only [if_neg (show ¬ (1 : Int32) = 0 by decide), fX10_passMonth_c117, fX10_passMonth_c119, nn_s, c1, ← x3m, c2, not_false_iff, and_true, if_true]
          exact this
      · rw [if_neg c1]
        simp only [if_neg (show ¬ (1 : Int32) = 0 by decide), fX10_passMonth_c46, s1, Option.bind_some, hgrow, if_true, x0]
        rw [wI_ne (show ¬ (583 : Nat) = 34 + b by omega), x3, hm3]
        have := hgo 0
        simp only [v31, fX10_passMonth_c116, fX10_passMonth_c117, fX10_passMonth_c119, nn_s, c1, false_and, if_false]
        exact this
    · have hm : ¬ lyT (thc m 34) b := by simp only [lyT, hTb]; exact h
      have hx : ¬ lyT (nx0 m0 o t) b := fun z => h (nxT_ly.mp z)
      rw [if_neg hm, lyB_F hx, if_neg h]
      simp only [Bool.false_eq_true, if_false, fX10_passMonth_c119, nn_s]
      exact ih (b + 1) m v c r f (by omega) (by omega) hfr (fun j hj => by
        by_cases hjb : j = b
        · subst hjb; rw [if_neg h, if_neg h]; exact ⟨hhi _ (Nat.le_refl _) hb8 1, hhi _ (Nat.le_refl _) hb8 4⟩
        · exact hlo j (by omega)) (fun j hj => hhi j (by omega))
end PMC
