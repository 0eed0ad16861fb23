/-! A MONTH OF THE REFERENCE, all things -/
theorem r_set0 (m : mm_MM) {b : Nat} (v : Int32) (hb : b < 8) : fX11_set m (Int32.ofNat b) 0 v = some (wI m 623 (6 * b + 0) v) := r_set m (k := 0) v hb (by decide)
theorem r_set1 (m : mm_MM) {b : Nat} (v : Int32) (hb : b < 8) : fX11_set m (Int32.ofNat b) 1 v = some (wI m 623 (6 * b + 1) v) := r_set m (k := 1) v hb (by decide)
theorem r_set2 (m : mm_MM) {b : Nat} (v : Int32) (hb : b < 8) : fX11_set m (Int32.ofNat b) 2 v = some (wI m 623 (6 * b + 2) v) := r_set m (k := 2) v hb (by decide)
theorem r_set3 (m : mm_MM) {b : Nat} (v : Int32) (hb : b < 8) : fX11_set m (Int32.ofNat b) 3 v = some (wI m 623 (6 * b + 3) v) := r_set m (k := 3) v hb (by decide)
theorem r_set4 (m : mm_MM) {b : Nat} (v : Int32) (hb : b < 8) : fX11_set m (Int32.ofNat b) 4 v = some (wI m 623 (6 * b + 4) v) := r_set m (k := 4) v hb (by decide)
theorem r_set5 (m : mm_MM) {b : Nat} (v : Int32) (hb : b < 8) : fX11_set m (Int32.ofNat b) 5 v = some (wI m 623 (6 * b + 5) v) := r_set m (k := 5) v hb (by decide)
/-- what a place may hold -/
def TB (W H : Nat) (T : TT) : Prop := ∀ b, T b 5 = 1 → (0 ≤ T b 0 ∧ T b 0 ≤ 200) ∧ (0 ≤ T b 1 ∧ T b 1 ≤ 5) ∧ (T b 2 = -1 ∨ ∃ P, P < W * H ∧ T b 2 = Int32.ofNat P) ∧ (0 ≤ T b 3 ∧ T b 3 ≤ 99) ∧ (T b 4 = 0 ∨ T b 4 = 1) ∧ (T b 2 = -1 → T b 4 = 0)
def okL (W H : Nat) : Prop := 1 ≤ W ∧ W ≤ 6 ∧ 1 ≤ H ∧ H ≤ 4
def besK (w : Int32) (T : TT) (p : Int32) : Nat → Nat → Nat → Nat
  | 0, _, a => a
  | n + 1, b, a => besK w T p n (b + 1) (if lyT T b ∧ stp w p (T b 2) = 1 then a + 1 else a)
theorem besN_K (w : Int32) (T : TT) (p : Int32) : ∀ (n b a : Nat), besN w T p n b (Int32.ofNat a) = Int32.ofNat (besK w T p n b a)
  | 0, _, _ => rfl
  | n + 1, b, a => by
    unfold besN besK
    by_cases h : lyT T b ∧ stp w p (T b 2) = 1
    · rw [if_pos h, if_pos h, nn_s]; exact besN_K w T p n (b + 1) (a + 1)
    · rw [if_neg h, if_neg h]; exact besN_K w T p n (b + 1) a
theorem besK_le (w : Int32) (T : TT) (p : Int32) : ∀ (n b a : Nat), besK w T p n b a ≤ a + n
  | 0, _, _ => Nat.le_refl _
  | n + 1, b, a => by
    unfold besK
    by_cases h : lyT T b ∧ stp w p (T b 2) = 1
    · rw [if_pos h]; have := besK_le w T p n (b + 1) (a + 1); omega
    · rw [if_neg h]; have := besK_le w T p n (b + 1) a; omega
theorem besN_b (w : Int32) (T : TT) (p : Int32) : 0 ≤ besN w T p 8 0 0 ∧ besN w T p 8 0 0 ≤ 8 := by
  have e := besN_K w T p 8 0 0
  have l := besK_le w T p 8 0 0
  rw [show (0 : Int32) = Int32.ofNat 0 from rfl, e]
  exact ⟨(nn_le (by omega) (by omega)).mpr (by omega), (nn_le (k := 8) (by omega) (by omega)).mpr (by omega)⟩
theorem besN_congr {w : Int32} {T T' : TT} {p : Int32} (h : ∀ b, T' b 5 = T b 5 ∧ T' b 2 = T b 2) : ∀ (n b : Nat) (a : Int32), besN w T' p n b a = besN w T p n b a
  | 0, _, _ => rfl
  | n + 1, b, a => by
    unfold besN
    simp only [lyT, (h b).1, (h b).2]
    exact besN_congr h n (b + 1) _
theorem row_n {W H P : Nat} (hL : okL W H) (hP : P < W * H) : Int32.ofNat P / Int32.ofNat W = Int32.ofNat (P / W) ∧ P / W < H ∧ P < 24 := by
  obtain ⟨h1, h2, h3, h4⟩ := hL
  have hW : W * H ≤ 6 * 4 := Nat.mul_le_mul h2 h4
  refine ⟨(Int32.ofNat_div (by omega) (by omega)).symm, ?_, by omega⟩
  rw [Nat.div_lt_iff_lt_mul (by omega), Nat.mul_comm]; exact hP
def rowI (w : Int32) (T : TT) (b : Nat) : Nat := (T b 2 / w).toNatClampNeg
def gT (o : Option (List Cla)) (y w : Int32) (D : Nat → Int32) (T : TT) (t : Nat) (b : Nat) : Int32 := if lyT T b then gn o y (T b 0) (T b 1) (D (rowI w T b)) (T b 3) (besN w T (T b 2) 8 0 0) (Int32.ofNat t) else 0
/-- all that lies, a month on -/
def nxT (o : Option (List Cla)) (y f w : Int32) (D : Nat → Int32) (T : TT) (t : Nat) : TT := fun b k => if lyT T b then (if k = 0 then (st1 o y f (T b 1) (D (rowI w T b)) (besN w T (T b 2) 8 0 0) (T b 0, T b 3, t)).1 else if k = 3 then (st1 o y f (T b 1) (D (rowI w T b)) (besN w T (T b 2) 8 0 0) (T b 0, T b 3, t)).2.1 else T b k) else T b k
/-- which became ripe -/
def ripM (y L : Int32) (T : TT) : Nat → Nat → Int32 → Int32
  | 0, _, a => a
  | n + 1, b, a => ripM y L T n (b + 1) (if lyT T b then a ||| (if T b 3 < y ∧ ¬ mi 99 (T b 3 + L) < y then (1 : Int32) <<< (Int32.ofNat b &&& 31) else 0) else a)
def frL (f : Int32) (t : Nat) : Int32 := if rem (Int32.ofNat t) 12 < f then 2 else 1
/-- what a month of the reference stands on -/
def EnvR (m : mm_MM) (W H : Nat) (o : Option (List Cla)) (t : Nat) : Prop := okL W H ∧ m.1 620 0 = Int32.ofNat W ∧ m.1 620 1 = Int32.ofNat H ∧ ¬ m.1 620 2 ≤ 0 ∧ HoldR m o ∧ TB W H (thr m 623 0) ∧ (∀ r, r < 4 → 0 ≤ m.1 621 r ∧ m.1 621 r ≤ 9) ∧ m.1 623 49 = Int32.ofNat t ∧ t < 10000
theorem EnvR_w {m : mm_MM} {W H : Nat} {o : Option (List Cla)} {t : Nat} (h : EnvR m W H o t) : ¬ m.1 620 0 = 0 := by
  rw [h.2.1]
  exact fun z => by have := nn_inj (k := 0) (by have := h.1.2.1; omega) (by decide) z; have := h.1.1; omega
def W1 : Nat → Nat → Bool := fun a _ => a == 615 || a == 616 || a == 625
theorem W1_R : ∀ a k, W1 a k = false → WGR a k = false := by intro a k; simp only [W1, WGR]; grind
theorem lyT_bd {W H : Nat} {T : TT} (hT : TB W H T) (hL : okL W H) {b : Nat} (h : lyT T b) : ∃ P, P < W * H ∧ T b 2 = Int32.ofNat P ∧ T b 2 / Int32.ofNat W = Int32.ofNat (P / W) ∧ P / W < H := by
  obtain ⟨P, hP, e⟩ := (hT b h.1).2.2.1.resolve_left h.2
  have := row_n hL hP
  exact ⟨P, hP, e, by rw [e]; exact this.1, this.2.1⟩
theorem r_live1 {m0 : mm_MM} {W H : Nat} {o : Option (List Cla)} {t : Nat} (E : EnvR m0 W H o t) : ∀ (n b : Nat) (m : mm_MM) (f : Nat), b + n = 8 → n < f → fr W1 m0 m → (∀ j, j < b → m.1 625 j = gT o (m0.1 620 2) (m0.1 620 0) (m0.1 621) (thr m0 623 0) t j) →
    ∃ m1, (∀ j, j < 8 → m1.1 625 j = gT o (m0.1 620 2) (m0.1 620 0) (m0.1 621) (thr m0 623 0) t j) ∧ fr W1 m0 m1 ∧ fX11_live_c2 f m (Int32.ofNat b) = fX11_live_c76 (wI m1 606 32 0) (frL (m0.1 620 3) t) := by
  have hE := E
  obtain ⟨hL, e0, e1, hy, hH, hTB, hD, h49, ht⟩ := hE
  intro n
  induction n with
  | zero =>
    intro b m f hb hf hfr hg
    obtain ⟨f, rfl⟩ : ∃ g, f = g + 1 := ⟨f - 1, by omega⟩
    obtain rfl : b = 8 := by omega
    refine ⟨m, hg, hfr, ?_⟩
    rw [fX11_live_c2]
    dsimp only
    rw [if_neg (by decide), hfr.1 623 49 rfl, hfr.1 620 3 rfl, h49]
    show (if rem (Int32.ofNat t) 12 < m0.1 620 3 then _ else _) = _
    unfold frL
    by_cases h : rem (Int32.ofNat t) 12 < m0.1 620 3
    · rw [if_pos h, if_pos h]
    · rw [if_neg h, if_neg h]
  | succ n ih =>
    intro b m f hb hf hfr hg
    obtain ⟨f, rfl⟩ : ∃ g, f = g + 1 := ⟨f - 1, by omega⟩
    have hb8 : b < 8 := by omega
    have h8 : Int32.ofNat b < 8 := (nn_lt (k := 8) (by omega) (by decide)).mpr hb8
    have hTm : thr m 623 0 = thr m0 623 0 := by funext i k; unfold thr; rw [hfr.1 623 _ rfl, hfr.1 623 _ rfl]
    have hst : ∀ (m1 : mm_MM) (v : Int32), fr W1 m0 m1 → (∀ j, j < b → m1.1 625 j = m.1 625 j) → v = gT o (m0.1 620 2) (m0.1 620 0) (m0.1 621) (thr m0 623 0) t b → ∃ m2, (∀ j, j < 8 → m2.1 625 j = gT o (m0.1 620 2) (m0.1 620 0) (m0.1 621) (thr m0 623 0) t j) ∧ fr W1 m0 m2 ∧ fX11_live_c40 (fX11_live_c2 f) m1 (Int32.ofNat b) (Int32.ofNat b) v = fX11_live_c76 (wI m2 606 32 0) (frL (m0.1 620 3) t) := by
      intro m1 v f1 h1 hv
      obtain ⟨m2, g2, f2, e2⟩ := ih (b + 1) (wI m1 625 b v) f (by omega) (by omega) (fr_wI f1 rfl) (fun j hj => by
        by_cases hjb : j = b
        · subst hjb; rw [wI_eq, hv]
        · rw [wI_nk hjb, h1 j (by omega)]; exact hg j (by omega))
      refine ⟨m2, g2, f2, ?_⟩
      rw [← e2, fX11_live_c40, nn_go (by omega) hb8, nn_tn (by omega), nn_s]
    rw [fX11_live_c2]
    dsimp only
    rw [if_pos h8, r_doesLie_n m hb8, hTm]
    simp only [Option.bind_some]
    by_cases h : lyT (thr m0 623 0) b
    · rw [if_pos h, if_neg (by decide)]
      obtain ⟨P, hP, eP, eR, hR⟩ := lyT_bd hTB hL h
      have hrow : fX11_rowOf m (Int32.ofNat b) = some (Int32.ofNat (P / W), m) := by
        unfold fX11_rowOf
        rw [r_of2 m hb8]
        simp only [Option.bind_some]
        rw [hfr.1 620 0 rfl, if_neg (EnvR_w E), hfr.1 623 _ rfl, ← thr_k0 h.1 (by decide), e0, eR]
      have hR4 : P / W < 4 := by have := hL.2.2.2; omega
      rw [hrow]
      simp only [Option.bind_some]
      rw [nn_go (by omega) hR4, nn_tn (by omega), hfr.1 621 _ rfl]
      have hTb := hTB b h.1
      have hDb := hD (P / W) hR4
      obtain ⟨m', e', f'⟩ := r_growthBy m (o := o) (HoldR_fr (W := W1) rfl (fun a k ha => by rcases ha with rfl | rfl | rfl | rfl | rfl | rfl <;> rfl) hfr hH) (by rw [hfr.1 620 2 rfl]; exact hy) (by rw [hfr.1 620 0 rfl]; exact EnvR_w E) hb8 (by rw [hTm]; exact h.1) (t := t) (by omega) (by rw [hfr.1 623 49 rfl]; exact h49) (d := m0.1 621 (P / W)) rfl (by rw [hTm]; exact ⟨hTb.1, hTb.2.2.2.1⟩) (by rw [hTm, hfr.1 620 0 rfl]; exact ⟨hTb.2.1, hDb, besN_b _ _ _⟩)
      rw [e']
      simp only [Option.bind_some]
      refine hst m' _ (fr_trans hfr (fr_mono W1_R f')) (fun j _ => f'.1 625 j rfl) ?_
      rw [hTm, hfr.1 620 2 rfl, hfr.1 620 0 rfl, gT, if_pos h, rowI, e0, eR, nn_tn (by omega)]
    · rw [if_neg h, if_pos rfl]
      refine hst m 0 hfr (fun j _ => rfl) ?_
      rw [gT, if_neg h]
def W2 : Nat → Nat → Bool := fun a k => a == 615 || a == 616 || a == 625 || (a == 606 && k == 32) || (a == 623 && k < 50)
/-- the row of now, a month on -/
def nR (R : Nat → Int32) (T : TT) (G : Nat → Int32) (L : Int32) (j : Nat) : Int32 := if lyT T (j / 6) then (if j % 6 = 0 then ma 0 (mi 200 (R j + G (j / 6))) else if j % 6 = 3 then mi 99 (R j + L) else R j) else R j
theorem r_live2 {m0 : mm_MM} {G : Nat → Int32} {L : Int32} : ∀ (n b : Nat) (m : mm_MM) (f : Nat), b + n = 8 → n < f → fr W2 m0 m → (∀ j, j < 8 → m.1 625 j = G j) → (∀ j, j < 6 * b → m.1 623 j = nR (m0.1 623) (thr m0 623 0) G L j) → (∀ j, 6 * b ≤ j → m.1 623 j = m0.1 623 j) →
    ∃ m1, fX11_live_c79 f m L (Int32.ofNat b) = some m1 ∧ fr W2 m0 m1 ∧ (∀ j, j < 48 → m1.1 623 j = nR (m0.1 623) (thr m0 623 0) G L j) ∧ m1.1 623 48 = m0.1 623 48 ∧ m1.1 623 49 = m0.1 623 49 + 1 ∧ m1.1 606 32 = ripM (m0.1 620 2) L (thr m0 623 0) n b (m.1 606 32) := by
  intro n
  induction n with
  | zero =>
    intro b m f hb hf hfr hG hlo hhi
    obtain ⟨f, rfl⟩ : ∃ g, f = g + 1 := ⟨f - 1, by omega⟩
    obtain rfl : b = 8 := by omega
    refine ⟨wI m 623 49 (m.1 623 49 + 1), ?_, fr_wI hfr rfl, fun j hj => by rw [wI_nk (by omega)]; exact hlo j (by omega), by rw [wI_nk (by omega)]; exact hhi 48 (by omega), by rw [wI_eq, hhi 49 (by omega)], by rw [wI_ne (by decide)]; rfl⟩
    rw [fX11_live_c79]
    dsimp only
    rw [if_neg (by decide)]
  | succ n ih =>
    intro b m f hb hf hfr hG hlo hhi
    obtain ⟨f, rfl⟩ : ∃ g, f = g + 1 := ⟨f - 1, by omega⟩
    have hb8 : b < 8 := by omega
    have h8 : Int32.ofNat b < 8 := (nn_lt (k := 8) (by omega) (by decide)).mpr hb8
    have hraw : ∀ k, k < 6 → m.1 623 (6 * b + k) = m0.1 623 (6 * b + k) := fun k hk => hhi _ (by omega)
    have hTb : ∀ k, thr m 623 0 b k = thr m0 623 0 b k := fun k => by
      unfold thr
      simp only [Nat.zero_add]
      rw [hraw 5 (by decide)]
      by_cases hk : k < 6
      · rw [hraw k hk]
      · simp only [if_neg hk]
    have h620 : ∀ k, m.1 620 k = m0.1 620 k := fun k => hfr.1 620 k (by simp [W2])
    rw [fX11_live_c79]
    dsimp only
    rw [if_pos h8, r_doesLie_n m hb8]
    simp only [Option.bind_some, fX11_live_c175, nn_s]
    by_cases h : lyT (thr m0 623 0) b
    · have hm : lyT (thr m 623 0) b := by simp only [lyT, hTb]; exact h
      have hnl : ¬ mi 99 (m0.1 623 (6 * b + 3) + L) = m0.1 623 (6 * b + 3) ∨ True := Or.inr trivial
      rw [if_pos hm, if_neg (by decide), r_isRipe_n m hb8]
      simp only [Option.bind_some]
      rw [r_of0 m hb8]
      simp only [Option.bind_some]
      rw [nn_go (by omega) hb8, nn_tn (by omega), hG b hb8]
      simp only [j_min, j_max, Option.bind_some]
      rw [r_set0 _ _ hb8]
      simp only [Option.bind_some]
      rw [r_of3 _ hb8]
      simp only [Option.bind_some]
      rw [wI_nk (show ¬ 6 * b + 3 = 6 * b + 0 by omega), r_set3 _ _ hb8, hraw 0 (by decide), hraw 3 (by decide)]
      simp only [Option.bind_some, hTb, h.1, true_and, h620]
      -- the memory behind both writes
      generalize hm2 : wI (wI m 623 (6 * b + 0) (ma 0 (mi 200 (m0.1 623 (6 * b + 0) + G b)))) 623 (6 * b + 3) (mi 99 (m0.1 623 (6 * b + 3) + L)) = m2
      have hv : ∀ j, m2.1 623 j = if j = 6 * b + 3 then mi 99 (m0.1 623 (6 * b + 3) + L) else if j = 6 * b + 0 then ma 0 (mi 200 (m0.1 623 (6 * b + 0) + G b)) else m.1 623 j := fun j => by
        rw [← hm2, wI_1, wI_1]; simp
      have h606 : m2.1 606 32 = m.1 606 32 := by rw [← hm2, wI_ne (by decide), wI_ne (by decide)]
      have h625 : ∀ j, m2.1 625 j = m.1 625 j := fun j => by rw [← hm2, wI_ne (by decide), wI_ne (by decide)]
      have hfr2 : fr W2 m0 m2 := by rw [← hm2]; exact fr_wI (fr_wI hfr (by simp [W2]; omega)) (by simp [W2]; omega)
      have h6202 : m2.1 620 2 = m0.1 620 2 := hfr2.1 620 2 (by simp [W2])
      have h5 : thr m2 623 0 b 5 = 1 := (r_thr hb8).mpr (by rw [hv, if_neg (by omega), if_neg (by omega), hraw 5 (by decide)]; exact (r_thr hb8).mp h.1)
      have h3 : thr m2 623 0 b 3 = mi 99 (m0.1 623 (6 * b + 3) + L) := by rw [thr_k0 h5 (by decide), hv, if_pos rfl]
      have hq : thr m0 623 0 b 3 = m0.1 623 (6 * b + 3) := thr_k0 h.1 (by decide)
      have hrip := r_isRipe_n m2 hb8
      simp only [h5, true_and, h3, h6202, ← hq] at hrip
      have hlo2 : ∀ j, j < 6 * (b + 1) → m2.1 623 j = nR (m0.1 623) (thr m0 623 0) G L j := fun j hj => by
        rw [hv]
        by_cases hjb : j < 6 * b
        · rw [if_neg (by omega), if_neg (by omega)]; exact hlo j hjb
        · have ej : j / 6 = b := by omega
          unfold nR
          rw [ej, if_pos h]
          by_cases c3 : j = 6 * b + 3
          · rw [if_pos c3, if_neg (by omega), if_pos (by omega), c3]
          · rw [if_neg c3]
            by_cases c0 : j = 6 * b + 0
            · rw [if_pos c0, if_pos (by omega), c0]
            · rw [if_neg c0, if_neg (by omega), if_neg (by omega)]
              exact hhi j (by omega)
      have hhi2 : ∀ j, 6 * (b + 1) ≤ j → m2.1 623 j = m0.1 623 j := fun j hj => by
        rw [hv, if_neg (by omega), if_neg (by omega)]; exact hhi j (by omega)
      have hgo : ∀ x : Int32, ∃ m1, fX11_live_c79 f (wI m2 606 32 (m2.1 606 32 ||| x)) L (Int32.ofNat (b + 1)) = some m1 ∧ fr W2 m0 m1 ∧ (∀ j, j < 48 → m1.1 623 j = nR (m0.1 623) (thr m0 623 0) G L j) ∧ m1.1 623 48 = m0.1 623 48 ∧ m1.1 623 49 = m0.1 623 49 + 1 ∧ m1.1 606 32 = ripM (m0.1 620 2) L (thr m0 623 0) n (b + 1) (m.1 606 32 ||| x) := fun x => by
        have := ih (b + 1) (wI m2 606 32 (m2.1 606 32 ||| x)) f (by omega) (by omega) (fr_wI hfr2 rfl) (fun j hj => by rw [wI_ne (by decide), h625]; exact hG j hj) (fun j hj => by rw [wI_ne (by decide)]; exact hlo2 j hj) (fun j hj => by rw [wI_ne (by decide)]; exact hhi2 j hj)
        rw [wI_eq, h606] at this
        rw [h606]
        exact this
      by_cases c1 : thr m0 623 0 b 3 < m0.1 620 2
      · rw [if_neg (show ¬ ¬ thr m0 623 0 b 3 < m0.1 620 2 from fun z => z c1), if_pos rfl, hrip]
        simp only [Option.bind_some]
        by_cases c2 : mi 99 (thr m0 623 0 b 3 + L) < m0.1 620 2
        · rw [if_neg (show ¬ ¬ mi 99 (thr m0 623 0 b 3 + L) < m0.1 620 2 from fun z => z c2), if_pos rfl]
          have := hgo 0
          simp only [fX11_live_c170, fX11_live_c171, fX11_live_c175, nn_s, ripM, if_pos h, c1, c2, not_true, and_false, if_false]
          exact this
        · rw [if_pos c2, if_neg (by decide)]
          have := hgo ((1 : Int32) <<< (Int32.ofNat b &&& 31))
          simp only [fX11_live_c171, fX11_live_c175, nn_s, ripM, if_pos h, c1, c2, not_false_iff, and_true, if_true]
          exact this
      · rw [if_pos c1, if_neg (by decide)]
        have := hgo 0
        simp only [fX11_live_c170, fX11_live_c171, fX11_live_c175, nn_s, ripM, if_pos h, c1, false_and, if_false]
        exact this
    · have hm : ¬ lyT (thr m 623 0) b := by simp only [lyT, hTb]; exact h
      rw [if_neg hm, if_pos rfl]
      have := ih (b + 1) m f (by omega) (by omega) hfr hG (fun j hj => by
        by_cases hjb : j < 6 * b
        · exact hlo j hjb
        · have ej : j / 6 = b := by omega
          rw [nR, ej, if_neg h]; exact hhi j (by omega)) (fun j hj => hhi j (by omega))
      simp only [ripM, if_neg h]
      exact this
