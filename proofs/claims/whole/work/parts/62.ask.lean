/-! SHARES, RESTS, SAFE -/
section ASK
variable {m m1 : mm_MM} {W H : Nat} {P P1 : List Vw} {ls : Nat → List Cla} {V V1 : Vw}
theorem suN_b {T : TT} (hT : TB W H T) (p : Nat → Bool) (hp : ∀ b, p b = true → T b 5 = 1) : ∀ (n b a : Nat), ∃ s, s ≤ a + 200 * n ∧ suN p T n b (Int32.ofNat a) = Int32.ofNat s
  | 0, _, a => ⟨a, by omega, rfl⟩
  | n + 1, b, a => by
    unfold suN
    cases hpb : p b with
    | false =>
      obtain ⟨s, h1, h2⟩ := suN_b hT p hp n (b + 1) a
      exact ⟨s, by omega, h2⟩
    | true =>
      obtain ⟨⟨b0, b1⟩, -⟩ := hT b (hp b hpb)
      have h0 : ¬ T b 0 < 0 := Int32.not_lt.mpr b0
      have h2 := (nn_lek (k := 200) h0 (by decide)).mp b1
      have e := nn_of h0
      generalize (T b 0).toNatClampNeg = v at e h2
      simp only [if_true]
      rw [e, ← Int32.ofNat_add]
      obtain ⟨s, h3, h4⟩ := suN_b hT p hp n (b + 1) (a + v)
      exact ⟨s, by omega, h4⟩
theorem pB_5 {T : TT} {b : Nat} (h : pB T b = true) : T b 5 = 1 := of_decide_eq_true h
theorem c_valueOfAll_l (m : mm_MM) : ∀ (n b : Nat) (a : Int32) (f : Nat), b + n = 8 → n < f → fX10_valueOfAll_c4 f m a (Int32.ofNat b) = some (suN (pB (thc m 34)) (thc m 34) n b a, m) := by
  intro n
  induction n with
  | zero =>
    intro b a f hb hf
    obtain ⟨f, rfl⟩ : ∃ g, f = g + 1 := ⟨f - 1, by omega⟩
    obtain rfl : b = 8 := by omega
    rfl
  | succ n ih =>
    intro b a f hb hf
    obtain ⟨f, rfl⟩ : ∃ g, f = g + 1 := ⟨f - 1, by omega⟩
    have hb8 : b < 8 := by omega
    have hi := fun a => ih (b + 1) a f (by omega) (by omega)
    rw [fX10_valueOfAll_c4]
    dsimp only
    rw [if_pos (nn_ll 8 hb8 (by decide)), c_valueAt]
    simp only [Option.bind_some, nn_s, suN]
    rw [tx_n (by omega)]
    by_cases h : thc m 34 b 5 = 1
    · rw [show pB (thc m 34) b = true from decide_eq_true h]
      simp only [if_true]; exact hi _
    · rw [show pB (thc m 34) b = false from decide_eq_false h, thc_n h]
      simp only [Bool.false_eq_true, if_false, Int32.add_zero]; exact hi _
theorem c_valueOfAll (m : mm_MM) : fX10_valueOfAll m = some (suN (pB (thc m 34)) (thc m 34) 8 0 0, m) := c_valueOfAll_l m 8 0 0 fu rfl (by decide)
theorem q_shares (hi : Inv m) (x c : Int32) : EQ m (fun m => fX10_shares m x c) (fun m => fX11_shares m x c) := by
  obtain ⟨W, H, P, ls, h⟩ := id hi
  have hs := see0 h
  by_cases hx : tx (thc m 34) x 5 = 1
  · obtain ⟨h0, ex, hT5, htx⟩ := tx_b hx
    generalize x.toNatClampNeg = b at ex hT5 htx
    subst ex
    have hb8 := (thc_5 hT5).1
    have hkd : mm_kd (34 + b) = (9, 6) := kd_p hb8
    have e0 := thc_k hT5 (show 0 < 5 by decide)
    by_cases hc : c < 0 ∨ ¬ c ≤ 999
    · refine EQ_0 (v := -1) hi ?_ ?_
      · by_cases c0 : c < 0
        · simp only [fX10_shares, fX10_shares_c24, c_find_n m hb8, if_pos hT5, Option.bind_some, if_pos hkd, if_pos c0]
        · simp only [fX10_shares, fX10_shares_c24, c_find_n m hb8, if_pos hT5, Option.bind_some, if_pos hkd, if_neg c0, if_neg (hc.resolve_left c0)]
      · have hz : (if c < 0 then (0 : Int32) else if c ≤ 999 then 1 else 0) = 0 := by
          by_cases h1 : c < 0
          · rw [if_pos h1]
          · rw [if_neg h1, if_neg (hc.resolve_left h1)]
        simp only [fX11_shares, fX11_shares_c19, r_isThere_n _ hb8, hs.1, if_pos hT5, Option.bind_some, if_neg (show ¬ (1 : Int32) = 0 by decide), r_in, hz, if_true]
    · have c0 : ¬ c < 0 := fun z => hc (Or.inl z)
      have c9 : c ≤ 999 := Classical.not_not.mp fun z => hc (Or.inr z)
      obtain ⟨s, hs1, hs2⟩ := suN_b h.2.1.2.2.2.1.1 (pB (thc m 34)) (fun b hb => pB_5 hb) 8 0 0
      have hs2 : suN (pB (thc m 34)) (thc m 34) 8 0 0 = Int32.ofNat s := hs2
      have hv := r_valueOf m (pB (thr m 623 0)) (fun b _ hb => pB_5 hb)
      rw [hs.1] at hv
      have n0 : m.1 623 (6 * b + 0) = thc m 34 b 0 := by rw [← hs.1, thr_k0 (by rw [hs.1]; exact hT5) (by decide)]
      by_cases hz : s = 0
      · subst hz
        refine EQ_0 (v := 0) hi ?_ ?_
        · simp only [fX10_shares, fX10_shares_c50, c_find_n m hb8, if_pos hT5, Option.bind_some, if_pos hkd, if_neg c0, if_pos c9, c_valueOfAll, hs2]
          rfl
        · simp only [fX11_shares, fX11_shares_c49, r_isThere_n _ hb8, hs.1, if_pos hT5, Option.bind_some, if_neg (show ¬ (1 : Int32) = 0 by decide), r_in, if_neg c0, if_pos c9, r_ones0, hv, hs2]
          rfl
      · have z1 : ¬ Int32.ofNat s ≤ 0 := by
          rw [show (0 : Int32) = Int32.ofNat 0 from rfl, nn_le (by omega) (by decide)]; omega
        have z2 : ¬ Int32.ofNat s = 0 := fun z => z1 (by rw [z]; decide)
        refine EQ_0 (v := c * thc m 34 b 0 / Int32.ofNat s) hi ?_ ?_
        · simp only [fX10_shares, fX10_shares_c50, c_find_n m hb8, if_pos hT5, Option.bind_some, if_pos hkd, if_neg c0, if_pos c9, c_valueOfAll, hs2]
          rw [if_neg z1, if_neg z2, e0]
        · simp only [fX11_shares, fX11_shares_c49, r_isThere_n _ hb8, hs.1, if_pos hT5, Option.bind_some, if_neg (show ¬ (1 : Int32) = 0 by decide), r_in, if_neg c0, if_pos c9, r_ones0, hv, hs2, r_of0 _ hb8, n0]
          rw [if_neg z2, if_neg z2]
  · refine EQ_0 (v := -1) hi ?_ ?_
    · simp only [fX10_shares, fX10_shares_c24, c_find, if_neg hx, Option.bind_some]
    · simp only [fX11_shares, fX11_shares_c19, r_isThere, hs.1, if_neg hx, Option.bind_some, if_true]
/-! rests -/
def isR (T : TT) (a b x y : Int32) : Prop := ¬ (-thH T a b x y - x < -thH T a b (1 - x) y - (1 - x)) ∧ ¬ thH T a b x y < thH T a b x (1 - y)
theorem c_isRest (m : mm_MM) (a b x y : Int32) (p : Bool) (hp : p = true ↔ isR (thc m 34) a b x y) : fX10_isRest m a b x y = some (if p = true then 1 else 0, m) := by
  unfold fX10_isRest fX10_isRest_c50 fX10_isRest_c51
  simp only [c_merchantHas, c_thiefHas, Option.bind_some]
  unfold isR at hp
  by_cases h1 : -thH (thc m 34) a b x y - x < -thH (thc m 34) a b (1 - x) y - (1 - x)
  · have : p = false := by cases p with | false => rfl | true => exact absurd h1 (hp.mp rfl).1
    rw [if_pos h1, this]; rfl
  · rw [if_neg h1]
    by_cases h2 : thH (thc m 34) a b x y < thH (thc m 34) a b x (1 - y)
    · have : p = false := by cases p with | false => rfl | true => exact absurd h2 (hp.mp rfl).2
      rw [if_pos h2, this]; rfl
    · rw [if_neg h2, hp.mpr ⟨h1, h2⟩]; rfl
theorem r_isRest {a b : Int32} (ha : lyX (thr m 623 0) a) (hb : lyX (thr m 623 0) b) (x y : Int32) (p : Bool) (hp : p = true ↔ isR (thr m 623 0) a b x y) : fX11_isRest m a b x y = some (if p = true then 1 else 0, m) := by
  unfold fX11_isRest fX11_isRest_c50 fX11_isRest_c51
  simp only [r_merchantHas ha hb, r_thiefHas ha hb, Option.bind_some]
  unfold isR at hp
  by_cases h1 : -thH (thr m 623 0) a b (1 - x) y - (1 - x) ≤ -thH (thr m 623 0) a b x y - x
  · rw [if_pos h1]
    by_cases h2 : thH (thr m 623 0) a b x (1 - y) ≤ thH (thr m 623 0) a b x y
    · rw [if_pos h2, hp.mpr ⟨Int32.not_lt.mpr h1, Int32.not_lt.mpr h2⟩]; rfl
    · have : p = false := by cases p with | false => rfl | true => exact absurd (Int32.not_lt.mp (hp.mp rfl).2) h2
      rw [if_neg h2, this]; rfl
  · have : p = false := by cases p with | false => rfl | true => exact absurd (Int32.not_lt.mp (hp.mp rfl).1) h1
    rw [if_neg h1, this]; rfl
theorem rests_l {a b i : Int32} (hs : thr m 623 0 = thc m 34) (ha : lyX (thr m 623 0) a) (hb : lyX (thr m 623 0) b) : ∀ (n k f : Nat) (c : Int32), k + n = 4 → n < f → ∃ v, fX10_rests_c22 f m a b i c (Int32.ofNat k) = some (v, m) ∧ fX11_rests_c22 f m a b i c (Int32.ofNat k) = some (v, m) := by
  intro n
  induction n with
  | zero =>
    intro k f c hk hf
    obtain ⟨f, rfl⟩ : ∃ g, f = g + 1 := ⟨f - 1, by omega⟩
    obtain rfl : k = 4 := by omega
    refine ⟨if i = -1 then c else -1, ?_, ?_⟩
    · rw [fX10_rests_c22]
      dsimp only
      rw [if_neg (by decide)]
      by_cases z : i = -1 <;> simp [z, fX10_rests_c88]
    · rw [fX11_rests_c22]
      dsimp only
      rw [if_neg (by decide)]
      by_cases z : i = -1 <;> simp [z, fX11_rests_c84]
  | succ n ih =>
    intro k f c hk hf
    obtain ⟨f, rfl⟩ : ∃ g, f = g + 1 := ⟨f - 1, by omega⟩
    obtain ⟨p, hp⟩ : ∃ p : Bool, p = true ↔ isR (thc m 34) a b (Int32.ofNat k / 2) (Int32.ofNat k - Int32.ofNat k / 2 * 2) := by
      by_cases z : isR (thc m 34) a b (Int32.ofNat k / 2) (Int32.ofNat k - Int32.ofNat k / 2 * 2)
      · exact ⟨true, by simp [z]⟩
      · exact ⟨false, by simp [z]⟩
    have e1 := c_isRest m a b _ _ p hp
    have e2 := r_isRest ha hb _ _ p (by rw [hs]; exact hp)
    obtain ⟨v0, g1, g2⟩ := ih (k + 1) f c (by omega) (by omega)
    obtain ⟨v1, g3, g4⟩ := ih (k + 1) f (c + 1) (by omega) (by omega)
    rw [fX10_rests_c22, fX11_rests_c22]
    dsimp only
    rw [if_pos (nn_ll 4 (by omega) (by decide)), if_pos (nn_ll 4 (by omega) (by decide)), e1, e2]
    simp only [Option.bind_some, fX10_rests_c71, fX11_rests_c67, nn_s]
    cases p with
    | false => exact ⟨v0, by simpa using g1, by simpa using g2⟩
    | true =>
      by_cases hc : c = i
      · exact ⟨_, by simp [hc]; rfl, by simp [hc]⟩
      · exact ⟨v1, by simpa [hc] using g3, by simpa [hc] using g4⟩
theorem q_rests (hi : Inv m) (a b i : Int32) : EQ m (fun m => fX10_rests m a b i) (fun m => fX11_rests m a b i) := by
  obtain ⟨W, H, P, ls, h⟩ := id hi
  have hs := see0 h
  by_cases ht : twoX (thc m 34) a b
  · have htr : twoX (thr m 623 0) a b := by rw [hs.1]; exact ht
    by_cases hn : i < -1
    · refine EQ_0 (v := -1) hi ?_ ?_
      · simp only [fX10_rests, fX10_rests_c14, c_mayPlay, if_pos ht, Option.bind_some, if_neg (show ¬ (1 : Int32) = 0 by decide), if_pos hn]
      · simp only [fX11_rests, fX11_rests_c14, r_areTwo, if_pos htr, Option.bind_some, if_neg (show ¬ (1 : Int32) = 0 by decide), if_pos hn]
    · obtain ⟨v, g1, g2⟩ := rests_l (i := i) hs.1 htr.2.1 htr.2.2 4 0 fu 0 rfl (by decide)
      refine EQ_0 (v := v) hi ?_ ?_
      · simp only [fX10_rests, c_mayPlay, if_pos ht, Option.bind_some, if_neg (show ¬ (1 : Int32) = 0 by decide), if_neg hn]
        exact g1
      · simp only [fX11_rests, r_areTwo, if_pos htr, Option.bind_some, if_neg (show ¬ (1 : Int32) = 0 by decide), if_neg hn]
        exact g2
  · have htr : ¬ twoX (thr m 623 0) a b := by rw [hs.1]; exact ht
    refine EQ_0 (v := -1) hi ?_ ?_
    · simp only [fX10_rests, fX10_rests_c14, c_mayPlay, if_neg ht, Option.bind_some, if_true]
    · simp only [fX11_rests, fX11_rests_c14, r_areTwo, if_neg htr, Option.bind_some, if_true]
/-! safe -/
def meT (T : TT) (a b y g : Int32) : Int32 := g * thH T a b 0 y + (100 - g) * thH T a b 1 y
theorem c_thiefMean (m : mm_MM) (a b y g : Int32) : fX10_thiefMean m a b y g = some (meT (thc m 34) a b y g, m) := by
  simp only [fX10_thiefMean, c_thiefHas, Option.bind_some, meT]
theorem r_meanBy {a b : Int32} (ha : lyX (thr m 623 0) a) (hb : lyX (thr m 623 0) b) (g y : Int32) : fX11_meanBy m a b g y = some (meT (thr m 623 0) a b y g, m) := by
  simp only [fX11_meanBy, r_thiefHas ha hb, Option.bind_some, meT]
theorem safe_l {a b w : Int32} (hs : thr m 623 0 = thc m 34) (ha : lyX (thr m 623 0) a) (hb : lyX (thr m 623 0) b) : ∀ (n k f g : Nat) (l : Int32), k + n = 101 → n < f → g < 1000 → ∃ v, fX10_safe_c30 f m a b w (Int32.ofNat g) l (Int32.ofNat k) = some (v, m) ∧ fX11_safe_c31 f m a b w (Int32.ofNat g) l (Int32.ofNat k) = some (v, m) := by
  intro n
  induction n with
  | zero =>
    intro k f g l hk hf hg
    obtain ⟨f, rfl⟩ : ∃ g, f = g + 1 := ⟨f - 1, by omega⟩
    obtain rfl : k = 101 := by omega
    refine ⟨if w = 0 then Int32.ofNat g else l, ?_, ?_⟩
    · rw [fX10_safe_c30]
      dsimp only
      rw [if_neg (by decide)]
      by_cases z : w = 0 <;> simp [z, fX10_safe_c92]
    · rw [fX11_safe_c31]
      dsimp only
      rw [if_neg (by decide)]
      by_cases z : w = 0 <;> simp [z, fX11_safe_c99]
  | succ n ih =>
    intro k f g l hk hf hg
    obtain ⟨f, rfl⟩ : ∃ g, f = g + 1 := ⟨f - 1, by omega⟩
    have hk1 : Int32.ofNat k ≤ 100 := (nn_le (k := 100) (by omega) (by decide)).mpr (by omega)
    have hn1 : ¬ Int32.ofNat g = -1 := ofN_ne (by omega)
    rw [fX10_safe_c30, fX11_safe_c31]
    dsimp only
    rw [if_pos hk1, if_pos hk1]
    simp only [c_thiefMean, r_meanBy ha hb, Option.bind_some, j_max, hs, fX10_safe_c75, fX11_safe_c74, fX11_safe_c82, nn_s, if_neg hn1]
    generalize ma (meT (thc m 34) a b 0 (Int32.ofNat k)) (meT (thc m 34) a b 1 (Int32.ofNat k)) = z
    by_cases hz : z < l
    · rw [if_pos hz, if_pos hz]
      exact ih (k + 1) f k z (by omega) (by omega) (by omega)
    · rw [if_neg hz, if_neg hz]
      exact ih (k + 1) f g l (by omega) (by omega) hg
theorem thH_b {T : TT} (hT : TB W H T) {a b : Int32} (ha : lyX T a) (hb : lyX T b) (x y : Int32) : -5 ≤ thH T a b x y ∧ thH T a b x y ≤ 200 := by
  obtain ⟨-, -, aT, atx⟩ := tx_b ha.1
  obtain ⟨-, -, bT, btx⟩ := tx_b hb.1
  have h1 := (hT _ aT).1
  have h2 := (hT _ bT).1
  unfold thH
  rw [atx, btx]
  by_cases z : x = y
  · rw [if_pos z]; exact ⟨by decide, by decide⟩
  · rw [if_neg z]
    by_cases z2 : y = 0
    · rw [if_pos z2]; grind
    · rw [if_neg z2]; grind
theorem safe_0 {u v : Int32} (h1 : -5 ≤ u ∧ u ≤ 200) (h2 : -5 ≤ v ∧ v ≤ 200) (u' v' : Int32) : ma (0 * u' + (100 - 0) * u) (0 * v' + (100 - 0) * v) < 1000000 := by
  unfold ma
  have e1 : (0 : Int32) * u' + (100 - 0) * u = 100 * u := by grind
  have e2 : (0 : Int32) * v' + (100 - 0) * v = 100 * v := by grind
  rw [e1, e2]
  have a1 : 100 * u < 1000000 := by grind
  have a2 : 100 * v < 1000000 := by grind
  by_cases h : 100 * u < 100 * v
  · rw [if_pos h]; exact a2
  · rw [if_neg h]; exact a1
theorem c_safe_s (f : Nat) (a b w g l k : Int32) (hk : k ≤ 100) (hl : ma (meT (thc m 34) a b 0 k) (meT (thc m 34) a b 1 k) < l) {v : Int32} (h : fX10_safe_c30 f m a b w k (ma (meT (thc m 34) a b 0 k) (meT (thc m 34) a b 1 k)) (k + 1) = some (v, m)) : fX10_safe_c30 (f + 1) m a b w g l k = some (v, m) := by
  rw [fX10_safe_c30]
  dsimp only
  rw [if_pos hk]
  refine bs (c_thiefMean m a b 0 k) (bs (c_thiefMean m a b 1 k) (bs (j_max m _ _) ?_))
  dsimp only
  rw [if_pos hl]
  exact h
theorem r_safe_s (f : Nat) {a b : Int32} (ha : lyX (thr m 623 0) a) (hb : lyX (thr m 623 0) b) (w l k : Int32) (hk : k ≤ 100) {v : Int32} (h : fX11_safe_c31 f m a b w k (ma (meT (thr m 623 0) a b 0 k) (meT (thr m 623 0) a b 1 k)) (k + 1) = some (v, m)) : fX11_safe_c31 (f + 1) m a b w (-1) l k = some (v, m) := by
  rw [fX11_safe_c31]
  dsimp only
  rw [if_pos hk]
  refine bs (r_meanBy ha hb k 0) (bs (r_meanBy ha hb k 1) (bs (j_max m _ _) ?_))
  dsimp only
  rw [if_pos rfl]
  exact h
theorem q_safe (hi : Inv m) (a b w : Int32) : EQ m (fun m => fX10_safe m a b w) (fun m => fX11_safe m a b w) := by
  obtain ⟨W, H, P, ls, h⟩ := id hi
  have hs := see0 h
  by_cases ht : twoX (thc m 34) a b
  · have htr : twoX (thr m 623 0) a b := by rw [hs.1]; exact ht
    by_cases hw : w = 0 ∨ w = 1
    · have hTB := h.2.1.2.2.2.1.1
      have hb1 := thH_b hTB ht.2.1 ht.2.2 1 0
      have hb2 := thH_b hTB ht.2.1 ht.2.2 1 1
      have hlt : ma (meT (thc m 34) a b 0 0) (meT (thc m 34) a b 1 0) < 1000000 := safe_0 hb1 hb2 _ _
      obtain ⟨f, hfu, hf⟩ : ∃ f, fu = f + 1 ∧ 100 < f := ⟨19999, rfl, by decide⟩
      obtain ⟨v, g1, g2⟩ := safe_l (w := w) hs.1 htr.2.1 htr.2.2 100 1 f 0 (ma (meT (thc m 34) a b 0 0) (meT (thc m 34) a b 1 0)) rfl hf (by decide)
      refine EQ_0 (v := v) hi ?_ ?_
      · simp only [fX10_safe, c_mayPlay, if_pos ht, Option.bind_some, if_neg (show ¬ (1 : Int32) = 0 by decide), c_isBit, if_pos hw]
        rw [hfu]
        exact c_safe_s f a b w 0 1000000 0 (by decide) hlt g1
      · simp only [fX11_safe, r_areTwo, if_pos htr, Option.bind_some, if_neg (show ¬ (1 : Int32) = 0 by decide), r_in, bit_in, if_pos hw]
        rw [hfu]
        refine r_safe_s f htr.2.1 htr.2.2 w 0 0 (by decide) ?_
        rw [hs.1]
        exact g2
    · refine EQ_0 (v := -1000000) hi ?_ ?_
      · simp only [fX10_safe, fX10_safe_c16, c_mayPlay, if_pos ht, Option.bind_some, if_neg (show ¬ (1 : Int32) = 0 by decide), c_isBit, if_neg hw, if_true]
      · simp only [fX11_safe, fX11_safe_c18, r_areTwo, if_pos htr, Option.bind_some, if_neg (show ¬ (1 : Int32) = 0 by decide), r_in, bit_in, if_neg hw, if_true]
  · have htr : ¬ twoX (thr m 623 0) a b := by rw [hs.1]; exact ht
    refine EQ_0 (v := -1000000) hi ?_ ?_
    · simp only [fX10_safe, fX10_safe_c16, c_mayPlay, if_neg ht, Option.bind_some, if_true]
    · simp only [fX11_safe, fX11_safe_c18, r_areTwo, if_neg htr, Option.bind_some, if_true]
end ASK
