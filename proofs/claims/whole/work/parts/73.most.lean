/-! MOST: dearest, oldest, richest, dampest, bits, lawful, beside -/
section MST
variable {m m1 : mm_MM} {W H : Nat} {P : List Vw} {ls : Nat → List Cla}
def topN (T : TT) (k : Nat) : Nat → Nat → Int32 → Int32 → Int32
  | 0, _, w, _ => w
  | n + 1, b, w, h => if T b 5 = 1 ∧ ¬ T b k ≤ h then topN T k n (b + 1) (Int32.ofNat b) (T b k) else topN T k n (b + 1) w h
theorem c_top_l (m : mm_MM) {x1 : Int32} {k : Nat} (hk : (x1 = 0 ∧ k = 3) ∨ (x1 = 1 ∧ k = 0)) : ∀ (n b : Nat) (w h : Int32) (f : Nat), b + n = 8 → n < f → fX10_placeWithMost_c7 f m x1 w h (Int32.ofNat b) = some (topN (thc m 34) k n b w h, m) := by
  intro n
  induction n with
  | zero =>
    intro b w h f hb hf
    obtain ⟨f, rfl⟩ : ∃ g, f = g + 1 := ⟨f - 1, by omega⟩
    obtain rfl : b = 8 := by omega
    rfl
  | succ n ih =>
    intro b w h f hb hf
    obtain ⟨f, rfl⟩ : ∃ g, f = g + 1 := ⟨f - 1, by omega⟩
    have hb8 : b < 8 := by omega
    have hi := fun w h => ih (b + 1) w h f (by omega) (by omega)
    rw [fX10_placeWithMost_c7, topN]
    dsimp only
    rw [if_pos (nn_ll 8 hb8 (by decide)), c_find_n m hb8]
    simp only [Option.bind_some]
    by_cases h5 : thc m 34 b 5 = 1
    · have hkd : mm_kd (34 + b) = (9, 6) := kd_p hb8
      rw [if_pos h5]
      simp only [if_pos hkd, fX10_placeWithMost_c47, fX10_placeWithMost_c68, fX10_placeWithMost_c72, nn_s]
      rcases hk with ⟨rfl, rfl⟩ | ⟨rfl, rfl⟩
      · rw [if_pos rfl, if_pos rfl, ← thc_k h5 (show 3 < 5 by decide)]
        by_cases c : thc m 34 b 3 ≤ h
        · rw [if_pos c, if_neg (fun z => z.2 c)]; exact hi _ _
        · rw [if_neg c, if_pos ⟨h5, c⟩]; exact hi _ _
      · rw [if_neg (show ¬ (1 : Int32) = 0 by decide), ← thc_k h5 (show 0 < 5 by decide)]
        by_cases c : thc m 34 b 0 ≤ h
        · rw [if_pos c, if_neg (fun z => z.2 c)]; exact hi _ _
        · rw [if_neg c, if_neg (show ¬ (1 : Int32) = 0 by decide), if_pos ⟨h5, c⟩]; exact hi _ _
    · rw [if_neg h5, if_neg (fun z => h5 z.1)]
      simp only [fX10_placeWithMost_c72, nn_s]
      exact hi _ _
theorem r_top_l (m : mm_MM) {k : Nat} (hk : k < 6) (h0 : ∀ b, thr m 623 0 b 5 = 1 → 0 ≤ thr m 623 0 b k) : ∀ (n b : Nat) (w h : Int32) (f : Nat), b + n = 8 → n < f → ((w = -1 ∧ h = -1) ∨ ∃ c, c < 8 ∧ w = Int32.ofNat c ∧ thr m 623 0 c 5 = 1 ∧ h = thr m 623 0 c k) → fX11_topThing_c4 f m (Int32.ofNat k) w (Int32.ofNat b) = some (topN (thr m 623 0) k n b w h, m) := by
  intro n
  induction n with
  | zero =>
    intro b w h f hb hf hw
    obtain ⟨f, rfl⟩ : ∃ g, f = g + 1 := ⟨f - 1, by omega⟩
    obtain rfl : b = 8 := by omega
    rfl
  | succ n ih =>
    intro b w h f hb hf hw
    obtain ⟨f, rfl⟩ : ∃ g, f = g + 1 := ⟨f - 1, by omega⟩
    have hb8 : b < 8 := by omega
    have hi := fun w h => ih (b + 1) w h f (by omega) (by omega)
    rw [fX11_topThing_c4, topN]
    dsimp only
    rw [if_pos (nn_ll 8 hb8 (by decide)), r_isThere_n m hb8]
    simp only [Option.bind_some, fX11_topThing_c38, fX11_topThing_c42, fX11_topThing_c43, nn_s]
    by_cases h5 : thr m 623 0 b 5 = 1
    · rw [if_pos h5, if_neg (by decide)]
      rcases hw with ⟨rfl, rfl⟩ | ⟨c, hc, rfl, hc5, rfl⟩
      · have : ¬ thr m 623 0 b k ≤ -1 := by have := h0 b h5; grind
        rw [if_pos rfl, if_pos ⟨h5, this⟩]
        exact hi _ _ (Or.inr ⟨b, hb8, rfl, h5, rfl⟩)
      · rw [if_neg (ofN_ne (by omega)), r_of m hb8 hk]
        simp only [Option.bind_some, r_of m hc hk]
        rw [← thr_k0 h5 hk, ← thr_k0 hc5 hk]
        by_cases e : thr m 623 0 b k ≤ thr m 623 0 c k
        · rw [if_pos e, if_neg (fun z => z.2 e)]
          exact hi _ _ (Or.inr ⟨c, hc, rfl, hc5, rfl⟩)
        · rw [if_neg e, if_pos ⟨h5, e⟩]
          exact hi _ _ (Or.inr ⟨b, hb8, rfl, h5, rfl⟩)
    · rw [if_neg h5, if_pos rfl, if_neg (fun z => h5 z.1)]
      exact hi _ _ hw
/-! rows -/
def rwB (w : Int32) (T : TT) (r : Int32) (b : Nat) : Bool := decide (lyT T b ∧ T b 2 / w = r)
def rwV (w : Int32) (T : TT) (r : Nat) : Int32 := suN (rwB w T (Int32.ofNat r)) T 8 0 0
theorem c_rich_l (m : mm_MM) (hw : ¬ m.1 14 3 ≤ 0) (kr : mm_MM → Int32 → Int32 → Int32 → Option (Int32 × mm_MM)) (x1 x2 r : Int32) : ∀ (n b : Nat) (a : Int32) (f : Nat), b + n = 8 → n < f → fX10_richestRow_c23 kr f m x1 x2 r a (Int32.ofNat b) = if suN (rwB (m.1 14 3) (thc m 34) r) (thc m 34) n b a ≤ x2 then kr m x1 x2 (r + 1) else kr m r (suN (rwB (m.1 14 3) (thc m 34) r) (thc m 34) n b a) (r + 1) := by
  intro n
  induction n with
  | zero =>
    intro b a f hb hf
    obtain ⟨f, rfl⟩ : ∃ g, f = g + 1 := ⟨f - 1, by omega⟩
    obtain rfl : b = 8 := by omega
    rfl
  | succ n ih =>
    intro b a f hb hf
    obtain ⟨f, rfl⟩ : ∃ g, f = g + 1 := ⟨f - 1, by omega⟩
    have hb8 : b < 8 := by omega
    have hi := fun a => ih (b + 1) a f (by omega) (by omega)
    rw [fX10_richestRow_c23, suN]
    dsimp only
    rw [if_pos (nn_ll 8 hb8 (by decide)), c_findLying_n m hb8]
    simp only [Option.bind_some, fX10_richestRow_c72, fX10_richestRow_c73, nn_s]
    have a0 : a + 0 = a := Int32.add_zero a
    by_cases h : lyT (thc m 34) b
    · have hkd : mm_kd (34 + b) = (9, 6) := kd_p hb8
      rw [if_pos h]
      simp only [if_pos hkd, c_rowOf m hw, Option.bind_some]
      rw [← thc_k h.1 (show 2 < 5 by decide), ← thc_k h.1 (show 0 < 5 by decide)]
      by_cases c : thc m 34 b 2 / m.1 14 3 = r
      · rw [if_pos c, show rwB (m.1 14 3) (thc m 34) r b = true from decide_eq_true ⟨h, c⟩, if_pos rfl]
        exact hi _
      · rw [if_neg c, show rwB (m.1 14 3) (thc m 34) r b = false from decide_eq_false (fun z => c z.2), if_neg Bool.false_ne_true, a0]
        exact hi _
    · rw [if_neg h, show rwB (m.1 14 3) (thc m 34) r b = false from decide_eq_false (fun z => h z.1), if_neg Bool.false_ne_true]
      simp only [a0]
      exact hi _
theorem r_rowOf (m : mm_MM) {b : Nat} (hb : b < 8) (h5 : thr m 623 0 b 5 = 1) (hw : ¬ m.1 620 0 = 0) : fX11_rowOf m (Int32.ofNat b) = some (thr m 623 0 b 2 / m.1 620 0, m) := by
  unfold fX11_rowOf
  rw [r_of2 m hb]
  simp only [Option.bind_some, if_neg hw]
  rw [← thr_k0 h5 (show 2 < 6 by decide)]
theorem r_rowV_l (m : mm_MM) (hw : ¬ m.1 620 0 = 0) (r : Int32) : ∀ (n b : Nat) (a : Int32) (f : Nat), b + n = 8 → n < f → fX11_rowValue_c4 f m r a (Int32.ofNat b) = some (suN (rwB (m.1 620 0) (thr m 623 0) r) (thr m 623 0) n b a, m) := by
  intro n
  induction n with
  | zero =>
    intro b a f hb hf
    obtain ⟨f, rfl⟩ : ∃ g, f = g + 1 := ⟨f - 1, by omega⟩
    obtain rfl : b = 8 := by omega
    rfl
  | succ n ih =>
    intro b a f hb hf
    obtain ⟨f, rfl⟩ : ∃ g, f = g + 1 := ⟨f - 1, by omega⟩
    have hb8 : b < 8 := by omega
    have hi := fun a => ih (b + 1) a f (by omega) (by omega)
    rw [fX11_rowValue_c4, suN]
    dsimp only
    rw [if_pos (nn_ll 8 hb8 (by decide)), r_doesLie_n m hb8]
    simp only [Option.bind_some, fX11_rowValue_c37, fX11_rowValue_c38, nn_s]
    have a0 : a + 0 = a := Int32.add_zero a
    by_cases h : lyT (thr m 623 0) b
    · rw [if_pos h, if_neg (by decide), r_rowOf m hb8 h.1 hw]
      simp only [Option.bind_some]
      by_cases c : thr m 623 0 b 2 / m.1 620 0 = r
      · rw [if_pos c, show rwB (m.1 620 0) (thr m 623 0) r b = true from decide_eq_true ⟨h, c⟩, if_pos rfl, r_of0 m hb8]
        simp only [Option.bind_some]
        rw [← thr_k0 h.1 (show 0 < 6 by decide)]
        exact hi _
      · rw [if_neg c, show rwB (m.1 620 0) (thr m 623 0) r b = false from decide_eq_false (fun z => c z.2), if_neg Bool.false_ne_true, a0]
        exact hi _
    · rw [if_neg h, if_pos rfl, show rwB (m.1 620 0) (thr m 623 0) r b = false from decide_eq_false (fun z => h z.1), if_neg Bool.false_ne_true, a0]
      exact hi _
theorem r_rowValue (m : mm_MM) (hw : ¬ m.1 620 0 = 0) (r : Nat) : fX11_rowValue m (Int32.ofNat r) = some (rwV (m.1 620 0) (thr m 623 0) r, m) := r_rowV_l m hw (Int32.ofNat r) 8 0 0 fu rfl (by decide)
/-- of several the first: the row with most -/
def ricN (V : Nat → Int32) : Nat → Nat → Int32 → Int32 → Int32
  | 0, _, a, _ => a
  | n + 1, r, a, h => if V r ≤ h then ricN V n (r + 1) a h else ricN V n (r + 1) (Int32.ofNat r) (V r)
theorem c_ric_l (m : mm_MM) (hw : ¬ m.1 14 3 ≤ 0) {H : Nat} (hH : m.1 14 4 = Int32.ofNat H) (h4 : H ≤ 4) : ∀ (n r : Nat) (a h : Int32) (f : Nat), r + n = H → n < f → fX10_richestRow_c6 f m a h (Int32.ofNat r) = some (ricN (rwV (m.1 14 3) (thc m 34)) n r a h, m) := by
  intro n
  induction n with
  | zero =>
    intro r a h f hb hf
    obtain ⟨f, rfl⟩ : ∃ g, f = g + 1 := ⟨f - 1, by omega⟩
    rw [fX10_richestRow_c6, ricN]
    dsimp only
    rw [hH, if_neg (by rw [nn_lt (by omega) (by omega)]; omega)]
  | succ n ih =>
    intro r a h f hb hf
    obtain ⟨f, rfl⟩ : ∃ g, f = g + 1 := ⟨f - 1, by omega⟩
    have hi := fun a h => ih (r + 1) a h f (by omega) (by omega)
    rw [fX10_richestRow_c6, ricN]
    dsimp only
    rw [hH, if_pos (by rw [nn_lt (by omega) (by omega)]; omega)]
    refine (c_rich_l m hw (fX10_richestRow_c6 f) a h (Int32.ofNat r) 8 0 0 fu rfl (by decide)).trans ?_
    show (if rwV (m.1 14 3) (thc m 34) r ≤ h then _ else fX10_richestRow_c6 f m _ (rwV (m.1 14 3) (thc m 34) r) _) = _
    rw [nn_s]
    by_cases c : rwV (m.1 14 3) (thc m 34) r ≤ h
    · rw [if_pos c, if_pos c]; exact hi _ _
    · rw [if_neg c, if_neg c]; exact hi _ _
theorem sub_le0 {u v : Int32} (hu : 0 ≤ u ∧ u ≤ 2000) (hv : 0 ≤ v ∧ v ≤ 2000) : u - v ≤ 0 ↔ u ≤ v := by grind
theorem r_ric_l (m : mm_MM) {x : Int32} {V : Nat → Int32} {H : Nat} (hH : m.1 620 1 = Int32.ofNat H) (h4 : H ≤ 4) (hV : ∀ r, 0 ≤ V r ∧ V r ≤ 2000) (hs : ∀ (kr : mm_MM → Int32 → Int32 → Int32 → Option (Int32 × mm_MM)) (f r c : Nat), r < H → c < H → fX11_topRow_c4 (f + 1) m x (Int32.ofNat c) (Int32.ofNat r) = fX11_topRow_c45 (fX11_topRow_c4 f) m x (Int32.ofNat c) (Int32.ofNat r) (V r - V c)) : ∀ (n r c f : Nat), r + n = H → n < f → c < H → fX11_topRow_c4 f m x (Int32.ofNat c) (Int32.ofNat r) = some (ricN V n r (Int32.ofNat c) (V c), m) := by
  intro n
  induction n with
  | zero =>
    intro r c f hb hf hc
    obtain ⟨f, rfl⟩ : ∃ g, f = g + 1 := ⟨f - 1, by omega⟩
    rw [fX11_topRow_c4, ricN]
    dsimp only
    rw [hH, if_neg (by rw [nn_lt (by omega) (by omega)]; omega)]
  | succ n ih =>
    intro r c f hb hf hc
    obtain ⟨f, rfl⟩ : ∃ g, f = g + 1 := ⟨f - 1, by omega⟩
    have hi := fun c hc => ih (r + 1) c f (by omega) (by omega) hc
    rw [hs (fun _ _ _ _ => none) f r c (by omega) hc, ricN]
    simp only [fX11_topRow_c45, fX11_topRow_c57, nn_s]
    by_cases e : V r ≤ V c
    · rw [if_pos ((sub_le0 (hV r) (hV c)).mpr e), if_pos e]; exact hi c hc
    · rw [if_neg (fun z => e ((sub_le0 (hV r) (hV c)).mp z)), if_neg e]; exact hi r (by omega)
theorem c_damR_l (m : mm_MM) {H : Nat} (hH : m.1 14 4 = Int32.ofNat H) (h4 : H ≤ 4) : ∀ (n r c f : Nat), r + n = H → n < f → c < 4 → fX10_dampestRow_c4 f m (Int32.ofNat c) (Int32.ofNat r) = some (ricN (m.1 15) n r (Int32.ofNat c) (m.1 15 c), m) := by
  intro n
  induction n with
  | zero =>
    intro r c f hb hf hc
    obtain ⟨f, rfl⟩ : ∃ g, f = g + 1 := ⟨f - 1, by omega⟩
    rw [fX10_dampestRow_c4, ricN]
    dsimp only
    rw [hH, if_neg (by rw [nn_lt (by omega) (by omega)]; omega)]
  | succ n ih =>
    intro r c f hb hf hc
    obtain ⟨f, rfl⟩ : ∃ g, f = g + 1 := ⟨f - 1, by omega⟩
    have hi := fun c hc => ih (r + 1) c f (by omega) (by omega) hc
    rw [fX10_dampestRow_c4, ricN]
    dsimp only
    rw [hH, if_pos (by rw [nn_lt (by omega) (by omega)]; omega), c_pick_n m 15 (n := 4) rfl (by decide) (show r < 4 by omega)]
    simp only [Option.bind_some, c_pick_n m 15 (n := 4) rfl (by decide) hc, fX10_dampestRow_c42, nn_s]
    by_cases e : m.1 15 r ≤ m.1 15 c
    · rw [if_pos e, if_pos e]; exact hi c hc
    · rw [if_neg e, if_neg e]; exact hi r (by omega)
/-! lawful: ripe, lying nowhere -/
def laB (y : Int32) (T : TT) (b : Nat) : Bool := riB y T b && !lyB T b
theorem suN_add (p : Nat → Bool) (T : TT) (z : Int32) : ∀ (n b : Nat) (a : Int32), suN p T n b (z + a) = z + suN p T n b a
  | 0, _, _ => rfl
  | n + 1, b, a => by
    rw [suN, suN]
    by_cases c : p b = true
    · rw [if_pos c, if_pos c, Int32.add_assoc, suN_add p T z n]
    · rw [if_neg c, if_neg c, suN_add p T z n]
theorem c_law_l (m : mm_MM) : ∀ (n b : Nat) (a : Int32) (f : Nat), b + n = 8 → n < f → fX10_lawfulCoins_c10 f m a (Int32.ofNat b) = some (mi 999 (suN (laB (m.1 14 5) (thc m 34)) (thc m 34) n b a), m) := by
  intro n
  induction n with
  | zero =>
    intro b a f hb hf
    obtain ⟨f, rfl⟩ : ∃ g, f = g + 1 := ⟨f - 1, by omega⟩
    obtain rfl : b = 8 := by omega
    rw [fX10_lawfulCoins_c10, suN]
    dsimp only
    rw [if_neg (show ¬ Int32.ofNat 8 < 8 by decide), j_min]
    rfl
  | succ n ih =>
    intro b a f hb hf
    obtain ⟨f, rfl⟩ : ∃ g, f = g + 1 := ⟨f - 1, by omega⟩
    have hb8 : b < 8 := by omega
    have hi := fun a => ih (b + 1) a f (by omega) (by omega)
    have a0 : a + 0 = a := Int32.add_zero a
    rw [fX10_lawfulCoins_c10, suN]
    dsimp only
    rw [if_pos (nn_ll 8 hb8 (by decide)), c_find_n m hb8]
    simp only [Option.bind_some, fX10_lawfulCoins_c53, fX10_lawfulCoins_c54, nn_s]
    by_cases h5 : thc m 34 b 5 = 1
    · have hkd : mm_kd (34 + b) = (9, 6) := kd_p hb8
      rw [if_pos h5]
      simp only [if_pos hkd]
      rw [← thc_k h5 (show 2 < 5 by decide)]
      by_cases h2 : thc m 34 b 2 = -1
      · rw [if_pos h2, c_ripe m h5]
        simp only [Option.bind_some]
        rw [← thc_k h5 (show 0 < 5 by decide)]
        by_cases h3 : thc m 34 b 3 < m.1 14 5
        · rw [if_pos h3, if_pos rfl, show laB (m.1 14 5) (thc m 34) b = false from by simp [laB, riB, h3], if_neg (by decide), a0]
          exact hi _
        · rw [if_neg h3, if_neg (by decide), show laB (m.1 14 5) (thc m 34) b = true from by simp [laB, riB, lyB, lyT, h3, h5, h2], if_pos rfl]
          exact hi _
      · rw [if_neg h2, show laB (m.1 14 5) (thc m 34) b = false from by simp [laB, lyB, lyT, h5, h2], if_neg (by decide), a0]
        exact hi _
    · rw [if_neg h5, show laB (m.1 14 5) (thc m 34) b = false from by simp [laB, riB, h5], if_neg (by decide)]
      simp only [a0]
      exact hi _
theorem and1_01 (u : Int32) : u &&& 1 = 0 ∨ u &&& 1 = 1 := by
  have h : (u &&& 1).toBitVec = BitVec.setWidth 32 (BitVec.ofBool (u.toBitVec.getLsbD 0)) := by
    rw [Int32.toBitVec_and]
    exact BitVec.and_one_eq_setWidth_ofBool_getLsbD
  cases hb : u.toBitVec.getLsbD 0 with
  | false => rw [hb] at h; exact Or.inl (Int32.toBitVec_inj.mp h)
  | true => rw [hb] at h; exact Or.inr (Int32.toBitVec_inj.mp h)
theorem and1_and (a b : Int32) : (a &&& b) &&& 1 = (a &&& 1) &&& (b &&& 1) := by
  rw [Int32.and_assoc, Int32.and_assoc, ← Int32.and_assoc 1 b 1, Int32.and_comm 1 b, Int32.and_assoc b 1 1, Int32.and_self]
theorem and1_iff (a b : Int32) : (a &&& b) &&& 1 = 1 ↔ a &&& 1 = 1 ∧ b &&& 1 = 1 := by
  rw [and1_and]
  rcases and1_01 a with h | h <;> rcases and1_01 b with h' | h' <;> rw [h, h'] <;> decide
theorem bv_ax (x y z : BitVec 32) : (x ^^^ y) &&& z = (x &&& z) ^^^ (y &&& z) := BitVec.eq_of_getElem_eq (by simp [Bool.and_xor_distrib_right])
theorem not1 (a : Int32) : (a ^^^ (-1)) &&& 1 = 1 ↔ ¬ a &&& 1 = 1 := by
  have e : (a ^^^ (-1)) &&& 1 = (a &&& 1) ^^^ 1 := by
    have : (a ^^^ (-1)) &&& 1 = (a &&& 1) ^^^ ((-1) &&& 1) := Int32.toBitVec_inj.mp (by
      simp only [Int32.toBitVec_and, Int32.toBitVec_xor]
      exact bv_ax _ _ _)
    exact this
  rw [e]
  rcases and1_01 a with h | h <;> rw [h] <;> decide
theorem hasB_nx {x y : Int32} {b : Nat} (hb : b < 8) : hasB (x &&& (y ^^^ ((-1) : Int32))) b = (hasB x b && !hasB y b) := by
  have e : ((-1) : Int32) >>> (Int32.ofNat b &&& 31) = -1 := by
    obtain rfl | rfl | rfl | rfl | rfl | rfl | rfl | rfl : b = 0 ∨ b = 1 ∨ b = 2 ∨ b = 3 ∨ b = 4 ∨ b = 5 ∨ b = 6 ∨ b = 7 := by omega
    all_goals decide +kernel
  unfold hasB
  rw [Int32.shiftRight_and, Int32.shiftRight_xor, e]
  have h1 := and1_iff (x >>> (Int32.ofNat b &&& 31)) ((y >>> (Int32.ofNat b &&& 31)) ^^^ (-1))
  have h2 := not1 (y >>> (Int32.ofNat b &&& 31))
  by_cases c1 : (x >>> (Int32.ofNat b &&& 31)) &&& 1 = 1
  · by_cases c2 : (y >>> (Int32.ofNat b &&& 31)) &&& 1 = 1
    · rw [decide_eq_true c1, decide_eq_true c2, decide_eq_false (fun z => (h2.mp (h1.mp z).2) c2)]; rfl
    · rw [decide_eq_true c1, decide_eq_false c2, decide_eq_true (h1.mpr ⟨c1, h2.mpr c2⟩)]; rfl
  · rw [decide_eq_false c1, decide_eq_false (fun z => c1 (h1.mp z).1)]; rfl
theorem r_valueX_l (m : mm_MM) (x : Int32) (p : Nat → Bool) (hx : ∀ b, b < 8 → hasB x b = p b) (hp : ∀ b, b < 8 → p b = true → thr m 623 0 b 5 = 1) : ∀ (n b : Nat) (a : Int32) (f : Nat), b + n = 8 → n < f → fX11_valueOf_c4 f m x a (Int32.ofNat b) = some (suN p (thr m 623 0) n b a, m) := by
  intro n
  induction n with
  | zero =>
    intro b a f hb hf
    obtain ⟨f, rfl⟩ : ∃ g, f = g + 1 := ⟨f - 1, by omega⟩
    obtain rfl : b = 8 := by omega
    rfl
  | succ n ih =>
    intro b a f hb hf
    obtain ⟨f, rfl⟩ : ∃ g, f = g + 1 := ⟨f - 1, by omega⟩
    have hb8 : b < 8 := by omega
    have hi := fun a => ih (b + 1) a f (by omega) (by omega)
    rw [fX11_valueOf_c4]
    dsimp only
    rw [if_pos (nn_ll 8 hb8 (by decide)), r_has, hx b hb8]
    simp only [Option.bind_some, fX11_valueOf_c29, nn_s, suN]
    cases hpb : p b with
    | false =>
      simp only [Bool.false_eq_true, if_false, if_true, Int32.add_zero]; exact hi a
    | true =>
      simp only [if_true, if_neg (show ¬ (1 : Int32) = 0 by decide), r_of0 m hb8, Option.bind_some]
      rw [thr_k0 (hp b hb8 hpb) (by decide)]; exact hi _
/-! beside -/
def paiN (w : Int32) (T : TT) : Nat → Nat → Int32 → Int32
  | 0, _, a => a / 2
  | n + 1, b, a => paiN w T n (b + 1) (a + if lyT T b then besN w T (T b 2) 8 0 0 else 0)
theorem c_pai_l (m : mm_MM) (hw : ¬ m.1 14 3 ≤ 0) : ∀ (n b : Nat) (a : Int32) (f : Nat), b + n = 8 → n < f → fX10_pairsBeside_c4 f m a (Int32.ofNat b) = some (paiN (m.1 14 3) (thc m 34) n b a, m) := by
  intro n
  induction n with
  | zero =>
    intro b a f hb hf
    obtain ⟨f, rfl⟩ : ∃ g, f = g + 1 := ⟨f - 1, by omega⟩
    obtain rfl : b = 8 := by omega
    rfl
  | succ n ih =>
    intro b a f hb hf
    obtain ⟨f, rfl⟩ : ∃ g, f = g + 1 := ⟨f - 1, by omega⟩
    have hb8 : b < 8 := by omega
    have hi := fun a => ih (b + 1) a f (by omega) (by omega)
    rw [fX10_pairsBeside_c4, paiN]
    dsimp only
    rw [if_pos (nn_ll 8 hb8 (by decide)), c_findLying_n m hb8]
    simp only [Option.bind_some, fX10_pairsBeside_c36, nn_s]
    by_cases h : lyT (thc m 34) b
    · have hkd : mm_kd (34 + b) = (9, 6) := kd_p hb8
      rw [if_pos h]
      simp only [if_pos hkd, c_countBeside m _ hw, Option.bind_some]
      rw [← thc_k h.1 (show 2 < 5 by decide), if_pos h]
      exact hi _
    · rw [if_neg h, if_neg h]
      exact hi _
theorem r_pai_l (m : mm_MM) (hw : ¬ m.1 620 0 = 0) : ∀ (n b : Nat) (a : Int32) (f : Nat), b + n = 8 → n < f → fX11_besideMany_c4 f m a (Int32.ofNat b) = some (paiN (m.1 620 0) (thr m 623 0) n b a, m) := by
  intro n
  induction n with
  | zero =>
    intro b a f hb hf
    obtain ⟨f, rfl⟩ : ∃ g, f = g + 1 := ⟨f - 1, by omega⟩
    obtain rfl : b = 8 := by omega
    rfl
  | succ n ih =>
    intro b a f hb hf
    obtain ⟨f, rfl⟩ : ∃ g, f = g + 1 := ⟨f - 1, by omega⟩
    have hb8 : b < 8 := by omega
    have hi := fun a => ih (b + 1) a f (by omega) (by omega)
    rw [fX11_besideMany_c4, paiN]
    dsimp only
    rw [if_pos (nn_ll 8 hb8 (by decide)), r_doesLie_n m hb8]
    simp only [Option.bind_some, fX11_besideMany_c28, nn_s]
    by_cases h : lyT (thr m 623 0) b
    · rw [if_pos h, if_neg (by decide), if_pos h, r_besideOf m hb8 hw h.1]
      simp only [Option.bind_some]
      exact hi _
    · rw [if_neg h, if_pos rfl, if_neg h]
      exact hi _
theorem rwV_b {T : TT} (hT : TB W H T) (w : Int32) (r : Nat) : 0 ≤ rwV w T r ∧ rwV w T r ≤ 2000 := by
  obtain ⟨s, h1, h2⟩ := suN_b hT (rwB w T (Int32.ofNat r)) (fun b hb => (of_decide_eq_true hb).1.1) 8 0 0
  have h2 : rwV w T r = Int32.ofNat s := h2
  rw [h2]
  exact ⟨Int32.not_lt.mp (nn_n0 (by omega)), (nn_le (k := 2000) (by omega) (by decide)).mpr (by omega)⟩
theorem q_most (hi : Inv m) (x : Int32) : EQ m (fun m => fX10_most m x) (fun m => fX11_most m x) := by
  obtain ⟨W, H, P, ls, h⟩ := id hi
  have hs := see0 h
  by_cases hk0 : m.1 0 14 = 0
  · refine EQ_0 (v := -1) hi ?_ ?_
    · simp only [fX10_most, if_pos hk0]
    · simp only [fX11_most, hs.2.1, if_pos hk0, fX11_most_c17]
  · have hk : m.1 0 14 = 1 := h.1.2.1.resolve_left hk0
    obtain ⟨o, t, ht, EC, ER⟩ := IA_env h hk
    have hw : ¬ m.1 14 3 ≤ 0 := by
      rw [EC.2.1, show (0 : Int32) = Int32.ofNat 0 from rfl, nn_le (by have := EC.1.2.1; omega) (by decide)]
      have := EC.1.1; omega
    have hwr : ¬ m.1 620 0 = 0 := by rw [hs.2.2.1]; exact fun z => hw (by rw [z]; decide)
    have hTB := h.2.1.2.2.2.1.1
    have hTc : TB W H (thc m 34) := hTB
    have hT := hs.1
    by_cases hx : x < 0 ∨ ¬ x ≤ 11
    · have n : ¬ x = 0 ∧ ¬ x = 1 ∧ ¬ x = 2 ∧ ¬ x = 3 ∧ ¬ x = 4 ∧ ¬ x = 5 ∧ ¬ x = 6 ∧ ¬ x = 7 ∧ ¬ x = 8 ∧ ¬ x = 9 ∧ ¬ x = 10 ∧ ¬ x = 11 := by
        refine ⟨?_, ?_, ?_, ?_, ?_, ?_, ?_, ?_, ?_, ?_, ?_, ?_⟩ <;> intro z <;> rw [z] at hx <;> exact absurd hx (by decide)
      have hz : (if x < 0 then (0 : Int32) else if x ≤ 11 then 1 else 0) = 0 := by
        by_cases h1 : x < 0
        · rw [if_pos h1]
        · rw [if_neg h1, if_neg (hx.resolve_left h1)]
      obtain ⟨n0, n1, n2, n3, n4, n5, n6, n7, n8, n9, n10, n11⟩ := n
      refine EQ_0 (v := -1) hi ?_ ?_
      · simp only [fX10_most, if_neg hk0, n0, n1, n2, n3, n4, n5, n6, n7, n8, n9, n10, n11, if_false]
      · simp only [fX11_most, hs.2.1, if_neg hk0, r_in, hz, Option.bind_some, if_true, fX11_most_c17]
    · have h0 : ¬ x < 0 := fun z => hx (Or.inl z)
      have h11 : x ≤ 11 := Classical.not_not.mp fun z => hx (Or.inr z)
      have e := nn_of h0
      have hX := (nn_lek (k := 11) h0 (by decide)).mp h11
      have hin : (if x < 0 then (0 : Int32) else if x ≤ 11 then 1 else 0) = 1 := by rw [if_neg h0, if_pos h11]
      have hb0 : ∀ k, k = 0 ∨ k = 3 → ∀ b, thr m 623 0 b 5 = 1 → 0 ≤ thr m 623 0 b k := fun k hk b hb => by
        rw [hT] at hb ⊢
        rcases hk with rfl | rfl
        · exact (hTc b hb).1.1
        · exact (hTc b hb).2.2.2.1.1
      have go : ∀ v, fX10_most m x = some (v, m) → fX11_most m x = some (v, m) → EQ m (fun m => fX10_most m x) (fun m => fX11_most m x) := fun v a b => EQ_0 (v := v) hi a b
      have hob : ∀ {α : Type} {f : Int32 × mm_MM → Option α}, (some ((if x < 0 then (0 : Int32) else if x ≤ 11 then 1 else 0), m)).bind f = f (1, m) := fun {α f} => by rw [hin]; rfl
      clear hx
      generalize x.toNatClampNeg = X at e hX
      have hH : m.1 14 4 = Int32.ofNat H := EC.2.2.1
      have hHr : m.1 620 1 = Int32.ofNat H := ER.2.2.1
      have h4 : H ≤ 4 := EC.1.2.2.2
      have h1 : 1 ≤ H := EC.1.2.2.1
      obtain rfl | rfl | rfl | rfl | rfl | rfl | rfl | rfl | rfl | rfl | rfl | rfl : X = 0 ∨ X = 1 ∨ X = 2 ∨ X = 3 ∨ X = 4 ∨ X = 5 ∨ X = 6 ∨ X = 7 ∨ X = 8 ∨ X = 9 ∨ X = 10 ∨ X = 11 := by omega
      · subst e
        refine go (topN (thc m 34) 0 8 0 (-1) (-1)) ?_ ?_
        · have ec : fX10_placeWithMost m 1 = _ := c_top_l m (x1 := 1) (k := 0) (Or.inr ⟨rfl, rfl⟩) 8 0 (-1) (-1) fu rfl (by decide)
          unfold fX10_most
          rw [if_neg hk0, if_pos (by decide)]
          exact bs ec rfl
        · have er : fX11_topThing m 0 = _ := r_top_l m (k := 0) (by decide) (hb0 0 (Or.inl rfl)) 8 0 (-1) (-1) fu rfl (by decide) (Or.inl ⟨rfl, rfl⟩)
          unfold fX11_most
          rw [hs.2.1, if_neg hk0, r_in, hob]
          dsimp only
          rw [if_neg (by decide), if_pos (by decide)]
          exact (bs er rfl).trans (by rw [hT])
      · subst e
        refine go (topN (thc m 34) 3 8 0 (-1) (-1)) ?_ ?_
        · have ec : fX10_placeWithMost m 0 = _ := c_top_l m (x1 := 0) (k := 3) (Or.inl ⟨rfl, rfl⟩) 8 0 (-1) (-1) fu rfl (by decide)
          unfold fX10_most
          rw [if_neg hk0, if_neg (by decide), if_pos (by decide)]
          exact bs ec rfl
        · have er : fX11_topThing m 3 = _ := r_top_l m (k := 3) (by decide) (hb0 3 (Or.inr rfl)) 8 0 (-1) (-1) fu rfl (by decide) (Or.inl ⟨rfl, rfl⟩)
          unfold fX11_most
          rw [hs.2.1, if_neg hk0, r_in, hob]
          dsimp only
          rw [if_neg (by decide), if_neg (by decide), if_pos (by decide)]
          exact (bs er rfl).trans (by rw [hT])
      · subst e
        have hV0 : ¬ rwV (m.1 14 3) (thc m 34) 0 ≤ -1 := by have := rwV_b hTc (m.1 14 3) 0; grind
        refine go (ricN (rwV (m.1 14 3) (thc m 34)) (H - 1) 1 (Int32.ofNat 0) (rwV (m.1 14 3) (thc m 34) 0)) ?_ ?_
        · have ec := c_ric_l m hw hH h4 H 0 0 (-1) fu (by omega) (by unfold fu; omega)
          have ec : fX10_richestRow m = _ := ec
          obtain ⟨n, rfl⟩ : ∃ n, H = n + 1 := ⟨H - 1, by omega⟩
          rw [ricN, if_neg hV0] at ec
          unfold fX10_most
          rw [if_neg hk0, if_neg (by decide), if_neg (by decide), if_pos (by decide)]
          exact bs ec rfl
        · have er := r_ric_l m (x := 1) (V := rwV (m.1 620 0) (thr m 623 0)) hHr h4 (fun r => by rw [hT]; exact rwV_b hTc _ r) (fun _ f r c hr hc => by
            rw [fX11_topRow_c4]
            dsimp only
            rw [hHr, if_pos (by rw [nn_lt (by omega) (by omega)]; omega), if_neg (by decide), r_rowValue m hwr r]
            simp only [Option.bind_some, r_rowValue m hwr c]) (H - 1) 1 0 fu (by omega) (by unfold fu; omega) (by omega)
          have er : fX11_topRow m 1 = _ := er
          unfold fX11_most
          rw [hs.2.1, if_neg hk0, r_in, hob]
          dsimp only
          rw [if_neg (by decide), if_neg (by decide), if_neg (by decide), if_pos (by decide)]
          exact (bs er rfl).trans (by rw [hT, hs.2.2.1])
      · subst e
        refine go (ricN (m.1 15) (H - 1) 1 (Int32.ofNat 0) (m.1 15 0)) ?_ ?_
        · have ec := c_damR_l m hH h4 (H - 1) 1 0 fu (by omega) (by unfold fu; omega) (by omega)
          have ec : fX10_dampestRow m = _ := ec
          unfold fX10_most
          rw [if_neg hk0, if_neg (by decide), if_neg (by decide), if_neg (by decide), if_pos (by decide)]
          exact bs ec rfl
        · have hD : ∀ r, r < 4 → m.1 15 r = m.1 621 r := h.1.2.2.2.1
          have hd := EC.2.2.2.2.2.2.1
          have er := r_ric_l m (x := 0) (V := fun r => if r < 4 then m.1 15 r else 0) hHr h4 (fun r => by
            by_cases c : r < 4
            · rw [if_pos c]; have := hd r c; grind
            · rw [if_neg c]; decide) (fun _ f r c hr hc => by
            rw [fX11_topRow_c4]
            dsimp only
            rw [hHr, if_pos (by rw [nn_lt (by omega) (by omega)]; omega), if_pos rfl, nn_go (by omega) (by omega), nn_go (by omega) (by omega), nn_tn (by omega), nn_tn (by omega), if_pos (by omega), if_pos (by omega), hD r (by omega), hD c (by omega)]) (H - 1) 1 0 fu (by omega) (by unfold fu; omega) (by omega)
          have er : fX11_topRow m 0 = _ := er
          have ecg : ∀ (n r c : Nat), r + n ≤ 4 → c < 4 → ricN (fun r => if r < 4 then m.1 15 r else 0) n r (Int32.ofNat c) (m.1 15 c) = ricN (m.1 15) n r (Int32.ofNat c) (m.1 15 c) := by
            intro n
            induction n with
            | zero => intro r c _ _; rfl
            | succ n ih =>
              intro r c hr hc
              rw [ricN, ricN, if_pos (show r < 4 by omega), ih (r + 1) c (by omega) hc, ih (r + 1) r (by omega) (by omega)]
          unfold fX11_most
          rw [hs.2.1, if_neg hk0, r_in, hob]
          dsimp only
          rw [if_neg (by decide), if_neg (by decide), if_neg (by decide), if_neg (by decide), if_pos (by decide)]
          refine (bs er rfl).trans ?_
          dsimp only
          rw [if_pos (show 0 < 4 by decide), ecg _ _ _ (by omega) (by decide)]
      · subst e
        refine go (mk8 (whoB (m.1 14 5) (thc m 34) 0)) ?_ ?_
        · unfold fX10_most
          rw [if_neg hk0, if_neg (by decide), if_neg (by decide), if_neg (by decide), if_neg (by decide), if_pos (by decide)]
          exact bs (c_places m (w := 0) (by decide)) rfl
        · unfold fX11_most
          rw [hs.2.1, if_neg hk0, r_in, hob]
          dsimp only
          rw [if_neg (by decide), if_neg (by decide), if_neg (by decide), if_neg (by decide), if_neg (by decide), if_pos (by decide)]
          exact (bs (r_onesWho m (w := 0) (by decide)) rfl).trans (by rw [hT, hs.2.2.2.2.1])
      · subst e
        refine go (mk8 (whoB (m.1 14 5) (thc m 34) 1)) ?_ ?_
        · unfold fX10_most
          rw [if_neg hk0, if_neg (by decide), if_neg (by decide), if_neg (by decide), if_neg (by decide), if_neg (by decide), if_pos (by decide)]
          exact bs (c_places m (w := 1) (by decide)) rfl
        · unfold fX11_most
          rw [hs.2.1, if_neg hk0, r_in, hob]
          dsimp only
          rw [if_neg (by decide), if_neg (by decide), if_neg (by decide), if_neg (by decide), if_neg (by decide), if_neg (by decide), if_pos (by decide)]
          exact (bs (r_onesWho m (w := 1) (by decide)) rfl).trans (by rw [hT, hs.2.2.2.2.1])
      · subst e
        refine go (mk8 (whoB (m.1 14 5) (thc m 34) 2)) ?_ ?_
        · unfold fX10_most
          rw [if_neg hk0, if_neg (by decide), if_neg (by decide), if_neg (by decide), if_neg (by decide), if_neg (by decide), if_neg (by decide), if_pos (by decide)]
          exact bs (c_places m (w := 2) (by decide)) rfl
        · unfold fX11_most
          rw [hs.2.1, if_neg hk0, r_in, hob]
          dsimp only
          rw [if_neg (by decide), if_neg (by decide), if_neg (by decide), if_neg (by decide), if_neg (by decide), if_neg (by decide), if_neg (by decide), if_pos (by decide)]
          exact (bs (r_onesWho m (w := 2) (by decide)) rfl).trans (by rw [hT, hs.2.2.2.2.1])
      · subst e
        refine go (mk8 (whoB (m.1 14 5) (thc m 34) 3)) ?_ ?_
        · unfold fX10_most
          rw [if_neg hk0, if_neg (by decide), if_neg (by decide), if_neg (by decide), if_neg (by decide), if_neg (by decide), if_neg (by decide), if_neg (by decide), if_pos (by decide)]
          exact bs (c_places m (w := 3) (by decide)) rfl
        · unfold fX11_most
          rw [hs.2.1, if_neg hk0, r_in, hob]
          dsimp only
          rw [if_neg (by decide), if_neg (by decide), if_neg (by decide), if_neg (by decide), if_neg (by decide), if_neg (by decide), if_neg (by decide), if_neg (by decide), if_pos (by decide)]
          exact (bs (r_onesWho m (w := 3) (by decide)) rfl).trans (by rw [hT, hs.2.2.2.2.1])
      · subst e
        refine go (m.1 14 3 * m.1 14 4 - bcN (mk8 (lyB (thc m 34)))) ?_ ?_
        · unfold fX10_most
          rw [if_neg hk0, if_neg (by decide), if_neg (by decide), if_neg (by decide), if_neg (by decide), if_neg (by decide), if_neg (by decide), if_neg (by decide), if_neg (by decide), if_pos (by decide)]
          exact bs (show fX1_plots m 14 = some (m.1 14 3 * m.1 14 4, m) from rfl) (bs (c_places m (w := 1) (by decide)) rfl)
        · unfold fX11_most
          rw [hs.2.1, if_neg hk0, r_in, hob]
          dsimp only
          rw [if_neg (by decide), if_neg (by decide), if_neg (by decide), if_neg (by decide), if_neg (by decide), if_neg (by decide), if_neg (by decide), if_neg (by decide), if_neg (by decide), if_pos (by decide)]
          refine bs (show fX11_plots m = some (m.1 620 0 * m.1 620 1, m) from rfl) (bs (r_ones1 m) ?_)
          dsimp only
          rw [j_bit, hT, hs.2.2.1, hs.2.2.2.1]
          rfl
      · subst e
        refine go (suN (pB (thc m 34)) (thc m 34) 8 0 0) ?_ ?_
        · unfold fX10_most
          rw [if_neg hk0, if_neg (by decide), if_neg (by decide), if_neg (by decide), if_neg (by decide), if_neg (by decide), if_neg (by decide), if_neg (by decide), if_neg (by decide), if_neg (by decide), if_pos (by decide)]
          exact bs (c_valueOfAll m) rfl
        · unfold fX11_most
          rw [hs.2.1, if_neg hk0, r_in, hob]
          dsimp only
          rw [if_neg (by decide), if_neg (by decide), if_neg (by decide), if_neg (by decide), if_neg (by decide), if_neg (by decide), if_neg (by decide), if_neg (by decide), if_neg (by decide), if_neg (by decide), if_pos (by decide)]
          have hv := r_valueOf m (pB (thr m 623 0)) (fun b _ hb => pB_5 hb)
          rw [hT] at hv
          have h1 := r_ones0 m
          rw [hT] at h1
          exact bs h1 (bs hv rfl)
      · subst e
        have hz := suN_add (laB (m.1 14 5) (thc m 34)) (thc m 34) (m.1 29 6) 8 0 0
        rw [Int32.add_zero] at hz
        refine go (mi 999 (m.1 29 6 + suN (laB (m.1 14 5) (thc m 34)) (thc m 34) 8 0 0)) ?_ ?_
        · unfold fX10_most
          rw [if_neg hk0, if_neg (by decide), if_neg (by decide), if_neg (by decide), if_neg (by decide), if_neg (by decide), if_neg (by decide), if_neg (by decide), if_neg (by decide), if_neg (by decide), if_neg (by decide), if_pos (by decide)]
          have ec := c_law_l m 8 0 (m.1 29 6) fu rfl (by decide)
          rw [hz] at ec
          exact bs (show fX10_lawfulCoins m = _ from ec) rfl
        · unfold fX11_most
          rw [hs.2.1, if_neg hk0, r_in, hob]
          dsimp only
          rw [if_neg (by decide), if_neg (by decide), if_neg (by decide), if_neg (by decide), if_neg (by decide), if_neg (by decide), if_neg (by decide), if_neg (by decide), if_neg (by decide), if_neg (by decide), if_neg (by decide), if_pos (by decide)]
          have hv := r_valueX_l m (mk8 (riB (m.1 620 2) (thr m 623 0)) &&& (mk8 (lyB (thr m 623 0)) ^^^ ((-1) : Int32))) (laB (m.1 620 2) (thr m 623 0)) (fun b hb => by rw [hasB_nx hb, mk8_has _ hb, mk8_has _ hb]; rfl) (fun b _ hb => by
            unfold laB at hb
            rw [Bool.and_eq_true] at hb
            exact (of_decide_eq_true hb.1).1) 8 0 0 fu rfl (by decide)
          refine bs (r_ones2 m) (bs (r_ones1 m) (bs (show fX11_valueOf m _ = _ from hv) ?_))
          dsimp only
          rw [j_min, hs.2.2.2.2.2.2.1, hT, hs.2.2.2.2.1]
          rfl
      · subst e
        refine go (paiN (m.1 14 3) (thc m 34) 8 0 0) ?_ ?_
        · unfold fX10_most
          rw [if_neg hk0, if_neg (by decide), if_neg (by decide), if_neg (by decide), if_neg (by decide), if_neg (by decide), if_neg (by decide), if_neg (by decide), if_neg (by decide), if_neg (by decide), if_neg (by decide), if_neg (by decide), if_pos (by decide)]
          exact bs (show fX10_pairsBeside m = _ from c_pai_l m hw 8 0 0 fu rfl (by decide)) rfl
        · unfold fX11_most
          rw [hs.2.1, if_neg hk0, r_in, hob]
          dsimp only
          rw [if_neg (by decide), if_neg (by decide), if_neg (by decide), if_neg (by decide), if_neg (by decide), if_neg (by decide), if_neg (by decide), if_neg (by decide), if_neg (by decide), if_neg (by decide), if_neg (by decide), if_neg (by decide), if_pos (by decide)]
          exact (bs (show fX11_besideMany m = _ from r_pai_l m hwr 8 0 0 fu rfl (by decide)) rfl).trans (by rw [hT, hs.2.2.1])
end MST
