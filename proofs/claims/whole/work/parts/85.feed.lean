/-! FEED: bytes of five numbers -/
section FEE
variable {m m1 : mm_MM} {W H : Nat} {P : List Vw} {ls : Nat → List Cla}
def byB (x : Int32) (j : Nat) : Int32 := (x >>> (Int32.ofNat (24 - 8 * j) &&& 31)) &&& 255
theorem sh_u (x : BitVec 32) (s : Nat) (h : s ≤ 24) : (x >>> s) &&& 255#32 = (x.sshiftRight s) &&& 255#32 := by
  apply BitVec.eq_of_getLsbD_eq
  intro i hi
  rw [BitVec.getLsbD_and, BitVec.getLsbD_and, BitVec.getLsbD_ushiftRight, BitVec.getLsbD_sshiftRight]
  by_cases c : i < 8
  · rw [if_pos (by omega)]
    have : ¬ 32 ≤ i := by omega
    simp [this]
  · have : (255#32).getLsbD i = false := by
      rw [BitVec.getLsbD_ofNat]
      have : (255 : Nat).testBit i = false := Nat.testBit_lt_two_pow (Nat.lt_of_lt_of_le (show 255 < 2 ^ 8 by decide) (Nat.pow_le_pow_right (n := 2) (by decide) (by omega)))
      rw [this, Bool.and_false]
    rw [this, Bool.and_false, Bool.and_false]
theorem by_u (x : Int32) {j : Nat} (hj : j < 4) : (x.toUInt32 >>> ((Int32.ofNat (24 - 8 * j)).toUInt32 &&& Int32.toUInt32 31)).toInt32 &&& 255 = byB x j := by
  unfold byB
  apply Int32.toBitVec_inj.mp
  rw [Int32.toBitVec_and, Int32.toBitVec_and, Int32.toBitVec_shiftRight]
  obtain rfl | rfl | rfl | rfl : j = 0 ∨ j = 1 ∨ j = 2 ∨ j = 3 := by omega
  · exact sh_u x.toBitVec 24 (by decide)
  · exact sh_u x.toBitVec 16 (by decide)
  · exact sh_u x.toBitVec 8 (by decide)
  · exact sh_u x.toBitVec 0 (by decide)
theorem by_n (y : Int32) : ∃ c, c ≤ 255 ∧ y &&& 255 = Int32.ofNat c := by
  refine ⟨y.toBitVec.toNat &&& 255, Nat.and_le_right, ?_⟩
  apply Int32.toBitVec_inj.mp
  rw [Int32.toBitVec_and]
  apply BitVec.eq_of_toNat_eq
  rw [BitVec.toNat_and]
  show y.toBitVec.toNat &&& 255 = (BitVec.ofNat 32 (y.toBitVec.toNat &&& 255)).toNat
  rw [BitVec.toNat_ofNat, Nat.mod_eq_of_lt (Nat.lt_of_le_of_lt Nat.and_le_right (by decide))]
def wdF (x1 x2 x3 x4 x5 : Int32) (k : Nat) : Int32 := if k < 4 then x1 else if k < 8 then x2 else if k < 12 then x3 else if k < 16 then x4 else x5
def byF (x1 x2 x3 x4 x5 : Int32) (k : Nat) : Int32 := byB (wdF x1 x2 x3 x4 x5 k) (k % 4)
theorem sh_k : ∀ k, k < 20 → ((24 : Int32) - (8 * (Int32.ofNat k - Int32.ofNat k / 4 * 4))) = Int32.ofNat (24 - 8 * (k % 4)) := by decide +kernel
theorem r_byteOf (m : mm_MM) (x1 x2 x3 x4 x5 : Int32) {k : Nat} (hk : k < 20) : fX11_byteOf m x1 x2 x3 x4 x5 (Int32.ofNat k) = some (byF x1 x2 x3 x4 x5 k, m) := by
  have g : ∀ z, z < 100 → (Int32.ofNat k < Int32.ofNat z ↔ k < z) := fun z hz => nn_lt (by omega) (by omega)
  have g4 := g 4 (by decide)
  have g8 := g 8 (by decide)
  have g12 := g 12 (by decide)
  have g16 := g 16 (by decide)
  unfold fX11_byteOf fX11_byteOf_c45 byF byB wdF
  rw [sh_k k hk]
  by_cases c4 : k < 4
  · rw [if_pos (show Int32.ofNat k < 4 from g4.mpr c4), if_pos c4]
  · rw [if_neg (show ¬ Int32.ofNat k < 4 from fun z => c4 (g4.mp z)), if_neg c4]
    by_cases c8 : k < 8
    · rw [if_pos (show Int32.ofNat k < 8 from g8.mpr c8), if_pos c8]
    · rw [if_neg (show ¬ Int32.ofNat k < 8 from fun z => c8 (g8.mp z)), if_neg c8]
      by_cases c12 : k < 12
      · rw [if_pos (show Int32.ofNat k < 12 from g12.mpr c12), if_pos c12]
      · rw [if_neg (show ¬ Int32.ofNat k < 12 from fun z => c12 (g12.mp z)), if_neg c12]
        by_cases c16 : k < 16
        · rw [if_pos (show Int32.ofNat k < 16 from g16.mpr c16), if_pos c16]
        · rw [if_neg (show ¬ Int32.ofNat k < 16 from fun z => c16 (g16.mp z)), if_neg c16]
/-! counted -/
def ftL (f : Nat → Int32) : Nat → List Int32
  | 0 => []
  | k + 1 => if f k = 0 then ftL f k else ftL f k ++ [f k]
theorem ftL_le (f : Nat → Int32) : ∀ k, (ftL f k).length ≤ k
  | 0 => Nat.le_refl _
  | k + 1 => by
    have := ftL_le f k
    rw [ftL]
    by_cases c : f k = 0
    · rw [if_pos c]; omega
    · rw [if_neg c, List.length_append]; show _ + 1 ≤ _; omega
theorem ftL_mono (f : Nat → Int32) {k : Nat} : ∀ n, (ftL f k).length ≤ (ftL f (k + n)).length
  | 0 => Nat.le_refl _
  | n + 1 => by
    have := ftL_mono f (k := k) n
    rw [← Nat.add_assoc, ftL]
    by_cases c : f (k + n) = 0
    · rw [if_pos c]; omega
    · rw [if_neg c, List.length_append]; omega
theorem ftL_s (f : Nat → Int32) (k : Nat) : Int32.ofNat (ftL f (k + 1)).length = Int32.ofNat (ftL f k).length + if f k = 0 then 0 else 1 := by
  rw [ftL]
  by_cases c : f k = 0
  · rw [if_pos c, if_pos c, Int32.add_zero]
  · rw [if_neg c, if_neg c, List.length_append, nn_s]; rfl
theorem ftL_m {f : Nat → Int32} (hf : ∀ k, ∃ c, c ≤ 255 ∧ f k = Int32.ofNat c) : ∀ k, ∀ x ∈ ftL f k, ∃ c, 1 ≤ c ∧ c ≤ 255 ∧ x = Int32.ofNat c
  | 0, _, h => by cases h
  | k + 1, x, h => by
    rw [ftL] at h
    by_cases c : f k = 0
    · rw [if_pos c] at h; exact ftL_m hf k x h
    · rw [if_neg c] at h
      rcases List.mem_append.mp h with h | h
      · exact ftL_m hf k x h
      · obtain rfl := List.mem_singleton.mp h
        obtain ⟨z, h1, h2⟩ := hf k
        refine ⟨z, ?_, h1, h2⟩
        refine Nat.pos_of_ne_zero (fun e => c ?_)
        rw [h2, e]; rfl
theorem c_bytesIn (m : mm_MM) (x : Int32) : fX8_bytesIn m x = some ((((0 + (if byB x 0 = 0 then 0 else 1)) + (if byB x 1 = 0 then 0 else 1)) + (if byB x 2 = 0 then 0 else 1)) + (if byB x 3 = 0 then 0 else 1), m) := by
  have st : ∀ (j g : Nat) (a : Int32), j < 4 → fX8_bytesIn_c5 (g + 1) m x a (Int32.ofNat (24 - 8 * j)) = fX8_bytesIn_c5 g m x (a + if byB x j = 0 then 0 else 1) (Int32.ofNat (24 - 8 * j) + (-8)) := fun j g a hj => by
    rw [fX8_bytesIn_c5]
    dsimp only
    rw [if_neg (nn_n0 (by omega)), by_u x hj]
    simp only [fX8_bytesIn_c25]
    by_cases c : byB x j = 0
    · rw [if_pos c, if_pos c]
    · rw [if_neg c, if_neg c]
  obtain ⟨K, hK⟩ : ∃ K : Nat, fu = K + 5 := ⟨19995, rfl⟩
  unfold fX8_bytesIn
  rw [hK]
  refine (st 0 (K + 4) 0 (by decide)).trans ?_
  rw [show Int32.ofNat (24 - 8 * 0) + (-8) = Int32.ofNat (24 - 8 * 1) by decide]
  refine (st 1 (K + 3) _ (by decide)).trans ?_
  rw [show Int32.ofNat (24 - 8 * 1) + (-8) = Int32.ofNat (24 - 8 * 2) by decide]
  refine (st 2 (K + 2) _ (by decide)).trans ?_
  rw [show Int32.ofNat (24 - 8 * 2) + (-8) = Int32.ofNat (24 - 8 * 3) by decide]
  refine (st 3 (K + 1) _ (by decide)).trans ?_
  rw [show Int32.ofNat (24 - 8 * 3) + (-8) = -8 by decide, fX8_bytesIn_c5]
  exact if_pos (by decide)
/-! fed -/
def tpC (m0 m : mm_MM) (f : Nat → Int32) (n k : Nat) : Prop := m.1 1 1 = Int32.ofNat (n + (ftL f k).length) ∧ (∀ i x, (ftL f k)[i]? = some x → m.1 2 (n + i) = x) ∧ (∀ a j, ¬ (a = 1 ∧ j = 1) → (a = 2 → j < n) → m.1 a j = m0.1 a j) ∧ m.2 = m0.2
theorem c_app1 {m0 : mm_MM} {f : Nat → Int32} {n k j g : Nat} {x : Int32} (hj : j < 4) (hf : f k = byB x j) (hn : n + (ftL f k).length < 240 ∨ f k = 0) (h240 : n ≤ 240) (h : tpC m0 m f n k) : ∃ m', fX8_append_c3 (g + 1) m x (Int32.ofNat (24 - 8 * j)) = fX8_append_c3 g m' x (Int32.ofNat (24 - 8 * j) + (-8)) ∧ tpC m0 m' f n (k + 1) := by
  obtain ⟨h1, h2, h3, h4⟩ := h
  rw [fX8_append_c3]
  dsimp only
  rw [if_neg (nn_n0 (by omega)), by_u x hj, ← hf]
  simp only [fX8_append_c51]
  by_cases c : f k = 0
  · refine ⟨m, by rw [if_pos c], ?_⟩
    unfold tpC
    rw [ftL, if_pos c]
    exact ⟨h1, h2, h3, h4⟩
  · have hlt := hn.resolve_right c
    have e1 : (wI m 2 (n + (ftL f k).length) (f k)).1 1 1 = m.1 1 1 := wI_ne (by decide)
    refine ⟨wI (wI m 2 (n + (ftL f k).length) (f k)) 1 1 (Int32.ofNat (n + (ftL f k).length + 1)), ?_, ?_, fun i y hi => ?_, fun a i z1 z2 => ?_, h4⟩
    · rw [if_neg c, h1, if_pos (show Int32.ofNat (n + (ftL f k).length) < 240 from (nn_lt (k := 240) (by omega) (by decide)).mpr hlt), c_place_n m 2 _ (n := 240) rfl (by decide) hlt]
      simp only [Option.bind_some]
      rw [e1, h1, nn_s]
    · rw [wI_eq, ftL, if_neg c, List.length_append]; rfl
    · rw [wI_ne (by decide)]
      rw [ftL, if_neg c] at hi
      by_cases ci : i = (ftL f k).length
      · subst ci
        rw [wI_eq]
        rw [List.getElem?_append_right (Nat.le_refl _), Nat.sub_self] at hi
        cases hi; rfl
      · rw [wI_nk (by omega)]
        by_cases cl : i < (ftL f k).length
        · rw [List.getElem?_append_left cl] at hi
          exact h2 i y hi
        · rw [List.getElem?_append_right (by omega)] at hi
          obtain ⟨d, hd⟩ : ∃ d, i - (ftL f k).length = d + 1 := ⟨i - (ftL f k).length - 1, by omega⟩
          rw [hd] at hi
          cases hi
    · rw [wI_1, if_neg z1]
      by_cases c2 : a = 2
      · subst c2
        have := z2 rfl
        rw [wI_nk (by omega)]; exact h3 2 i z1 z2
      · rw [wI_ne c2]; exact h3 a i z1 z2
theorem c_append {m0 : mm_MM} {f : Nat → Int32} {n k : Nat} {x : Int32} (hf : ∀ j, j < 4 → f (k + j) = byB x j) (hn : n + (ftL f (k + 4)).length ≤ 240) (h : tpC m0 m f n k) : ∃ m', fX8_append m x = some m' ∧ tpC m0 m' f n (k + 4) := by
  have nx : ∀ j, j < 4 → n + (ftL f (k + j)).length < 240 ∨ f (k + j) = 0 := fun j hj => by
    by_cases c : f (k + j) = 0
    · exact Or.inr c
    · left
      have h1 := ftL_mono f (k := k + j + 1) (3 - j)
      rw [show k + j + 1 + (3 - j) = k + 4 by omega, ftL, if_neg c, List.length_append] at h1
      have : ([f (k + j)] : List Int32).length = 1 := rfl
      omega
  have h240 : n ≤ 240 := by omega
  obtain ⟨K, hK⟩ : ∃ K : Nat, fu = K + 5 := ⟨19995, rfl⟩
  obtain ⟨ma, ea, ha⟩ := c_app1 (g := K + 4) (j := 0) (by decide) (hf 0 (by decide)) (nx 0 (by decide)) h240 h
  obtain ⟨mb, eb, hb⟩ := c_app1 (g := K + 3) (j := 1) (by decide) (hf 1 (by decide)) (nx 1 (by decide)) h240 ha
  obtain ⟨mc, ec, hc⟩ := c_app1 (g := K + 2) (j := 2) (by decide) (hf 2 (by decide)) (nx 2 (by decide)) h240 hb
  obtain ⟨md, ed, hd⟩ := c_app1 (g := K + 1) (j := 3) (by decide) (hf 3 (by decide)) (nx 3 (by decide)) h240 hc
  refine ⟨md, ?_, hd⟩
  unfold fX8_append
  rw [hK]
  refine Eq.trans ea ?_
  rw [show Int32.ofNat (24 - 8 * 0) + (-8) = Int32.ofNat (24 - 8 * 1) by decide]
  refine Eq.trans eb ?_
  rw [show Int32.ofNat (24 - 8 * 1) + (-8) = Int32.ofNat (24 - 8 * 2) by decide]
  refine Eq.trans ec ?_
  rw [show Int32.ofNat (24 - 8 * 2) + (-8) = Int32.ofNat (24 - 8 * 3) by decide]
  refine Eq.trans ed ?_
  rw [show Int32.ofNat (24 - 8 * 3) + (-8) = -8 by decide, fX8_append_c3]
  exact if_pos (by decide)
/-! the reference -/
def tpR (m0 m : mm_MM) (f : Nat → Int32) (n k : Nat) : Prop := m.1 606 2 = Int32.ofNat (n + (ftL f k).length) ∧ (∀ i x, (ftL f k)[i]? = some x → m.1 607 (n + i) = x) ∧ (∀ a j, ¬ (a = 606 ∧ j = 2) → (a = 607 → j < n) → m.1 a j = m0.1 a j) ∧ m.2 = m0.2
theorem r_feed2_l {m0 : mm_MM} {x1 x2 x3 x4 x5 : Int32} {n : Nat} (hn : n + (ftL (byF x1 x2 x3 x4 x5) 20).length ≤ 240) : ∀ (c k g : Nat) (m : mm_MM), k + c = 20 → c < g → tpR m0 m (byF x1 x2 x3 x4 x5) n k → ∃ m', fX11_feed_c62 g m x1 x2 x3 x4 x5 (Int32.ofNat k) = some (Int32.ofNat (n + (ftL (byF x1 x2 x3 x4 x5) 20).length), m') ∧ tpR m0 m' (byF x1 x2 x3 x4 x5) n 20 := by
  generalize hf : byF x1 x2 x3 x4 x5 = f at hn
  intro c
  induction c with
  | zero =>
    intro k g m hk hg h
    obtain ⟨g, rfl⟩ : ∃ h, g = h + 1 := ⟨g - 1, by omega⟩
    obtain rfl : k = 20 := by omega
    refine ⟨m, ?_, h⟩
    rw [fX11_feed_c62]
    dsimp only
    rw [if_neg (show ¬ Int32.ofNat 20 < 20 by decide), h.1]
  | succ c ih =>
    intro k g m hk hg h
    obtain ⟨g, rfl⟩ : ∃ h, g = h + 1 := ⟨g - 1, by omega⟩
    obtain ⟨h1, h2, h3, h4⟩ := h
    rw [fX11_feed_c62]
    dsimp only
    rw [if_pos (show Int32.ofNat k < 20 from (nn_lt (k := 20) (by omega) (by decide)).mpr (by omega)), r_byteOf m _ _ _ _ _ (show k < 20 by omega), hf]
    simp only [Option.bind_some, fX11_feed_c109, nn_s]
    by_cases cz : f k = 0
    · rw [if_pos cz]
      refine ih (k + 1) g m (by omega) (by omega) ?_
      unfold tpR
      rw [ftL, if_pos cz]
      exact ⟨h1, h2, h3, h4⟩
    · have hlt : n + (ftL f k).length < 240 := by
        have := ftL_mono f (k := k + 1) (19 - k)
        rw [show k + 1 + (19 - k) = 20 by omega, ftL, if_neg cz, List.length_append] at this
        have : ([f k] : List Int32).length = 1 := rfl
        omega
      rw [if_neg cz, h1, nn_go (by omega) hlt, nn_tn (by omega)]
      rw [nn_s]
      refine ih (k + 1) g _ (by omega) (by omega) ⟨?_, fun i y hi => ?_, fun a i z1 z2 => ?_, h4⟩
      · rw [wI_eq, ftL, if_neg cz, List.length_append]; rfl
      · rw [wI_ne (by decide)]
        rw [ftL, if_neg cz] at hi
        by_cases ci : i = (ftL f k).length
        · subst ci
          rw [wI_eq]
          rw [List.getElem?_append_right (Nat.le_refl _), Nat.sub_self] at hi
          cases hi; rfl
        · rw [wI_nk (by omega)]
          by_cases cl : i < (ftL f k).length
          · rw [List.getElem?_append_left cl] at hi
            exact h2 i y hi
          · rw [List.getElem?_append_right (by omega)] at hi
            obtain ⟨d, hd⟩ : ∃ d, i - (ftL f k).length = d + 1 := ⟨i - (ftL f k).length - 1, by omega⟩
            rw [hd] at hi
            cases hi
      · rw [wI_1, if_neg z1]
        by_cases c2 : a = 607
        · subst c2
          have := z2 rfl
          rw [wI_nk (by omega)]; exact h3 607 i z1 z2
        · rw [wI_ne c2]; exact h3 a i z1 z2
theorem r_feed1_l {x1 x2 x3 x4 x5 : Int32} : ∀ (c k g : Nat), k + c = 20 → c < g → fX11_feed_c6 g m x1 x2 x3 x4 x5 (Int32.ofNat (ftL (byF x1 x2 x3 x4 x5) k).length) (Int32.ofNat k) = if m.1 606 2 + Int32.ofNat (ftL (byF x1 x2 x3 x4 x5) 20).length ≤ 240 then fX11_feed_c62 fu m x1 x2 x3 x4 x5 0 else some (-1, m) := by
  intro c
  induction c with
  | zero =>
    intro k g hk hg
    obtain ⟨g, rfl⟩ : ∃ h, g = h + 1 := ⟨g - 1, by omega⟩
    obtain rfl : k = 20 := by omega
    rw [fX11_feed_c6]
    exact if_neg (by decide)
  | succ c ih =>
    intro k g hk hg
    obtain ⟨g, rfl⟩ : ∃ h, g = h + 1 := ⟨g - 1, by omega⟩
    have e := ih (k + 1) g (by omega) (by omega)
    rw [ftL_s] at e
    rw [fX11_feed_c6]
    dsimp only
    rw [if_pos (show Int32.ofNat k < 20 from (nn_lt (k := 20) (by omega) (by decide)).mpr (by omega)), r_byteOf m _ _ _ _ _ (show k < 20 by omega)]
    simp only [Option.bind_some, fX11_feed_c35, nn_s]
    by_cases cz : byF x1 x2 x3 x4 x5 k = 0
    · rw [if_pos cz] at e ⊢; exact e
    · rw [if_neg cz, nn_s] at e
      rw [if_neg cz]; exact e
theorem q_feed (hi : Inv m) (x1 x2 x3 x4 x5 : Int32) : EQ m (fun m => fX10_feed m x1 x2 x3 x4 x5) (fun m => fX11_feed m x1 x2 x3 x4 x5) := by
  obtain ⟨W, H, P, ls, h⟩ := id hi
  obtain ⟨n, a1, a2, a3, a4⟩ := h.2.2.2.1
  generalize hf : byF x1 x2 x3 x4 x5 = f
  have hfb : ∀ k, ∃ c, c ≤ 255 ∧ f k = Int32.ofNat c := fun k => by rw [← hf]; exact by_n _
  have hL := ftL_le f 20
  -- the class's count
  have hcnt : ∀ k x, (∀ j, j < 4 → f (k + j) = byB x j) → Int32.ofNat (ftL f (k + 4)).length = Int32.ofNat (ftL f k).length + ((((0 + (if byB x 0 = 0 then 0 else 1)) + (if byB x 1 = 0 then 0 else 1)) + (if byB x 2 = 0 then 0 else 1)) + (if byB x 3 = 0 then 0 else 1)) := fun k x hx => by
    rw [show k + 4 = k + 3 + 1 by omega, ftL_s, show k + 3 = k + 2 + 1 by omega, ftL_s, show k + 2 = k + 1 + 1 by omega, ftL_s, ftL_s, ← hx 0 (by decide), ← hx 1 (by decide), ← hx 2 (by decide), ← hx 3 (by decide), Nat.add_zero]
    grind
  have w1 : ∀ j, j < 4 → f (0 + j) = byB x1 j := fun j hj => by
    rw [← hf]; unfold byF wdF
    rw [if_pos (by omega), show (0 + j) % 4 = j by omega]
  have w2 : ∀ j, j < 4 → f (4 + j) = byB x2 j := fun j hj => by
    rw [← hf]; unfold byF wdF
    rw [if_neg (by omega), if_pos (by omega), show (4 + j) % 4 = j by omega]
  have w3 : ∀ j, j < 4 → f (8 + j) = byB x3 j := fun j hj => by
    rw [← hf]; unfold byF wdF
    rw [if_neg (by omega), if_neg (by omega), if_pos (by omega), show (8 + j) % 4 = j by omega]
  have w4 : ∀ j, j < 4 → f (12 + j) = byB x4 j := fun j hj => by
    rw [← hf]; unfold byF wdF
    rw [if_neg (by omega), if_neg (by omega), if_neg (by omega), if_pos (by omega), show (12 + j) % 4 = j by omega]
  have w5 : ∀ j, j < 4 → f (16 + j) = byB x5 j := fun j hj => by
    rw [← hf]; unfold byF wdF
    rw [if_neg (by omega), if_neg (by omega), if_neg (by omega), if_neg (by omega), show (16 + j) % 4 = j by omega]
  have c1 := hcnt 0 x1 w1
  have c2 := hcnt 4 x2 w2
  have c3 := hcnt 8 x3 w3
  have c4 := hcnt 12 x4 w4
  have c5 := hcnt 16 x5 w5
  have z0 : Int32.ofNat (ftL f 0).length = 0 := rfl
  rw [z0, Int32.zero_add] at c1
  have rd : ∀ (M : mm_MM), M.1 606 2 = Int32.ofNat n → fX11_feed M x1 x2 x3 x4 x5 = if Int32.ofNat n + Int32.ofNat (ftL f 20).length ≤ 240 then fX11_feed_c62 fu M x1 x2 x3 x4 x5 0 else some (-1, M) := fun M hM => by
    have e := r_feed1_l (m := M) (x1 := x1) (x2 := x2) (x3 := x3) (x4 := x4) (x5 := x5) 20 0 fu rfl (by decide)
    rw [hf, hM] at e
    exact e
  have cd : fX10_feed m x1 x2 x3 x4 x5 = if Int32.ofNat n + Int32.ofNat (ftL f 20).length ≤ 240 then ((fX8_append m x1).bind fun r8 => (fX8_append r8 x2).bind fun r9 => (fX8_append r9 x3).bind fun r10 => (fX8_append r10 x4).bind fun r11 => (fX8_append r11 x5).bind fun r12 => (fX8_size r12).bind fun r13 => some (r13.1, r13.2)) else some (-1, m) := by
    have es : (((((ite (byB x1 0 = 0) (0 : Int32) 1)))) : Int32) = ite (byB x1 0 = 0) 0 1 := rfl
    rw [c5, c4, c3, c2, c1]
    unfold fX10_feed
    refine bs (c_bytesIn m x1) (bs (c_bytesIn m x2) (bs (c_bytesIn m x3) (bs (c_bytesIn m x4) (bs (c_bytesIn m x5) (bs (show fX8_size m = some (Int32.ofNat n, m) from by unfold fX8_size; rw [a2]) ?_)))))
    rfl
  rw [show Int32.ofNat n + Int32.ofNat (ftL f 20).length = Int32.ofNat (n + (ftL f 20).length) from (Int32.ofNat_add _ _).symm] at cd
  by_cases ok : n + (ftL f 20).length ≤ 240
  · have okI : Int32.ofNat (n + (ftL f 20).length) ≤ 240 := (nn_le (k := 240) (by omega) (by decide)).mpr ok
    rw [if_pos okI] at cd
    have m4 : (ftL f 4).length ≤ (ftL f 20).length := ftL_mono f (k := 4) 16
    have m8 : (ftL f 8).length ≤ (ftL f 20).length := ftL_mono f (k := 8) 12
    have m12 : (ftL f 12).length ≤ (ftL f 20).length := ftL_mono f (k := 12) 8
    have m16 : (ftL f 16).length ≤ (ftL f 20).length := ftL_mono f (k := 16) 4
    have t0 : tpC m m f n 0 := ⟨a2, fun i x hx => (by cases hx), fun _ _ _ _ => rfl, rfl⟩
    obtain ⟨ma, ea, ha⟩ := c_append w1 (by show n + (ftL f 4).length ≤ 240; omega) t0
    obtain ⟨mb, eb, hb⟩ := c_append w2 (by show n + (ftL f 8).length ≤ 240; omega) ha
    obtain ⟨mc, ec, hc⟩ := c_append w3 (by show n + (ftL f 12).length ≤ 240; omega) hb
    obtain ⟨md, ed, hd⟩ := c_append w4 (by show n + (ftL f 16).length ≤ 240; omega) hc
    obtain ⟨me, ee, he⟩ := c_append w5 (by show n + (ftL f 20).length ≤ 240; omega) hd
    have he : tpC m me f n 20 := he
    obtain ⟨g1, g2, g3, g4⟩ := he
    have r0 : tpR me me f n 0 := ⟨(g3 606 2 (by omega) (by omega)).trans a3, fun i x hx => (by cases hx), fun _ _ _ _ => rfl, rfl⟩
    rw [← hf] at r0
    obtain ⟨mr, er, hr⟩ := r_feed2_l (m0 := me) (by rw [hf]; exact ok) 20 0 fu me rfl (by decide) r0
    rw [hf] at er hr
    obtain ⟨q1, q2, q3, q4⟩ := hr
    have rr : ∀ a k, ¬ (a = 1 ∧ k = 1) → ¬ a = 2 → ¬ (a = 606 ∧ k = 2) → ¬ a = 607 → mr.1 a k = m.1 a k := fun a k z1 z2 z3 z4 => (q3 a k z3 (fun e => absurd e z4)).trans (g3 a k z1 (fun e => absurd e z2))
    refine ⟨Int32.ofNat (n + (ftL f 20).length), me, mr, ?_, ?_, W, H, P, ls, InvF_c (fun a k z => rr _ _ (by omega) (by omega) (by omega) (by omega)) h.1, InvS_c (fun a k z => rr _ _ (by omega) (by omega) (by omega) (by omega)) h.2.1, InvI_c (fun a k z => rr _ _ (by omega) (by omega) (by omega) (by omega)) h.2.2.1, ⟨n + (ftL f 20).length, ok, (q3 1 1 (by omega) (by omega)).trans g1, q1, fun i hi => ?_⟩, InvL_c (fun a k z => rr _ _ (by omega) (by omega) (by omega) (by omega)) h.2.2.2.2.1, InvM_c (fun a k z => rr _ _ (by omega) (by omega) (by omega) (by omega)) h.2.2.2.2.2.1, InvG_c (fun a k z => rr _ _ (by omega) (by omega) (by omega) (by omega)) h.2.2.2.2.2.2⟩
    · refine Eq.trans cd ?_
      refine bs ea (bs eb (bs ec (bs ed (bs ee ?_))))
      unfold fX8_size
      rw [g1]
      rfl
    · show fX11_feed me x1 x2 x3 x4 x5 = _
      rw [rd me ((g3 606 2 (by omega) (by omega)).trans a3), ← Int32.ofNat_add, if_pos okI]
      exact er
    · have e2 : mr.1 2 i = me.1 2 i := q3 2 i (by omega) (by omega)
      rw [e2]
      by_cases c : i < n
      · rw [q3 607 i (by omega) (fun _ => c), g3 2 i (by omega) (fun _ => c), g3 607 i (by omega) (by omega)]
        exact a4 i c
      · obtain ⟨d, rfl⟩ : ∃ d, i = n + d := ⟨i - n, by omega⟩
        have hd : d < (ftL f 20).length := by omega
        have hx : (ftL f 20)[d]? = some ((ftL f 20)[d]) := List.getElem?_eq_getElem hd
        rw [g2 d _ hx, q2 d _ hx]
        exact ⟨rfl, ftL_m hfb 20 _ (List.getElem_mem hd)⟩
  · have okI : ¬ Int32.ofNat (n + (ftL f 20).length) ≤ 240 := fun z => ok ((nn_le (k := 240) (by omega) (by decide)).mp z)
    rw [if_neg okI] at cd
    refine EQ_0 (v := -1) hi cd ?_
    rw [rd m a3, ← Int32.ofNat_add, if_neg okI]
end FEE
