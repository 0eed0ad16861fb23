/-! THE LOG, COUNTS, SHARES, GAMES, WHAT WAS SEEN -/
section ASK
variable {m m1 : mm_MM} {W H : Nat} {P P1 : List Vw} {ls : Nat → List Cla} {V V1 : Vw}
theorem le_sub1' {x Q : Int32} (h : 0 ≤ Q) : x ≤ Q - 1 ↔ x < Q := by grind
def fmN (x : Int32) : Int32 := match fJ9_floorMod_7cf53 (fun _ _ => 0, fun _ _ => 0) x 60 with
  | some r => r.1
  | none => 0
theorem j_fm (m : mm_MM) (x : Int32) : fJ9_floorMod_7cf53 m x 60 = some (fmN x, m) := by
  unfold fmN fJ9_floorMod_7cf53 fJ9_floorMod_7cf53_c18
  by_cases h1 : (x ^^^ 60) < 0
  · by_cases h2 : x - x / 60 * 60 = 0
    · simp [h1, h2]
    · simp [h1, h2]
  · simp [h1]
theorem fm_n : ∀ N, N < 60 → ∀ X, X < 60 → fmN (Int32.ofNat N - 1 - Int32.ofNat X) = Int32.ofNat ((N + 59 - X) % 60) := by decide +kernel
theorem q_log (hi : Inv m) (x y : Int32) : EQ m (fun m => fX10_log m x y) (fun m => fX11_log m x y) := by
  obtain ⟨W, H, P, ls, h⟩ := id hi
  obtain ⟨L, N, hL, hN, h4, h5, h50, hlog⟩ := log_L h
  have hq : x ≤ Int32.ofNat L - 1 ↔ x < Int32.ofNat L := le_sub1' (Int32.not_lt.mp (nn_n0 (by omega)))
  by_cases hx : x < 0 ∨ ¬ x < Int32.ofNat L
  · refine EQ_0 (v := -1) hi ?_ ?_
    · by_cases h0 : x < 0
      · simp only [fX10_log, if_pos h0, fX10_log_c15]
      · simp only [fX10_log, if_neg h0, h4, if_neg (hx.resolve_left h0), fX10_log_c15]
    · have hz : (if x < 0 then (0 : Int32) else if x ≤ Int32.ofNat L - 1 then 1 else 0) = 0 := by
        by_cases h1 : x < 0
        · rw [if_pos h1]
        · rw [if_neg h1, if_neg (fun z => (hx.resolve_left h1) (hq.mp z))]
      simp only [fX11_log, r_in, h50, hz, Option.bind_some, if_true, fX11_log_c52, fX11_log_c53]
  · have h0 : ¬ x < 0 := fun z => hx (Or.inl z)
    have hxl : x < Int32.ofNat L := Classical.not_not.mp fun z => hx (Or.inr z)
    have e := nn_of h0
    have hn := (nn_ltk h0 (by omega)).mp hxl
    have hle := hq.mpr hxl
    generalize x.toNatClampNeg = X at e hn
    subst e
    have efm := fm_n N hN X (by omega)
    by_cases hy : y < 0 ∨ ¬ y ≤ 2
    · have n : ¬ y = 0 ∧ ¬ y = 1 ∧ ¬ y = 2 := by
        refine ⟨fun z => ?_, fun z => ?_, fun z => ?_⟩ <;> rw [z] at hy <;> exact absurd hy (by decide)
      have hz : (if y < 0 then (0 : Int32) else if y ≤ 2 then 1 else 0) = 0 := by
        by_cases h1 : y < 0
        · rw [if_pos h1]
        · rw [if_neg h1, if_neg (hy.resolve_left h1)]
      refine EQ_0 (v := -1) hi ?_ ?_
      · simp only [fX10_log, if_neg h0, h4, if_pos hxl, j_fm, Option.bind_some, n.1, n.2.1, n.2.2, if_false]
      · simp only [fX11_log, r_in, h50, if_neg h0, if_pos hle, Option.bind_some, if_neg (show ¬ (1 : Int32) = 0 by decide), hz, if_true, fX11_log_c52, fX11_log_c53]
    · have y0 : ¬ y < 0 := fun z => hy (Or.inl z)
      have y2 : y ≤ 2 := Classical.not_not.mp fun z => hy (Or.inr z)
      have ey := nn_of y0
      have hyn := (nn_lek (k := 2) y0 (by decide)).mp y2
      generalize y.toNatClampNeg = Y at ey hyn
      subst ey
      have hl := hlog (L - 1 - X) Y (by omega) (by omega)
      rw [show (N + 60 - L + (L - 1 - X)) % 60 = (N + 59 - X) % 60 by omega] at hl
      have hm60 : (N + 59 - X) % 60 < 60 := Nat.mod_lt _ (by decide)
      refine EQ_0 (v := m.1 (31 + Y) ((N + 59 - X) % 60)) hi ?_ ?_
      · obtain rfl | rfl | rfl : Y = 0 ∨ Y = 1 ∨ Y = 2 := by omega
        · simp only [fX10_log, if_neg h0, h4, if_pos hxl, h5, j_fm, efm, Option.bind_some, c_pick_n m 31 (n := 60) rfl (by decide) hm60]
          rfl
        · simp only [fX10_log, if_neg h0, h4, if_pos hxl, h5, j_fm, efm, Option.bind_some, c_pick_n m 32 (n := 60) rfl (by decide) hm60]
          rfl
        · simp only [fX10_log, if_neg h0, h4, if_pos hxl, h5, j_fm, efm, Option.bind_some, c_pick_n m 33 (n := 60) rfl (by decide) hm60]
          rfl
      · have ei : (51 : Int32) + 3 * (Int32.ofNat L - 1 - Int32.ofNat X) + Int32.ofNat Y = Int32.ofNat (51 + 3 * (L - 1 - X) + Y) := by
          rw [show (1 : Int32) = Int32.ofNat 1 from rfl, ← Int32.ofNat_sub L 1 (by omega), ← Int32.ofNat_sub _ _ (by omega), show (3 : Int32) = Int32.ofNat 3 from rfl, ← Int32.ofNat_mul, show (51 : Int32) = Int32.ofNat 51 from rfl, ← Int32.ofNat_add, ← Int32.ofNat_add]
        simp only [fX11_log, r_in, h50, if_neg h0, if_pos hle, Option.bind_some, if_neg (show ¬ (1 : Int32) = 0 by decide), if_neg y0, if_pos y2, ei]
        rw [nn_go (by omega) (by omega), nn_tn (by omega), hl]
        rfl
theorem q_count (hi : Inv m) (x : Int32) : EQ m (fun m => fX10_count m x) (fun m => fX11_count m x) := by
  obtain ⟨W, H, P, ls, h⟩ := id hi
  have hs := see0 h
  obtain ⟨L, N, hL, hN, h4, h5, h50, hlog⟩ := log_L h
  obtain ⟨f1, f2, -, -, -, n, n1, n2, n3, n4, -⟩ := h.1
  obtain ⟨q, l1, l2, l3, -, l5, -⟩ := h.2.2.2.2.1
  obtain ⟨t, t1, t2, t3, -⟩ := h.2.2.2.1
  obtain ⟨s, g1, g2, g3, -⟩ := h.2.2.2.2.2.2
  obtain ⟨F, p1, p2, p3, -⟩ := h.2.1.2.2.2.2.1
  have p4 := h.2.1.2.2.2.2.2.1.1
  have e30 := h.2.2.2.2.2.1.1
  by_cases c0 : x = 0
  · subst c0
    refine EQ_0 (v := Int32.ofNat n) hi ?_ (by simp [fX11_count, n3])
    by_cases hk : m.1 0 14 = 0
    · have := n4 hk
      simp [fX10_count, fX10_count_c74, hk, this]
    · simp [fX10_count, fX10_count_c74, hk, n2]
  by_cases c1 : x = 1
  · subst c1
    refine EQ_0 (v := bcN (mk8 (pB (thc m 34)))) hi ?_ ?_
    · have hp := c_places m (w := 0) (by decide)
      simp only [fX10_count, if_neg (show ¬ (1 : Int32) = 0 by decide), if_true]
      rw [show (4 : Int32) = Int32.ofNat (0 + 4) from rfl, hp]
      rfl
    · simp only [fX11_count, if_neg (show ¬ (1 : Int32) = 0 by decide), if_true, r_ones0, Option.bind_some, hs.1]
      rfl
  by_cases c2 : x = 2
  · subst c2; exact EQ_0 (v := Int32.ofNat q) hi (by simp [fX10_count, l2]) (by simp [fX11_count, l3])
  by_cases c3 : x = 3
  · subst c3; exact EQ_0 (v := Int32.ofNat t) hi (by simp [fX10_count, fX8_size, t2]) (by simp [fX11_count, t3])
  by_cases c4 : x = 4
  · subst c4; exact EQ_0 (v := m.1 0 17) hi (by simp [fX10_count]) (by simp [fX11_count, l5])
  by_cases c5 : x = 5
  · subst c5; exact EQ_0 (v := m.1 29 7) hi (by simp [fX10_count]) (by simp [fX11_count, hs.2.2.2.2.2.2.2])
  by_cases c6 : x = 6
  · subst c6; exact EQ_0 (v := m.1 0 18) hi (by simp [fX10_count]) (by simp [fX11_count, e30])
  by_cases c7 : x = 7
  · subst c7; exact EQ_0 (v := Int32.ofNat s) hi (by simp [fX10_count, fX5_size, g2]) (by simp [fX11_count, g3])
  by_cases c8 : x = 8
  · subst c8; exact EQ_0 (v := Int32.ofNat L) hi (by simp [fX10_count, h4]) (by simp [fX11_count, h50])
  by_cases c9 : x = 9
  · subst c9; exact EQ_0 (v := Int32.ofNat P.length) hi (by simp [fX10_count, fX3_size, p3]) (by simp [fX11_count, p4])
  exact EQ_0 (v := -1000000) hi (by simp [fX10_count, c0, c1, c2, c3, c4, c5, c6, c7, c8, c9]) (by simp [fX11_count, c0, c1, c2, c3, c4, c5, c6, c7, c8, c9])
/-! games -/
def thH (T : TT) (x1 x2 x y : Int32) : Int32 := if x = y then -5 else if y = 0 then tx T x1 0 else tx T x2 0
theorem c_valueAt (m : mm_MM) (x : Int32) : fX10_valueAt m x = some (tx (thc m 34) x 0, m) := by
  unfold fX10_valueAt fX10_valueAt_c21
  rw [c_find]
  by_cases h : tx (thc m 34) x 5 = 1
  · obtain ⟨h0, ex, hT5, htx⟩ := tx_b h
    have hkd : mm_kd (34 + x.toNatClampNeg) = (9, 6) := kd_p (thc_5 hT5).1
    rw [if_pos h]
    simp only [Option.bind_some, if_pos hkd]
    rw [htx, thc_k hT5 (by decide)]
  · rw [if_neg h]
    simp only [Option.bind_some]
    have : tx (thc m 34) x 0 = 0 := by
      unfold tx at h ⊢
      by_cases h0 : x < 0
      · rw [if_pos h0]
      · rw [if_neg h0] at h ⊢; exact thc_n h
    rw [this]
theorem c_thiefHas (m : mm_MM) (a b x y : Int32) : fX10_thiefHas m a b x y = some (thH (thc m 34) a b x y, m) := by
  unfold fX10_thiefHas fX10_thiefHas_c25 fX10_thiefHas_c22 fX10_thiefHas_c25 thH
  by_cases h1 : x = y
  · simp [h1]
  · by_cases h2 : y = 0
    · subst h2; simp [h1, c_valueAt]
    · simp [h1, h2, c_valueAt]
theorem c_merchantHas (m : mm_MM) (a b x y : Int32) : fX10_merchantHas m a b x y = some (-thH (thc m 34) a b x y - x, m) := by
  unfold fX10_merchantHas fX10_merchantHas_c25 fX10_merchantHas_c21 fX10_merchantHas_c25 thH
  by_cases h1 : x = y
  · simp [h1]
  · by_cases h2 : y = 0
    · subst h2; simp [h1, c_valueAt]
    · simp [h1, h2, c_valueAt]
theorem r_thiefHas {a b : Int32} (ha : lyX (thr m 623 0) a) (hb : lyX (thr m 623 0) b) (x y : Int32) : fX11_thiefHas m a b x y = some (thH (thr m 623 0) a b x y, m) := by
  obtain ⟨a0, ea, aT, atx⟩ := tx_b ha.1
  obtain ⟨b0, eb, bT, btx⟩ := tx_b hb.1
  have ka := r_of0 m (thr_5 aT).1
  have kb := r_of0 m (thr_5 bT).1
  rw [← ea] at ka
  rw [← eb] at kb
  unfold fX11_thiefHas fX11_thiefHas_c26 fX11_thiefHas_c22 fX11_thiefHas_c26 thH
  rw [atx, btx, thr_k0 aT (by decide), thr_k0 bT (by decide)]
  by_cases h1 : x = y
  · simp [h1]
  · by_cases h2 : y = 0
    · subst h2; simp only [h1, if_true, if_false, ka, Option.bind_some]
    · simp only [h1, h2, if_false, kb, Option.bind_some]
theorem r_merchantHas {a b : Int32} (ha : lyX (thr m 623 0) a) (hb : lyX (thr m 623 0) b) (x y : Int32) : fX11_merchantHas m a b x y = some (-thH (thr m 623 0) a b x y - x, m) := by
  unfold fX11_merchantHas
  rw [r_thiefHas ha hb]
  rfl
abbrev twoX (T : TT) (a b : Int32) : Prop := ¬ a = b ∧ lyX T a ∧ lyX T b
theorem c_mayPlay (m : mm_MM) (a b : Int32) : fX10_mayPlay m a b = some (if twoX (thc m 34) a b then 1 else 0, m) := by
  unfold fX10_mayPlay fX10_mayPlay_c31 fX10_mayPlay_c32
  by_cases h : a = b
  · have : ¬ twoX (thc m 34) a b := fun z => z.1 h
    rw [if_pos h, if_neg this]; rfl
  · rw [if_neg h, c_findLying]
    by_cases h1 : lyX (thc m 34) a
    · have hk1 : mm_kd (34 + a.toNatClampNeg) = (9, 6) := kd_p (thc_5 (tx_b h1.1).2.2.1).1
      rw [if_pos h1]
      simp only [Option.bind_some, if_pos hk1]
      rw [c_findLying]
      by_cases h2 : lyX (thc m 34) b
      · have hk2 : mm_kd (34 + b.toNatClampNeg) = (9, 6) := kd_p (thc_5 (tx_b h2.1).2.2.1).1
        rw [if_pos h2, if_pos (show twoX (thc m 34) a b from ⟨h, h1, h2⟩)]
        simp only [Option.bind_some, if_pos hk2]
        rfl
      · have : ¬ twoX (thc m 34) a b := fun z => h2 z.2.2
        rw [if_neg h2, if_neg this]
        rfl
    · have : ¬ twoX (thc m 34) a b := fun z => h1 z.2.1
      rw [if_neg h1, if_neg this]
      rfl
theorem r_areTwo (m : mm_MM) (a b : Int32) : fX11_areTwo m a b = some (if twoX (thr m 623 0) a b then 1 else 0, m) := by
  unfold fX11_areTwo fX11_areTwo_c25 fX11_areTwo_c26
  rw [r_doesLie]
  by_cases h1 : lyX (thr m 623 0) a
  · rw [if_pos h1]
    simp only [Option.bind_some, if_neg (show ¬ (1 : Int32) = 0 by decide)]
    rw [r_doesLie]
    by_cases h2 : lyX (thr m 623 0) b
    · rw [if_pos h2]
      simp only [Option.bind_some, if_neg (show ¬ (1 : Int32) = 0 by decide)]
      by_cases h : a = b
      · have : ¬ twoX (thr m 623 0) a b := fun z => z.1 h
        rw [if_pos h, if_neg this]; rfl
      · rw [if_neg h, if_pos (show twoX (thr m 623 0) a b from ⟨h, h1, h2⟩)]; rfl
    · have : ¬ twoX (thr m 623 0) a b := fun z => h2 z.2.2
      rw [if_neg h2, if_neg this]
      rfl
  · have : ¬ twoX (thr m 623 0) a b := fun z => h1 z.2.1
    rw [if_neg h1, if_neg this]
    rfl
theorem c_isBit (m : mm_MM) (x : Int32) : fX10_isBit m x = some (if x = 0 ∨ x = 1 then 1 else 0, m) := by
  unfold fX10_isBit fX10_isBit_c9 fX10_isBit_c14
  by_cases h0 : x = 0
  · simp [h0]
  · by_cases h1 : x = 1 <;> simp [h0, h1]
theorem bit_in (x : Int32) : (if x < 0 then (0 : Int32) else if x ≤ 1 then 1 else 0) = if x = 0 ∨ x = 1 then 1 else 0 := by grind
theorem q_game (hi : Inv m) (a b x y w : Int32) : EQ m (fun m => fX10_game m a b x y w) (fun m => fX11_game m a b x y w) := by
  obtain ⟨W, H, P, ls, h⟩ := id hi
  have hs := see0 h
  by_cases ht : twoX (thc m 34) a b
  · have htr : twoX (thr m 623 0) a b := by rw [hs.1]; exact ht
    by_cases hb : (x = 0 ∨ x = 1) ∧ (y = 0 ∨ y = 1) ∧ (w = 0 ∨ w = 1)
    · by_cases hw : w = 0
      · refine EQ_0 (v := -thH (thc m 34) a b x y - x) hi ?_ ?_
        · simp only [fX10_game, fX10_game_c28, fX10_game_c73, c_isBit, if_pos hb.1, if_pos hb.2.1, if_pos hb.2.2, Option.bind_some, if_neg (show ¬ (1 : Int32) = 0 by decide), c_mayPlay, if_pos ht, if_pos hw, c_merchantHas]
        · simp only [fX11_game, fX11_game_c68, r_areTwo, if_pos htr, if_pos ht, r_in, bit_in, if_pos hb.1, if_pos hb.2.1, if_pos hb.2.2, Option.bind_some, if_neg (show ¬ (1 : Int32) = 0 by decide), if_pos hw, r_merchantHas htr.2.1 htr.2.2, hs.1]
      · refine EQ_0 (v := thH (thc m 34) a b x y) hi ?_ ?_
        · simp only [fX10_game, fX10_game_c28, fX10_game_c73, c_isBit, if_pos hb.1, if_pos hb.2.1, if_pos hb.2.2, Option.bind_some, if_neg (show ¬ (1 : Int32) = 0 by decide), c_mayPlay, if_pos ht, if_neg hw, c_thiefHas]
        · simp only [fX11_game, fX11_game_c68, r_areTwo, if_pos htr, if_pos ht, r_in, bit_in, if_pos hb.1, if_pos hb.2.1, if_pos hb.2.2, Option.bind_some, if_neg (show ¬ (1 : Int32) = 0 by decide), if_neg hw, r_thiefHas htr.2.1 htr.2.2, hs.1]
    · refine EQ_0 (v := -1000000) hi ?_ ?_
      · by_cases h1 : x = 0 ∨ x = 1
        · by_cases h2 : y = 0 ∨ y = 1
          · have h3 : ¬ (w = 0 ∨ w = 1) := fun z => hb ⟨h1, h2, z⟩
            simp only [fX10_game, fX10_game_c27, fX10_game_c28, fX10_game_c44, c_isBit, if_pos h1, if_pos h2, if_neg h3, Option.bind_some, if_neg (show ¬ (1 : Int32) = 0 by decide), if_true, c_mayPlay, if_pos ht]
          · simp only [fX10_game, fX10_game_c27, fX10_game_c28, fX10_game_c44, c_isBit, if_pos h1, if_neg h2, Option.bind_some, if_neg (show ¬ (1 : Int32) = 0 by decide), if_true, c_mayPlay, if_pos ht]
        · simp only [fX10_game, fX10_game_c27, fX10_game_c28, fX10_game_c44, c_isBit, if_neg h1, Option.bind_some, if_neg (show ¬ (1 : Int32) = 0 by decide), if_true, c_mayPlay, if_pos ht]
      · by_cases h1 : x = 0 ∨ x = 1
        · by_cases h2 : y = 0 ∨ y = 1
          · have h3 : ¬ (w = 0 ∨ w = 1) := fun z => hb ⟨h1, h2, z⟩
            simp only [fX11_game, fX11_game_c38, r_areTwo, if_pos htr, r_in, bit_in, if_pos h1, if_pos h2, if_neg h3, Option.bind_some, if_neg (show ¬ (1 : Int32) = 0 by decide), if_true]
          · simp only [fX11_game, fX11_game_c38, r_areTwo, if_pos htr, r_in, bit_in, if_pos h1, if_neg h2, Option.bind_some, if_neg (show ¬ (1 : Int32) = 0 by decide), if_true]
        · simp only [fX11_game, fX11_game_c38, r_areTwo, if_pos htr, r_in, bit_in, if_neg h1, Option.bind_some, if_neg (show ¬ (1 : Int32) = 0 by decide), if_true]
  · have htr : ¬ twoX (thr m 623 0) a b := by rw [hs.1]; exact ht
    refine EQ_0 (v := -1000000) hi ?_ ?_
    · simp only [fX10_game, fX10_game_c27, fX10_game_c28, fX10_game_c44, c_isBit, Option.bind_some, c_mayPlay, if_neg ht, if_true]
      by_cases h1 : x = 0 ∨ x = 1 <;> by_cases h2 : y = 0 ∨ y = 1 <;> by_cases h3 : w = 0 ∨ w = 1 <;> simp [h1, h2, h3]
    · simp only [fX11_game, fX11_game_c38, r_areTwo, if_neg htr, Option.bind_some, if_true]
end ASK
