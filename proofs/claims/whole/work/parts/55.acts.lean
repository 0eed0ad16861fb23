/-! BOUGHT; UNDONE; IMAGES -/
section ACTS
variable {m m1 : mm_MM} {W H : Nat} {P P1 : List Vw} {ls : Nat → List Cla} {V1 : Vw}
def newT (T : TT) (b : Nat) (v s : Int32) : TT := fun i k => if i = b then (if k = 0 then v else if k = 1 then s else if k = 2 then -1 else if k = 5 then 1 else 0) else T i k
theorem StepC_new {b : Nat} {v s : Int32} (h : StepC m m1 V1 P1) (hb8 : b < 8) : ∃ m2, fX9_clear m1 (34 + b) = some m2 ∧ StepC m (wI (wI (wI m2 (34 + b) 0 1) (34 + b) 1 v) (34 + b) 2 s) (newT V1.1 b v s, V1.2) P1 := by
  obtain ⟨m2, e2, ⟨a1, a2, a3, a4, a5⟩, q, q0, q3, q4, q5⟩ := StepC_drop h hb8
  refine ⟨m2, e2, ?_⟩
  generalize hm3 : wI (wI (wI m2 (34 + b) 0 1) (34 + b) 1 v) (34 + b) 2 s = m3
  have hW : ∀ k, WAc (34 + b) k = true := fun k => WAc_t (WA_29 (by omega) (by omega) k) (by omega)
  have hf : fr WAc m (m3.1, m.2) := by
    have : fr WAc m (wI (wI (wI (m2.1, m.2) (34 + b) 0 1) (34 + b) 1 v) (34 + b) 2 s) := fr_wI (fr_wI (fr_wI a1 (hW _)) (hW _)) (hW _)
    rw [← hm3]; exact this
  have p : ∀ a k, ¬ a = 34 + b → m3.1 a k = m2.1 a k := fun a k h => by rw [← hm3, wI_ne h, wI_ne h, wI_ne h]
  have p0 : m3.1 (34 + b) 0 = 1 := by rw [← hm3]; simp [wI_1]
  have p1 : m3.1 (34 + b) 1 = v := by rw [← hm3]; simp [wI_1]
  have p2 : m3.1 (34 + b) 2 = s := by rw [← hm3]; simp [wI_1]
  have p3 : m3.1 (34 + b) 3 = -1 := by rw [← hm3]; simp [wI_1, q3]
  have p4 : m3.1 (34 + b) 4 = 0 := by rw [← hm3]; simp [wI_1, q4]
  have p5 : m3.1 (34 + b) 5 = 0 := by rw [← hm3]; simp [wI_1, q5]
  have a3' := a3
  refine ⟨hf, fun k => (p _ _ (by omega)).trans (a2 k), ?_, ?_, ?_⟩
  · have ht2 : thc m2 34 = dropT V1.1 b := congrArg Prod.fst a3
    have ht : thc m3 34 = newT V1.1 b v s := by
      funext i k
      unfold newT
      by_cases e : i = b
      · subst e
        rw [if_pos rfl]
        unfold thc
        rw [if_pos ⟨hb8, by rw [p0]; decide⟩]
        by_cases hk : k < 5
        · rw [if_pos hk]
          obtain rfl | rfl | rfl | rfl | rfl : k = 0 ∨ k = 1 ∨ k = 2 ∨ k = 3 ∨ k = 4 := by omega
          · rw [p1]; rfl
          · rw [p2]; rfl
          · rw [p3]; rfl
          · rw [p4]; rfl
          · rw [p5]; rfl
        · rw [if_neg hk]
          by_cases k5 : k = 5
          · subst k5; rfl
          · rw [if_neg k5, if_neg (by omega), if_neg (by omega), if_neg (by omega)]
      · rw [if_neg e]
        refine (thc_at (m := m2) (s := 34) (b := i) (fun k _ => p _ _ (by omega)) k).trans ?_
        rw [ht2]; unfold dropT; rw [if_neg e]
    have hl : ∀ L N, lgC m3 29 L N = lgC m2 29 L N := fun L N => by
      funext j w
      unfold lgC
      by_cases hj : j < L ∧ w < 3
      · rw [if_pos hj, if_pos hj, p _ _ (by omega)]
      · rw [if_neg hj, if_neg hj]
    have : (cV m2 29).2 = V1.2 := by rw [a3]
    rw [← this]
    unfold cV
    rw [show (29 + 5 : Nat) = 34 from rfl, ht, p _ _ (by omega), p _ _ (by omega), p _ _ (by omega), p _ _ (by omega), hl]
  · obtain ⟨⟨L, N, b1, b2, b3, b4⟩, hb⟩ := a4
    refine ⟨⟨L, N, (p _ _ (by omega)).trans b1, b2, (p _ _ (by omega)).trans b3, b4⟩, fun i hi => ?_⟩
    show (m3.1 (34 + i) 0 = 0 ∨ m3.1 (34 + i) 0 = 1) ∧ (m3.1 (34 + i) 5 = 0 ∨ m3.1 (34 + i) 5 = 1)
    by_cases e : i = b
    · subst e; rw [p0, p5]; exact ⟨Or.inr rfl, Or.inl rfl⟩
    · rw [p _ _ (by omega), p _ _ (by omega)]; exact hb i hi
  · exact PC_fr (m := m2) (m' := (m3.1, m2.2)) (W := fun a _ => a == 34 + b) ⟨fun a k z => p a k (by simpa using z), fun _ _ _ => rfl⟩ (fun a k ha => by simp only [beq_eq_false_iff_ne]; omega) a5
theorem StepR_new {b : Nat} {v s : Int32} (h : StepR m m1 V1 P1) (hb8 : b < 8) : StepR m (wI (wI (wI (wI (wI (wI m1 623 (6 * b + 0) v) 623 (6 * b + 1) s) 623 (6 * b + 2) (-1)) 623 (6 * b + 3) 0) 623 (6 * b + 4) 0) 623 (6 * b + 5) 1) (newT V1.1 b v s, V1.2) P1 := by
  obtain ⟨a1, a2, a3, a4, a5⟩ := h
  have hW : ∀ k, WAr 623 k = true := fun k => WAr_t (by simp [WA]) (by decide)
  generalize hm3 : wI (wI (wI (wI (wI (wI m1 623 (6 * b + 0) v) 623 (6 * b + 1) s) 623 (6 * b + 2) (-1)) 623 (6 * b + 3) 0) 623 (6 * b + 4) 0) 623 (6 * b + 5) 1 = m3
  have hf : fr WAr m (m3.1, m.2) := by
    have : fr WAr m (wI (wI (wI (wI (wI (wI (m1.1, m.2) 623 (6 * b + 0) v) 623 (6 * b + 1) s) 623 (6 * b + 2) (-1)) 623 (6 * b + 3) 0) 623 (6 * b + 4) 0) 623 (6 * b + 5) 1) := fr_wI (fr_wI (fr_wI (fr_wI (fr_wI (fr_wI a1 (hW _)) (hW _)) (hW _)) (hW _)) (hW _)) (hW _)
    rw [← hm3]; exact this
  have p : ∀ a k, ¬ (a = 623 ∧ 6 * b ≤ k ∧ k < 6 * b + 6) → m3.1 a k = m1.1 a k := fun a k h => by
    rw [← hm3]
    simp only [wI_1]
    rw [if_neg (by omega), if_neg (by omega), if_neg (by omega), if_neg (by omega), if_neg (by omega), if_neg (by omega)]
  have p0 : m3.1 623 (6 * b + 0) = v := by rw [← hm3]; simp [wI_1]
  have p1 : m3.1 623 (6 * b + 1) = s := by rw [← hm3]; simp [wI_1]
  have p2 : m3.1 623 (6 * b + 2) = -1 := by rw [← hm3]; simp [wI_1]
  have p3 : m3.1 623 (6 * b + 3) = 0 := by rw [← hm3]; simp [wI_1]
  have p4 : m3.1 623 (6 * b + 4) = 0 := by rw [← hm3]; simp [wI_1]
  have p5 : m3.1 623 (6 * b + 5) = 1 := by rw [← hm3]; simp [wI_1]
  refine ⟨hf, fun k => (p _ _ (by omega)).trans (a2 k), ?_, rOK_congr (p _ _ (by omega)) a4, PR_fr (m := m1) (m' := (m3.1, m1.2)) (W := fun a _ => a == 623) ⟨fun a k z => p a k (by simp only [beq_eq_false_iff_ne] at z; omega), fun _ _ _ => rfl⟩ (fun _ => rfl) rfl a5⟩
  have ht : thr m3 623 0 = newT (thr m1 623 0) b v s := by
    funext i k
    unfold newT
    by_cases e : i = b
    · subst e
      rw [if_pos rfl]
      have h5 : thr m3 623 0 i 5 = 1 := (r_thr hb8).mpr p5
      by_cases hk : k < 6
      · rw [thr_k0 h5 hk]
        obtain rfl | rfl | rfl | rfl | rfl | rfl : k = 0 ∨ k = 1 ∨ k = 2 ∨ k = 3 ∨ k = 4 ∨ k = 5 := by omega
        · rw [p0]; rfl
        · rw [p1]; rfl
        · rw [p2]; rfl
        · rw [p3]; rfl
        · rw [p4]; rfl
        · rw [p5]; rfl
      · rw [if_neg (by omega), if_neg (by omega), if_neg (by omega), if_neg (by omega)]
        unfold thr
        simp only [if_neg hk]
        by_cases z : i < 8 ∧ m3.1 623 (0 + (6 * i + 5)) = 1 <;> simp [z]
    · rw [if_neg e]
      unfold thr
      by_cases hi : i < 8
      · rw [p 623 (0 + (6 * i + 5)) (by omega)]
        by_cases hk : k < 6
        · rw [p 623 (0 + (6 * i + k)) (by omega)]
        · simp only [if_neg hk]
      · simp [hi]
  have hl : ∀ L, lgR m3 623 0 L = lgR m1 623 0 L := fun L => by
    funext j w
    unfold lgR
    by_cases hj : j < L ∧ w < 3
    · rw [if_pos hj, if_pos hj, p _ _ (by omega)]
    · rw [if_neg hj, if_neg hj]
  rw [← a3]
  unfold rV
  rw [ht, hl, p _ _ (by omega), p _ _ (by omega), p _ _ (by omega)]
theorem half_n {x : Int32} (h1 : ¬ x < 1) (h2 : x ≤ 30) : ∃ n, x = Int32.ofNat n ∧ 1 ≤ n ∧ n ≤ 30 ∧ (x + 1) / 2 = Int32.ofNat ((n + 1) / 2) := by
  have h0 : ¬ x < 0 := by grind
  have e := nn_of h0
  have a2 : x.toNatClampNeg ≤ 30 := (nn_lek (k := 30) h0 (by decide)).mp h2
  have a1 : ¬ x.toNatClampNeg < 1 := fun z => h1 ((nn_ltk (k := 1) h0 (by decide)).mpr z)
  generalize x.toNatClampNeg = n at e a1 a2
  subst e
  refine ⟨n, rfl, by omega, a2, ?_⟩
  rw [nn_s, show (2 : Int32) = Int32.ofNat 2 from rfl, Int32.ofNat_div (by omega) (by decide)]
theorem q_buy (hi : Inv m) (x s : Int32) : EQ m (fun m => fX10_buy m x s) (fun m => fX11_buy m x s) := by
  obtain ⟨W, H, P, ls, h⟩ := hi
  by_cases hk : m.1 0 14 = 0
  · refine EQ_refuse (v := -1) h 0 ?_ ?_
    · simp only [fX10_buy, if_pos hk, (c_ref m).1, Option.bind_some, mR]
    · have hs := seeR h 0
      simp only [fX11_buy, fX11_buy_c63, hs.2.1, if_pos hk, (r_ref _).1, Option.bind_some, if_neg (show ¬ (1 : Int32) = 0 by decide)]
  · have hk1 : m.1 0 14 = 1 := h.1.2.1.resolve_left hk
    by_cases hn : x < 1 ∨ ¬ x ≤ 30 ∨ s < 0 ∨ ¬ s ≤ 5
    · refine EQ_refuse (v := -1) h 1 ?_ ?_
      · by_cases h1 : x < 1
        · simp only [fX10_buy, fX10_buy_c33, if_neg hk, if_pos h1, (c_ref m).2.1, Option.bind_some, mR]
        · by_cases h2 : x ≤ 30
          · by_cases h3 : s < 0
            · simp only [fX10_buy, fX10_buy_c33, if_neg hk, if_neg h1, if_pos h2, if_pos h3, (c_ref m).2.1, Option.bind_some, mR]
            · have h4 : ¬ s ≤ 5 := ((hn.resolve_left h1).resolve_left (fun z => z h2)).resolve_left h3
              simp only [fX10_buy, fX10_buy_c33, if_neg hk, if_neg h1, if_pos h2, if_neg h3, if_neg h4, (c_ref m).2.1, Option.bind_some, mR]
          · simp only [fX10_buy, fX10_buy_c33, if_neg hk, if_neg h1, if_neg h2, (c_ref m).2.1, Option.bind_some, mR]
      · have hs := seeR h 1
        by_cases h1 : x < 1
        · simp only [fX11_buy, fX11_buy_c31, fX11_buy_c63, hs.2.1, if_neg hk, r_in, if_pos h1, if_true, (r_ref _).2.1, Option.bind_some, if_neg (show ¬ (1 : Int32) = 0 by decide)]
        · by_cases h2 : x ≤ 30
          · have h34 : (if s < 0 then (0 : Int32) else if s ≤ 5 then 1 else 0) = 0 := by
              by_cases h3 : s < 0
              · rw [if_pos h3]
              · rw [if_neg h3, if_neg (((hn.resolve_left h1).resolve_left (fun z => z h2)).resolve_left h3)]
            simp only [fX11_buy, fX11_buy_c31, fX11_buy_c63, hs.2.1, if_neg hk, r_in, if_neg h1, if_pos h2, h34, if_true, (r_ref _).2.1, Option.bind_some, if_neg (show ¬ (1 : Int32) = 0 by decide)]
          · simp only [fX11_buy, fX11_buy_c31, fX11_buy_c63, hs.2.1, if_neg hk, r_in, if_neg h1, if_neg h2, if_true, (r_ref _).2.1, Option.bind_some, if_neg (show ¬ (1 : Int32) = 0 by decide)]
    · have h1 : ¬ x < 1 := fun z => hn (Or.inl z)
      have h2 : x ≤ 30 := Classical.not_not.mp fun z => hn (Or.inr (Or.inl z))
      have h3 : ¬ s < 0 := fun z => hn (Or.inr (Or.inr (Or.inl z)))
      have h4 : s ≤ 5 := Classical.not_not.mp fun z => hn (Or.inr (Or.inr (Or.inr z)))
      have s29 : fX7_slot m 29 (-1) = some (none, m) := rfl
      rcases freP_s (thc m 34) 8 0 rfl with hfr | ⟨b, hb8, eb, hb5⟩
      · refine EQ_refuse (v := -1) h 3 ?_ ?_
        · simp only [fX10_buy, fX10_buy_c81, if_neg hk, if_neg h1, if_pos h2, if_neg h3, if_pos h4, c_freePlace, hfr, Option.bind_some, s29]
          by_cases hp : (x + 1) / 2 ≤ m.1 29 6 <;> simp only [hp, if_true, if_false, (c_ref m).2.2.2.1, Option.bind_some, mR]
        · have hs := seeR h 3
          simp only [fX11_buy, fX11_buy_c58, fX11_buy_c63, hs.2.1, if_neg hk, r_in, if_neg h1, if_pos h2, if_neg h3, if_pos h4, Option.bind_some, if_neg (show ¬ (1 : Int32) = 0 by decide), r_freePlace, hs.1, hfr, if_true, (r_ref _).2.2.2.1]
          by_cases hp : (mR m 3).1 623 48 < (x + 1) / 2 <;> simp only [hp, if_true, if_false]
      · have hkd : mm_kd (34 + b) = (9, 6) := kd_p hb8
        have sl : fX7_slot m 29 (Int32.ofNat b) = some (some (34 + b), m) := c_slot_n m (t := 29) rfl hb8
        by_cases hp : (x + 1) / 2 ≤ m.1 29 6
        · have hp' : ¬ m.1 29 6 < (x + 1) / 2 := Int32.not_lt.mpr hp
          obtain ⟨mc, e, sc, qc⟩ := StepC_keep h
          have sc1 := StepC_coin (v := m.1 29 6 - (x + 1) / 2) sc
          obtain ⟨mc2, ec2, sc2⟩ := StepC_new (v := x) (s := s) sc1 hb8
          obtain ⟨mr, er, sr, qr⟩ := StepR_keep h sc2.1
          have hs := see h sc2.1
          have n48 := (qr 623 48 (by decide) (by omega)).trans hs.2.2.2.2.2.2.1
          have sr1 := StepR_coin (v := m.1 29 6 - (x + 1) / 2) sr
          have sr2 := StepR_new (v := x) (s := s) sr1 hb8
          have tr : thr mr 623 0 = thc m 34 := congrArg Prod.fst sr.2.2.1
          obtain ⟨v1, ⟨c, v2, v2'⟩, v3⟩ := h.2.1.2.2.2.1
          refine EQ_act (v := Int32.ofNat b) h hk1 sc2 sr2 ⟨?_, ?_, v3⟩ (kp_P h) ?_ ?_
          · show TB W H (newT (cV m 29).1 b x s)
            refine TB_row v1 b (fun i k hib => by unfold newT; rw [if_neg hib]) (fun _ => ?_)
            unfold rowOK newT
            simp only [if_true]
            refine ⟨⟨?_, ?_⟩, ⟨Int32.not_lt.mp h3, h4⟩, Or.inl rfl, ⟨by simp, by simp⟩, Or.inl rfl, fun _ => rfl⟩ <;> grind
          · show ∃ c, m.1 29 6 - (x + 1) / 2 = Int32.ofNat c ∧ c ≤ 999
            have v2 : m.1 29 6 = Int32.ofNat c := v2
            obtain ⟨n, -, n1, n2, n3⟩ := half_n h1 h2
            rw [v2, n3, nn_le (by omega) (by omega)] at hp
            rw [v2, n3, ← Int32.ofNat_sub _ _ hp]
            exact ⟨_, rfl, by omega⟩
          · simp only [fX10_buy, if_neg hk, if_neg h1, if_pos h2, if_neg h3, if_pos h4, c_freePlace, eb, Option.bind_some, sl, if_pos hkd, if_pos hp, e, qc 29 6 (by omega), ec2]
          · have hn1 : ¬ Int32.ofNat b = -1 := ofN_ne (by omega)
            simp only [fX11_buy, fX11_buy_c63, hs.2.1, if_neg hk, r_in, if_neg h1, if_pos h2, if_neg h3, if_pos h4, Option.bind_some, if_neg (show ¬ (1 : Int32) = 0 by decide), hs.2.2.2.2.2.2.1, if_neg hp', r_freePlace, hs.1, eb, if_neg hn1, r_ref0, if_true, er, tr, n48, r_set0 _ _ hb8, r_set1 _ _ hb8, r_set2 _ _ hb8, r_set3 _ _ hb8, r_set4 _ _ hb8, r_set5 _ _ hb8]
        · have hp' : m.1 29 6 < (x + 1) / 2 := Int32.not_le.mp hp
          refine EQ_refuse (v := -1) h 3 ?_ ?_
          · simp only [fX10_buy, fX10_buy_c81, if_neg hk, if_neg h1, if_pos h2, if_neg h3, if_pos h4, c_freePlace, eb, Option.bind_some, sl, if_pos hkd, if_neg hp, (c_ref m).2.2.2.1, mR]
          · have hs := seeR h 3
            simp only [fX11_buy, fX11_buy_c58, fX11_buy_c63, hs.2.1, if_neg hk, r_in, if_neg h1, if_pos h2, if_neg h3, if_pos h4, Option.bind_some, if_neg (show ¬ (1 : Int32) = 0 by decide), hs.2.2.2.2.2.2.1, if_pos hp', (r_ref _).2.2.2.1]
end ACTS
