/-! WHAT A FIELD READ LEAVES -/
section FLD
variable {m m' : mm_MM}
theorem InvL_z {a k : Nat} (z : (a = 0 ∧ (k = 16 ∨ k = 17)) ∨ (a = 606 ∧ (k = 13 ∨ k = 29)) ∨ (608 ≤ a ∧ a < 615) ∨ (∃ h, h < 4 ∧ (a = 595 + 3 * h ∨ (a = 594 + 3 * h ∧ k = 2)))) : (a = 0 ∧ (k = 16 ∨ k = 17)) ∨ (a = 606 ∧ (k = 13 ∨ k = 29)) ∨ (608 ≤ a ∧ a < 615) ∨ (594 ≤ a ∧ a < 606) := by
  rcases z with z | z | z | ⟨h, h1, h2⟩
  · exact Or.inl z
  · exact Or.inr (Or.inl z)
  · exact Or.inr (Or.inr (Or.inl z))
  · exact Or.inr (Or.inr (Or.inr (by omega)))
/-- what the field's readers write -/
theorem Inv_rd (c : ∀ a k, ¬ ((a = 1 ∧ k = 2) ∨ (3 ≤ a ∧ a ≤ 13) ∨ (a = 606 ∧ (k = 3 ∨ k = 4 ∨ k = 20 ∨ k = 21)) ∨ (617 ≤ a ∧ a ≤ 619)) → m'.1 a k = m.1 a k) (h : Inv m) : Inv m' := by
  obtain ⟨W, H, P, ls, h⟩ := h
  exact ⟨W, H, P, ls, InvF_c (fun a k z => c _ _ (by omega)) h.1, InvS_c (fun a k z => c _ _ (by omega)) h.2.1, InvI_c (fun a k z => c _ _ (by omega)) h.2.2.1, InvT_c (fun a k z => c _ _ (by omega)) h.2.2.2.1, InvL_c (fun a k z => c _ _ (by have := InvL_z z; clear z; omega)) h.2.2.2.2.1, InvM_c (fun a k z => c _ _ (by omega)) h.2.2.2.2.2.1, InvG_c (fun a k z => c _ _ (by omega)) h.2.2.2.2.2.2⟩
theorem InvT_tp (h : InvT m) : ∃ n B, n ≤ 240 ∧ (∀ i, i < n → ∃ c, 1 ≤ c ∧ c ≤ 255 ∧ B i = Int32.ofNat c) ∧ (∀ i, i < n → ¬ B i = -1) ∧ tpeC m B n ∧ tpeR m B n := by
  obtain ⟨n, a1, a2, a3, a4⟩ := h
  refine ⟨n, fun i => m.1 2 i, a1, fun i hi => (a4 i hi).2, fun i hi => ?_, ⟨a2, fun _ _ => rfl⟩, a3, fun i hi => (a4 i hi).1.symm⟩
  obtain ⟨-, c, c1, c2, e⟩ := a4 i hi
  show ¬ m.1 2 i = -1
  rw [e]; exact ofN_ne (by omega)
theorem q_fault0 (hi : Inv m) : EQ m (fun m => fX10_fault m 0) (fun m => fX11_fault m 0) := by
  obtain ⟨W, H, P, ls, h⟩ := id hi
  obtain ⟨n, B, hn, -, hB, tC, tR⟩ := InvT_tp h.2.2.2.1
  obtain ⟨v, m1, e1, f1, g⟩ := field_read hn hB tC ⟨m, tR⟩
  obtain ⟨m2, e2, f2, -⟩ := g m1 ⟨(f1.1 606 2 (by omega)).trans tR.1, fun i hi => (f1.1 607 i (by omega)).trans (tR.2 i hi)⟩
  refine ⟨v, m1, m2, ?_, ?_, Inv_rd (m := m) (fun a k z => by rw [f2.1 a k (by omega), f1.1 a k (by omega)]) hi⟩
  · show fX10_fault m 0 = _
    unfold fX10_fault
    rw [if_pos rfl, e1]
    rfl
  · show fX11_fault m1 0 = _
    unfold fX11_fault fX11_fault_c26
    rw [if_pos rfl, e2]
    rfl
theorem thc_8 (m : mm_MM) (s : Nat) {b : Nat} (h : ¬ b < 8) (k : Nat) : thc m s b k = 0 := if_neg (fun z => h z.1)
/-- a field begun: what holds then -/
theorem Inv_new {m1 F : mm_MM} {R : mm_MM} {ru : Int32} {nr nt : Nat} (hi : Inv m) (hS : FS m1 R ru nr nt nr nt) (hw : whB R nt = true)
    (fr : ∀ a k, ¬ ((a = 0 ∧ (k = 14 ∨ k = 15)) ∨ (a = 1 ∧ (k = 1 ∨ k = 2)) ∨ (3 ≤ a ∧ a ≤ 24) ∨ a = 29 ∨ (34 ≤ a ∧ a < 42) ∨ (a = 55 ∧ k = 2) ∨ (a = 577 ∧ k = 5) ∨ (a = 606 ∧ (k = 2 ∨ k = 3 ∨ k = 4 ∨ k = 20 ∨ k = 21 ∨ k = 25 ∨ k = 26 ∨ k = 34 ∨ k = 47 ∨ k = 51)) ∨ (617 ≤ a ∧ a ≤ 623)) → F.1 a k = m.1 a k)
    (b17 : ∀ b, b < 8 → ∀ k, k < 6 → F.1 (17 + b) k = m1.1 (6 + b) k) (b34 : ∀ b, b < 8 → ∀ k, k < 6 → F.1 (34 + b) k = m1.1 (6 + b) k) (b15 : ∀ r, r < 4 → F.1 15 r = m1.1 4 r) (b14 : ∀ k, 2 ≤ k → k < 10 → F.1 14 k = m1.1 3 k)
    (bc : F.1 29 6 = m1.1 3 7 ∧ F.1 29 7 = 0 ∧ F.1 29 4 = 0 ∧ F.1 29 5 = 0 ∧ F.1 55 2 = 0 ∧ F.1 577 5 = 0 ∧ F.1 0 14 = 1 ∧ F.1 0 15 = 0) (b1 : F.1 1 1 = 0 ∧ F.1 606 2 = 0)
    (r6 : F.1 606 26 = 1 ∧ F.1 606 25 = Int32.ofNat nt ∧ F.1 606 47 = 0 ∧ F.1 606 34 = 0 ∧ F.1 606 51 = 0) (r20 : ∀ k, k < 5 → F.1 620 k = R.1 617 k) (r21 : ∀ r, r < 4 → F.1 621 r = R.1 618 r) (r22 : ∀ j, j < 32 → F.1 622 j = R.1 619 j)
    (r23 : ∀ b, b < nt → (∀ k, k < 4 → F.1 623 (6 * b + k) = R.1 619 (4 * b + k)) ∧ F.1 623 (6 * b + 4) = (if R.1 619 (4 * b + 2) = -1 then 0 else 1) ∧ F.1 623 (6 * b + 5) = 1) (r23' : ∀ b, nt ≤ b → b < 8 → F.1 623 (6 * b + 5) = 0) (rc : F.1 623 48 = R.1 617 4 ∧ F.1 623 49 = 0 ∧ F.1 623 50 = 0) : Inv F := by
  obtain ⟨W0, H0, P0, ls, h⟩ := hi
  obtain ⟨W, H, hL, w0, w1⟩ := FS_P hS
  obtain ⟨-, h2, -, h6, ⟨h7, h8, h9⟩, h10, h11⟩ := hS
  have z14 : ¬ F.1 0 14 = 0 := by rw [bc.2.2.2.2.2.2.1]; decide
  have hT : ∀ b k, thc F 34 b k = if b < nt then (if k < 4 then R.1 619 (4 * b + k) else if k = 4 then (if R.1 619 (4 * b + 2) = -1 then 0 else 1) else if k = 5 then 1 else 0) else 0 := fun b k => by
    by_cases c : b < nt
    · have hb : b < 8 := by omega
      obtain ⟨a1, a2, -, -, -, -, a7⟩ := h10 b c
      rw [if_pos c]
      refine (if_pos ⟨hb, by rw [b34 b hb 0 (by decide), a1]; decide⟩).trans ?_
      by_cases k4 : k < 4
      · rw [if_pos (by omega), if_pos k4, b34 b hb _ (by omega), a2 k k4]
      · rw [if_neg k4]
        by_cases e4 : k = 4
        · subst e4
          rw [if_pos (by decide), if_pos rfl, b34 b hb _ (by decide), a7]
        · rw [if_neg (by omega), if_neg e4]
    · rw [if_neg c]
      by_cases hb : b < 8
      · exact if_neg (fun z => z.2 (by rw [b34 b hb 0 (by decide)]; exact (h11 b (by omega) hb).1))
      · exact thc_8 F 34 hb k
  have hTr : thr F 623 0 = thc F 34 := by
    funext b k
    rw [hT]
    by_cases c : b < nt
    · have hb : b < 8 := by omega
      obtain ⟨a1, a2, a3⟩ := r23 b c
      rw [if_pos c]
      refine (if_pos ⟨hb, by rw [Nat.zero_add]; exact a3⟩).trans ?_
      rw [Nat.zero_add]
      by_cases k4 : k < 4
      · rw [if_pos (by omega), if_pos k4, a1 k k4]
      · rw [if_neg k4]
        by_cases e4 : k = 4
        · subst e4; rw [if_pos (by decide), if_pos rfl, a2]
        · rw [if_neg e4]
          by_cases e5 : k = 5
          · subst e5; rw [if_pos (by decide), if_pos rfl, a3]
          · rw [if_neg (by omega), if_neg e5]
    · rw [if_neg c]
      refine if_neg (fun z => ?_)
      rw [Nat.zero_add, r23' b (by omega) z.1] at z
      exact absurd z.2 (by decide)
  have hpl : ∀ b, b < nt → R.1 619 (4 * b + 2) = -1 ∨ ∃ Q, Q < W * H ∧ R.1 619 (4 * b + 2) = Int32.ofNat Q := fun b hb => by
    unfold whB at hw
    rw [Bool.and_eq_true, allB_iff] at hw
    have ok := hw.2 b (by omega) (by omega)
    unfold okB plI at ok
    rw [Bool.or_eq_true, Bool.and_eq_true, decide_eq_true_iff, decide_eq_true_iff] at ok
    rcases ok with ok | ⟨ok, -⟩
    · exact Or.inl ok
    · obtain ⟨-, -, -, -, pl, -⟩ := h10 b hb
      rcases pl with pl | ⟨Q, q1, q2⟩
      · exact Or.inl pl
      · refine Or.inr ⟨Q, ?_, q2⟩
        rw [q2, w0, w1, ← Int32.ofNat_mul] at ok
        have hWH : W * H ≤ 24 := by
          obtain ⟨_, u2, _, u4⟩ := hL
          exact Nat.mul_le_mul u2 u4
        exact (nn_lt (by omega) (by omega)).mp ok
  have hTB : TB W H (thc F 34) := by
    intro b hb
    have hb5 := hb
    rw [hT] at hb5
    have c : b < nt := by
      by_cases c : b < nt
      · exact c
      · rw [if_neg c] at hb5; exact absurd hb5 (by decide)
    obtain ⟨-, -, a3, a4, -, a6, -⟩ := h10 b c
    simp only [hT, if_pos c]
    refine ⟨a3, a4, hpl b c, a6, ?_, fun z => ?_⟩
    · show (if R.1 619 (4 * b + 2) = -1 then (0 : Int32) else 1) = 0 ∨ _ = 1
      by_cases q : R.1 619 (4 * b + 2) = -1
      · left; exact if_pos q
      · right; exact if_neg q
    · exact if_pos z
  have hl1 : ∀ N, lgC F 29 0 N = fun _ _ => 0 := fun N => by funext j w; exact if_neg (fun z => absurd z.1 (by omega))
  have hl2 : lgR F 623 0 0 = fun _ _ => 0 := by funext j w; exact if_neg (fun z => absurd z.1 (by omega))
  have z0 : (0 : Int32).toNatClampNeg = 0 := rfl
  obtain ⟨c4, zc, cz1, cz2, cz3⟩ := h2 4 (by decide)
  have hc : cV F 29 = rV F 623 0 := by
    unfold cV rV
    rw [show (29 + 5 : Nat) = 34 from rfl, hTr, bc.1, bc.2.1, bc.2.2.1, Nat.zero_add, Nat.zero_add, Nat.zero_add, rc.1, rc.2.1, rc.2.2, z0, hl1, hl2, ← c4]
  have hcv : cV F 29 = (thc F 34, R.1 617 4, 0, 0, fun _ _ => 0) := by
    unfold cV
    rw [show (29 + 5 : Nat) = 34 from rfl, bc.1, bc.2.1, bc.2.2.1, z0, hl1, ← c4]
  have bool : ∀ b, b < 8 → (F.1 (34 + b) 0 = 0 ∨ F.1 (34 + b) 0 = 1) ∧ (F.1 (34 + b) 5 = 0 ∨ F.1 (34 + b) 5 = 1) := fun b hb => by
    rw [b34 b hb 0 (by decide), b34 b hb 5 (by decide)]
    by_cases c : b < nt
    · obtain ⟨a1, -, -, -, -, -, a7⟩ := h10 b c
      refine ⟨Or.inr a1, ?_⟩
      rw [a7]
      by_cases q : R.1 619 (4 * b + 2) = -1
      · left; exact if_pos q
      · right; exact if_neg q
    · obtain ⟨k0, -, -, -, -, k5⟩ := h11 b (by omega) hb
      exact ⟨Or.inl k0, Or.inl k5⟩
  refine ⟨W, H, [], ls, ⟨?_, Or.inr bc.2.2.2.2.2.2.1, ⟨?_, ?_, ?_, ?_⟩, fun r hr => ?_, fun _ => ⟨hL, ?_, ?_, ?_, fun r hr => ?_⟩, nt, h9, ?_, r6.2.1, fun z => absurd z z14, fun i hi => ?_⟩, ⟨hc, ?_, ?_, ?_, ?_, ?_, fun V hV => (nomatch hV), fun z => absurd z z14⟩, ⟨?_, Or.inl bc.2.2.2.2.2.2.2⟩, ⟨0, by decide, b1.1, b1.2, fun i hi => absurd hi (by omega)⟩, InvL_c (fun a k z => fr _ _ (by have := InvL_z z; clear z; omega)) h.2.2.2.2.1, InvM_c (fun a k z => fr _ _ (by omega)) h.2.2.2.2.2.1, ⟨0, by decide, bc.2.2.2.2.2.1, r6.2.2.1, fun _ => rfl, fun i hi => absurd hi (by omega)⟩⟩
  · rw [bc.2.2.2.2.2.2.1, r6.1]
  · rw [b14 3 (by decide) (by decide), r20 0 (by decide)]; exact (h2 0 (by decide)).1
  · rw [b14 4 (by decide) (by decide), r20 1 (by decide)]; exact (h2 1 (by decide)).1
  · rw [b14 5 (by decide) (by decide), r20 2 (by decide)]; exact (h2 2 (by decide)).1
  · rw [b14 6 (by decide) (by decide), r20 3 (by decide)]; exact (h2 3 (by decide)).1
  · rw [b15 r hr, r21 r hr]; exact (h6 r hr).1
  · rw [b14 3 (by decide) (by decide), (h2 0 (by decide)).1, w0]
  · rw [b14 4 (by decide) (by decide), (h2 1 (by decide)).1, w1]
  · obtain ⟨e2, Y, y1, y2, y3⟩ := h2 2 (by decide)
    exact ⟨Y, y1, y2, by rw [b14 5 (by decide) (by decide)]; exact e2.trans y3⟩
  · rw [b15 r hr, (h6 r hr).1]; exact (h6 r hr).2.1
  · rw [b14 9 (by decide) (by decide), h7]
  · have hi8 : i < 8 := by omega
    obtain ⟨a1, a2, a3, a4, -, a6, -⟩ := h10 i hi
    have a2' : ∀ k, k < 4 → F.1 (17 + i) (k + 1) = R.1 619 (4 * i + k) := fun k hk => by rw [b17 i hi8 _ (by omega)]; exact a2 k hk
    refine ⟨by rw [b17 i hi8 0 (by decide)]; exact a1, fun k hk => by rw [a2' k hk, r22 _ (by omega)], ?_, ?_, ?_⟩
    · rw [a2' 0 (by decide)]; exact a3
    · rw [a2' 1 (by decide)]; exact a4
    · rw [a2' 3 (by decide)]; exact a6
  · exact ⟨⟨0, 0, bc.2.2.1, by decide, bc.2.2.2.1, by decide⟩, bool⟩
  · exact ⟨0, by rw [Nat.zero_add]; exact rc.2.2, by decide⟩
  · rw [hcv]
    exact ⟨hTB, ⟨zc, cz3, Nat.le_trans cz2 (by decide)⟩, 0, rfl, by decide⟩
  · obtain ⟨F0, p1, p2, p3, p4, p5⟩ := h.2.1.2.2.2.2.1
    exact ⟨F0, (fr _ _ (by omega)).trans p1, p2, bc.2.2.2.2.1, by decide, fun i v hi => by cases hi⟩
  · exact ⟨r6.2.2.2.1, by decide, fun i v hi => by cases hi⟩
  · rw [bc.2.2.2.2.2.2.2, r6.2.2.2.2]
theorem q_text0 (hi : Inv m) : EQ m (fun m => fX10_text m 0) (fun m => fX11_text m 0) := by
  obtain ⟨W, H, P, ls, h⟩ := id hi
  obtain ⟨n, B, hn, -, hB, tC, tR⟩ := InvT_tp h.2.2.2.1
  obtain ⟨v, m1, e1, f1, g⟩ := field_read hn hB tC ⟨m, tR⟩
  by_cases hv : v = -1
  · subst hv
    have tX : ∀ X, (∀ a k, 606 ≤ a → X.1 a k = m.1 a k) → tpeR X B n := fun X hX => ⟨(hX 606 2 (by omega)).trans tR.1, fun i hi => (hX 607 i (by omega)).trans (tR.2 i hi)⟩
    obtain ⟨mx, -, -, hx⟩ := g m1 (tX m1 (fun a k z => f1.1 a k (by omega)))
    obtain ⟨ru0, nr0, nt0, hru0, hS0, -⟩ := hx rfl
    obtain ⟨⟨s2, -⟩, -, -, -, ⟨-, -, s9⟩, s10, s11⟩ := hS0
    have bool : ∀ b, b < 8 → (m1.1 (6 + b) 0 = 0 ∨ m1.1 (6 + b) 0 = 1) ∧ (m1.1 (6 + b) 5 = 0 ∨ m1.1 (6 + b) 5 = 1) := fun b hb => by
      by_cases c : b < nt0
      · obtain ⟨a1, -, -, -, -, -, a7⟩ := s10 b c
        refine ⟨Or.inr a1, ?_⟩
        rw [a7]
        by_cases q : mx.1 619 (4 * b + 2) = -1
        · left; exact if_pos q
        · right; exact if_neg q
      · obtain ⟨k0, -, -, -, -, k5⟩ := s11 b (by omega) hb
        exact ⟨Or.inl k0, Or.inl k5⟩
    have qc : ∀ a k, ¬ a = 1 → (wI m1 1 1 0).1 a k = m1.1 a k := fun a k z => wI_ne z
    -- the class begins it
    obtain ⟨mb, eb, b17, b34, b15, b14, bc, fb⟩ := c_begin (wI m1 1 1 0) (by rw [qc _ _ (by decide), s2]; exact hru0) (fun b hb => by rw [qc _ _ (by omega), qc _ _ (by omega)]; exact bool b hb)
    have hb6 : ∀ a k, 606 ≤ a → mb.1 a k = m.1 a k := fun a k z => by rw [fb a k (by omega), qc a k (by omega), f1.1 a k (by omega)]
    -- the reference reads and takes it
    obtain ⟨m2, e2, f2, hf⟩ := g mb (tX mb hb6)
    obtain ⟨ru, nr, nt, hru, hS, hw⟩ := hf rfl
    have h21 := hS.2.2.2.2.1
    obtain ⟨F, eF, r6, r20, r21, r22, r23, r23', rc, fF⟩ := r_take (wI m2 606 2 0) h21.2.2 ((wI_nk (by decide)).trans h21.2.1)
    have q2 : ∀ a k, ¬ a = 606 → (wI m2 606 2 0).1 a k = m2.1 a k := fun a k z => wI_ne z
    have lo : ∀ a k, a < 606 → F.1 a k = mb.1 a k := fun a k z => by rw [fF a k (by omega), q2 a k (by omega), f2.1 a k (by omega)]
    have hr6 : F.1 1 1 = 0 ∧ F.1 606 2 = 0 := ⟨by rw [lo 1 1 (by decide), fb 1 1 (by omega), wI_eq], by rw [fF 606 2 (by omega), wI_eq]⟩
    refine ⟨Int32.ofNat nt, mb, F, ?_, ?_, Inv_new (m := m) (m1 := m1) (F := F) (R := m2) hi hS hw (fun a k z => ?_) (fun b hb k hk => ?_) (fun b hb k hk => ?_) (fun r hr => ?_) (fun k k1 k2 => ?_) ?_ hr6 r6 (fun k hk => (r20 k hk).trans (q2 _ _ (by decide))) (fun k hk => (r21 k hk).trans (q2 _ _ (by decide))) (fun k hk => (r22 k hk).trans (q2 _ _ (by decide))) (fun b hb => ?_) r23' ⟨rc.1.trans (q2 _ _ (by decide)), rc.2⟩⟩
    · show fX10_text m 0 = _
      unfold fX10_text fX8_cut
      rw [if_pos rfl, e1]
      simp only [Option.bind_some, if_true]
      rw [eb]
      simp only [Option.bind_some]
      rw [b14 9 (by decide) (by decide), qc _ _ (by decide), h21.1]
    · show fX11_text mb 0 = _
      unfold fX11_text
      rw [if_pos rfl, e2]
      simp only [Option.bind_some, if_true]
      rw [eF]
      rfl
    · by_cases c : a < 606
      · rw [lo a k c, fb a k (by omega), wI_1, if_neg (by omega), f1.1 a k (by omega)]
      · rw [fF a k (by omega), wI_1, if_neg (by omega), f2.1 a k (by omega), hb6 a k (by omega)]
    · rw [lo _ _ (by omega), b17 b hb k hk, qc _ _ (by omega)]
    · rw [lo _ _ (by omega), b34 b hb k hk, qc _ _ (by omega)]
    · rw [lo _ _ (by omega), b15 r hr, qc _ _ (by omega)]
    · rw [lo _ _ (by omega), b14 k k1 k2, qc _ _ (by omega)]
    · rw [lo _ _ (by decide), lo _ _ (by decide), lo _ _ (by decide), lo _ _ (by decide), lo _ _ (by decide), lo _ _ (by decide), lo _ _ (by decide), lo _ _ (by decide)]
      rw [qc 3 7 (by decide)] at bc
      exact bc
    · obtain ⟨a1, a2, a3⟩ := r23 b hb
      rw [q2 _ _ (by decide)] at a2
      exact ⟨fun k hk => (a1 k hk).trans (q2 _ _ (by decide)), a2, a3⟩
  · obtain ⟨m2, e2, f2, -⟩ := g m1 ⟨(f1.1 606 2 (by omega)).trans tR.1, fun i hi => (f1.1 607 i (by omega)).trans (tR.2 i hi)⟩
    refine ⟨-1, m1, m2, ?_, ?_, Inv_rd (m := m) (fun a k z => by rw [f2.1 a k (by omega), f1.1 a k (by omega)]) hi⟩
    · show fX10_text m 0 = _
      unfold fX10_text fX10_text_c39 fX10_text_c80
      rw [if_pos rfl, e1]
      simp only [Option.bind_some]
      rw [if_neg hv, if_neg (by decide)]
    · show fX11_text m1 0 = _
      unfold fX11_text fX11_text_c22 fX11_text_c69
      rw [if_pos rfl, e2]
      simp only [Option.bind_some]
      rw [if_neg hv, if_neg (by decide)]
end FLD
