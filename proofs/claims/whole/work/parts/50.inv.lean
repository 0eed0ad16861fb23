/-! WHAT HOLDS BETWEEN CALLS -/
def VB (W H : Nat) (V : Vw) : Prop := TB W H V.1 ∧ (∃ c, V.2.1 = Int32.ofNat c ∧ c ≤ 999) ∧ (∃ M, V.2.2.1 = Int32.ofNat M ∧ M ≤ 999)
/-- a told thing, and what it may be -/
def toldI (m : mm_MM) (i : Nat) : Prop := m.1 (17 + i) 0 = 1 ∧ (∀ k, k < 4 → m.1 (17 + i) (k + 1) = m.1 622 (4 * i + k)) ∧ (0 ≤ m.1 (17 + i) 1 ∧ m.1 (17 + i) 1 ≤ 200) ∧ (0 ≤ m.1 (17 + i) 2 ∧ m.1 (17 + i) 2 ≤ 5) ∧ (0 ≤ m.1 (17 + i) 4 ∧ m.1 (17 + i) 4 ≤ 99)
def InvF (m : mm_MM) (W H : Nat) : Prop := m.1 0 14 = m.1 606 26 ∧ (m.1 0 14 = 0 ∨ m.1 0 14 = 1) ∧ (m.1 14 3 = m.1 620 0 ∧ m.1 14 4 = m.1 620 1 ∧ m.1 14 5 = m.1 620 2 ∧ m.1 14 6 = m.1 620 3) ∧ (∀ r, r < 4 → m.1 15 r = m.1 621 r) ∧
  (m.1 0 14 = 1 → okL W H ∧ m.1 14 3 = Int32.ofNat W ∧ m.1 14 4 = Int32.ofNat H ∧ (∃ Y, 1 ≤ Y ∧ Y ≤ 24 ∧ m.1 14 5 = Int32.ofNat Y) ∧ ∀ r, r < 4 → 0 ≤ m.1 15 r ∧ m.1 15 r ≤ 9) ∧
  ∃ n, n ≤ 8 ∧ m.1 14 9 = Int32.ofNat n ∧ m.1 606 25 = Int32.ofNat n ∧ (m.1 0 14 = 0 → n = 0) ∧ ∀ i, i < n → toldI m i
def InvS (m : mm_MM) (W H : Nat) (P : List Vw) : Prop := cV m 29 = rV m 623 0 ∧ cOK m 29 ∧ rOK m 623 0 ∧ VB W H (cV m 29) ∧ PC m P ∧ PR m P ∧ (∀ V ∈ P, VB W H V) ∧ (m.1 0 14 = 0 → P = [] ∧ ∀ b, ¬ thc m 34 b 5 = 1)
def InvI (m : mm_MM) (W H : Nat) : Prop := m.1 0 15 = m.1 606 51 ∧ (m.1 0 15 = 0 ∨ (m.1 0 15 = 1 ∧ m.1 0 14 = 1 ∧ cV m 42 = rV m 638 0 ∧ cOK m 42 ∧ rOK m 638 0 ∧ VB W H (cV m 42)))
def InvT (m : mm_MM) : Prop := ∃ n, n ≤ 240 ∧ m.1 1 1 = Int32.ofNat n ∧ m.1 606 2 = Int32.ofNat n ∧ ∀ i, i < n → m.1 2 i = m.1 607 i ∧ ∃ c, 1 ≤ c ∧ c ≤ 255 ∧ m.1 2 i = Int32.ofNat c
def InvL (m : mm_MM) (ls : Nat → List Cla) : Prop := ∃ q, q ≤ 4 ∧ m.1 0 16 = Int32.ofNat q ∧ m.1 606 13 = Int32.ofNat q ∧ (∀ i, i < q → LawC m (594 + 3 * i) (ls i) ∧ LawR m i (ls i) ∧ ∀ c ∈ ls i, wfC c) ∧ m.1 0 17 = m.1 606 29 ∧ (m.1 0 17 = -1 ∨ ∃ h, h < q ∧ m.1 0 17 = Int32.ofNat h)
def InvM (m : mm_MM) : Prop := m.1 0 18 = m.1 606 30 ∧ ∀ k, k < 5 → m.1 592 k = m.1 624 k
def sigI (m : mm_MM) (i : Nat) : Prop := (m.1 578 i = m.1 631 i ∧ m.1 579 i = m.1 632 i ∧ m.1 580 i = m.1 633 i ∧ m.1 581 i = m.1 634 i ∧ m.1 582 i = m.1 635 i) ∧ (m.1 582 i = 0 ∨ m.1 582 i = 1) ∧ (∃ n, 1 ≤ n ∧ n ≤ 24 ∧ m.1 580 i = Int32.ofNat n) ∧ ¬ m.1 578 i < 0 ∧ m.1 578 i < m.1 14 9 ∧ ¬ m.1 579 i < 0 ∧ m.1 579 i < m.1 14 4
def InvG (m : mm_MM) : Prop := ∃ s, s ≤ 10 ∧ m.1 577 5 = Int32.ofNat s ∧ m.1 606 47 = Int32.ofNat s ∧ (m.1 0 14 = 0 → s = 0) ∧ ∀ i, i < s → sigI m i
def InvA (m : mm_MM) (W H : Nat) (P : List Vw) (ls : Nat → List Cla) : Prop := InvF m W H ∧ InvS m W H P ∧ InvI m W H ∧ InvT m ∧ InvL m ls ∧ InvM m ∧ InvG m
def Inv (m : mm_MM) : Prop := ∃ W H P ls, InvA m W H P ls
/-- what questions write -/
def WQ : Nat → Nat → Bool := fun a k => WS a k || a == 583 || (Nat.ble 585 a && Nat.blt a 589) || (a == 584 && k == 4) || (a == 589 && k == 2) || a == 590 || a == 591 || a == 593 || a == 615 || a == 616 || a == 625 || (Nat.ble 627 a && Nat.blt a 631) || a == 636 || a == 637 || (a == 606 && (k == 0 || k == 3 || k == 4 || k == 5 || k == 14 || k == 32 || k == 39 || k == 40))
/-- what acts write, too -/
def WA : Nat → Nat → Bool := fun a k => WQ a k || WSt 29 a k || WP a k || a == 592 || a == 623 || a == 626 || a == 624 || (a == 606 && k == 34)
theorem WA_Q : ∀ a k, WA a k = false → WQ a k = false := by
  intro a k h
  simp only [WA, Bool.or_eq_false_iff] at h
  exact h.1.1.1.1.1.1.1
theorem WA_f {a k : Nat} (h : a < 29 ∨ (42 ≤ a ∧ a < 55) ∨ (577 ≤ a ∧ a < 583) ∨ (a = 607 ∨ (608 ≤ a ∧ a < 615) ∨ (617 ≤ a ∧ a < 623) ∨ (631 ≤ a ∧ a < 636) ∨ a = 638) ∨ (a = 606 ∧ (k = 2 ∨ k = 13 ∨ k = 25 ∨ k = 26 ∨ k = 29 ∨ k = 30 ∨ k = 47 ∨ k = 51))) : WA a k = false := by
  cases hb : WA a k with
  | false => rfl
  | true =>
    simp only [WA, WQ, WS, WSt, WP, Nat.ble_eq, Nat.blt_eq, Bool.and_eq_true, Bool.or_eq_true, beq_iff_eq] at hb
    omega
theorem WA_law1 : ∀ h k, h < 4 → WA (595 + 3 * h) k = false := by
  intro h k hh
  cases hb : WA (595 + 3 * h) k with
  | false => rfl
  | true =>
    simp only [WA, WQ, WS, WSt, WP, Nat.ble_eq, Nat.blt_eq, Bool.and_eq_true, Bool.or_eq_true, beq_iff_eq] at hb
    omega
theorem WA_law2 : ∀ h, h < 4 → WA (594 + 3 * h) 2 = false := by
  intro h hh
  cases hb : WA (594 + 3 * h) 2 with
  | false => rfl
  | true =>
    simp only [WA, WQ, WS, WSt, WP, Nat.ble_eq, Nat.blt_eq, Bool.and_eq_true, Bool.or_eq_true, beq_iff_eq] at hb
    omega
theorem WQ_f {a k : Nat} (h : (29 ≤ a ∧ a < 42) ∨ (55 ≤ a ∧ a < 577) ∨ a = 592 ∨ a = 623 ∨ a = 624 ∨ a = 626 ∨ (a = 606 ∧ k = 34)) : WQ a k = false := by
  cases hb : WQ a k with
  | false => rfl
  | true =>
    simp only [WQ, WS, Nat.ble_eq, Nat.blt_eq, Bool.and_eq_true, Bool.or_eq_true, beq_iff_eq] at hb
    omega
section FRI
variable {m m' : mm_MM} {W H : Nat} {P : List Vw} {ls : Nat → List Cla}
theorem toldI_fr (hf : fr WA m m') {i : Nat} (hi : i < 8) (h : toldI m i) : toldI m' i := by
  have c : ∀ k, m'.1 (17 + i) k = m.1 (17 + i) k := fun k => hf.1 _ _ (WA_f (by omega))
  obtain ⟨a1, a2, a3, a4, a5⟩ := h
  refine ⟨(c 0).trans a1, fun k hk => ?_, ?_, ?_, ?_⟩
  · rw [c, a2 k hk, hf.1 622 _ (WA_f (by omega))]
  · rw [c]; exact a3
  · rw [c]; exact a4
  · rw [c]; exact a5
theorem InvF_fr (hf : fr WA m m') (h : InvF m W H) : InvF m' W H := by
  have c0 : ∀ k, m'.1 0 k = m.1 0 k := fun k => hf.1 _ _ (WA_f (by omega))
  have c14 : ∀ k, m'.1 14 k = m.1 14 k := fun k => hf.1 _ _ (WA_f (by omega))
  have c15 : ∀ k, m'.1 15 k = m.1 15 k := fun k => hf.1 _ _ (WA_f (by omega))
  have c620 : ∀ k, m'.1 620 k = m.1 620 k := fun k => hf.1 _ _ (WA_f (by omega))
  have c621 : ∀ k, m'.1 621 k = m.1 621 k := fun k => hf.1 _ _ (WA_f (by omega))
  obtain ⟨a1, a2, a3, a4, a5, n, b1, b2, b3, b4, b5⟩ := h
  refine ⟨?_, ?_, ?_, ?_, ?_, n, b1, (c14 9).trans b2, (hf.1 _ _ (WA_f (by omega))).trans b3, ?_, fun i hi => toldI_fr hf (by omega) (b5 i hi)⟩
  · rw [c0, hf.1 606 26 (WA_f (by omega))]; exact a1
  · rw [c0]; exact a2
  · simp only [c14, c620]; exact a3
  · intro r hr; rw [c15, c621]; exact a4 r hr
  · intro h1
    rw [c0] at h1
    obtain ⟨d1, d2, d3, d4, d5⟩ := a5 h1
    refine ⟨d1, ?_, ?_, ?_, ?_⟩
    · rw [c14]; exact d2
    · rw [c14]; exact d3
    · rw [c14]; exact d4
    · intro r hr; rw [c15]; exact d5 r hr
  · rw [c0]; exact b4
theorem InvI_fr (hf : fr WA m m') (h : InvI m W H) : InvI m' W H := by
  have c0 : ∀ k, m'.1 0 k = m.1 0 k := fun k => hf.1 _ _ (WA_f (by omega))
  obtain ⟨a1, a2⟩ := h
  refine ⟨by rw [c0, hf.1 606 51 (WA_f (by omega))]; exact a1, ?_⟩
  rcases a2 with a2 | ⟨b1, b2, b3, b4, b5, b6⟩
  · left; rw [c0]; exact a2
  · have v1 : cV m' 42 = cV m 42 := cV_fr hf (fun a k h1 h2 => WA_f (by omega)) (fun k _ _ => WA_f (by omega))
    have v2 : rV m' 638 0 = rV m 638 0 := rV_congr (fun k _ => hf.1 _ _ (WA_f (by omega))) b5
    right
    rw [c0, c0, v1, v2]
    exact ⟨b1, b2, b3, cOK_fr hf (fun a k h1 h2 => WA_f (by omega)) (fun k _ _ => WA_f (by omega)) b4, rOK_congr (hf.1 _ _ (WA_f (by omega))) b5, b6⟩
theorem InvT_fr (hf : fr WA m m') (h : InvT m) : InvT m' := by
  obtain ⟨n, a1, a2, a3, a4⟩ := h
  refine ⟨n, a1, (hf.1 _ _ (WA_f (by omega))).trans a2, (hf.1 _ _ (WA_f (by omega))).trans a3, fun i hi => ?_⟩
  rw [hf.1 2 i (WA_f (by omega)), hf.1 607 i (WA_f (by omega))]
  exact a4 i hi
theorem InvL_fr (hf : fr WA m m') (h : InvL m ls) : InvL m' ls := by
  obtain ⟨q, a1, a2, a3, a4, a5, a6⟩ := h
  have c0 : ∀ k, m'.1 0 k = m.1 0 k := fun k => hf.1 _ _ (WA_f (by omega))
  refine ⟨q, a1, (c0 16).trans a2, (hf.1 _ _ (WA_f (by omega))).trans a3, fun i hi => ?_, by rw [c0, hf.1 606 29 (WA_f (by omega))]; exact a5, by rw [c0]; exact a6⟩
  obtain ⟨b1, b2, b3⟩ := a4 i hi
  exact ⟨LawC_fr (fun k => WA_law1 i k (by omega)) (WA_law2 i (by omega)) hf b1, LawR_fr (fun a ha k => hf.1 a k (WA_f (by omega))) b2, b3⟩
theorem InvG_fr (hf : fr WA m m') (h : InvG m) : InvG m' := by
  obtain ⟨s, a1, a2, a3, a4, a5⟩ := h
  have c : ∀ a k, 577 ≤ a → a < 583 → m'.1 a k = m.1 a k := fun a k h1 h2 => hf.1 _ _ (WA_f (by omega))
  have d : ∀ a k, 631 ≤ a → a < 636 → m'.1 a k = m.1 a k := fun a k h1 h2 => hf.1 _ _ (WA_f (by omega))
  have c14 : ∀ k, m'.1 14 k = m.1 14 k := fun k => hf.1 _ _ (WA_f (by omega))
  refine ⟨s, a1, (c 577 5 (by decide) (by decide)).trans a2, (hf.1 _ _ (WA_f (by omega))).trans a3, by rw [hf.1 0 14 (WA_f (by omega))]; exact a4, fun i hi => ?_⟩
  have := a5 i hi
  unfold sigI at this ⊢
  rw [c 578 i (by decide) (by decide), c 579 i (by decide) (by decide), c 580 i (by decide) (by decide), c 581 i (by decide) (by decide), c 582 i (by decide) (by decide), d 631 i (by decide) (by decide), d 632 i (by decide) (by decide), d 633 i (by decide) (by decide), d 634 i (by decide) (by decide), d 635 i (by decide) (by decide), c14, c14]
  exact this
/-- behind an act: the stands anew, what was refused -/
theorem InvA_act (hf : fr WA m m') {P' : List Vw} (hS : InvS m' W H P') (hM : ∀ k, k < 5 → m'.1 592 k = m'.1 624 k) (h : InvA m W H P ls) : InvA m' W H P' ls := by
  obtain ⟨h1, h2, h3, h4, h5, h6, h7⟩ := h
  exact ⟨InvF_fr hf h1, hS, InvI_fr hf h3, InvT_fr hf h4, InvL_fr hf h5, ⟨by rw [hf.1 0 18 (WA_f (by omega)), hf.1 606 30 (WA_f (by omega))]; exact h6.1, hM⟩, InvG_fr hf h7⟩
theorem PC_fr {W : Nat → Nat → Bool} (hf : fr W m m') (hW : ∀ a k, a = 55 ∨ (57 ≤ a ∧ a < 577) → W a k = false) (h : PC m P) : PC m' P := by
  obtain ⟨F, a1, a2, a3, a4, a5⟩ := h
  refine ⟨F, (hf.1 _ _ (hW _ _ (by omega))).trans a1, a2, (hf.1 _ _ (hW _ _ (by omega))).trans a3, a4, fun i v hi => ?_⟩
  have hm : (F + i) % 40 < 40 := Nat.mod_lt _ (by decide)
  have hs : 57 ≤ stA ((F + i) % 40) ∧ stA ((F + i) % 40) + 13 ≤ 577 := by unfold stA; omega
  have := a5 i v hi
  exact ⟨(cV_fr hf (fun a k h1 h2 => hW _ _ (by omega)) (fun k _ _ => hW _ _ (by omega))).trans this.1, cOK_fr hf (fun a k h1 h2 => hW _ _ (by omega)) (fun k _ _ => hW _ _ (by omega)) this.2⟩
theorem PR_fr {W : Nat → Nat → Bool} (hf : fr W m m') (hW : ∀ k, W 626 k = false) (hW2 : W 606 34 = false) (h : PR m P) : PR m' P := by
  obtain ⟨a1, a2, a3⟩ := h
  refine ⟨(hf.1 _ _ hW2).trans a1, a2, fun i v hi => ?_⟩
  have := a3 i v hi
  exact ⟨(rV_congr (fun k _ => hf.1 _ _ (hW _)) this.2).trans this.1, rOK_congr (hf.1 _ _ (hW _)) this.2⟩
theorem rV_fr {W : Nat → Nat → Bool} (hf : fr W m m') (hW : ∀ k, W 623 k = false) (h : rOK m 623 0) : rV m' 623 0 = rV m 623 0 := rV_congr (fun k _ => hf.1 _ _ (hW _)) h
theorem InvS_fr (hf : fr WQ m m') (h : InvS m W H P) : InvS m' W H P := by
  obtain ⟨a1, a2, a3, a4, a5, a6, a7, a8⟩ := h
  have v1 : cV m' 29 = cV m 29 := cV_fr hf (fun a k h1 h2 => WQ_f (by omega)) (fun k _ _ => WQ_f (by omega))
  have v2 : rV m' 623 0 = rV m 623 0 := rV_fr hf (fun k => WQ_f (by omega)) a3
  have vt : thc m' 34 = thc m 34 := congrArg Prod.fst v1
  refine ⟨by rw [v1, v2]; exact a1, cOK_fr hf (fun a k h1 h2 => WQ_f (by omega)) (fun k _ _ => WQ_f (by omega)) a2, rOK_congr (hf.1 _ _ (WQ_f (by omega))) a3, by rw [v1]; exact a4, PC_fr hf (fun a k h => WQ_f (by omega)) a5, PR_fr hf (fun k => WQ_f (by omega)) (WQ_f (by omega)) a6, a7, ?_⟩
  rw [hf.1 0 14 (WA_Q _ _ (WA_f (by omega))), vt]; exact a8
/-- behind a question -/
theorem InvA_q (hf : fr WQ m m') (h : InvA m W H P ls) : InvA m' W H P ls :=
  InvA_act (fr_mono WA_Q hf) (InvS_fr hf h.2.1) (fun k hk => by rw [hf.1 592 k (WQ_f (by omega)), hf.1 624 k (WQ_f (by omega))]; exact h.2.2.2.2.2.1.2 k hk) h
theorem Inv_q (hf : fr WQ m m') (h : Inv m) : Inv m' := by
  obtain ⟨W, H, P, ls, h⟩ := h
  exact ⟨W, H, P, ls, InvA_q hf h⟩
end FRI
/-! what it gives -/
section GIV
variable {m : mm_MM} {W H : Nat} {P : List Vw} {ls : Nat → List Cla}
theorem IA_T (h : InvA m W H P ls) : thr m 623 0 = thc m 34 := (congrArg Prod.fst h.2.1.1).symm
theorem IA_hold (h : InvA m W H P ls) : ∃ o, HoldC m o ∧ HoldR m o := by
  obtain ⟨q, a1, a2, a3, a4, a5, a6⟩ := h.2.2.2.2.1
  rcases a6 with a6 | ⟨h', hq, a6⟩
  · exact ⟨none, Or.inl ⟨rfl, a6⟩, Or.inl ⟨rfl, a5 ▸ a6⟩⟩
  · obtain ⟨b1, b2, b3⟩ := a4 h' hq
    exact ⟨some (ls h'), Or.inr ⟨h', ls h', rfl, by omega, a6, b1, b3⟩, Or.inr ⟨h', ls h', rfl, by omega, a5 ▸ a6, b2, b3⟩⟩
theorem IA_env (h : InvA m W H P ls) (hk : m.1 0 14 = 1) : ∃ o t, t ≤ 999 ∧ EnvC m W H o t ∧ EnvR m W H o t := by
  obtain ⟨o, hc, hr⟩ := IA_hold h
  have hT := IA_T h
  obtain ⟨f1, f2, ⟨e3, e4, e5, e6⟩, f4, f5, -⟩ := h.1
  obtain ⟨d1, d2, d3, ⟨Y, y1, y2, y3⟩, d5⟩ := f5 hk
  obtain ⟨s1, s2, s3, ⟨v1, v2, M, v3, v4⟩, -⟩ := h.2.1
  have hy : ¬ m.1 14 5 ≤ 0 := by
    rw [y3, show (0 : Int32) = Int32.ofNat 0 from rfl, nn_le (by omega) (by decide)]; omega
  have v3 : m.1 29 7 = Int32.ofNat M := v3
  have r49 : m.1 623 49 = Int32.ofNat M := by
    have := congrArg (fun V : Vw => V.2.2.1) s1
    exact (show m.1 623 (0 + 49) = m.1 29 7 from this.symm).trans v3
  exact ⟨o, M, v4, ⟨d1, d2, d3, hy, hc, v1, d5, v3, by omega⟩, ⟨d1, e3 ▸ d2, e4 ▸ d3, e5 ▸ hy, hr, by rw [hT]; exact v1, fun r hr => by rw [← f4 r hr]; exact d5 r hr, r49, by omega⟩⟩
theorem IA_known (h : InvA m W H P ls) {b : Nat} (hb : thc m 34 b 5 = 1) : m.1 0 14 = 1 := by
  rcases h.1.2.1 with h0 | h1
  · exact absurd hb ((h.2.1.2.2.2.2.2.2.2 h0).2 b)
  · exact h1
end GIV
