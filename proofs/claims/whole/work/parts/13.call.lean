section SD
variable {XL : Nat} {xs : Nat → Int32} {D : va_G} {tI tJ tZ : ClassId} {tO : Nat → ClassId} {base : Nat} {xa : Nat → Nat}
variable {y d : Nat} {q : mm_R} {M : mm_M} {pc : Nat} {lv : mm_L} {st : List Value} {k : mm_M → Nat → mm_L → List Value → Option mm_R} {cal : Nat → List Value → (Option Value → mm_M → Option mm_R) → Option mm_R} {e : Nat × Nat × Nat × Int}

/-- the call's links -/
def sd_Mk (oc i y' : Nat) : Prop := Cond.methodLink (mm_Rn oc) i (mm_nm y') ∈ sd_gW ∨ Cond.methodLinkNest (mm_Rn oc) i (mm_nm y') "BuriedGoods" ∈ sd_nW
variable (XL xs D tI tJ tZ tO base xa) in
/-- what a call of a method gives: it fits, and it is right -/
def sd_Cr (y' d' : Nat) (r : mm_R) (M : mm_M) (as : List Value) : Prop := (as.map fun v => v.category).sum ≤ mm_nl y' ∧ sd_P XL xs D tI tJ tZ tO base xa y' d' r M 0 (lv_args 0 as) []
variable (XL xs D tI tJ tZ tO base xa) in
/-- the same of the law's 'thing' -/
def sd_Th (d : Nat) (r : mm_R) (M : mm_M) (as : List Value) : Prop :=
  (M.2.2.2.2.1 ≤ r.2.2.2.2.2.1 ∧ M.2.2.2.2.2 ≤ r.2.2.2.2.2.2) ∧
  ∀ (p : Program) (l : Launch) (e : Env) (R : Room) (s : State) (m : MethodId) (args : Array Value) (below : List Frame) (meth : Method) (c : Code) (Q : State → Prop) (c0 w0 pc i : Nat), l.flags = flags0 → sd_K XL xs D tI tJ tZ tO base xa p R s m args meth c 311 (d + 1) → decode (mm_by 311) pc = .ok (.invokestatic i, 3) → i = 46 → r.2.2.2.2.2.1 - c0 ≤ R.cells → r.2.2.2.2.2.2 - w0 ≤ R.slots →
    ∀ (H : Heap) (locs : List Loc) (ls : Array Slot) (rest : List Value), va_S (sd_A base) s.heap H locs → sd_Rp D tI tJ tZ tO base xa M H → c0 ≤ M.2.2.2.2.1 → w0 ≤ M.2.2.2.2.2 → ls.size = mm_nl 311 → (rest.map fun v => v.category).sum ≤ 8 →
    (∀ (H1 : Heap) (locs1 : List Loc), sd_Rp D tI tJ tZ tO base xa r.2 H1 → va_S (sd_A base) s.heap H1 locs1 → W p l e R s m args below meth c H1 locs1 (r.2.2.2.2.2.1 - c0) (r.2.2.2.2.2.2 - w0) Q (F0 m (pc + 3) ls ((r.1.map (sd_tv (sd_ad base xa))).toList ++ rest))) →
    W p l e R s m args below meth c H locs (M.2.2.2.2.1 - c0) (M.2.2.2.2.2 - w0) Q (F0 m pc ls ((as.map (sd_tv (sd_ad base xa))).reverse ++ rest))
theorem sd_tl (ad : Nat → Nat) (r : Option Value) (rest : List Value) : (r.map (sd_tv ad)).toList ++ rest.map (sd_tv ad) = (r.toList ++ rest).map (sd_tv ad) := by
  cases r <;> simp
theorem sd_stk (ad : Nat → Nat) {st rest : List Value} {n a : Nat} (h : st.drop n = .ref a :: rest) : st.map (sd_tv ad) = ((st.take n).reverse.map (sd_tv ad)).reverse ++ .ref (ad a) :: rest.map (sd_tv ad) ∧ ((st.take n).reverse.map (sd_tv ad)).length = n := by
  have h1 : st = st.take n ++ .ref a :: rest := by rw [← h, List.take_append_drop]
  have hn : n < st.length := by
    rcases Nat.lt_or_ge n st.length with h2 | h2
    · exact h2
    · rw [List.drop_eq_nil_of_le h2] at h
      cases h
  constructor
  · rw [List.map_reverse, List.reverse_reverse]
    conv => lhs; rw [h1]
    rw [List.map_append]
    rfl
  · simp
    omega
theorem sd_invokevirtual (hk : ∀ M pc lv st, k M pc lv st = some q → sd_P XL xs D tI tJ tZ tO base xa y d q M pc lv st) {i : Nat} (hd : decode (mm_by y) pc = .ok (.invokevirtual i, 3)) (hcal : ∀ y' as k', cal y' as k' = some q → ∃ d' r, d = d' + 1 ∧ ((y' ≠ 310 ∧ sd_Cr XL xs D tI tJ tZ tO base xa y' d' r M as) ∨ (y' = 310 ∧ sd_Th XL xs D tI tJ tZ tO base xa d' r M as)) ∧ k' r.1 r.2 = some q) (hw0 : e.2.1 ≠ 310 ∧ e.2.2.1 = mm_na e.2.1 ∧ sd_Mk (mm_oc y) i e.2.1 ∧ sd_Yok e.2.1 ∧ Cond.instanceMethod (mm_nm e.2.1) ∈ sd_gW ∧ Cond.selects (mm_nm e.2.1).cls (mm_nm e.2.1) (mm_nm e.2.1) ∈ sd_gW ∧ mm_oc e.2.1 < 12) (h : mm_ex XL xs y (.invokevirtual i, e) M pc lv st k cal = some q) : sd_P XL xs D tI tJ tZ tO base xa y d q M pc lv st := by
  unfold mm_ex at h
  dsimp only at h
  split at h
  · rename_i a rest hdrop
    obtain ⟨g1, h⟩ := sd_bif h
    obtain ⟨g3, h⟩ := sd_bif h
    obtain ⟨g4, h⟩ := sd_bif h
    obtain ⟨d', r, rfl, hcr, h⟩ := hcal _ _ _ h
    obtain ⟨w1, w2, w3, w4, w5, w6, w7⟩ := hw0
    have hcr := hcr.resolve_right (fun z => w1 z.1) |>.2
    have hm1 := hcr.2.1
    have hm2 := (hk _ _ _ _ h).1
    refine ⟨⟨Nat.le_trans hm1.1 hm2.1, Nat.le_trans hm1.2 hm2.2⟩, fun p l e' R s m args below meth c Q c0 w0 hf K hc hw hr H locs ls hS hR h1 h2 hl => ?_⟩
    have hM := sd_met (l := l) hf hcr.2 w4 hcr.1
    have hKd := K.2.2.2.2.2.2.2.2.1
    have hKl := K.2.2.2.2.2.2.2.2.2.1
    have hG := sd_good w4
    have hini := K.2.2.2.2.1 _ w4.2.2.1
    have hnl := w4.2.2.2.2.1
    obtain ⟨hs1, hs2⟩ := sd_stk (sd_ad base xa) hdrop
    have he := (sd_at (tI := tI) (tJ := tJ) (tZ := tZ) (tO := tO) (base := base) (xa := xa) (sd_blt g3)).trans (by rw [sd_clo (sd_beq g1) w7])
    obtain ⟨c1, -⟩ := sd_cls _ w7
    obtain ⟨rr, r1, cell, q1, q2, q3, -⟩ := hR.1 _ _ he
    have hrr : rr = (mm_Rn (mm_oc e.2.1), mm_T (mm_oc e.2.1), mm_N (mm_oc e.2.1)) := Option.some.inj (r1.symm.trans c1)
    subst hrr
    have hrecv : ∃ cellB : Cell, H[sd_ad base xa a]? = some cellB ∧ cellB.vm.isStatics = false ∧ s.vm.findClass (mm_nm e.2.1).cls = some cellB.cls := ⟨cell, q1, by rw [q3]; rfl, by rw [q2, w4.2.2.2.2.2.1]; exact (K.2.2.2.2.2.2.2.2.2.2.1.1.1 _ _ c1).2.1⟩
    refine W.eq (g2 := F0 m pc ls (((st.take e.2.2.1).reverse.map (sd_tv (sd_ad base xa))).reverse ++ .ref (sd_ad base xa a) :: rest.map (sd_tv (sd_ad base xa)))) (by rw [← hs1]) ?_
    rcases w3 with hlk | hlk
    · exact sd_run (va_runV ⟨K.1, K.2.1, K.2.2.1, K.2.2.2.1, K.2.2.2.2.1⟩ hM ⟨callB_of (mm_na e.2.1) K.2.2.2.2.1 hG rfl rfl rfl hini (K.2.2.2.2.1 _ hlk) w4.2.2.2.1 ⟨by omega, by show 8 + (mm_nl e.2.1 + 11) + 64 * (d' + 1) ≤ R.locals; omega⟩, K.2.2.2.2.1 _ w5, K.2.2.2.2.1 _ w6⟩ ⟨sd_blind, hrecv, sd_pre K.2.2.2.2.2.2.2.2.2.2.1 K.2.2.2.2.2.2.2.2.2.2.2.1 K.2.2.2.2.2.2.2.2.2.2.2.2 hS hR⟩ rfl (hs2.trans w2) hl.1 rfl (lv_room (by rw [sd_sum]; exact sd_ble g4)) hd ⟨by have := hm1.1; have := hm2.1; omega, by have := hm1.2; have := hm2.2; omega⟩) hS (fun H1 locs1 hR1 hS1 => by
      have G := (hk _ _ _ _ h).2 p l e' R s m args below meth c Q c0 w0 hf K hc hw hr H1 locs1 ls hS1 hR1 (Nat.le_trans h1 hm1.1) (Nat.le_trans h2 hm1.2) hl
      rw [sd_tl]
      have x1 : M.2.2.2.2.1 - c0 + (r.2.2.2.2.2.1 - M.2.2.2.2.1) = r.2.2.2.2.2.1 - c0 := by have := hm1.1; omega
      have x2 : M.2.2.2.2.2 - w0 + (r.2.2.2.2.2.2 - M.2.2.2.2.2) = r.2.2.2.2.2.2 - w0 := by have := hm1.2; omega
      rw [x1, x2]
      exact G)
    · exact sd_run (va_runVN ⟨K.1, K.2.1, K.2.2.1, K.2.2.2.1, K.2.2.2.2.1⟩ hM ⟨va_cnB (mm_na e.2.1) K.2.2.2.2.1 hG rfl rfl rfl (K.2.2.2.2.2.2.2.2.2.2.1.2.1 _ hlk) hini w4.2.2.2.1 ⟨by omega, by show 8 + (mm_nl e.2.1 + 11) + 64 * (d' + 1) ≤ R.locals; omega⟩, K.2.2.2.2.1 _ w5, K.2.2.2.2.1 _ w6⟩ ⟨sd_blind, hrecv, sd_pre K.2.2.2.2.2.2.2.2.2.2.1 K.2.2.2.2.2.2.2.2.2.2.2.1 K.2.2.2.2.2.2.2.2.2.2.2.2 hS hR⟩ rfl (hs2.trans w2) hl.1 rfl (lv_room (by rw [sd_sum]; exact sd_ble g4)) hd ⟨by have := hm1.1; have := hm2.1; omega, by have := hm1.2; have := hm2.2; omega⟩) hS (fun H1 locs1 hR1 hS1 => by
      have G := (hk _ _ _ _ h).2 p l e' R s m args below meth c Q c0 w0 hf K hc hw hr H1 locs1 ls hS1 hR1 (Nat.le_trans h1 hm1.1) (Nat.le_trans h2 hm1.2) hl
      rw [sd_tl]
      have x1 : M.2.2.2.2.1 - c0 + (r.2.2.2.2.2.1 - M.2.2.2.2.1) = r.2.2.2.2.2.1 - c0 := by have := hm1.1; omega
      have x2 : M.2.2.2.2.2 - w0 + (r.2.2.2.2.2.2 - M.2.2.2.2.2) = r.2.2.2.2.2.2 - w0 := by have := hm1.2; omega
      rw [x1, x2]
      exact G)
  · cases h

theorem sd_invokestatic (hk : ∀ M pc lv st, k M pc lv st = some q → sd_P XL xs D tI tJ tZ tO base xa y d q M pc lv st) {i : Nat} (hd : decode (mm_by y) pc = .ok (.invokestatic i, 3)) (hcal : ∀ y' as k', cal y' as k' = some q → ∃ d' r, d = d' + 1 ∧ ((y' ≠ 310 ∧ sd_Cr XL xs D tI tJ tZ tO base xa y' d' r M as) ∨ (y' = 310 ∧ sd_Th XL xs D tI tJ tZ tO base xa d' r M as)) ∧ k' r.1 r.2 = some q) (hw0 : (e.2.2.1 = mm_na e.2.1 ∧ sd_Mk (mm_oc y) i e.2.1 ∧ sd_Yok e.2.1 ∧ Cond.static (mm_nm e.2.1) ∈ sd_gW ∧ e.2.1 ≠ 310) ∨ (e.2.1 = 310 ∧ i = 46 ∧ y = 311)) (h : mm_ex XL xs y (.invokestatic i, e) M pc lv st k cal = some q) : sd_P XL xs D tI tJ tZ tO base xa y d q M pc lv st := by
  unfold mm_ex at h
  dsimp only at h
  obtain ⟨g1, h⟩ := sd_bif h
  obtain ⟨g4, h⟩ := sd_bif h
  have g1 := sd_ble g1
  obtain ⟨d', r, rfl, hcr, h⟩ := hcal _ _ _ h
  have hs2 : ((st.take e.2.2.1).reverse.map (sd_tv (sd_ad base xa))).length = e.2.2.1 := by simp; omega
  have hs1 : st.map (sd_tv (sd_ad base xa)) = ((st.take e.2.2.1).reverse.map (sd_tv (sd_ad base xa))).reverse ++ (st.drop e.2.2.1).map (sd_tv (sd_ad base xa)) := by
    rw [List.map_reverse, List.reverse_reverse, ← List.map_append, List.take_append_drop]
  rcases hcr with ⟨hne, hcr⟩ | ⟨h310, hth⟩
  · obtain ⟨w2, w3, w4, w5, -⟩ := hw0.resolve_right (fun z => hne z.1)
    have hm1 := hcr.2.1
    have hm2 := (hk _ _ _ _ h).1
    refine ⟨⟨Nat.le_trans hm1.1 hm2.1, Nat.le_trans hm1.2 hm2.2⟩, fun p l e' R s m args below meth c Q c0 w0 hf K hc hw hr H locs ls hS hR h1 h2 hl => ?_⟩
    have hM := sd_met (l := l) hf hcr.2 w4 hcr.1
    have hKd := K.2.2.2.2.2.2.2.2.1
    have hKl := K.2.2.2.2.2.2.2.2.2.1
    have hG := sd_good w4
    have hini := K.2.2.2.2.1 _ w4.2.2.1
    have hnl := w4.2.2.2.2.1
    refine W.eq (g2 := F0 m pc ls (((st.take e.2.2.1).reverse.map (sd_tv (sd_ad base xa))).reverse ++ (st.drop e.2.2.1).map (sd_tv (sd_ad base xa)))) (by rw [← hs1]) ?_
    rcases w3 with hlk | hlk
    · exact sd_run (va_runS ⟨K.1, K.2.1, K.2.2.1, K.2.2.2.1, K.2.2.2.2.1⟩ hM ⟨callB_of (mm_na e.2.1) K.2.2.2.2.1 hG rfl rfl rfl hini (K.2.2.2.2.1 _ hlk) w4.2.2.2.1 ⟨by omega, by show 8 + (mm_nl e.2.1 + 11) + 64 * (d' + 1) ≤ R.locals; omega⟩, K.2.2.2.2.1 _ w5⟩ ⟨sd_blind, sd_pre K.2.2.2.2.2.2.2.2.2.2.1 K.2.2.2.2.2.2.2.2.2.2.2.1 K.2.2.2.2.2.2.2.2.2.2.2.2 hS hR⟩ rfl (hs2.trans w2) hl.1 rfl (lv_room (by rw [sd_sum]; exact sd_ble g4)) hd ⟨by have := hm1.1; have := hm2.1; omega, by have := hm1.2; have := hm2.2; omega⟩) hS (fun H1 locs1 hR1 hS1 => by
      have G := (hk _ _ _ _ h).2 p l e' R s m args below meth c Q c0 w0 hf K hc hw hr H1 locs1 ls hS1 hR1 (Nat.le_trans h1 hm1.1) (Nat.le_trans h2 hm1.2) hl
      rw [sd_tl]
      have x1 : M.2.2.2.2.1 - c0 + (r.2.2.2.2.2.1 - M.2.2.2.2.1) = r.2.2.2.2.2.1 - c0 := by have := hm1.1; omega
      have x2 : M.2.2.2.2.2 - w0 + (r.2.2.2.2.2.2 - M.2.2.2.2.2) = r.2.2.2.2.2.2 - w0 := by have := hm1.2; omega
      rw [x1, x2]
      exact G)
    · exact sd_run (va_runSN ⟨K.1, K.2.1, K.2.2.1, K.2.2.2.1, K.2.2.2.2.1⟩ hM ⟨va_cnB (mm_na e.2.1) K.2.2.2.2.1 hG rfl rfl rfl (K.2.2.2.2.2.2.2.2.2.2.1.2.1 _ hlk) hini w4.2.2.2.1 ⟨by omega, by show 8 + (mm_nl e.2.1 + 11) + 64 * (d' + 1) ≤ R.locals; omega⟩, K.2.2.2.2.1 _ w5, trivial⟩ ⟨sd_blind, sd_pre K.2.2.2.2.2.2.2.2.2.2.1 K.2.2.2.2.2.2.2.2.2.2.2.1 K.2.2.2.2.2.2.2.2.2.2.2.2 hS hR⟩ rfl (hs2.trans w2) hl.1 rfl (lv_room (by rw [sd_sum]; exact sd_ble g4)) hd ⟨by have := hm1.1; have := hm2.1; omega, by have := hm1.2; have := hm2.2; omega⟩) hS (fun H1 locs1 hR1 hS1 => by
      have G := (hk _ _ _ _ h).2 p l e' R s m args below meth c Q c0 w0 hf K hc hw hr H1 locs1 ls hS1 hR1 (Nat.le_trans h1 hm1.1) (Nat.le_trans h2 hm1.2) hl
      rw [sd_tl]
      have x1 : M.2.2.2.2.1 - c0 + (r.2.2.2.2.2.1 - M.2.2.2.2.1) = r.2.2.2.2.2.1 - c0 := by have := hm1.1; omega
      have x2 : M.2.2.2.2.2 - w0 + (r.2.2.2.2.2.2 - M.2.2.2.2.2) = r.2.2.2.2.2.2 - w0 := by have := hm1.2; omega
      rw [x1, x2]
      exact G)
  · rcases hw0 with hw0 | ⟨-, hi, hy⟩
    · exact absurd h310 hw0.2.2.2.2
    · subst hy
      have hm1 := hth.1
      have hm2 := (hk _ _ _ _ h).1
      refine ⟨⟨Nat.le_trans hm1.1 hm2.1, Nat.le_trans hm1.2 hm2.2⟩, fun p l e' R s m args below meth c Q c0 w0 hf K hc hw hr H locs ls hS hR h1 h2 hl => ?_⟩
      refine W.eq (g2 := F0 m pc ls (((st.take e.2.2.1).reverse.map (sd_tv (sd_ad base xa))).reverse ++ (st.drop e.2.2.1).map (sd_tv (sd_ad base xa)))) (by rw [← hs1]) ?_
      refine hth.2 p l e' R s m args below meth c Q c0 w0 pc i hf K hd hi (by have := hm2.1; omega) (by have := hm2.2; omega) H locs ls _ hS hR h1 h2 hl.1 (by rw [sd_sum]; exact sd_ble g4) fun H1 locs1 hR1 hS1 => ?_
      rw [sd_tl]
      exact (hk _ _ _ _ h).2 p l e' R s m args below meth c Q c0 w0 hf K hc hw hr H1 locs1 ls hS1 hR1 (Nat.le_trans h1 hm1.1) (Nat.le_trans h2 hm1.2) hl

end SD
