section SD
variable {XL : Nat} {xs : Nat → Int32} {D : va_G} {tI tJ tZ : ClassId} {tO : Nat → ClassId} {base : Nat} {xa : Nat → Nat}
variable {y d : Nat} {q : mm_R} {M : mm_M} {pc : Nat} {lv : mm_L} {st : List Value} {k : mm_M → Nat → mm_L → List Value → Option mm_R} {cal : Nat → List Value → (Option Value → mm_M → Option mm_R) → Option mm_R} {e : Nat × Nat × Nat × Int}

theorem sd_nblt {a b : Nat} (h : Nat.blt a b = false) : ¬ a < b := fun z => by
  have h2 : Nat.blt a b = true := Nat.ble_eq_true_of_le z
  rw [h2] at h
  cases h
theorem sd_kds : ∀ i, (mm_kd i).1 < 12 ∨ (mm_kd i).1 = 20 ∨ (mm_kd i).1 = 21 ∨ (mm_kd i).1 = 22 ∨ (mm_kd i).1 = 32 ∨ (mm_kd i).1 = 37 ∨ (mm_kd i).1 = 39 ∨ (mm_kd i).1 = 99 := by
  intro i
  by_cases h : i < 640
  · have hh : ∀ j, j < 640 → ((mm_kd j).1 < 12 ∨ (mm_kd j).1 = 20 ∨ (mm_kd j).1 = 21 ∨ (mm_kd j).1 = 22 ∨ (mm_kd j).1 = 32 ∨ (mm_kd j).1 = 37 ∨ (mm_kd j).1 = 39 ∨ (mm_kd j).1 = 99) := by decide +kernel
    exact hh i h
  · have hb : ∀ n, n ≤ 640 → Nat.blt i n = false := fun n hn => by
      cases hc : Nat.blt i n with
      | false => rfl
      | true => have := Nat.le_of_ble_eq_true hc; omega
    have e : mm_kd i = (99, 0) := by simp only [mm_kd, hb 29 (by omega), hb 55 (by omega), hb 57 (by omega), hb 577 (by omega), hb 640 (by omega), cond_false]
    rw [e]
    simp
theorem sd_stA {M' : mm_M} {a i : Nat} {w w' : va_E} {s : State} {H H1 : Heap} {locs : List Loc} (hR : sd_Rp D tI tJ tZ tO base xa M H) (hS : va_S (sd_A base) s.heap H locs) (g3 : a < M.2.2.2.1) (hcl : sd_cl tI tJ tZ tO base xa M a = w) (hcl' : sd_cl tI tJ tZ tO base xa M' a = w') (hn : M'.2.2.2 = M.2.2.2) (ho : ∀ j, j ≠ a → sd_cl tI tJ tZ tO base xa M' j = sd_cl tI tJ tZ tO base xa M j) (hat : va_at D vwCl (sd_ad base xa a, w') H1) (z : H1.size = H.size) (oq : ∀ x, x ≠ sd_ad base xa a → H1[x]? = H[x]?) : sd_Rp D tI tJ tZ tO base xa M' H1 ∧ va_S (sd_A base) s.heap H1 (locs ++ [⟨sd_ad base xa a, i⟩]) := by
  have he := sd_at (tI := tI) (tJ := tJ) (tZ := tZ) (tO := tO) (base := base) (xa := xa) g3
  exact ⟨sd_Rs hn ho ⟨hR.2.2.1.1, fun z' => z.trans (hR.2.2.1.2 z')⟩ hR.2.2.2 hcl' (hR.1.set hR.2.1 he hat oq) (hR.2.1.set he), hS.put z oq (hR.2.1.2 _ _ he)⟩
theorem sd_baload (hk : ∀ M pc lv st, k M pc lv st = some q → sd_P XL xs D tI tJ tZ tO base xa y d q M pc lv st)  (hd : decode (mm_by y) pc = .ok (.baload, 1))  (h : mm_ex XL xs y (.baload, e) M pc lv st k cal = some q) : sd_P XL xs D tI tJ tZ tO base xa y d q M pc lv st := by
  unfold mm_ex at h
  dsimp only at h
  split at h
  · rename_i i a st'
    obtain ⟨g1, h⟩ := sd_bif h
    obtain ⟨g3, h⟩ := sd_bif h
    obtain ⟨hin, h⟩ := sd_ifn h
    refine ⟨(hk _ _ _ _ h).1, fun p l e' R s m args below meth c Q c0 w0 hf K hc hw hr H locs ls hS hR h1 h2 hl => ?_⟩
    exact va_zald K.1 K.2.1 K.2.2.2.2.2.2.2.2.2.2.1.1 hR.1 a 2 ((sd_at (sd_blt g3)).trans (by rw [sd_clZ (sd_beq g1)])) rfl hin hd ((hk _ _ _ _ h).2 p l e' R s m args below meth c Q c0 w0 hf K hc hw hr H locs ls hS hR h1 h2 hl)
  · cases h

theorem sd_laload (hk : ∀ M pc lv st, k M pc lv st = some q → sd_P XL xs D tI tJ tZ tO base xa y d q M pc lv st)  (hd : decode (mm_by y) pc = .ok (.laload, 1))  (h : mm_ex XL xs y (.laload, e) M pc lv st k cal = some q) : sd_P XL xs D tI tJ tZ tO base xa y d q M pc lv st := by
  unfold mm_ex at h
  dsimp only at h
  split at h
  · rename_i i a st'
    obtain ⟨g1, h⟩ := sd_bif h
    obtain ⟨g3, h⟩ := sd_bif h
    obtain ⟨hin, h⟩ := sd_ifn h
    refine ⟨(hk _ _ _ _ h).1, fun p l e' R s m args below meth c Q c0 w0 hf K hc hw hr H locs ls hS hR h1 h2 hl => ?_⟩
    exact va_lald K.1 K.2.1 K.2.2.2.2.2.2.2.2.2.2.1.1 hR.1 a 1 ((sd_at (sd_blt g3)).trans (by rw [sd_clJ (sd_beq g1)])) rfl hin hd ((hk _ _ _ _ h).2 p l e' R s m args below meth c Q c0 w0 hf K hc hw hr H locs ls hS hR h1 h2 hl)
  · cases h

theorem sd_iaload (hk : ∀ M pc lv st, k M pc lv st = some q → sd_P XL xs D tI tJ tZ tO base xa y d q M pc lv st)  (hd : decode (mm_by y) pc = .ok (.iaload, 1))  (h : mm_ex XL xs y (.iaload, e) M pc lv st k cal = some q) : sd_P XL xs D tI tJ tZ tO base xa y d q M pc lv st := by
  unfold mm_ex at h
  dsimp only at h
  split at h
  · rename_i i a st'
    cases hb : Nat.blt a mm_xb with
    | true =>
      rw [hb] at h
      obtain ⟨g1, h⟩ := sd_bif (show (bif Nat.beq (mm_kd a).1 20 then _ else none) = some q from h)
      obtain ⟨g3, h⟩ := sd_bif h
      obtain ⟨hin, h⟩ := sd_ifn h
      refine ⟨(hk _ _ _ _ h).1, fun p l e' R s m args below meth c Q c0 w0 hf K hc hw hr H locs ls hS hR h1 h2 hl => ?_⟩
      exact va_iald K.1 K.2.1 K.2.2.2.2.2.2.2.2.2.2.1.1 hR.1 a 0 ((sd_at (sd_blt g3)).trans (by rw [sd_clI (sd_beq g1)])) rfl hin hd ((hk _ _ _ _ h).2 p l e' R s m args below meth c Q c0 w0 hf K hc hw hr H locs ls hS hR h1 h2 hl)
    | false =>
      rw [hb] at h
      obtain ⟨hin, h⟩ := sd_ifn (show (if _ then none else _) = some q from h)
      have hade : sd_ad base xa a = xa (a - mm_xb) := if_neg (sd_nblt hb)
      refine ⟨(hk _ _ _ _ h).1, fun p l e' R s m args below meth c Q c0 w0 hf K hc hw hr H locs ls hS hR h1 h2 hl => ?_⟩
      refine W.eq (g2 := F0 m pc ls (.int i :: .ref (xa (a - mm_xb)) :: st'.map (sd_tv (sd_ad base xa)))) (by rw [← hade]; rfl) ?_
      exact va_ti K.1 K.2.1 (K.2.2.2.2.2.2.2.2.2.2.2.1.1 (a - mm_xb)) hS hin rfl hd ((hk _ _ _ _ h).2 p l e' R s m args below meth c Q c0 w0 hf K hc hw hr H locs ls hS hR h1 h2 hl)
  · cases h

theorem sd_arraylength (hk : ∀ M pc lv st, k M pc lv st = some q → sd_P XL xs D tI tJ tZ tO base xa y d q M pc lv st)  (hd : decode (mm_by y) pc = .ok (.arraylength, 1))  (h : mm_ex XL xs y (.arraylength, e) M pc lv st k cal = some q) : sd_P XL xs D tI tJ tZ tO base xa y d q M pc lv st := by
  unfold mm_ex at h
  dsimp only at h
  split at h
  · rename_i a st'
    cases hb : Nat.blt a mm_xb with
    | true =>
      rw [hb] at h
      cases hb2 : Nat.blt (mm_kd a).1 20 with
      | true => simp [hb2] at h
      | false =>
        simp only [hb2, cond_true, cond_false] at h
        obtain ⟨g2, h⟩ := sd_bif h
        obtain ⟨g3, h⟩ := sd_bif h
        have g2 := sd_blt g2
        have h20 : ¬ (mm_kd a).1 < 20 := sd_nblt hb2
        refine ⟨(hk _ _ _ _ h).1, fun p l e' R s m args below meth c Q c0 w0 hf K hc hw hr H locs ls hS hR h1 h2 hl => ?_⟩
        have hK := K.2.2.2.2.2.2.2.2.2.2.1.1
        rcases sd_kds a with g | g | g | g | g | g | g | g
        · omega
        · exact va_alen (x := ((mm_kd a).2, _)) K.1 K.2.1 hK hR.1 a 0 ((sd_at (sd_blt g3)).trans (by rw [sd_clI g])) rfl rfl hd ((hk _ _ _ _ h).2 p l e' R s m args below meth c Q c0 w0 hf K hc hw hr H locs ls hS hR h1 h2 hl)
        · exact va_alen (x := ((mm_kd a).2, _)) K.1 K.2.1 hK hR.1 a 1 ((sd_at (sd_blt g3)).trans (by rw [sd_clJ g])) rfl rfl hd ((hk _ _ _ _ h).2 p l e' R s m args below meth c Q c0 w0 hf K hc hw hr H locs ls hS hR h1 h2 hl)
        · exact va_alen (x := ((mm_kd a).2, _)) K.1 K.2.1 hK hR.1 a 2 ((sd_at (sd_blt g3)).trans (by rw [sd_clZ g])) rfl rfl hd ((hk _ _ _ _ h).2 p l e' R s m args below meth c Q c0 w0 hf K hc hw hr H locs ls hS hR h1 h2 hl)
        · exact va_alen (x := ((mm_kd a).2, _)) K.1 K.2.1 hK hR.1 a 5 ((sd_at (sd_blt g3)).trans (by rw [sd_clO (ci := 2) g])) rfl rfl hd ((hk _ _ _ _ h).2 p l e' R s m args below meth c Q c0 w0 hf K hc hw hr H locs ls hS hR h1 h2 hl)
        · exact va_alen (x := ((mm_kd a).2, _)) K.1 K.2.1 hK hR.1 a 4 ((sd_at (sd_blt g3)).trans (by rw [sd_clO (ci := 7) g])) rfl rfl hd ((hk _ _ _ _ h).2 p l e' R s m args below meth c Q c0 w0 hf K hc hw hr H locs ls hS hR h1 h2 hl)
        · exact va_alen (x := ((mm_kd a).2, _)) K.1 K.2.1 hK hR.1 a 3 ((sd_at (sd_blt g3)).trans (by rw [sd_clO (ci := 9) g])) rfl rfl hd ((hk _ _ _ _ h).2 p l e' R s m args below meth c Q c0 w0 hf K hc hw hr H locs ls hS hR h1 h2 hl)
        · omega
    | false =>
      rw [hb] at h
      have h : k M (pc + 1) lv _ = some q := h
      have hade : sd_ad base xa a = xa (a - mm_xb) := if_neg (sd_nblt hb)
      refine ⟨(hk _ _ _ _ h).1, fun p l e' R s m args below meth c Q c0 w0 hf K hc hw hr H locs ls hS hR h1 h2 hl => ?_⟩
      refine W.eq (g2 := F0 m pc ls (.ref (xa (a - mm_xb)) :: st'.map (sd_tv (sd_ad base xa)))) (by rw [← hade]; rfl) ?_
      exact va_tlen K.1 K.2.1 (K.2.2.2.2.2.2.2.2.2.2.2.1.1 (a - mm_xb)) hS rfl hd ((hk _ _ _ _ h).2 p l e' R s m args below meth c Q c0 w0 hf K hc hw hr H locs ls hS hR h1 h2 hl)
  · cases h

theorem sd_aaload (hk : ∀ M pc lv st, k M pc lv st = some q → sd_P XL xs D tI tJ tZ tO base xa y d q M pc lv st)  (hd : decode (mm_by y) pc = .ok (.aaload, 1))  (h : mm_ex XL xs y (.aaload, e) M pc lv st k cal = some q) : sd_P XL xs D tI tJ tZ tO base xa y d q M pc lv st := by
  unfold mm_ex at h
  dsimp only at h
  split at h
  · rename_i i a st'
    cases hb2 : Nat.blt (mm_kd a).1 30 with
    | true => simp [hb2] at h
    | false =>
      simp only [hb2, cond_false] at h
      obtain ⟨g2, h⟩ := sd_bif h
      obtain ⟨g3, h⟩ := sd_bif h
      obtain ⟨hin, h⟩ := sd_ifn h
      have g2 := sd_blt g2
      have h30 : ¬ (mm_kd a).1 < 30 := sd_nblt hb2
      refine ⟨(hk _ _ _ _ h).1, fun p l e' R s m args below meth c Q c0 w0 hf K hc hw hr H locs ls hS hR h1 h2 hl => ?_⟩
      have hK := K.2.2.2.2.2.2.2.2.2.2.1.1
      have G := ((hk _ _ _ _ h).2 p l e' R s m args below meth c Q c0 w0 hf K hc hw hr H locs ls hS hR h1 h2 hl)
      rw [List.map_cons, sd_rf] at G
      rcases sd_kds a with g | g | g | g | g | g | g | g
      · omega
      · omega
      · omega
      · omega
      · exact va_aldq K.1 K.2.1 hK hR.1 a 5 ((sd_at (sd_blt g3)).trans (by rw [sd_clO (ci := 2) g])) rfl hin hd G
      · exact va_aldq K.1 K.2.1 hK hR.1 a 4 ((sd_at (sd_blt g3)).trans (by rw [sd_clO (ci := 7) g])) rfl hin hd G
      · exact va_aldq K.1 K.2.1 hK hR.1 a 3 ((sd_at (sd_blt g3)).trans (by rw [sd_clO (ci := 9) g])) rfl hin hd G
      · omega
  · cases h

theorem sd_iastore (hk : ∀ M pc lv st, k M pc lv st = some q → sd_P XL xs D tI tJ tZ tO base xa y d q M pc lv st)  (hd : decode (mm_by y) pc = .ok (.iastore, 1))  (h : mm_ex XL xs y (.iastore, e) M pc lv st k cal = some q) : sd_P XL xs D tI tJ tZ tO base xa y d q M pc lv st := by
  unfold mm_ex at h
  dsimp only at h
  split at h
  · rename_i x i a st'
    obtain ⟨g1, h⟩ := sd_bif h
    obtain ⟨g3, h⟩ := sd_bif h
    obtain ⟨hin, h⟩ := sd_ifn h
    have he := (sd_at (tI := tI) (tJ := tJ) (tZ := tZ) (tO := tO) (base := base) (xa := xa) (sd_blt g3)).trans (by rw [sd_clI (sd_beq g1)])
    refine ⟨(hk _ _ _ _ h).1, fun p l e' R s m args below meth c Q c0 w0 hf K hc hw hr H locs ls hS hR h1 h2 hl => ?_⟩
    have hK := K.2.2.2.2.2.2.2.2.2.2.1.1
    refine W.iast K.1 K.2.1 (hR.1 a _ he) ((hK.2 0 _ rfl).1 _ _) (fun z => by cases z) (by show ¬ (i < 0 ∨ (arrV _ _ _).slots.size ≤ _); rw [arrV_size]; exact hin) rfl rfl hd fun H1 e1 z oq => ?_
    have hat : va_at D vwCl (sd_ad base xa a, sd_cl tI tJ tZ tO base xa (mm_pi M a i.toNatClampNeg x) a) H1 := by
      rw [sd_clI (sd_beq g1)]
      show H1[_]? = some (vp_cell _ _)
      rw [e1, vp_cell_i, vp_cell_i, arrV_store]
      congr 2
      funext j
      by_cases hj : j = i.toNatClampNeg
      · subst hj
        simp [updV, mm_pi, mm_up]
      · simp [updV, mm_pi, mm_up, hj]
    obtain ⟨hR1, hS1⟩ := sd_stA (i := i.toNatClampNeg) hR hS (sd_blt g3) rfl rfl (show (mm_pi M a i.toNatClampNeg x).2.2.2 = _ from rfl) (sd_cli M a _ x) hat z oq
    exact (hk _ _ _ _ h).2 p l e' R s m args below meth c Q c0 w0 hf K hc hw hr H1 _ ls hS1 hR1 h1 h2 hl
  · cases h

theorem sd_lastore (hk : ∀ M pc lv st, k M pc lv st = some q → sd_P XL xs D tI tJ tZ tO base xa y d q M pc lv st)  (hd : decode (mm_by y) pc = .ok (.lastore, 1))  (h : mm_ex XL xs y (.lastore, e) M pc lv st k cal = some q) : sd_P XL xs D tI tJ tZ tO base xa y d q M pc lv st := by
  unfold mm_ex at h
  dsimp only at h
  split at h
  · rename_i x i a st'
    obtain ⟨g1, h⟩ := sd_bif h
    obtain ⟨g3, h⟩ := sd_bif h
    obtain ⟨hin, h⟩ := sd_ifn h
    have he := (sd_at (tI := tI) (tJ := tJ) (tZ := tZ) (tO := tO) (base := base) (xa := xa) (sd_blt g3)).trans (by rw [sd_clJ (sd_beq g1)])
    refine ⟨(hk _ _ _ _ h).1, fun p l e' R s m args below meth c Q c0 w0 hf K hc hw hr H locs ls hS hR h1 h2 hl => ?_⟩
    have hK := K.2.2.2.2.2.2.2.2.2.2.1.1
    refine W.last K.1 K.2.1 (hR.1 a _ he) ((hK.2 1 _ rfl).1 _ _) (fun z => by cases z) (by show ¬ (i < 0 ∨ (arrV _ _ _).slots.size ≤ _); rw [arrV_size]; exact hin) rfl rfl hd fun H1 e1 z oq => ?_
    have hat : va_at D vwCl (sd_ad base xa a, sd_cl tI tJ tZ tO base xa (mm_pl M a i.toNatClampNeg x) a) H1 := by
      rw [sd_clJ (sd_beq g1)]
      show H1[_]? = some (vp_cell _ _)
      rw [e1, vp_cell_l, vp_cell_l, arrV_store]
      congr 2
      funext j
      by_cases hj : j = i.toNatClampNeg
      · subst hj
        simp [updV, mm_pl, mm_up]
      · simp [updV, mm_pl, mm_up, hj]
    obtain ⟨hR1, hS1⟩ := sd_stA (i := i.toNatClampNeg) hR hS (sd_blt g3) rfl rfl (show (mm_pl M a i.toNatClampNeg x).2.2.2 = _ from rfl) (sd_cll M a _ x) hat z oq
    exact (hk _ _ _ _ h).2 p l e' R s m args below meth c Q c0 w0 hf K hc hw hr H1 _ ls hS1 hR1 h1 h2 hl
  · cases h

theorem sd_bastore (hk : ∀ M pc lv st, k M pc lv st = some q → sd_P XL xs D tI tJ tZ tO base xa y d q M pc lv st)  (hd : decode (mm_by y) pc = .ok (.bastore, 1))  (h : mm_ex XL xs y (.bastore, e) M pc lv st k cal = some q) : sd_P XL xs D tI tJ tZ tO base xa y d q M pc lv st := by
  unfold mm_ex at h
  dsimp only at h
  split at h
  · rename_i x i a st'
    obtain ⟨g1, h⟩ := sd_bif h
    obtain ⟨g3, h⟩ := sd_bif h
    obtain ⟨hin, h⟩ := sd_ifn h
    obtain ⟨hx, h⟩ := sd_ift h
    have he := (sd_at (tI := tI) (tJ := tJ) (tZ := tZ) (tO := tO) (base := base) (xa := xa) (sd_blt g3)).trans (by rw [sd_clZ (sd_beq g1)])
    refine ⟨(hk _ _ _ _ h).1, fun p l e' R s m args below meth c Q c0 w0 hf K hc hw hr H locs ls hS hR h1 h2 hl => ?_⟩
    have hK := K.2.2.2.2.2.2.2.2.2.2.1.1
    refine W.zast K.1 K.2.1 (hR.1 a _ he) ((hK.2 2 _ rfl).1 _ _) (fun z => by cases z) (by show ¬ (i < 0 ∨ (arrV _ _ _).slots.size ≤ _); rw [arrV_size]; exact hin) rfl rfl hd fun H1 e1 z oq => ?_
    have hat : va_at D vwCl (sd_ad base xa a, sd_cl tI tJ tZ tO base xa (mm_pi M a i.toNatClampNeg x) a) H1 := by
      rw [sd_clZ (sd_beq g1)]
      show H1[_]? = some (vp_cell _ _)
      rw [e1, vp_cell_i, vp_cell_i, arrV_store]
      congr 2
      funext j
      by_cases hj : j = i.toNatClampNeg
      · subst hj
        simp [updV, mm_pi, mm_up]
        rcases hx with rfl | rfl <;> rfl
      · simp [updV, mm_pi, mm_up, hj]
    obtain ⟨hR1, hS1⟩ := sd_stA (i := i.toNatClampNeg) hR hS (sd_blt g3) rfl rfl (show (mm_pi M a i.toNatClampNeg x).2.2.2 = _ from rfl) (sd_cli M a _ x) hat z oq
    exact (hk _ _ _ _ h).2 p l e' R s m args below meth c Q c0 w0 hf K hc hw hr H1 _ ls hS1 hR1 h1 h2 hl
  · cases h

end SD
