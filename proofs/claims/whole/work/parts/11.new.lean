section SD
variable {XL : Nat} {xs : Nat → Int32} {D : va_G} {tI tJ tZ : ClassId} {tO : Nat → ClassId} {base : Nat} {xa : Nat → Nat}
variable {y d : Nat} {q : mm_R} {M : mm_M} {pc : Nat} {lv : mm_L} {st : List Value} {k : mm_M → Nat → mm_L → List Value → Option mm_R} {cal : Nat → List Value → (Option Value → mm_M → Option mm_R) → Option mm_R} {e : Nat × Nat × Nat × Int}

theorem sd_kdz : ∀ i, (mm_kd i).1 < 99 → (mm_kd i).2 ≤ 10000 := by
  intro i h
  have hh : ∀ j, j < 640 → (mm_kd j).2 ≤ 10000 := by decide +kernel
  exact hh i (sd_k640 h)
theorem sd_newarray_int (hk : ∀ M pc lv st, k M pc lv st = some q → sd_P XL xs D tI tJ tZ tO base xa y d q M pc lv st)  (hd : decode (mm_by y) pc = .ok (.newarray .int, 2)) (hw0 : Cond.arrayClass (newarray.typeOf .int) ∈ sd_gW) (h : mm_ex XL xs y (.newarray .int, e) M pc lv st k cal = some q) : sd_P XL xs D tI tJ tZ tO base xa y d q M pc lv st := by
  unfold mm_ex at h
  dsimp only at h
  split at h
  · rename_i n st'
    obtain ⟨g1, h⟩ := sd_bif h
    obtain ⟨g2, h⟩ := sd_bif h
    obtain ⟨g3, h⟩ := sd_bif h
    obtain ⟨g4, h⟩ := sd_ifn h
    have g1 := sd_beq g1
    have g2 : (mm_kd M.2.2.2.1).1 = 20 := sd_beq g2
    have g3 := sd_beq g3
    have hm := (hk _ _ _ _ h).1
    dsimp only at hm
    refine ⟨⟨by omega, by omega⟩, fun p l e' R s m args below meth c Q c0 w0 hf K hc hw hr H locs ls hS hR h1 h2 hl => ?_⟩
    have hn640 : M.2.2.2.1 < 640 := sd_k640 (by rw [g2]; omega)
    have hz := sd_kdz M.2.2.2.1 (by rw [g2]; omega)
    have hbytes : n.toNatClampNeg * componentBytes (newarray.typeOf .int) ≤ 536870912 := by
      have : componentBytes (newarray.typeOf .int) ≤ 8 := by decide
      exact Nat.le_trans (Nat.mul_le_mul (by rw [← g3]; exact hz) this) (Nat.le_of_ble_eq_true rfl)
    refine va_newaK K.1 K.2.1 (atype := .int) (K.2.2.2.2.1 _ hw0) rfl hd rfl g4 rfl hbytes (by omega) (by omega) rfl fun H1 cA e1 z1 o1 hAr hNm => ?_
    have hcA : tI = cA := Option.some.inj ((K.2.2.2.2.2.2.2.2.2.2.1.1.2 0 _ rfl).2.symm.trans hNm)
    subst hcA
    have hat : va_at D vwCl (H.size, sd_cl tI tJ tZ tO base xa (mm_ur M.1 M.2.2.2.1 0, mm_ur M.2.1 M.2.2.2.1 0, mm_ur M.2.2.1 M.2.2.2.1 none, M.2.2.2.1 + 1, M.2.2.2.2.1 + 1, M.2.2.2.2.2 + n.toNatClampNeg) M.2.2.2.1) H1 := by
      rw [sd_clI g2]
      show H1[H.size]? = some (vp_cell tI ((mm_kd M.2.2.2.1).2, .inl (mm_ur M.1 M.2.2.2.1 0 M.2.2.2.1)))
      rw [sd_ure, g3, vp_cell_i, e1]
      rfl
    obtain ⟨hR1, hS1, had⟩ := sd_push hR hS K.2.2.2.2.2.2.2.2.2.2.2.2 g1 hn640 rfl rfl (sd_clN M _) rfl hat z1 o1
    have G := (hk _ _ _ _ h).2 p l e' R s m args below meth c Q c0 w0 hf K hc hw hr H1 locs ls hS1 hR1 (by show c0 ≤ M.2.2.2.2.1 + 1; omega) (by show w0 ≤ M.2.2.2.2.2 + _; omega) hl
    have x1 : M.2.2.2.2.1 - c0 + 1 = M.2.2.2.2.1 + 1 - c0 := by omega
    have x2 : M.2.2.2.2.2 - w0 + n.toNatClampNeg = M.2.2.2.2.2 + n.toNatClampNeg - w0 := by omega
    rw [x1, x2, ← had]
    exact G
  · cases h

theorem sd_newarray_long (hk : ∀ M pc lv st, k M pc lv st = some q → sd_P XL xs D tI tJ tZ tO base xa y d q M pc lv st)  (hd : decode (mm_by y) pc = .ok (.newarray .long, 2)) (hw0 : Cond.arrayClass (newarray.typeOf .long) ∈ sd_gW) (h : mm_ex XL xs y (.newarray .long, e) M pc lv st k cal = some q) : sd_P XL xs D tI tJ tZ tO base xa y d q M pc lv st := by
  unfold mm_ex at h
  dsimp only at h
  split at h
  · rename_i n st'
    obtain ⟨g1, h⟩ := sd_bif h
    obtain ⟨g2, h⟩ := sd_bif h
    obtain ⟨g3, h⟩ := sd_bif h
    obtain ⟨g4, h⟩ := sd_ifn h
    have g1 := sd_beq g1
    have g2 : (mm_kd M.2.2.2.1).1 = 21 := sd_beq g2
    have g3 := sd_beq g3
    have hm := (hk _ _ _ _ h).1
    dsimp only at hm
    refine ⟨⟨by omega, by omega⟩, fun p l e' R s m args below meth c Q c0 w0 hf K hc hw hr H locs ls hS hR h1 h2 hl => ?_⟩
    have hn640 : M.2.2.2.1 < 640 := sd_k640 (by rw [g2]; omega)
    have hz := sd_kdz M.2.2.2.1 (by rw [g2]; omega)
    have hbytes : n.toNatClampNeg * componentBytes (newarray.typeOf .long) ≤ 536870912 := by
      have : componentBytes (newarray.typeOf .long) ≤ 8 := by decide
      exact Nat.le_trans (Nat.mul_le_mul (by rw [← g3]; exact hz) this) (Nat.le_of_ble_eq_true rfl)
    refine va_newaK K.1 K.2.1 (atype := .long) (K.2.2.2.2.1 _ hw0) rfl hd rfl g4 rfl hbytes (by omega) (by omega) rfl fun H1 cA e1 z1 o1 hAr hNm => ?_
    have hcA : tJ = cA := Option.some.inj ((K.2.2.2.2.2.2.2.2.2.2.1.1.2 1 _ rfl).2.symm.trans hNm)
    subst hcA
    have hat : va_at D vwCl (H.size, sd_cl tI tJ tZ tO base xa (mm_ur M.1 M.2.2.2.1 0, mm_ur M.2.1 M.2.2.2.1 0, mm_ur M.2.2.1 M.2.2.2.1 none, M.2.2.2.1 + 1, M.2.2.2.2.1 + 1, M.2.2.2.2.2 + n.toNatClampNeg) M.2.2.2.1) H1 := by
      rw [sd_clJ g2]
      show H1[H.size]? = some (vp_cell tJ ((mm_kd M.2.2.2.1).2, .inr (.inl (mm_ur M.2.1 M.2.2.2.1 0 M.2.2.2.1))))
      rw [sd_ure, g3, vp_cell_l, e1]
      rfl
    obtain ⟨hR1, hS1, had⟩ := sd_push hR hS K.2.2.2.2.2.2.2.2.2.2.2.2 g1 hn640 rfl rfl (sd_clN M _) rfl hat z1 o1
    have G := (hk _ _ _ _ h).2 p l e' R s m args below meth c Q c0 w0 hf K hc hw hr H1 locs ls hS1 hR1 (by show c0 ≤ M.2.2.2.2.1 + 1; omega) (by show w0 ≤ M.2.2.2.2.2 + _; omega) hl
    have x1 : M.2.2.2.2.1 - c0 + 1 = M.2.2.2.2.1 + 1 - c0 := by omega
    have x2 : M.2.2.2.2.2 - w0 + n.toNatClampNeg = M.2.2.2.2.2 + n.toNatClampNeg - w0 := by omega
    rw [x1, x2, ← had]
    exact G
  · cases h

theorem sd_newarray_boolean (hk : ∀ M pc lv st, k M pc lv st = some q → sd_P XL xs D tI tJ tZ tO base xa y d q M pc lv st)  (hd : decode (mm_by y) pc = .ok (.newarray .boolean, 2)) (hw0 : Cond.arrayClass (newarray.typeOf .boolean) ∈ sd_gW) (h : mm_ex XL xs y (.newarray .boolean, e) M pc lv st k cal = some q) : sd_P XL xs D tI tJ tZ tO base xa y d q M pc lv st := by
  unfold mm_ex at h
  dsimp only at h
  split at h
  · rename_i n st'
    obtain ⟨g1, h⟩ := sd_bif h
    obtain ⟨g2, h⟩ := sd_bif h
    obtain ⟨g3, h⟩ := sd_bif h
    obtain ⟨g4, h⟩ := sd_ifn h
    have g1 := sd_beq g1
    have g2 : (mm_kd M.2.2.2.1).1 = 22 := sd_beq g2
    have g3 := sd_beq g3
    have hm := (hk _ _ _ _ h).1
    dsimp only at hm
    refine ⟨⟨by omega, by omega⟩, fun p l e' R s m args below meth c Q c0 w0 hf K hc hw hr H locs ls hS hR h1 h2 hl => ?_⟩
    have hn640 : M.2.2.2.1 < 640 := sd_k640 (by rw [g2]; omega)
    have hz := sd_kdz M.2.2.2.1 (by rw [g2]; omega)
    have hbytes : n.toNatClampNeg * componentBytes (newarray.typeOf .boolean) ≤ 536870912 := by
      have : componentBytes (newarray.typeOf .boolean) ≤ 8 := by decide
      exact Nat.le_trans (Nat.mul_le_mul (by rw [← g3]; exact hz) this) (Nat.le_of_ble_eq_true rfl)
    refine va_newaK K.1 K.2.1 (atype := .boolean) (K.2.2.2.2.1 _ hw0) rfl hd rfl g4 rfl hbytes (by omega) (by omega) rfl fun H1 cA e1 z1 o1 hAr hNm => ?_
    have hcA : tZ = cA := Option.some.inj ((K.2.2.2.2.2.2.2.2.2.2.1.1.2 2 _ rfl).2.symm.trans hNm)
    subst hcA
    have hat : va_at D vwCl (H.size, sd_cl tI tJ tZ tO base xa (mm_ur M.1 M.2.2.2.1 0, mm_ur M.2.1 M.2.2.2.1 0, mm_ur M.2.2.1 M.2.2.2.1 none, M.2.2.2.1 + 1, M.2.2.2.2.1 + 1, M.2.2.2.2.2 + n.toNatClampNeg) M.2.2.2.1) H1 := by
      rw [sd_clZ g2]
      show H1[H.size]? = some (vp_cell tZ ((mm_kd M.2.2.2.1).2, .inl (mm_ur M.1 M.2.2.2.1 0 M.2.2.2.1)))
      rw [sd_ure, g3, vp_cell_i, e1]
      rfl
    obtain ⟨hR1, hS1, had⟩ := sd_push hR hS K.2.2.2.2.2.2.2.2.2.2.2.2 g1 hn640 rfl rfl (sd_clN M _) rfl hat z1 o1
    have G := (hk _ _ _ _ h).2 p l e' R s m args below meth c Q c0 w0 hf K hc hw hr H1 locs ls hS1 hR1 (by show c0 ≤ M.2.2.2.2.1 + 1; omega) (by show w0 ≤ M.2.2.2.2.2 + _; omega) hl
    have x1 : M.2.2.2.2.1 - c0 + 1 = M.2.2.2.2.1 + 1 - c0 := by omega
    have x2 : M.2.2.2.2.2 - w0 + n.toNatClampNeg = M.2.2.2.2.2 + n.toNatClampNeg - w0 := by omega
    rw [x1, x2, ← had]
    exact G
  · cases h

theorem sd_anewarray (hk : ∀ M pc lv st, k M pc lv st = some q → sd_P XL xs D tI tJ tZ tO base xa y d q M pc lv st) {i : Nat} (hd : decode (mm_by y) pc = .ok (.anewarray i, 3)) (hw0 : Cond.classLink (mm_Rn (mm_oc y)) i (mm_Rn e.2.1) ∈ sd_gW ∧ e.2.1 < 12) (h : mm_ex XL xs y (.anewarray i, e) M pc lv st k cal = some q) : sd_P XL xs D tI tJ tZ tO base xa y d q M pc lv st := by
  unfold mm_ex at h
  dsimp only at h
  split at h
  · rename_i n st'
    obtain ⟨g1, h⟩ := sd_bif h
    obtain ⟨g2, h⟩ := sd_bif h
    obtain ⟨g3, h⟩ := sd_bif h
    obtain ⟨g4, h⟩ := sd_ifn h
    have g1 := sd_beq g1
    have g2 := sd_beq g2
    have g3 := sd_beq g3
    have hm := (hk _ _ _ _ h).1
    dsimp only at hm
    refine ⟨⟨by omega, by omega⟩, fun p l e' R s m args below meth c Q c0 w0 hf K hc hw hr H locs ls hS hR h1 h2 hl => ?_⟩
    have hlt99 : (mm_kd M.2.2.2.1).1 < 99 := by omega
    have hn640 : M.2.2.2.1 < 640 := sd_k640 hlt99
    have hz := sd_kdz M.2.2.2.1 hlt99
    have hbytes : n.toNatClampNeg * 4 ≤ 536870912 := by omega
    have hty : ∃ t0 : Nat, (sd_tys tI tJ tZ tO)[t0]? = some (tO e.2.1, FieldType.object (mm_Rn e.2.1)) ∧ va_AO (mm_Rn e.2.1) s := by
      rcases sd_kds M.2.2.2.1 with g | g | g | g | g | g | g | g
      · omega
      · omega
      · omega
      · omega
      · rw [show e.2.1 = 2 by omega]; exact ⟨5, rfl, K.2.2.2.2.2.2.2.2.2.2.1.2.2.2.2⟩
      · rw [show e.2.1 = 7 by omega]; exact ⟨4, rfl, K.2.2.2.2.2.2.2.2.2.2.1.2.2.2.1⟩
      · rw [show e.2.1 = 9 by omega]; exact ⟨3, rfl, K.2.2.2.2.2.2.2.2.2.2.1.2.2.1⟩
      · omega
    obtain ⟨t0, ht0, hAO⟩ := hty
    refine W.anew K.1 K.2.1 K.2.2.2.1 (K.2.2.2.2.1 _ hw0.1) (va_AO.use hAO) rfl hd rfl g4 hbytes (by omega) (by omega) fun cA kA comp f1 f2 f3 f4 => ?_
    obtain ⟨kA', comp', -, -, -, f5⟩ := (K.2.2.2.2.2.2.2.2.2.2.1.1.2 t0 _ ht0).2
    have hcA : tO e.2.1 = cA := Option.some.inj (f5.symm.trans f1)
    subst hcA
    generalize hH1 : H.push ({ cls := tO e.2.1, slots := Array.replicate n.toNatClampNeg .null, vm := .none } : Cell) = H1
    have z1 : H1.size = H.size + 1 := by rw [← hH1, Array.size_push]
    have e1 : H1[H.size]? = some (arrV (tO e.2.1) n.toNatClampNeg (fun _ => .null)) := by rw [← hH1, Array.getElem?_push_size, ← arrV_new]
    have o1 : ∀ x : Nat, x < H.size → H1[x]? = H[x]? := fun x hx => by rw [← hH1, Array.getElem?_push, if_neg (Nat.ne_of_lt hx)]
    have hat : va_at D vwCl (H.size, sd_cl tI tJ tZ tO base xa (mm_ur M.1 M.2.2.2.1 0, mm_ur M.2.1 M.2.2.2.1 0, mm_ur M.2.2.1 M.2.2.2.1 none, M.2.2.2.1 + 1, M.2.2.2.2.1 + 1, M.2.2.2.2.2 + n.toNatClampNeg) M.2.2.2.1) H1 := by
      rw [sd_clO g2]
      show H1[H.size]? = some (vp_cell (tO e.2.1) ((mm_kd M.2.2.2.1).2, .inr (.inr (.inr (.inr (fun k => (mm_ur M.2.2.1 M.2.2.2.1 none M.2.2.2.1 k).map (sd_ad base xa)))))))
      rw [sd_ure, g3, vp_cell_q, e1]
      rfl
    obtain ⟨hR1, hS1, had⟩ := sd_push hR hS K.2.2.2.2.2.2.2.2.2.2.2.2 g1 hn640 rfl rfl (sd_clN M _) rfl hat z1 o1
    have G := (hk _ _ _ _ h).2 p l e' R s m args below meth c Q c0 w0 hf K hc hw hr H1 locs ls hS1 hR1 (by show c0 ≤ M.2.2.2.2.1 + 1; omega) (by show w0 ≤ M.2.2.2.2.2 + _; omega) hl
    have x1 : M.2.2.2.2.1 - c0 + 1 = M.2.2.2.2.1 + 1 - c0 := by omega
    have x2 : M.2.2.2.2.2 - w0 + n.toNatClampNeg = M.2.2.2.2.2 + n.toNatClampNeg - w0 := by omega
    rw [x1, x2, ← had]
    exact G
  · cases h

theorem sd_ret {r : Option Value} (hq : q = (r, M)) (hst : st = r.toList) (ht : sd_Rt y pc r) : sd_P XL xs D tI tJ tZ tO base xa y d q M pc lv st := by
  subst hq
  subst hst
  exact ⟨⟨Nat.le_refl _, Nat.le_refl _⟩, fun p l e' R s m args below meth c Q c0 w0 hf K hc hw hr H locs ls hS hR h1 h2 hl => hr H locs ls pc hS hR ht⟩
theorem sd_ireturn (hk : ∀ M pc lv st, k M pc lv st = some q → sd_P XL xs D tI tJ tZ tO base xa y d q M pc lv st)  (hd : decode (mm_by y) pc = .ok (.ireturn, 1))  (h : mm_ex XL xs y (.ireturn, e) M pc lv st k cal = some q) : sd_P XL xs D tI tJ tZ tO base xa y d q M pc lv st := by
  unfold mm_ex at h
  dsimp only at h
  split at h
  · split at h
    · exact sd_ret (Option.some.inj h).symm rfl ⟨hd, _, by assumption, rfl⟩
    · obtain ⟨hv, h⟩ := sd_ift h
      exact sd_ret (Option.some.inj h).symm rfl ⟨hd, _, by assumption, by rcases hv with rfl | rfl <;> rfl⟩
    · cases h
  · cases h

theorem sd_lreturn (hk : ∀ M pc lv st, k M pc lv st = some q → sd_P XL xs D tI tJ tZ tO base xa y d q M pc lv st)  (hd : decode (mm_by y) pc = .ok (.lreturn, 1))  (h : mm_ex XL xs y (.lreturn, e) M pc lv st k cal = some q) : sd_P XL xs D tI tJ tZ tO base xa y d q M pc lv st := by
  unfold mm_ex at h
  dsimp only at h
  split at h
  · split at h
    · exact sd_ret (Option.some.inj h).symm rfl ⟨hd, by assumption⟩
    · cases h
  · cases h

theorem sd_areturn (hk : ∀ M pc lv st, k M pc lv st = some q → sd_P XL xs D tI tJ tZ tO base xa y d q M pc lv st)  (hd : decode (mm_by y) pc = .ok (.areturn, 1))  (h : mm_ex XL xs y (.areturn, e) M pc lv st k cal = some q) : sd_P XL xs D tI tJ tZ tO base xa y d q M pc lv st := by
  unfold mm_ex at h
  dsimp only at h
  split at h
  · split at h
    · exact sd_ret (Option.some.inj h).symm rfl ⟨hd, _, by assumption⟩
    · cases h
  · split at h
    · exact sd_ret (Option.some.inj h).symm rfl ⟨hd, _, by assumption⟩
    · cases h
  · cases h

theorem sd_return (hk : ∀ M pc lv st, k M pc lv st = some q → sd_P XL xs D tI tJ tZ tO base xa y d q M pc lv st)  (hd : decode (mm_by y) pc = .ok (.return_, 1))  (h : mm_ex XL xs y (.return_, e) M pc lv st k cal = some q) : sd_P XL xs D tI tJ tZ tO base xa y d q M pc lv st := by
  unfold mm_ex at h
  dsimp only at h
  split at h
  · split at h
    · exact sd_ret (Option.some.inj h).symm rfl ⟨hd, by assumption⟩
    · cases h
  · cases h

end SD
