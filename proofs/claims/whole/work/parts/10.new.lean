section SD
variable {XL : Nat} {xs : Nat → Int32} {D : va_G} {tI tJ tZ : ClassId} {tO : Nat → ClassId} {base : Nat} {xa : Nat → Nat}
variable {y d : Nat} {q : mm_R} {M : mm_M} {pc : Nat} {lv : mm_L} {st : List Value} {k : mm_M → Nat → mm_L → List Value → Option mm_R} {cal : Nat → List Value → (Option Value → mm_M → Option mm_R) → Option mm_R} {e : Nat × Nat × Nat × Int}

theorem sd_aastore (hk : ∀ M pc lv st, k M pc lv st = some q → sd_P XL xs D tI tJ tZ tO base xa y d q M pc lv st)  (hd : decode (mm_by y) pc = .ok (.aastore, 1))  (h : mm_ex XL xs y (.aastore, e) M pc lv st k cal = some q) : sd_P XL xs D tI tJ tZ tO base xa y d q M pc lv st := by
  unfold mm_ex at h
  dsimp only at h
  split at h
  · rename_i v i a st'
    obtain ⟨g1, h⟩ := sd_bif h
    obtain ⟨g2, h⟩ := sd_bif h
    obtain ⟨g3, h⟩ := sd_bif h
    obtain ⟨g4, h⟩ := sd_bif h
    obtain ⟨hin, h⟩ := sd_ifn h
    have g1 := sd_beq g1
    have g2 := sd_blt g2
    have he := (sd_at (tI := tI) (tJ := tJ) (tZ := tZ) (tO := tO) (base := base) (xa := xa) (sd_blt g3)).trans (by rw [sd_clO g1])
    have hev := (sd_at (tI := tI) (tJ := tJ) (tZ := tZ) (tO := tO) (base := base) (xa := xa) (sd_blt g4)).trans (by rw [sd_clo rfl g2])
    obtain ⟨c1, -⟩ := sd_cls _ g2
    refine ⟨(hk _ _ _ _ h).1, fun p l e' R s m args below meth c Q c0 w0 hf K hc hw hr H locs ls hS hR h1 h2 hl => ?_⟩
    have hK := K.2.2.2.2.2.2.2.2.2.2.1.1
    have hty : ∃ t0 : Nat, (sd_tys tI tJ tZ tO)[t0]? = some (tO (mm_kd v).1, FieldType.object (mm_Rn (mm_kd v).1)) := by
      rcases sd_kds a with g | g | g | g | g | g | g | g
      · omega
      · omega
      · omega
      · omega
      · exact ⟨5, by rw [show (mm_kd v).1 = 2 by omega]; rfl⟩
      · exact ⟨4, by rw [show (mm_kd v).1 = 7 by omega]; rfl⟩
      · exact ⟨3, by rw [show (mm_kd v).1 = 9 by omega]; rfl⟩
      · omega
    obtain ⟨t0, ht0⟩ := hty
    have hlt : i.toNatClampNeg < (mm_kd a).2 := Nat.not_le.mp fun z => hin (Or.inr z)
    have h0 : ¬ i < 0 := fun z => hin (Or.inl z)
    obtain ⟨r, r1, cellV, q1, q2, q3, -⟩ := hR.1 _ _ hev
    have hcls := (hK.1 _ _ c1).2
    obtain ⟨kA, comp, k1, k2, k3, -⟩ := (hK.2 t0 _ ht0).2
    have hcomp : comp = D.1 (mm_kd v).1 := Option.some.inj (k3.symm.trans hcls.1)
    subst hcomp
    obtain ⟨kC, hkC, -⟩ := hcls.2
    refine W.aast K.1 K.2.1 (hR.1 a _ he) (fun z h => by cases h) (fun h => by cases h) k1 k2 rfl hkC ⟨h0, by show _ < (arrV _ _ _).slots.size; rw [arrV_size]; exact hlt⟩ q1 (fun z h => by rw [q3] at h; cases h) (by rw [q2]; exact hkC) (by rw [q2]; exact va_assign hcls) rfl rfl hd fun H1 e1 z oq => ?_
    have hat : va_at D vwCl (sd_ad base xa a, sd_cl tI tJ tZ tO base xa (mm_pr M a i.toNatClampNeg (some v)) a) H1 := by
      rw [sd_clO g1]
      show H1[_]? = some (vp_cell _ _)
      rw [e1, vp_cell_q, vp_cell_q, arrV_store]
      congr 2
      funext j
      by_cases hj : j = i.toNatClampNeg
      · subst hj
        simp [updV, mm_pr, mm_up, va_rf]
      · simp [updV, mm_pr, mm_up, hj]
    obtain ⟨hR1, hS1⟩ := sd_stA (i := i.toNatClampNeg) hR hS (sd_blt g3) rfl rfl (show (mm_pr M a i.toNatClampNeg (some v)).2.2.2 = _ from rfl) (sd_clr M a _ (some v)) hat z oq
    exact (hk _ _ _ _ h).2 p l e' R s m args below meth c Q c0 w0 hf K hc hw hr H1 _ ls hS1 hR1 h1 h2 hl
  · cases h

theorem sd_push {M' : mm_M} {s : State} {H H1 : Heap} {locs : List Loc} {w : va_E} (hR : sd_Rp D tI tJ tZ tO base xa M H) (hS : va_S (sd_A base) s.heap H locs) (hb : base ≤ s.heap.size) (hc : M.2.2.2.1 = M.2.2.2.2.1) (h640 : M.2.2.2.1 < 640) (hn : M'.2.2.2.1 = M.2.2.2.1 + 1) (hcc : M'.2.2.2.2.1 = M.2.2.2.2.1 + 1) (ho : ∀ j, j ≠ M.2.2.2.1 → sd_cl tI tJ tZ tO base xa M' j = sd_cl tI tJ tZ tO base xa M j) (hw : sd_cl tI tJ tZ tO base xa M' M.2.2.2.1 = w) (hat : va_at D vwCl (H.size, w) H1) (z : H1.size = H.size + 1) (oq : ∀ x, x < H.size → H1[x]? = H[x]?) : sd_Rp D tI tJ tZ tO base xa M' H1 ∧ va_S (sd_A base) s.heap H1 locs ∧ sd_ad base xa M.2.2.2.1 = H.size := by
  have hz := hR.2.2.1.2 hc
  have hx : M.2.2.2.1 < mm_xb := Nat.lt_of_lt_of_le h640 (Nat.le_of_ble_eq_true rfl)
  have had : sd_ad base xa M.2.2.2.1 = H.size := by rw [hz]; exact if_pos hx
  have hws : sd_ws tI tJ tZ tO base xa M' = sd_ws tI tJ tZ tO base xa M ++ [(H.size, w)] := by
    unfold sd_ws
    rw [hn, List.range_succ, List.map_append, List.map_singleton, hw, had]
    congr 1
    refine List.map_congr_left fun j hj => ?_
    rw [ho j (Nat.ne_of_lt (List.mem_range.mp hj))]
  have hkp : ∀ (k : Nat) (x : Nat × va_E), (sd_ws tI tJ tZ tO base xa M)[k]? = some x → H1[x.1]? = H[x.1]? := fun k x hx => oq x.1 ((hR.1 k x hx).lt)
  refine ⟨⟨?_, ?_, ⟨by rw [hn, hcc]; omega, fun _ => by rw [hn, z, hz]; omega⟩, by rw [hn]; omega⟩, ⟨Nat.le_trans hS.1 (by omega), fun x h1 h2 => (oq x (Nat.lt_of_lt_of_le h1 hS.1)).trans (hS.2.1 x h1 h2), hS.2.2⟩, had⟩
  · rw [hws]
    refine (hR.1.kept hkp).app fun k x hx => ?_
    have hz : k < 1 := (List.getElem?_eq_some_iff.mp hx).1
    rw [show k = 0 by omega] at hx
    cases hx
    exact hat
  · rw [hws]
    exact hR.2.1.push hR.1 rfl (Nat.le_trans hb hS.1)
theorem sd_clN (M : mm_M) (u : Nat × Nat × Nat) (j : Nat) (h : j ≠ M.2.2.2.1) : sd_cl tI tJ tZ tO base xa (mm_ur M.1 M.2.2.2.1 0, mm_ur M.2.1 M.2.2.2.1 0, mm_ur M.2.2.1 M.2.2.2.1 none, u) j = sd_cl tI tJ tZ tO base xa M j := by
  have e1 : (mm_ur M.1 M.2.2.2.1 0) j = M.1 j := sd_urne M.1 0 h
  have e2 : (mm_ur M.2.1 M.2.2.2.1 0) j = M.2.1 j := sd_urne M.2.1 0 h
  have e3 : (mm_ur M.2.2.1 M.2.2.2.1 none) j = M.2.2.1 j := sd_urne M.2.2.1 none h
  have e4 : ∀ ty k, mm_gf (mm_ur M.1 M.2.2.2.1 0, mm_ur M.2.1 M.2.2.2.1 0, mm_ur M.2.2.1 M.2.2.2.1 none, u) ty j k = mm_gf M ty j k := fun ty k => by cases ty <;> simp [mm_gf, e1, e2, e3]
  simp only [sd_cl, e1, e2, e3, e4]
theorem sd_gf0 (M : mm_M) (u : Nat × Nat × Nat) (ad : Nat → Nat) (ty : FieldType) (k : Nat) (hty : ty = .int ∨ ty = .long ∨ ty = .boolean ∨ (∃ C, ty = .object C) ∨ ∃ t, ty = .array t) : sd_tv ad (mm_gf (mm_ur M.1 M.2.2.2.1 0, mm_ur M.2.1 M.2.2.2.1 0, mm_ur M.2.2.1 M.2.2.2.1 none, u) ty M.2.2.2.1 k) = defaultValue ty := by
  rcases hty with rfl | rfl | rfl | ⟨C, rfl⟩ | ⟨t, rfl⟩ <;> simp [mm_gf, mm_ur, va_rf, sd_tv, defaultValue]
theorem sd_tyk : ∀ ci, ci < 12 → ∀ k, k < mm_N ci → (mm_ty ci k = .int ∨ mm_ty ci k = .long ∨ mm_ty ci k = .boolean ∨ (∃ C, mm_ty ci k = .object C) ∨ ∃ t, mm_ty ci k = .array t) := by
  have h : ∀ ci, ci < 12 → ∀ k, k < mm_N ci → (match mm_ty ci k with | .int => true | .long => true | .boolean => true | .object _ => true | .array _ => true | _ => false) = true := by decide +kernel
  intro ci h1 k h2
  have h3 := h ci h1 k h2
  cases hty : mm_ty ci k <;> rw [hty] at h3 <;> simp at h3 ⊢
theorem sd_k640 {i : Nat} (h : (mm_kd i).1 < 99) : i < 640 := by
  rcases Nat.lt_or_ge i 640 with h2 | h2
  · exact h2
  · have hb : ∀ n, n ≤ 640 → Nat.blt i n = false := fun n hn => by
      cases hc : Nat.blt i n with
      | false => rfl
      | true => have := Nat.le_of_ble_eq_true hc; omega
    have e : mm_kd i = (99, 0) := by simp only [mm_kd, hb 29 (by omega), hb 55 (by omega), hb 57 (by omega), hb 577 (by omega), hb 640 (by omega), cond_false]
    rw [e] at h
    exact absurd h (Nat.lt_irrefl _)
theorem sd_new (hk : ∀ M pc lv st, k M pc lv st = some q → sd_P XL xs D tI tJ tZ tO base xa y d q M pc lv st) {i : Nat} (hd : decode (mm_by y) pc = .ok (.new i, 3)) (hw0 : Cond.classLink (mm_Rn (mm_oc y)) i (mm_Rn e.2.1) ∈ sd_gW ∧ Cond.instantiable (mm_Rn e.2.1) (mm_N e.2.1) ∈ sd_gW ∧ Cond.initialized (mm_Rn e.2.1) ∈ sd_gW) (h : mm_ex XL xs y (.new i, e) M pc lv st k cal = some q) : sd_P XL xs D tI tJ tZ tO base xa y d q M pc lv st := by
  unfold mm_ex at h
  dsimp only at h
  obtain ⟨g1, h⟩ := sd_bif h
  obtain ⟨g2, h⟩ := sd_bif h
  obtain ⟨g3, h⟩ := sd_bif h
  have g1 := sd_beq g1
  have g2 := sd_beq g2
  have g3 := sd_blt g3
  obtain ⟨c1, c2, c3, c4, c5⟩ := sd_cls _ g3
  have hm := (hk _ _ _ _ h).1
  dsimp only at hm
  refine ⟨⟨by omega, by omega⟩, fun p l e' R s m args below meth c Q c0 w0 hf K hc hw hr H locs ls hS hR h1 h2 hl => ?_⟩
  have hcl : ∀ w ∈ u_ws (mm_Rn e.2.1) (mm_T e.2.1) (mm_N e.2.1), w ∈ sd_gW := fun w hw => sd_gin (c2 w hw).1 (c2 w hw).2
  have hKn := K.2.2.2.2.2.2.2.2.2.2.1.1.1 _ _ c1
  have hn640 : M.2.2.2.1 < 640 := sd_k640 (by rw [g2]; omega)
  refine W.newcK K.1 K.2.1 K.2.2.2.1 (K.2.2.2.2.1 _ hw0.1) (K.2.2.2.2.1 _ hw0.2.1) (K.2.2.2.2.1 _ hw0.2.2) rfl hd (by omega) (by omega) hKn.2.1 rfl fun H1 kC hkC e1 z1 o1 => ?_
  have hat : va_at D vwCl (H.size, sd_cl tI tJ tZ tO base xa (mm_ur M.1 M.2.2.2.1 0, mm_ur M.2.1 M.2.2.2.1 0, mm_ur M.2.2.1 M.2.2.2.1 none, M.2.2.2.1 + 1, M.2.2.2.2.1 + 1, M.2.2.2.2.2 + mm_N e.2.1) M.2.2.2.1) H1 := by
    rw [sd_clo g2 g3]
    refine ⟨_, c1, (u_born (mm_ty e.2.1) K.2.2.2.2.1 hcl hKn hkC e1 c3).to fun j hj => ?_⟩
    simp only [vp_V, List.getD_eq_getElem?_getD, List.getElem?_map, List.getElem?_range hj, Option.map_some, Option.getD_some]
    exact (sd_gf0 M _ _ _ _ (sd_tyk _ g3 _ hj)).symm
  obtain ⟨hR1, hS1, had⟩ := sd_push hR hS (by exact K.2.2.2.2.2.2.2.2.2.2.2.2) g1 hn640 rfl rfl (sd_clN M _) rfl hat z1 o1
  have G := (hk _ _ _ _ h).2 p l e' R s m args below meth c Q c0 w0 hf K hc hw hr H1 locs ls hS1 hR1 (by show c0 ≤ M.2.2.2.2.1 + 1; omega) (by show w0 ≤ M.2.2.2.2.2 + _; omega) hl
  have x1 : M.2.2.2.2.1 - c0 + 1 = M.2.2.2.2.1 + 1 - c0 := by omega
  have x2 : M.2.2.2.2.2 - w0 + mm_N e.2.1 = M.2.2.2.2.2 + mm_N e.2.1 - w0 := by omega
  rw [x1, x2, ← had]
  exact G

theorem sd_getstatic (hk : ∀ M pc lv st, k M pc lv st = some q → sd_P XL xs D tI tJ tZ tO base xa y d q M pc lv st) {i : Nat} (hd : decode (mm_by y) pc = .ok (.getstatic i, 3)) (hw0 : 1 ≤ e.2.1 ∧ e.2.1 < 5 ∧ Cond.fieldLink (mm_Rn (mm_oc y)) i "BuriedGoods$Land" (sd_xn e.2.1) "[I" ∈ sd_gW) (h : mm_ex XL xs y (.getstatic i, e) M pc lv st k cal = some q) : sd_P XL xs D tI tJ tZ tO base xa y d q M pc lv st := by
  unfold mm_ex at h
  dsimp only at h
  refine ⟨(hk _ _ _ _ h).1, fun p l e' R s m args below meth c Q c0 w0 hf K hc hw hr H locs ls hS hR h1 h2 hl => ?_⟩
  have G := ((hk _ _ _ _ h).2 p l e' R s m args below meth c Q c0 w0 hf K hc hw hr H locs ls hS hR h1 h2 hl)
  have hade : sd_ad base xa (mm_xb + e.2.1) = xa e.2.1 := by
    unfold sd_ad
    rw [if_neg (Nat.not_lt.mpr (Nat.le_add_right _ _)), Nat.add_sub_cancel_left]
  have G2 : W p l e' R s m args below meth c H locs (M.2.2.2.2.1 - c0) (M.2.2.2.2.2 - w0) Q (F0 m (pc + 3) ls (.ref (xa e.2.1) :: st.map (sd_tv (sd_ad base xa)))) := by
    rw [← hade]
    exact G
  exact va_gets K.1 K.2.1 (K.2.2.2.2.2.2.2.2.2.2.2.1.2.1 e.2.1 hw0.1 hw0.2.1) hS K.2.2.2.1 (K.2.2.2.2.1 _ hw0.2.2) (fun x hx => hx) hd G2

end SD
