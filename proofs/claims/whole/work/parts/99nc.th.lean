/-! the law's 'thing' -/
section TH
variable {XL : Nat} {xs : Nat → Int32} {D : va_G} {tI tJ tZ : ClassId} {tO : Nat → ClassId} {base : Nat} {xa : Nat → Nat}
variable {p : Program} {l : Launch} {e' : Env} {R : Room} {s : State} {m : MethodId} {args : Array Value} {below : List Frame} {meth : Method} {c : Code} {Q : State → Prop} {H H1 : Heap} {locs : List Loc} {ls : Array Slot} {c0 w0 : Nat} {M : mm_M} {x now t o : Nat} {a b : Int32} {r : mm_R}
def th_wL : List Cond := Cond.codeWith (mm_nm 310) (mm_by 310) (mm_nl 310) (mm_rt 310) [(0, 10, 13, 13)] :: sd_gW
theorem th_gL : GoodIn sd_gW (va_wsS (mm_Rn 12) 46 (mm_nm 310) th_wL) := fun w hw => by
  have h1 : w ∈ sd_gW := by
    rcases List.mem_append.mp (show w ∈ ([.methodLink (mm_Rn 12) 46 (mm_nm 310), .static (mm_nm 310), .initialized (mm_nm 310).cls] : List Cond) ++ th_wL from hw) with h | h
    · rcases List.mem_cons.mp h with rfl | h
      · exact th_w5
      · rcases List.mem_cons.mp h with rfl | h
        · exact th_w6
        · rcases List.mem_cons.mp h with rfl | h
          · exact th_w7
          · cases h
    · rcases List.mem_cons.mp h with rfl | h
      · exact th_w8
      · exact h
  exact ⟨h1, good_of_word (List.mem_filter.mp h1).2⟩
theorem th_d0 : decode (mm_by 310) 0 = .ok (.aload_n 3, 1) := by decide +kernel
theorem th_d1 : decode (mm_by 310) 1 = .ok (.iconst 0, 1) := by decide +kernel
theorem th_d2 : decode (mm_by 310) 2 = .ok (.aload_n 0, 1) := by decide +kernel
theorem th_d3 : decode (mm_by 310) 3 = .ok (.iload_n 1, 1) := by decide +kernel
theorem th_d4 : decode (mm_by 310) 4 = .ok (.iload_n 2, 1) := by decide +kernel
theorem th_d5 : decode (mm_by 310) 5 = .ok (.invokevirtual 7, 3) := by decide +kernel
theorem th_d8 : decode (mm_by 310) 8 = .ok (.i2l, 1) := by decide +kernel
theorem th_d9 : decode (mm_by 310) 9 = .ok (.lastore, 1) := by decide +kernel
theorem th_d10 : decode (mm_by 310) 10 = .ok (.goto 7, 3) := by decide +kernel
theorem th_d13 : decode (mm_by 310) 13 = .ok (.astore 4, 2) := by decide +kernel
theorem th_d15 : decode (mm_by 310) 15 = .ok (.iconst 1, 1) := by decide +kernel
theorem th_d16 : decode (mm_by 310) 16 = .ok (.ireturn, 1) := by decide +kernel
theorem th_d17 : decode (mm_by 310) 17 = .ok (.iconst 0, 1) := by decide +kernel
theorem th_d18 : decode (mm_by 310) 18 = .ok (.ireturn, 1) := by decide +kernel
theorem th_lt {cells slots ax ao : Nat} (K : sd_K XL xs D tI tJ tZ tO base xa p R s m args meth c 310 8) (hl : lv_has ls 5 [(0, .ref ax), (1, .int a), (2, .int b), (3, .ref ao)]) (G : W p l e' R s m args below meth c H locs cells slots Q (F0 m 5 ls [.int b, .int a, .ref ax, .int 0, .ref ao])) : W p l e' R s m args below meth c H locs cells slots Q (F0 m 0 ls []) := by
  refine lv_aload_n K.1 K.2.1 th_d0 rfl (lv_at hl 3 rfl) ?_
  refine lv_iconst (v := 0) K.1 K.2.1 th_d1 rfl ?_
  refine lv_aload_n K.1 K.2.1 th_d2 rfl (lv_at hl 0 rfl) ?_
  refine lv_iload_n K.1 K.2.1 th_d3 rfl (lv_at hl 1 rfl) ?_
  exact lv_iload_n K.1 K.2.1 th_d4 rfl (lv_at hl 2 rfl) G
theorem th_st {M1 : mm_M} {i : Int32} {v : Int64} {cells slots : Nat} {rest : List Value} (K : sd_K XL xs D tI tJ tZ tO base xa p R s m args meth c 310 8) (hR : sd_Rp D tI tJ tZ tO base xa M1 H) (hS : va_S (sd_A base) s.heap H locs) (hok : (mm_kd o).1 = 21) (hol : o < M1.2.2.2.1) (hin : ¬ (i < 0 ∨ (mm_kd o).2 ≤ i.toNatClampNeg)) (G : ∀ (H2 : Heap) (locs2 : List Loc), sd_Rp D tI tJ tZ tO base xa (mm_pl M1 o i.toNatClampNeg v) H2 → va_S (sd_A base) s.heap H2 locs2 → W p l e' R s m args below meth c H2 locs2 cells slots Q (F0 m 10 ls rest)) : W p l e' R s m args below meth c H locs cells slots Q (F0 m 9 ls (.long v :: .int i :: .ref (sd_ad base xa o) :: rest)) := by
  have he := (sd_at (tI := tI) (tJ := tJ) (tZ := tZ) (tO := tO) (base := base) (xa := xa) hol).trans (by rw [sd_clJ hok])
  have hK := K.2.2.2.2.2.2.2.2.2.2.1.1
  refine W.last K.1 K.2.1 (hR.1 o _ he) ((hK.2 1 _ rfl).1 _ _) (fun z => by cases z) (by show ¬ (i < 0 ∨ (arrV _ _ _).slots.size ≤ _); rw [arrV_size]; exact hin) rfl rfl th_d9 fun H1 e1 z oq => ?_
  have hat : va_at D vwCl (sd_ad base xa o, sd_cl tI tJ tZ tO base xa (mm_pl M1 o i.toNatClampNeg v) o) H1 := by
    rw [sd_clJ hok]
    show H1[_]? = some (vp_cell _ _)
    rw [e1, vp_cell_l, vp_cell_l, arrV_store]
    congr 2
    funext j
    by_cases hj : j = i.toNatClampNeg
    · subst hj
      simp [updV, mm_pl, mm_up]
    · simp [updV, mm_pl, mm_up, hj]
  obtain ⟨hR1, hS1⟩ := sd_stA (i := i.toNatClampNeg) hR hS hol rfl rfl (show (mm_pl M1 o i.toNatClampNeg v).2.2.2 = _ from rfl) (sd_cll M1 o _ v) hat z oq
  exact G H1 _ hR1 hS1
theorem th_LO (hf : l.flags = flags0) (hp : th_pr M x now) (hfind : sd_P XL xs D tI tJ tZ tO base xa 69 1 r M 0 (lv_args 0 [.ref now, .int a]) []) (hr : r.1 = some (.ref t)) (htk : (mm_kd t).1 = 9) (htl : t < r.2.2.2.2.1) (hb : ¬ (b < 0 ∨ 4 < b)) (hok : (mm_kd o).1 = 21) (hos : 0 < (mm_kd o).2) (hol : o < r.2.2.2.2.1) : Met l (mm_nm 310) th_wL (th_rL (r.2.2.2.2.2.1 - M.2.2.2.2.1) (r.2.2.2.2.2.2 - M.2.2.2.2.2)) (sd_Pc XL xs D tI tJ tZ tO base xa M [.ref x, .int a, .int b, .ref o]) (sd_Qc D tI tJ tZ tO base xa (some (.int 0), mm_pl r.2 o 0 (th_V r.2 t b).toInt64)) (r.2.2.2.2.2.1 - M.2.2.2.2.1) (r.2.2.2.2.2.2 - M.2.2.2.2.2) (sd_A base) := by
  obtain ⟨hy, -, hy2⟩ := ck_y (y := 102) (by decide)
  obtain ⟨hy3, hy4, -, hy5⟩ := hy2 rfl
  have hm := hfind.1
  refine va_MetW (hh := [(0, 10, 13, 13)]) (cc := mm_by 310) (maxL := mm_nl 310) (ret := mm_rt 310) (by decide +kernel) rfl ?_
  intro p e' s m args below meth c s₁ B hml hv
  have ha := hv.1
  subst ha
  have hts := atoms_spec (ws := th_wL) B.pre
  have K : sd_K XL xs D tI tJ tZ tO base xa p (th_rL (r.2.2.2.2.2.1 - M.2.2.2.2.1) (r.2.2.2.2.2.2 - M.2.2.2.2.2)) s m _ meth c 310 8 := th_K0 B rfl hml (by decide +kernel) rfl (fun w hw => hts w (List.mem_cons_of_mem _ hw)) (Nat.le_refl _) (Nat.le_refl _) hv
  have hlocks : meth.locks = false := K.2.2.2.2.2.2.1
  have hR := hv.2.1
  have hK := K.2.2.2.2.2.2.2.2.2.2.1.1
  have hl := lv_entry ([.ref x, .int a, .int b, .ref o].map (sd_tv (sd_ad base xa))) (n := mm_nl 310) (by rw [sd_sl]; exact Nat.le_of_ble_eq_true rfl)
  rw [lg_entry_eq]
  refine th_lt K hl ?_
  refine sd_run (st0 := [.int b, .int a, .ref (sd_ad base xa x), .int 0, .ref (sd_ad base xa o)]) (rest := [.int 0, .ref (sd_ad base xa o)]) (va_runV (As := [.int a, .int b]) ⟨K.1, K.2.1, K.2.2.1, K.2.2.2.1, K.2.2.2.2.1⟩ (th_bgO hf hp hfind hr htk htl hb) ⟨callB_of 2 K.2.2.2.2.1 (sd_good hy) rfl rfl rfl (K.2.2.2.2.1 _ hy.2.2.1) (K.2.2.2.2.1 _ th_w3) hy.2.2.2.1 ⟨by show 8 + 1 ≤ 9; decide, by show 8 + (mm_nl 102 + 11) + 512 ≤ 576; decide⟩, K.2.2.2.2.1 _ hy3, K.2.2.2.2.1 _ (hy5 rfl)⟩ ⟨sd_blind, th_recv hy hy4 hK hR hp.1 hp.2.1, sd_pre (as := [.ref x, .int a, .int b]) K.2.2.2.2.2.2.2.2.2.2.1 K.2.2.2.2.2.2.2.2.2.2.2.1 K.2.2.2.2.2.2.2.2.2.2.2.2 va_S.rf hR⟩ rfl rfl hl.1 rfl (lv_room (Nat.le_of_ble_eq_true rfl)) th_d5 ⟨by rw [Nat.zero_add]; exact Nat.le_refl _, by rw [Nat.zero_add]; exact Nat.le_refl _⟩) va_S.rf (fun H1 locs1 hR1 hS1 => ?_)
  rw [Nat.zero_add, Nat.zero_add]
  refine lv_i2l (v := (th_V r.2 t b).toInt64) K.1 K.2.1 th_d8 rfl ?_
  have hin : ¬ ((0 : Int32) < 0 ∨ (mm_kd o).2 ≤ (0 : Int32).toNatClampNeg) := fun z => z.elim (fun z => absurd z (by decide)) (fun z => absurd hos (Nat.not_lt.mpr z))
  refine th_st K hR1 hS1 hok hol hin fun H2 locs2 hR2 hS2 => ?_
  refine lv_goto (tgt := 17) K.1 K.2.1 th_d10 rfl ?_
  refine lv_iconst (v := 0) K.1 K.2.1 th_d17 rfl ?_
  exact W.zret K.1 K.2.1 (K.2.2.2.2.2.1.trans (show mm_rt 310 = some .int from rfl)) rfl (fun u hu _ => ⟨rfl, by rw [hu]; exact hR2, hS2.F hu⟩) hS2.2.2 th_d18
theorem th_LX (hf : l.flags = flags0) (hp : th_pr M x now) (hfind : sd_P XL xs D tI tJ tZ tO base xa 69 1 r M 0 (lv_args 0 [.ref now, .int a]) []) (hr : r.1 = some .null ∨ ∃ t, r.1 = some (.ref t) ∧ (b < 0 ∨ 4 < b)) : Met l (mm_nm 310) th_wL (th_rL (r.2.2.2.2.2.1 + 1 - M.2.2.2.2.1) (r.2.2.2.2.2.2 + 6 - M.2.2.2.2.2)) (sd_Pc XL xs D tI tJ tZ tO base xa M [.ref x, .int a, .int b, .ref o]) (sd_Qc D tI tJ tZ tO base xa (some (.int 1), th_up r.2)) (r.2.2.2.2.2.1 + 1 - M.2.2.2.2.1) (r.2.2.2.2.2.2 + 6 - M.2.2.2.2.2) (sd_A base) := by
  obtain ⟨hy, -, hy2⟩ := ck_y (y := 102) (by decide)
  obtain ⟨hy3, hy4, -, hy5⟩ := hy2 rfl
  have hm := hfind.1
  refine va_MetW (hh := [(0, 10, 13, 13)]) (cc := mm_by 310) (maxL := mm_nl 310) (ret := mm_rt 310) (by decide +kernel) rfl ?_
  intro p e' s m args below meth c s₁ B hml hv
  have ha := hv.1
  subst ha
  have hts := atoms_spec (ws := th_wL) B.pre
  have htab : c.exceptionTable.toList = [⟨0, 10, 13, 13⟩] := vx_table (x := mm_nm 310) B (hts _ List.mem_cons_self)
  have K : sd_K XL xs D tI tJ tZ tO base xa p (th_rL (r.2.2.2.2.2.1 + 1 - M.2.2.2.2.1) (r.2.2.2.2.2.2 + 6 - M.2.2.2.2.2)) s m _ meth c 310 8 := th_K0 B rfl hml (by decide +kernel) rfl (fun w hw => hts w (List.mem_cons_of_mem _ hw)) (Nat.le_refl _) (Nat.le_refl _) hv
  have hlocks : meth.locks = false := K.2.2.2.2.2.2.1
  have hR := hv.2.1
  have hSk := K.2.2.2.2.2.2.2.2.2.2.1
  have hl := lv_entry ([.ref x, .int a, .int b, .ref o].map (sd_tv (sd_ad base xa))) (n := mm_nl 310) (by rw [sd_sl]; exact Nat.le_of_ble_eq_true rfl)
  rw [lg_entry_eq]
  refine th_lt K hl ?_
  refine th_runX (st0 := [.int b, .int a, .ref (sd_ad base xa x), .int 0, .ref (sd_ad base xa o)]) (rest := [.int 0, .ref (sd_ad base xa o)]) (vx_runV (As := [.int a, .int b]) ⟨K.1, K.2.1, K.2.2.1, K.2.2.2.1, K.2.2.2.2.1⟩ (th_bgX hf hp hfind hr) ⟨callB_of 2 K.2.2.2.2.1 (sd_good hy) rfl rfl rfl (K.2.2.2.2.1 _ hy.2.2.1) (K.2.2.2.2.1 _ th_w3) hy.2.2.2.1 ⟨by show 8 + 1 ≤ 9; decide, by show 8 + (mm_nl 102 + 11) + 512 ≤ 576; decide⟩, K.2.2.2.2.1 _ hy3, K.2.2.2.2.1 _ (hy5 rfl)⟩ ⟨sd_blind, th_recv hy hy4 hSk.1 hR hp.1 hp.2.1, sd_pre (as := [.ref x, .int a, .int b]) hSk K.2.2.2.2.2.2.2.2.2.2.2.1 K.2.2.2.2.2.2.2.2.2.2.2.2 va_S.rf hR⟩ rfl rfl hl.1 rfl (lv_room (Nat.le_of_ble_eq_true rfl)) th_d5 ⟨by rw [Nat.zero_add]; exact Nat.le_refl _, by rw [Nat.zero_add]; exact Nat.le_refl _⟩) (fun _ _ _ h => h) va_S.rf (fun H1 locs1 q ce hR1 hS1 hce hcv hcl => ?_)
  refine vx_catch (own := mm_Rn (mm_oc 310)) (name := th_X) (E := th_X) K.2.2.2.1 [] ⟨0, 10, 13, 13⟩ [] htab (fun z hz => by cases hz) rfl (by decide) (K.2.2.2.2.1 _ th_w4) (va_Nw.use rfl (hSk.2.1 _ th_w9)) hce hcv hcl ?_
  rw [Nat.zero_add, Nat.zero_add]
  refine lv_astore (lv' := [(4, .ref q), (0, .ref (sd_ad base xa x)), (1, .int a), (2, .int b), (3, .ref (sd_ad base xa o))]) K.1 K.2.1 th_d13 hl (by decide) rfl fun ls' hl' => ?_
  refine lv_iconst (v := 1) K.1 K.2.1 th_d15 rfl ?_
  exact W.zret K.1 K.2.1 (K.2.2.2.2.2.1.trans (show mm_rt 310 = some .int from rfl)) rfl (fun u hu _ => ⟨rfl, by rw [hu]; exact hR1, hS1.F hu⟩) hS1.2.2 th_d16
/-- out of a contract of the law's 'thing' -/
theorem th_call {d : Nat} {as : List Value} (h8 : 8 < d) (hcat : as.length = 4) (hm1 : M.2.2.2.2.1 ≤ r.2.2.2.2.2.1 ∧ M.2.2.2.2.2 ≤ r.2.2.2.2.2.2) (hM : ∀ l : Launch, l.flags = flags0 → Met l (mm_nm 310) th_wL (th_rL (r.2.2.2.2.2.1 - M.2.2.2.2.1) (r.2.2.2.2.2.2 - M.2.2.2.2.2)) (sd_Pc XL xs D tI tJ tZ tO base xa M as) (sd_Qc D tI tJ tZ tO base xa r) (r.2.2.2.2.2.1 - M.2.2.2.2.1) (r.2.2.2.2.2.2 - M.2.2.2.2.2) (sd_A base)) : sd_Th XL xs D tI tJ tZ tO base xa d r M as := by
  refine ⟨hm1, fun p l e R s m args below meth c Q c0 w0 pc i hf K hd hi hc hw H locs ls rest hS hR h1 h2 hsz hrest kk => ?_⟩
  subst hi
  have hKd := K.2.2.2.2.2.2.2.2.1
  have hKl := K.2.2.2.2.2.2.2.2.2.1
  refine sd_run (vx_runSW (As := as.map (sd_tv (sd_ad base xa))) ⟨K.1, K.2.1, K.2.2.1, K.2.2.2.1, K.2.2.2.2.1⟩ (hM l hf) (vx_cwSW 4 K.2.2.2.2.1 th_gL rfl rfl rfl (by decide +kernel) ⟨by show 9 + 1 ≤ R.frames; omega, by show 8 + (mm_nl 310 + 11) + 576 ≤ R.locals; have : mm_nl 310 = 5 := rfl; omega⟩) ⟨sd_blind, sd_pre K.2.2.2.2.2.2.2.2.2.2.1 K.2.2.2.2.2.2.2.2.2.2.2.1 K.2.2.2.2.2.2.2.2.2.2.2.2 hS hR⟩ rfl (by rw [List.length_map]; exact hcat) hsz rfl (lv_room hrest) hd ⟨by have := hm1.1; omega, by have := hm1.2; omega⟩) hS (fun H1 locs1 hR1 hS1 => ?_)
  have x1 : M.2.2.2.2.1 - c0 + (r.2.2.2.2.2.1 - M.2.2.2.2.1) = r.2.2.2.2.2.1 - c0 := by have := hm1.1; omega
  have x2 : M.2.2.2.2.2 - w0 + (r.2.2.2.2.2.2 - M.2.2.2.2.2) = r.2.2.2.2.2.2 - w0 := by have := hm1.2; omega
  rw [x1, x2]
  exact kk H1 locs1 hR1 hS1
theorem th_TH : sd_TH XL xs D tI tJ tZ tO base xa := by
  intro n d M as r h8 hfind h
  unfold mm_th at h
  split at h
  · rename_i x p0 p1 o
    obtain ⟨g, h⟩ := sd_bif h
    simp only [Bool.and_eq_true] at g
    obtain ⟨⟨⟨⟨g1, g2⟩, g3⟩, g4⟩, g5⟩ := g
    split at h
    · rename_i now hnow
      obtain ⟨g6, h⟩ := sd_bif h
      simp only [Bool.and_eq_true] at g6
      have hp : th_pr M x now := ⟨sd_beq g1, sd_blt g2, hnow, sd_beq g6.1, sd_blt g6.2⟩
      obtain ⟨r1, hr1, h⟩ := Option.bind_eq_some_iff.mp h
      have hP := hfind M [.ref now, .int p0] r1 hr1
      have hm := hP.1
      have bad : (r1.1 = some .null ∨ ∃ t, r1.1 = some (.ref t) ∧ (p1 < 0 ∨ 4 < p1)) → sd_Th XL xs D tI tJ tZ tO base xa d (some (.int 1), th_up r1.2) M [.ref x, .int p0, .int p1, .ref o] := fun hb => th_call h8 rfl ⟨Nat.le_succ_of_le hm.1, Nat.le_trans hm.2 (Nat.le_add_right _ 6)⟩ (fun l hf => th_LX hf hp hP hb)
      split at h
      · rename_i hn
        cases h
        exact bad (Or.inl hn)
      · rename_i t ht
        obtain ⟨g7, h⟩ := sd_bif h
        simp only [Bool.and_eq_true] at g7
        by_cases hb : p1 < 0 ∨ 4 < p1
        · rw [if_pos hb] at h
          cases h
          exact bad (Or.inr ⟨t, ht, hb⟩)
        · rw [if_neg hb] at h
          cases h
          exact th_call h8 rfl hm (fun l hf => th_LO hf hp hP ht (sd_beq g7.1.1) (sd_blt g7.1.2) hb (sd_beq g3) (sd_blt g4) (sd_blt g7.2))
      · cases h
    · cases h
  · cases h
end TH
