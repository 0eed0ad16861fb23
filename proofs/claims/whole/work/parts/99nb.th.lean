/-! the contracts of BuriedGoods.thing and of the law's 'thing' -/
section TH
variable {XL : Nat} {xs : Nat → Int32} {D : va_G} {tI tJ tZ : ClassId} {tO : Nat → ClassId} {base : Nat} {xa : Nat → Nat}
variable {p : Program} {l : Launch} {e' : Env} {R : Room} {s : State} {m : MethodId} {args : Array Value} {below : List Frame} {meth : Method} {c : Code} {Q : State → Prop} {H H1 : Heap} {locs : List Loc} {ls : Array Slot} {c0 w0 : Nat} {M : mm_M} {x now t o : Nat} {a b : Int32} {r : mm_R}
abbrev th_rB (k n : Nat) : Room := { frames := 8, cells := k, slots := n, locals := 512 }
abbrev th_rL (k n : Nat) : Room := { frames := 9, cells := k, slots := n, locals := 576 }
variable (D tI tJ tZ tO base xa) in
/-- what holds where BuriedGoods.thing has thrown -/
def th_XC (M : mm_M) : String → State → State → Prop := fun E st t => E = th_X ∧ sd_Rp D tI tJ tZ tO base xa (th_up M) t.heap ∧ va_F (sd_A base) st t
variable (M x now a r) in
/-- what is known where 'thing' is called -/
def th_pr : Prop := (mm_kd x).1 = 10 ∧ x < M.2.2.2.1 ∧ M.2.2.1 x 5 = some now ∧ (mm_kd now).1 = 7 ∧ now < M.2.2.2.1
theorem th_bgO (hf : l.flags = flags0) (hp : th_pr M x now) (hfind : sd_P XL xs D tI tJ tZ tO base xa 69 1 r M 0 (lv_args 0 [.ref now, .int a]) []) (hr : r.1 = some (.ref t)) (htk : (mm_kd t).1 = 9) (htl : t < r.2.2.2.2.1) (hb : ¬ (b < 0 ∨ 4 < b)) : Met l (mm_nm 102) (sd_wy 102) (th_rB (r.2.2.2.2.2.1 - M.2.2.2.2.1) (r.2.2.2.2.2.2 - M.2.2.2.2.2)) (sd_Pc XL xs D tI tJ tZ tO base xa M [.ref x, .int a, .int b]) (sd_Qc D tI tJ tZ tO base xa (some (.int (th_V r.2 t b)), r.2)) (r.2.2.2.2.2.1 - M.2.2.2.2.1) (r.2.2.2.2.2.2 - M.2.2.2.2.2) (sd_A base) := by
  obtain ⟨hx, hxl, hnow, hnk, hnl⟩ := hp
  have hy := (ck_y (y := 102) (by decide)).1
  have hm := hfind.1
  refine sd_ofW (cc := mm_by 102) (maxL := mm_nl 102) (ret := mm_rt 102) hy.2.1 rfl ?_
  intro p e' s m args below meth c s₁ B hml hv
  have ha := hv.1
  subst ha
  have hts := atoms_spec (ws := sd_wy 102) B.pre
  have K : sd_K XL xs D tI tJ tZ tO base xa p (th_rB (r.2.2.2.2.2.1 - M.2.2.2.2.1) (r.2.2.2.2.2.2 - M.2.2.2.2.2)) s m _ meth c 102 7 := th_K0 B rfl hml hy.2.2.2.2.2.1 rfl (fun w hw => hts w (List.mem_cons_of_mem _ hw)) (Nat.le_refl _) (Nat.le_refl _) hv
  have hlocks : meth.locks = false := K.2.2.2.2.2.2.1
  have hR := hv.2.1
  have hl := lv_entry ([.ref x, .int a, .int b].map (sd_tv (sd_ad base xa))) (n := mm_nl 102) (by rw [sd_sl]; exact Nat.le_of_ble_eq_true rfl)
  rw [lg_entry_eq]
  have G := th_pre (Q := MQ below (sd_Qc D tI tJ tZ tO base xa (some (.int (th_V r.2 t b)), r.2)) ([.ref x, .int a, .int b].map (sd_tv (sd_ad base xa))).toArray s (r.2.2.2.2.2.1 - M.2.2.2.2.1) (r.2.2.2.2.2.2 - M.2.2.2.2.2) (sd_A base)) (e' := e') (below := below) (c0 := M.2.2.2.2.1) (w0 := M.2.2.2.2.2) (b := b) hf K hx hxl hnow hnk hnl hfind (Nat.le_refl _) (Nat.le_refl _) (Nat.le_refl _) (Nat.le_refl _) va_S.rf hR hl ?_
  · rw [Nat.sub_self, Nat.sub_self] at G
    exact G
  · intro H1 locs1 hR1 hS1
    rw [hr]
    refine lv_astore_n (lv' := [(3, .ref (sd_ad base xa t)), (0, .ref (sd_ad base xa x)), (1, .int a), (2, .int b)]) K.1 K.2.1 (ck_Tab 102 8 (.astore_n 3, 1, 0, 0, 0) rfl).1 rfl hl (by decide) rfl fun ls' hl' => ?_
    refine lv_aload_n K.1 K.2.1 (ck_Tab 102 9 (.aload_n 3, 1, 0, 0, 0) rfl).1 rfl (lv_at hl' 0 rfl) ?_
    refine lv_ifnull K.1 K.2.1 (ck_Tab 102 10 (.ifnull 12, 3, 0, 0, 0) rfl).1 ?_
    refine lv_iload_n K.1 K.2.1 (ck_Tab 102 13 (.iload_n 2, 1, 0, 0, 0) rfl).1 rfl (lv_at hl' 3 rfl) ?_
    refine lv_if_lt (tgt := 22) K.1 K.2.1 (ck_Tab 102 14 (.ifCond .lt 8, 3, 0, 0, 0) rfl).1 rfl (fun z => absurd (Or.inl z) hb) fun _ => ?_
    refine lv_iload_n K.1 K.2.1 (ck_Tab 102 17 (.iload_n 2, 1, 0, 0, 0) rfl).1 rfl (lv_at hl' 3 rfl) ?_
    refine lv_iconst (v := 4) K.1 K.2.1 (ck_Tab 102 18 (.iconst 4, 1, 0, 0, 0) rfl).1 rfl ?_
    refine lv_icmp_le (tgt := 30) K.1 K.2.1 (ck_Tab 102 19 (.if_icmp .le 11, 3, 0, 0, 0) rfl).1 rfl (fun _ => ?_) (fun z => absurd (Or.inr (Int32.not_le.mp z)) hb)
    refine (th_main0 (D := D) (tI := tI) (tJ := tJ) (tZ := tZ) (tO := tO) (base := base) (xa := xa) 20 102 _ r.2 30 _ [] (th_run (XL := XL) (xs := xs) (x := x) (a := a) htk htl hb)).2 p l e' _ s m _ below meth c _ M.2.2.2.2.1 M.2.2.2.2.2 hf (th_Kd (Nat.zero_le _) K) (Nat.le_refl _) (Nat.le_refl _) (fun H' locs' ls2 pc' hS' hR' hRt => ?_) H1 locs1 ls' hS1 hR1 hm.1 hm.2 hl'
    obtain ⟨h1, ty, h2, h3⟩ := hRt
    exact W.zret K.1 K.2.1 (K.2.2.2.2.2.1.trans h2) h3 (fun u hu _ => ⟨rfl, by rw [hu]; exact hR', hS'.F hu⟩) hS'.2.2 h1
theorem th_bgX (hf : l.flags = flags0) (hp : th_pr M x now) (hfind : sd_P XL xs D tI tJ tZ tO base xa 69 1 r M 0 (lv_args 0 [.ref now, .int a]) []) (hr : r.1 = some .null ∨ ∃ t, r.1 = some (.ref t) ∧ (b < 0 ∨ 4 < b)) : vx_Met l (mm_nm 102) (sd_wy 102) (th_rB (r.2.2.2.2.2.1 + 1 - M.2.2.2.2.1) (r.2.2.2.2.2.2 + 6 - M.2.2.2.2.2)) (sd_Pc XL xs D tI tJ tZ tO base xa M [.ref x, .int a, .int b]) (fun _ _ _ _ => False) (th_XC D tI tJ tZ tO base xa r.2) (r.2.2.2.2.2.1 + 1 - M.2.2.2.2.1) (r.2.2.2.2.2.2 + 6 - M.2.2.2.2.2) (sd_A base) := by
  obtain ⟨hx, hxl, hnow, hnk, hnl⟩ := hp
  have hy := (ck_y (y := 102) (by decide)).1
  have hm := hfind.1
  refine vx_ofW (cc := mm_by 102) (maxL := mm_nl 102) (ret := mm_rt 102) (by decide +kernel) rfl ?_
  intro p e' s m args below meth c s₁ B hml htab hv
  have ha := hv.1
  subst ha
  have hts := atoms_spec (ws := sd_wy 102) B.pre
  have K : sd_K XL xs D tI tJ tZ tO base xa p (th_rB (r.2.2.2.2.2.1 + 1 - M.2.2.2.2.1) (r.2.2.2.2.2.2 + 6 - M.2.2.2.2.2)) s m _ meth c 102 7 := th_K0 B rfl hml hy.2.2.2.2.2.1 rfl (fun w hw => hts w (List.mem_cons_of_mem _ hw)) (Nat.le_refl _) (Nat.le_refl _) hv
  have hlocks : meth.locks = false := K.2.2.2.2.2.2.1
  have hR := hv.2.1
  have hown : s.vm.findClass RX10 = some m.cls := K.2.2.2.1
  have hSk := K.2.2.2.2.2.2.2.2.2.2.1
  have hX := K.2.2.2.2.2.2.2.2.2.2.2.1
  have hl := lv_entry ([.ref x, .int a, .int b].map (sd_tv (sd_ad base xa))) (n := mm_nl 102) (by rw [sd_sl]; exact Nat.le_of_ble_eq_true rfl)
  have thr : ∀ (H1 : Heap) (locs1 : List Loc) (ls' : Array Slot), ls'.size = mm_nl 102 → sd_Rp D tI tJ tZ tO base xa r.2 H1 → va_S (sd_A base) s.heap H1 locs1 → W p l e' (th_rB (r.2.2.2.2.2.1 + 1 - M.2.2.2.2.1) (r.2.2.2.2.2.2 + 6 - M.2.2.2.2.2)) s m ([.ref x, .int a, .int b].map (sd_tv (sd_ad base xa))).toArray below meth c H1 locs1 (r.2.2.2.2.2.1 - M.2.2.2.2.1) (r.2.2.2.2.2.2 - M.2.2.2.2.2) (vx_MQ below (fun _ _ _ _ => False) (th_XC D tI tJ tZ tO base xa r.2) ([.ref x, .int a, .int b].map (sd_tv (sd_ad base xa))).toArray s (r.2.2.2.2.2.1 + 1 - M.2.2.2.2.1) (r.2.2.2.2.2.2 + 6 - M.2.2.2.2.2) (sd_A base)) (F0 m 22 ls' []) := by
    intro H1 locs1 ls' hz hR1 hS1
    exact vx_throw0 (cc := mm_by 102) (pc := 22) (own := RX10) (cls := th_X) (names := th_Ns) (ik := 187) (ic := 189) (A := sd_A base) K.1 K.2.1 (th_tr hf) hown (by decide +kernel) (by decide +kernel) (K.2.2.2.2.1 _ th_w1) (K.2.2.2.2.1 _ th_w2) (th_hat K.2.2.2.2.1 hSk.2.1) th_good hX.2.2.1 hX.2.2.2 hS1 (hz.trans K.2.2.1.symm) (by decide +kernel) (by decide +kernel) (by decide +kernel) (by decide +kernel) (fun x hx => (htab x hx).elim) (show 5 < 8 by decide) (by show 0 + (13 * 3 + 42) ≤ 512; decide) (by show r.2.2.2.2.2.1 - M.2.2.2.2.1 + 1 ≤ r.2.2.2.2.2.1 + 1 - M.2.2.2.2.1; omega) (by show r.2.2.2.2.2.2 - M.2.2.2.2.2 + 6 ≤ r.2.2.2.2.2.2 + 6 - M.2.2.2.2.2; omega) hlocks (fun t _ hsz hq => ⟨rfl, th_Rpu hR1 hq, ⟨Nat.le_trans hS1.1 hsz, fun q h1 h2 => (hq q (Nat.lt_of_lt_of_le h1 hS1.1)).trans (hS1.2.1 q h1 h2)⟩⟩) (fun z hz => hS1.2.2 z hz) (by omega) (by omega)
  rw [lg_entry_eq]
  have G := th_pre (Q := vx_MQ below (fun _ _ _ _ => False) (th_XC D tI tJ tZ tO base xa r.2) ([.ref x, .int a, .int b].map (sd_tv (sd_ad base xa))).toArray s (r.2.2.2.2.2.1 + 1 - M.2.2.2.2.1) (r.2.2.2.2.2.2 + 6 - M.2.2.2.2.2) (sd_A base)) (e' := e') (below := below) (c0 := M.2.2.2.2.1) (w0 := M.2.2.2.2.2) (b := b) hf K hx hxl hnow hnk hnl hfind (by show r.2.2.2.2.2.1 - M.2.2.2.2.1 ≤ r.2.2.2.2.2.1 + 1 - M.2.2.2.2.1; omega) (by show r.2.2.2.2.2.2 - M.2.2.2.2.2 ≤ r.2.2.2.2.2.2 + 6 - M.2.2.2.2.2; omega) (Nat.le_refl _) (Nat.le_refl _) va_S.rf hR hl ?_
  · rw [Nat.sub_self, Nat.sub_self] at G
    exact G
  · intro H1 locs1 hR1 hS1
    rcases hr with hr | ⟨t, hr, hb⟩
    · rw [hr]
      refine lv_astore_nN (lv' := [(3, .null), (0, .ref (sd_ad base xa x)), (1, .int a), (2, .int b)]) K.1 K.2.1 (ck_Tab 102 8 (.astore_n 3, 1, 0, 0, 0) rfl).1 rfl hl (by decide) rfl fun ls' hl' => ?_
      refine lv_aload_nN K.1 K.2.1 (ck_Tab 102 9 (.aload_n 3, 1, 0, 0, 0) rfl).1 rfl (lv_at hl' 0 rfl) ?_
      exact lv_ifnullN (tgt := 22) K.1 K.2.1 (ck_Tab 102 10 (.ifnull 12, 3, 0, 0, 0) rfl).1 rfl (thr H1 locs1 ls' hl'.1 hR1 hS1)
    · rw [hr]
      refine lv_astore_n (lv' := [(3, .ref (sd_ad base xa t)), (0, .ref (sd_ad base xa x)), (1, .int a), (2, .int b)]) K.1 K.2.1 (ck_Tab 102 8 (.astore_n 3, 1, 0, 0, 0) rfl).1 rfl hl (by decide) rfl fun ls' hl' => ?_
      refine lv_aload_n K.1 K.2.1 (ck_Tab 102 9 (.aload_n 3, 1, 0, 0, 0) rfl).1 rfl (lv_at hl' 0 rfl) ?_
      refine lv_ifnull K.1 K.2.1 (ck_Tab 102 10 (.ifnull 12, 3, 0, 0, 0) rfl).1 ?_
      refine lv_iload_n K.1 K.2.1 (ck_Tab 102 13 (.iload_n 2, 1, 0, 0, 0) rfl).1 rfl (lv_at hl' 3 rfl) ?_
      refine lv_if_lt (tgt := 22) K.1 K.2.1 (ck_Tab 102 14 (.ifCond .lt 8, 3, 0, 0, 0) rfl).1 rfl (fun _ => thr H1 locs1 ls' hl'.1 hR1 hS1) fun hb0 => ?_
      refine lv_iload_n K.1 K.2.1 (ck_Tab 102 17 (.iload_n 2, 1, 0, 0, 0) rfl).1 rfl (lv_at hl' 3 rfl) ?_
      refine lv_iconst (v := 4) K.1 K.2.1 (ck_Tab 102 18 (.iconst 4, 1, 0, 0, 0) rfl).1 rfl ?_
      exact lv_icmp_le (tgt := 30) K.1 K.2.1 (ck_Tab 102 19 (.if_icmp .le 11, 3, 0, 0, 0) rfl).1 rfl (fun z => (hb.elim hb0 (fun h => Int32.not_le.mpr h z)).elim) (fun _ => thr H1 locs1 ls' hl'.1 hR1 hS1)
/-- a call that throws -/
theorem th_runX {M1 : mm_M} {cells slots mc ms pc : Nat} {st0 rest : List Value} {Qa : State → Outcome → State → Prop}
    (hrun : vx_Run p l e' R s m args below meth c H locs cells slots mc ms (F0 m pc ls st0) rest Qa (th_XC D tI tJ tZ tO base xa M1) (sd_A base)) (hQ : ∀ st v t, Qa st (.returned v) t → False) (hS : va_S (sd_A base) s.heap H locs)
    (kk : ∀ (H1 : Heap) (locs1 : List Loc) (q : Addr) (ce : Cell), sd_Rp D tI tJ tZ tO base xa (th_up M1) H1 → va_S (sd_A base) s.heap H1 locs1 → H1[q]? = some ce → ce.vm = .none → s.vm.findClass th_X = some ce.cls → vx_W p l e' R s m args below meth c H1 locs1 (cells + mc) (slots + ms) Q (F0 m pc ls rest) q) : W p l e' R s m args below meth c H locs cells slots Q (F0 m pc ls st0) := by
  intro T hT X
  rcases hrun T hT X with ⟨v, st₀, t, T', L, h0, X', hL, e1, e2, hq, st⟩ | ⟨q, st₀, t, T', L, E, ce, h0, X', hL, e1, e2, hx, hce, hcv, hcl, st⟩
  · exact (hQ _ _ _ hq).elim
  · obtain ⟨rfl, hR1, hz, hk⟩ := hx
    rw [h0] at hz hk
    obtain ⟨t2, a1, b1⟩ := kk T'.heap (locs ++ L) q ce (by rw [e1]; exact hR1)
      ⟨Nat.le_trans hS.1 (by rw [e1]; exact hz), fun x h1 h2 => by rw [e1, hk x (Nat.lt_of_lt_of_le h1 hS.1) h2]; exact hS.2.1 x h1 h2, fun x hx => by
        rcases List.mem_append.mp hx with h | h
        · exact hS.2.2 x h
        · exact hL x h⟩ (by rw [e1]; exact hce) hcv hcl T' rfl X'
    exact ⟨t2, st.trans a1, b1⟩
end TH
