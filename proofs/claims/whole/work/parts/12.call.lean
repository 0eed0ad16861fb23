section SD
variable {XL : Nat} {xs : Nat → Int32} {D : va_G} {tI tJ tZ : ClassId} {tO : Nat → ClassId} {base : Nat} {xa : Nat → Nat}
variable {y d : Nat} {q : mm_R} {M : mm_M} {pc : Nat} {lv : mm_L} {st : List Value} {k : mm_M → Nat → mm_L → List Value → Option mm_R} {cal : Nat → List Value → (Option Value → mm_M → Option mm_R) → Option mm_R} {e : Nat × Nat × Nat × Int}

theorem sd_sl (vs : List Value) : (lg_sl vs).length = (vs.map fun v => v.category).sum := by
  induction vs with
  | nil => rfl
  | cons v vs ih =>
    have hc := lv_cat v
    have e : lg_sl (v :: vs) = (if v.category = 2 then [.val v, .second] else [.val v]) ++ lg_sl vs := by simp [lg_sl]
    rw [e, List.length_append, ih, List.map_cons, List.sum_cons]
    rcases hc with h | h <;> simp [h]
theorem sd_sum (ad : Nat → Nat) (vs : List Value) : ((vs.map (sd_tv ad)).map fun v => v.category).sum = (vs.map fun v => v.category).sum := by
  rw [List.map_map]
  congr 1
  exact List.map_congr_left fun v _ => sd_cat ad v
theorem sd_warmD {x : MethodName} {s U : State} (hW : s.WarmedH U.vm) (hZ : va_Nw (.declares x) s) : va_Nw (.declares x) U := va_tabs rfl (rfl : (s.setVm U.vm).vm = U.vm) (by rw [Cond.declares_setVm hW.alike]; exact hZ)
/-- what the tables say of a state, kept where nothing moved but frames and what is warm -/
theorem sd_Skw {s U : State} (hW : s.WarmedH U.vm) (h : sd_Sk D tI tJ tZ tO s) : sd_Sk D tI tJ tZ tO U := by
  refine ⟨va_K.moved hW.alike h.1, fun w hw => ?_, h.2.2.1.moved hW.alike, h.2.2.2.1.moved hW.alike, h.2.2.2.2.moved hW.alike⟩
  have h1 := h.2.1 w hw
  have h2 := (List.mem_filter.mp hw).2
  cases w <;> simp [sd_nst] at h2
  all_goals first | exact va_Nw.warmM hW h1 | exact va_Nw.warmF hW h1 | exact va_Nw.warmC hW h1 | exact sd_warmD hW h1
theorem sd_Skc {U : State} {g : JFrame} {mk : MethodId} {a : Array Value} (h : sd_Sk D tI tJ tZ tO U) : sd_Sk D tI tJ tZ tO (U.calling g mk a) := by
  refine ⟨va_K.moved (u := U) (U := U.calling g mk a) (Vm.Alike.refl U.vm) h.1, fun w hw => ?_, h.2.2.1.moved (u := U) (U := U.calling g mk a) (Vm.Alike.refl U.vm), h.2.2.2.1.moved (u := U) (U := U.calling g mk a) (Vm.Alike.refl U.vm), h.2.2.2.2.moved (u := U) (U := U.calling g mk a) (Vm.Alike.refl U.vm)⟩
  have h1 := h.2.1 w hw
  have h2 := (List.mem_filter.mp hw).2
  cases w <;> simp [sd_nst] at h2
  all_goals exact va_Nw.same (u := U) (U := U.calling g mk a) rfl rfl h1
theorem sd_Xm {u U : State} {H : Heap} (hvm : u.vm.Alike U.vm) (h : sd_X XL xs base xa u H) : sd_X XL xs base xa U H := ⟨fun e => (h.1 e).moved hvm, fun e h1 h2 => (h.2.1 e h1 h2).moved hvm, vx_Zq.moved hvm h.2.2.1, vx_Zq.moved hvm h.2.2.2⟩
theorem sd_Xk {U : State} {H H1 : Heap} (h : sd_X XL xs base xa U H) (hq : ∀ a : Nat, a < H.size → ¬ sd_A base a → H1[a]? = H[a]?) : sd_X XL xs base xa U H1 := ⟨fun e => (h.1 e).kept hq, fun e h1 h2 => (h.2.1 e h1 h2).kept hq, vx_Zq.kept h.2.2.1 hq, vx_Zq.kept h.2.2.2 hq⟩
def sd_Yok (y : Nat) : Prop := Cond.code (mm_nm y) (mm_by y) (mm_nl y) (mm_rt y) ∈ sd_gW ∧ plainFor (mm_nm y) = true ∧ Cond.initialized (mm_nm y).cls ∈ sd_gW ∧ ((mm_nm y).cls ≠ "java/lang/invoke/MethodHandle" ∧ (mm_nm y).cls ≠ "java/lang/invoke/VarHandle" ∧ (parseMethodDescriptor (mm_nm y).desc).map (fun d => d.parameters.length) = some (mm_na y)) ∧ mm_nl y ≤ 40 ∧ (mm_nm y).cls = mm_Rn (mm_oc y) ∧ (mm_in y = true → (mm_nm y).name = "<init>")
def sd_wy (y : Nat) : List Cond := Cond.code (mm_nm y) (mm_by y) (mm_nl y) (mm_rt y) :: sd_gW
variable (XL xs D tI tJ tZ tO base xa) in
def sd_Pc (M : mm_M) (as : List Value) : Array Value → State → Prop := fun v U => v = (as.map (sd_tv (sd_ad base xa))).toArray ∧ sd_Rp D tI tJ tZ tO base xa M U.heap ∧ sd_Sk D tI tJ tZ tO U ∧ sd_X XL xs base xa U U.heap ∧ base ≤ U.heap.size
variable (D tI tJ tZ tO base xa) in
def sd_Qc (q : mm_R) : Array Value → State → Outcome → State → Prop := fun _ st o t => o = .returned (q.1.map (sd_tv (sd_ad base xa))) ∧ sd_Rp D tI tJ tZ tO base xa q.2 t.heap ∧ va_F (sd_A base) st t
abbrev sd_rm (d : Nat) (M : mm_M) (q : mm_R) : Room := { frames := d + 1, cells := q.2.2.2.2.2.1 - M.2.2.2.2.1, slots := q.2.2.2.2.2.2 - M.2.2.2.2.2, locals := 64 * (d + 1) }
theorem sd_good {y : Nat} (hy : sd_Yok y) : GoodIn sd_gW (sd_wy y) := by
  intro w hw
  have h1 : w ∈ sd_gW := by
    rcases List.mem_cons.mp hw with rfl | h
    · exact hy.1
    · exact h
  exact ⟨h1, good_of_word (List.mem_filter.mp h1).2⟩
theorem sd_ofW {l : Launch} {yn : MethodName} {ws ws' : List Cond} {rm : Room} {Pc : Array Value → State → Prop} {Qc : Array Value → State → Outcome → State → Prop} {mc ms : Nat} {free : Addr → Prop} {cc : ByteArray} {maxL : Nat} {ret : Option FieldType}
    (hy : plainFor yn = true) (hw : ws = Cond.code yn cc maxL ret :: ws')
    (body : ∀ p e s m args below meth c s₁, BodyLoose p l yn (headSpec ws rm) cc maxL ret e s m args below meth c s₁ → c.maxLocals = maxL → Pc args s →
      W p l e (headSpec ws rm).room s m args below meth c s.heap [] 0 0 (MQ below Qc args s mc ms free) (entryFrame m args maxL)) : Met l yn ws rm Pc Qc mc ms free := by
  refine MetFree.of_bodySF (code := cc) (maxLocals := maxL) (ret := ret) hy ?_ ?_
  · intro args s m h hn
    obtain ⟨meth, c, h1, h2, h3, h4, h5, h6, -, -⟩ := Cond.code_spec hn (atoms_spec (ws := ws) h _ (by rw [hw]; exact List.mem_cons_self))
    exact ⟨meth, c, h1, h2, h3, h4, h5, h6⟩
  · intro p e s m args below meth c s₁ B hml hP _
    have hh0 : s₁.heap = s.heap := by rw [B.state]; rfl
    obtain ⟨t, a1, o, b1, b2, b3⟩ := body p e s m args below meth c s₁ B hml hP s₁ hh0 (Stand.of_body B)
    exact ⟨t, o, a1, b1, b2, ⟨b3.1, b3.2⟩⟩
/-- a method's contract -/
theorem sd_met {l : Launch} (hf : l.flags = flags0) {as : List Value} (hP : sd_P XL xs D tI tJ tZ tO base xa y d q M 0 (lv_args 0 as) []) (hy : sd_Yok y) (hcat : (as.map fun v => v.category).sum ≤ mm_nl y) : Met l (mm_nm y) (sd_wy y) (sd_rm d M q) (sd_Pc XL xs D tI tJ tZ tO base xa M as) (sd_Qc D tI tJ tZ tO base xa q) (q.2.2.2.2.2.1 - M.2.2.2.2.1) (q.2.2.2.2.2.2 - M.2.2.2.2.2) (sd_A base) := by
  refine sd_ofW (cc := mm_by y) (maxL := mm_nl y) (ret := mm_rt y) hy.2.1 rfl ?_
  intro p e' s m args below meth c s₁ B hml hv
  obtain ⟨rfl, hR, hSk, hX, hb⟩ := hv
  have hts := atoms_spec (ws := sd_wy y) B.pre
  have hlocks := B.notSynchronized
  have K : sd_K XL xs D tI tJ tZ tO base xa p (headSpec (sd_wy y) (sd_rm d M q)).room s m (as.map (sd_tv (sd_ad base xa))).toArray meth c y d :=
    ⟨B.exec, B.bytes, hml, by rw [← hy.2.2.2.2.2.1]; exact findClass_of_methodNamed B.named, fun w hw => hts w (List.mem_cons_of_mem _ hw), B.returns, hlocks, fun hi => (name_of_methodNamed B.named B.method).1.trans (hy.2.2.2.2.2.2 hi), Nat.le_refl _, Nat.le_refl _, hSk, hX, hb⟩
  have hl := lv_entry (as.map (sd_tv (sd_ad base xa))) (n := mm_nl y) (by rw [sd_sl, sd_sum]; exact hcat)
  rw [sd_args] at hl
  rw [lg_entry_eq]
  have G := hP.2 p l e' _ s m _ below meth c (MQ below (sd_Qc D tI tJ tZ tO base xa q) (as.map (sd_tv (sd_ad base xa))).toArray s (q.2.2.2.2.2.1 - M.2.2.2.2.1) (q.2.2.2.2.2.2 - M.2.2.2.2.2) (sd_A base)) M.2.2.2.2.1 M.2.2.2.2.2 hf K (Nat.le_refl _) (Nat.le_refl _) ?_ s.heap [] _ va_S.rf hR (Nat.le_refl _) (Nat.le_refl _) hl
  · rw [Nat.sub_self, Nat.sub_self] at G
    exact G
  · intro H' locs' ls' pc' hS' hR' hRt
    have hq : ∀ t : State, t.heap = H' → s.WarmedH t.vm → sd_Qc D tI tJ tZ tO base xa q (as.map (sd_tv (sd_ad base xa))).toArray s (.returned (q.1.map (sd_tv (sd_ad base xa)))) t := fun t ht _ => ⟨rfl, by rw [ht]; exact hR', hS'.F ht⟩
    obtain ⟨r, M1⟩ := q
    match r, hRt, hq with
    | none, hRt, hq => exact W.vret K.1 K.2.1 (K.2.2.2.2.2.1.trans hRt.2) hq hS'.2.2 hRt.1
    | some (.int v), ⟨h1, ty, h2, h3⟩, hq => exact W.zret K.1 K.2.1 (K.2.2.2.2.2.1.trans h2) h3 hq hS'.2.2 h1
    | some (.long v), hRt, hq => exact W.lret K.1 K.2.1 (K.2.2.2.2.2.1.trans hRt.2) hq hS'.2.2 hRt.1
    | some (.ref v), ⟨h1, C, h2⟩, hq => exact W.aret K.1 K.2.1 (K.2.2.2.2.2.1.trans h2) (Or.inl ⟨C, rfl⟩) (Or.inr ⟨_, rfl⟩) hq hS'.2.2 h1
    | some .null, ⟨h1, C, h2⟩, hq => exact W.aret K.1 K.2.1 (K.2.2.2.2.2.1.trans h2) (Or.inl ⟨C, rfl⟩) (Or.inl rfl) hq hS'.2.2 h1
    | some (.float _), hRt, _ => exact hRt.elim
    | some (.double _), hRt, _ => exact hRt.elim
    | some (.retAddr _), hRt, _ => exact hRt.elim
theorem sd_blind {as : List Value} : FrameBlind (sd_Pc XL xs D tI tJ tZ tO base xa M as) := fun a U g mk h =>
  ⟨h.1, h.2.1, sd_Skc h.2.2.1, sd_Xm (u := U) (U := U.calling g mk a) (Vm.Alike.refl U.vm) h.2.2.2.1, h.2.2.2.2⟩
theorem sd_pre {as : List Value} {s : State} {H : Heap} {locs : List Loc} (hSk : sd_Sk D tI tJ tZ tO s) (hX : sd_X XL xs base xa s s.heap) (hb : base ≤ s.heap.size) (hS : va_S (sd_A base) s.heap H locs) (hR : sd_Rp D tI tJ tZ tO base xa M H) : ∀ U : State, U.heap = H → s.WarmedH U.vm → sd_Pc XL xs D tI tJ tZ tO base xa M as (as.map (sd_tv (sd_ad base xa))).toArray U := fun U hU hW =>
  ⟨rfl, by rw [hU]; exact hR, sd_Skw hW hSk, by rw [hU]; exact sd_Xk (sd_Xm hW.alike hX) hS.2.1, by rw [hU]; exact Nat.le_trans hb hS.1⟩
theorem sd_run {p : Program} {l : Launch} {e' : Env} {R : Room} {s : State} {m : MethodId} {args : Array Value} {below : List Frame} {meth : Method} {c : Code} {H : Heap} {locs : List Loc} {cells slots mc ms : Nat} {Q : State → Prop} {ls : Array Slot} {st0 rest : List Value} {a : Array Value}
    (hrun : va_Run p l e' R s m args below meth c H locs cells slots mc ms (F0 m pc ls st0) rest (sd_Qc D tI tJ tZ tO base xa q a) (sd_A base)) (hS : va_S (sd_A base) s.heap H locs)
    (kk : ∀ (H1 : Heap) (locs1 : List Loc), sd_Rp D tI tJ tZ tO base xa q.2 H1 → va_S (sd_A base) s.heap H1 locs1 → W p l e' R s m args below meth c H1 locs1 (cells + mc) (slots + ms) Q (F0 m (pc + 3) ls ((q.1.map (sd_tv (sd_ad base xa))).toList ++ rest))) : W p l e' R s m args below meth c H locs cells slots Q (F0 m pc ls st0) := by
  intro T hT X
  obtain ⟨v, st₀, t, T', L, h0, X', hL, e1, e2, ⟨hv, hR1, hz, hk⟩, st⟩ := hrun T hT X
  cases hv
  rw [h0] at hz hk
  obtain ⟨t2, a1, b1⟩ := kk T'.heap (locs ++ L) (by rw [e1]; exact hR1)
    ⟨Nat.le_trans hS.1 (by rw [e1]; exact hz), fun x h1 h2 => by rw [e1, hk x (Nat.lt_of_lt_of_le h1 hS.1) h2]; exact hS.2.1 x h1 h2, fun x hx => by
      rcases List.mem_append.mp hx with h | h
      · exact hS.2.2 x h
      · exact hL x h⟩ T' rfl X'
  exact ⟨t2, st t2 a1, b1⟩
end SD
