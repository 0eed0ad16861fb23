section SD
variable {XL : Nat} {xs : Nat → Int32} {D : va_G} {tI tJ tZ : ClassId} {tO : Nat → ClassId} {base : Nat} {xa : Nat → Nat}
variable {y d : Nat} {q : mm_R} {M : mm_M} {pc : Nat} {lv : mm_L} {st : List Value} {k : mm_M → Nat → mm_L → List Value → Option mm_R} {cal : Nat → List Value → (Option Value → mm_M → Option mm_R) → Option mm_R} {e : Nat × Nat × Nat × Int}

theorem sd_aconst_null (hk : ∀ M pc lv st, k M pc lv st = some q → sd_P XL xs D tI tJ tZ tO base xa y d q M pc lv st)  (hd : decode (mm_by y) pc = .ok (.aconst_null, 1))  (h : mm_ex XL xs y (.aconst_null, e) M pc lv st k cal = some q) : sd_P XL xs D tI tJ tZ tO base xa y d q M pc lv st := by
  unfold mm_ex at h
  dsimp only at h
  refine ⟨(hk _ _ _ _ h).1, fun p l e R s m args below meth c Q c0 w0 hf K hc hw hr H locs ls hS hR h1 h2 hl => ?_⟩
  exact lv_null K.1 K.2.1 hd ((hk _ _ _ _ h).2 p l e R s m args below meth c Q c0 w0 hf K hc hw hr H locs ls hS hR h1 h2 hl)

theorem sd_iconst (hk : ∀ M pc lv st, k M pc lv st = some q → sd_P XL xs D tI tJ tZ tO base xa y d q M pc lv st) {i : Int} (hd : decode (mm_by y) pc = .ok (.iconst i, 1))  (h : mm_ex XL xs y (.iconst i, e) M pc lv st k cal = some q) : sd_P XL xs D tI tJ tZ tO base xa y d q M pc lv st := by
  unfold mm_ex at h
  dsimp only at h
  refine ⟨(hk _ _ _ _ h).1, fun p l e R s m args below meth c Q c0 w0 hf K hc hw hr H locs ls hS hR h1 h2 hl => ?_⟩
  exact lv_iconst K.1 K.2.1 hd rfl ((hk _ _ _ _ h).2 p l e R s m args below meth c Q c0 w0 hf K hc hw hr H locs ls hS hR h1 h2 hl)

theorem sd_bipush (hk : ∀ M pc lv st, k M pc lv st = some q → sd_P XL xs D tI tJ tZ tO base xa y d q M pc lv st) {i : Int} (hd : decode (mm_by y) pc = .ok (.bipush i, 2))  (h : mm_ex XL xs y (.bipush i, e) M pc lv st k cal = some q) : sd_P XL xs D tI tJ tZ tO base xa y d q M pc lv st := by
  unfold mm_ex at h
  dsimp only at h
  refine ⟨(hk _ _ _ _ h).1, fun p l e R s m args below meth c Q c0 w0 hf K hc hw hr H locs ls hS hR h1 h2 hl => ?_⟩
  exact lv_bipush K.1 K.2.1 hd rfl ((hk _ _ _ _ h).2 p l e R s m args below meth c Q c0 w0 hf K hc hw hr H locs ls hS hR h1 h2 hl)

theorem sd_sipush (hk : ∀ M pc lv st, k M pc lv st = some q → sd_P XL xs D tI tJ tZ tO base xa y d q M pc lv st) {i : Int} (hd : decode (mm_by y) pc = .ok (.sipush i, 3))  (h : mm_ex XL xs y (.sipush i, e) M pc lv st k cal = some q) : sd_P XL xs D tI tJ tZ tO base xa y d q M pc lv st := by
  unfold mm_ex at h
  dsimp only at h
  refine ⟨(hk _ _ _ _ h).1, fun p l e R s m args below meth c Q c0 w0 hf K hc hw hr H locs ls hS hR h1 h2 hl => ?_⟩
  exact lv_sipush K.1 K.2.1 hd rfl ((hk _ _ _ _ h).2 p l e R s m args below meth c Q c0 w0 hf K hc hw hr H locs ls hS hR h1 h2 hl)

theorem sd_lconst (hk : ∀ M pc lv st, k M pc lv st = some q → sd_P XL xs D tI tJ tZ tO base xa y d q M pc lv st) {i : Fin 2} (hd : decode (mm_by y) pc = .ok (.lconst i, 1))  (h : mm_ex XL xs y (.lconst i, e) M pc lv st k cal = some q) : sd_P XL xs D tI tJ tZ tO base xa y d q M pc lv st := by
  unfold mm_ex at h
  dsimp only at h
  refine ⟨(hk _ _ _ _ h).1, fun p l e R s m args below meth c Q c0 w0 hf K hc hw hr H locs ls hS hR h1 h2 hl => ?_⟩
  exact lv_lconst K.1 K.2.1 hd rfl ((hk _ _ _ _ h).2 p l e R s m args below meth c Q c0 w0 hf K hc hw hr H locs ls hS hR h1 h2 hl)

theorem sd_ldc (hk : ∀ M pc lv st, k M pc lv st = some q → sd_P XL xs D tI tJ tZ tO base xa y d q M pc lv st) {i : Nat} (hd : decode (mm_by y) pc = .ok (.ldc i, 2)) (hw0 : Cond.constant (mm_Rn (mm_oc y)) i (Int32.ofInt e.2.2.2) ∈ sd_gW) (h : mm_ex XL xs y (.ldc i, e) M pc lv st k cal = some q) : sd_P XL xs D tI tJ tZ tO base xa y d q M pc lv st := by
  unfold mm_ex at h
  dsimp only at h
  refine ⟨(hk _ _ _ _ h).1, fun p l e R s m args below meth c Q c0 w0 hf K hc hw hr H locs ls hS hR h1 h2 hl => ?_⟩
  exact lv_ldc K.1 K.2.1 K.2.2.2.1 (K.2.2.2.2.1 _ hw0) hd ((hk _ _ _ _ h).2 p l e R s m args below meth c Q c0 w0 hf K hc hw hr H locs ls hS hR h1 h2 hl)

theorem sd_ldc_w (hk : ∀ M pc lv st, k M pc lv st = some q → sd_P XL xs D tI tJ tZ tO base xa y d q M pc lv st) {i : Nat} (hd : decode (mm_by y) pc = .ok (.ldc_w i, 3)) (hw0 : Cond.constant (mm_Rn (mm_oc y)) i (Int32.ofInt e.2.2.2) ∈ sd_gW) (h : mm_ex XL xs y (.ldc_w i, e) M pc lv st k cal = some q) : sd_P XL xs D tI tJ tZ tO base xa y d q M pc lv st := by
  unfold mm_ex at h
  dsimp only at h
  refine ⟨(hk _ _ _ _ h).1, fun p l e R s m args below meth c Q c0 w0 hf K hc hw hr H locs ls hS hR h1 h2 hl => ?_⟩
  exact lv_ldcw K.1 K.2.1 K.2.2.2.1 (K.2.2.2.2.1 _ hw0) hd ((hk _ _ _ _ h).2 p l e R s m args below meth c Q c0 w0 hf K hc hw hr H locs ls hS hR h1 h2 hl)

theorem sd_ldc2_w (hk : ∀ M pc lv st, k M pc lv st = some q → sd_P XL xs D tI tJ tZ tO base xa y d q M pc lv st) {i : Nat} (hd : decode (mm_by y) pc = .ok (.ldc2_w i, 3)) (hw0 : Cond.constantLong (mm_Rn (mm_oc y)) i (Int64.ofInt e.2.2.2) ∈ sd_gW) (h : mm_ex XL xs y (.ldc2_w i, e) M pc lv st k cal = some q) : sd_P XL xs D tI tJ tZ tO base xa y d q M pc lv st := by
  unfold mm_ex at h
  dsimp only at h
  refine ⟨(hk _ _ _ _ h).1, fun p l e R s m args below meth c Q c0 w0 hf K hc hw hr H locs ls hS hR h1 h2 hl => ?_⟩
  exact lv_ldc2 K.1 K.2.1 K.2.2.2.1 (K.2.2.2.2.1 _ hw0) hd ((hk _ _ _ _ h).2 p l e R s m args below meth c Q c0 w0 hf K hc hw hr H locs ls hS hR h1 h2 hl)

theorem sd_iload_n (hk : ∀ M pc lv st, k M pc lv st = some q → sd_P XL xs D tI tJ tZ tO base xa y d q M pc lv st) {i : Fin 4} (hd : decode (mm_by y) pc = .ok (.iload_n i, 1))  (h : mm_ex XL xs y (.iload_n i, e) M pc lv st k cal = some q) : sd_P XL xs D tI tJ tZ tO base xa y d q M pc lv st := by
  unfold mm_ex at h
  dsimp only at h
  split at h
  · rename_i hg
    refine ⟨(hk _ _ _ _ h).1, fun p l e R s m args below meth c Q c0 w0 hf K hc hw hr H locs ls hS hR h1 h2 hl => ?_⟩
    exact lv_iload_n K.1 K.2.1 hd rfl (sd_la hl hg) ((hk _ _ _ _ h).2 p l e R s m args below meth c Q c0 w0 hf K hc hw hr H locs ls hS hR h1 h2 hl)
  · cases h

theorem sd_iload (hk : ∀ M pc lv st, k M pc lv st = some q → sd_P XL xs D tI tJ tZ tO base xa y d q M pc lv st) {i : Nat} (hd : decode (mm_by y) pc = .ok (.iload i, 2))  (h : mm_ex XL xs y (.iload i, e) M pc lv st k cal = some q) : sd_P XL xs D tI tJ tZ tO base xa y d q M pc lv st := by
  unfold mm_ex at h
  dsimp only at h
  split at h
  · rename_i hg
    refine ⟨(hk _ _ _ _ h).1, fun p l e R s m args below meth c Q c0 w0 hf K hc hw hr H locs ls hS hR h1 h2 hl => ?_⟩
    exact lv_iload K.1 K.2.1 hd (sd_la hl hg) ((hk _ _ _ _ h).2 p l e R s m args below meth c Q c0 w0 hf K hc hw hr H locs ls hS hR h1 h2 hl)
  · cases h

theorem sd_lload_n (hk : ∀ M pc lv st, k M pc lv st = some q → sd_P XL xs D tI tJ tZ tO base xa y d q M pc lv st) {i : Fin 4} (hd : decode (mm_by y) pc = .ok (.lload_n i, 1))  (h : mm_ex XL xs y (.lload_n i, e) M pc lv st k cal = some q) : sd_P XL xs D tI tJ tZ tO base xa y d q M pc lv st := by
  unfold mm_ex at h
  dsimp only at h
  split at h
  · rename_i hg
    refine ⟨(hk _ _ _ _ h).1, fun p l e R s m args below meth c Q c0 w0 hf K hc hw hr H locs ls hS hR h1 h2 hl => ?_⟩
    exact lv_lload_n K.1 K.2.1 hd rfl (sd_la hl hg) ((hk _ _ _ _ h).2 p l e R s m args below meth c Q c0 w0 hf K hc hw hr H locs ls hS hR h1 h2 hl)
  · cases h

theorem sd_lload (hk : ∀ M pc lv st, k M pc lv st = some q → sd_P XL xs D tI tJ tZ tO base xa y d q M pc lv st) {i : Nat} (hd : decode (mm_by y) pc = .ok (.lload i, 2))  (h : mm_ex XL xs y (.lload i, e) M pc lv st k cal = some q) : sd_P XL xs D tI tJ tZ tO base xa y d q M pc lv st := by
  unfold mm_ex at h
  dsimp only at h
  split at h
  · rename_i hg
    refine ⟨(hk _ _ _ _ h).1, fun p l e R s m args below meth c Q c0 w0 hf K hc hw hr H locs ls hS hR h1 h2 hl => ?_⟩
    exact lv_lload K.1 K.2.1 hd (sd_la hl hg) ((hk _ _ _ _ h).2 p l e R s m args below meth c Q c0 w0 hf K hc hw hr H locs ls hS hR h1 h2 hl)
  · cases h

theorem sd_aload_n (hk : ∀ M pc lv st, k M pc lv st = some q → sd_P XL xs D tI tJ tZ tO base xa y d q M pc lv st) {i : Fin 4} (hd : decode (mm_by y) pc = .ok (.aload_n i, 1))  (h : mm_ex XL xs y (.aload_n i, e) M pc lv st k cal = some q) : sd_P XL xs D tI tJ tZ tO base xa y d q M pc lv st := by
  unfold mm_ex at h
  dsimp only at h
  split at h
  · rename_i hg
    refine ⟨(hk _ _ _ _ h).1, fun p l e R s m args below meth c Q c0 w0 hf K hc hw hr H locs ls hS hR h1 h2 hl => ?_⟩
    exact lv_aload_n K.1 K.2.1 hd rfl (sd_la hl hg) ((hk _ _ _ _ h).2 p l e R s m args below meth c Q c0 w0 hf K hc hw hr H locs ls hS hR h1 h2 hl)
  · rename_i hg
    refine ⟨(hk _ _ _ _ h).1, fun p l e R s m args below meth c Q c0 w0 hf K hc hw hr H locs ls hS hR h1 h2 hl => ?_⟩
    exact lv_aload_nN K.1 K.2.1 hd rfl (sd_la hl hg) ((hk _ _ _ _ h).2 p l e R s m args below meth c Q c0 w0 hf K hc hw hr H locs ls hS hR h1 h2 hl)
  · cases h

theorem sd_aload (hk : ∀ M pc lv st, k M pc lv st = some q → sd_P XL xs D tI tJ tZ tO base xa y d q M pc lv st) {i : Nat} (hd : decode (mm_by y) pc = .ok (.aload i, 2))  (h : mm_ex XL xs y (.aload i, e) M pc lv st k cal = some q) : sd_P XL xs D tI tJ tZ tO base xa y d q M pc lv st := by
  unfold mm_ex at h
  dsimp only at h
  split at h
  · rename_i hg
    refine ⟨(hk _ _ _ _ h).1, fun p l e R s m args below meth c Q c0 w0 hf K hc hw hr H locs ls hS hR h1 h2 hl => ?_⟩
    exact lv_aload K.1 K.2.1 hd (sd_la hl hg) ((hk _ _ _ _ h).2 p l e R s m args below meth c Q c0 w0 hf K hc hw hr H locs ls hS hR h1 h2 hl)
  · rename_i hg
    refine ⟨(hk _ _ _ _ h).1, fun p l e R s m args below meth c Q c0 w0 hf K hc hw hr H locs ls hS hR h1 h2 hl => ?_⟩
    exact lv_aloadN K.1 K.2.1 hd (sd_la hl hg) ((hk _ _ _ _ h).2 p l e R s m args below meth c Q c0 w0 hf K hc hw hr H locs ls hS hR h1 h2 hl)
  · cases h

theorem sd_istore_n (hk : ∀ M pc lv st, k M pc lv st = some q → sd_P XL xs D tI tJ tZ tO base xa y d q M pc lv st) {i : Fin 4} (hd : decode (mm_by y) pc = .ok (.istore_n i, 1))  (h : mm_ex XL xs y (.istore_n i, e) M pc lv st k cal = some q) : sd_P XL xs D tI tJ tZ tO base xa y d q M pc lv st := by
  unfold mm_ex at h
  dsimp only at h
  split at h
  · obtain ⟨hb, h⟩ := sd_bif h
    refine ⟨(hk _ _ _ _ h).1, fun p l e R s m args below meth c Q c0 w0 hf K hc hw hr H locs ls hS hR h1 h2 hl => ?_⟩
    exact lv_istore_n K.1 K.2.1 hd rfl hl (sd_blt hb) (sd_s1 _ i (.int _) lv) (fun ls' hl' => (hk _ _ _ _ h).2 p l e R s m args below meth c Q c0 w0 hf K hc hw hr H locs ls' hS hR h1 h2 hl')
  · cases h

theorem sd_istore (hk : ∀ M pc lv st, k M pc lv st = some q → sd_P XL xs D tI tJ tZ tO base xa y d q M pc lv st) {i : Nat} (hd : decode (mm_by y) pc = .ok (.istore i, 2))  (h : mm_ex XL xs y (.istore i, e) M pc lv st k cal = some q) : sd_P XL xs D tI tJ tZ tO base xa y d q M pc lv st := by
  unfold mm_ex at h
  dsimp only at h
  split at h
  · obtain ⟨hb, h⟩ := sd_bif h
    refine ⟨(hk _ _ _ _ h).1, fun p l e R s m args below meth c Q c0 w0 hf K hc hw hr H locs ls hS hR h1 h2 hl => ?_⟩
    exact lv_istore K.1 K.2.1 hd hl (sd_blt hb) (sd_s1 _ i (.int _) lv) (fun ls' hl' => (hk _ _ _ _ h).2 p l e R s m args below meth c Q c0 w0 hf K hc hw hr H locs ls' hS hR h1 h2 hl')
  · cases h

theorem sd_lstore_n (hk : ∀ M pc lv st, k M pc lv st = some q → sd_P XL xs D tI tJ tZ tO base xa y d q M pc lv st) {i : Fin 4} (hd : decode (mm_by y) pc = .ok (.lstore_n i, 1))  (h : mm_ex XL xs y (.lstore_n i, e) M pc lv st k cal = some q) : sd_P XL xs D tI tJ tZ tO base xa y d q M pc lv st := by
  unfold mm_ex at h
  dsimp only at h
  split at h
  · obtain ⟨hb, h⟩ := sd_bif h
    refine ⟨(hk _ _ _ _ h).1, fun p l e R s m args below meth c Q c0 w0 hf K hc hw hr H locs ls hS hR h1 h2 hl => ?_⟩
    exact lv_lstore_n K.1 K.2.1 hd rfl hl (sd_blt hb) (sd_s2 _ i (.long _) lv) (fun ls' hl' => (hk _ _ _ _ h).2 p l e R s m args below meth c Q c0 w0 hf K hc hw hr H locs ls' hS hR h1 h2 hl')
  · cases h

theorem sd_lstore (hk : ∀ M pc lv st, k M pc lv st = some q → sd_P XL xs D tI tJ tZ tO base xa y d q M pc lv st) {i : Nat} (hd : decode (mm_by y) pc = .ok (.lstore i, 2))  (h : mm_ex XL xs y (.lstore i, e) M pc lv st k cal = some q) : sd_P XL xs D tI tJ tZ tO base xa y d q M pc lv st := by
  unfold mm_ex at h
  dsimp only at h
  split at h
  · obtain ⟨hb, h⟩ := sd_bif h
    refine ⟨(hk _ _ _ _ h).1, fun p l e R s m args below meth c Q c0 w0 hf K hc hw hr H locs ls hS hR h1 h2 hl => ?_⟩
    exact lv_lstore K.1 K.2.1 hd hl (sd_blt hb) (sd_s2 _ i (.long _) lv) (fun ls' hl' => (hk _ _ _ _ h).2 p l e R s m args below meth c Q c0 w0 hf K hc hw hr H locs ls' hS hR h1 h2 hl')
  · cases h

theorem sd_astore_n (hk : ∀ M pc lv st, k M pc lv st = some q → sd_P XL xs D tI tJ tZ tO base xa y d q M pc lv st) {i : Fin 4} (hd : decode (mm_by y) pc = .ok (.astore_n i, 1))  (h : mm_ex XL xs y (.astore_n i, e) M pc lv st k cal = some q) : sd_P XL xs D tI tJ tZ tO base xa y d q M pc lv st := by
  unfold mm_ex at h
  dsimp only at h
  split at h
  · obtain ⟨hb, h⟩ := sd_bif h
    refine ⟨(hk _ _ _ _ h).1, fun p l e R s m args below meth c Q c0 w0 hf K hc hw hr H locs ls hS hR h1 h2 hl => ?_⟩
    exact lv_astore_n K.1 K.2.1 hd rfl hl (sd_blt hb) (sd_s1 _ i (.ref _) lv) (fun ls' hl' => (hk _ _ _ _ h).2 p l e R s m args below meth c Q c0 w0 hf K hc hw hr H locs ls' hS hR h1 h2 hl')
  · obtain ⟨hb, h⟩ := sd_bif h
    refine ⟨(hk _ _ _ _ h).1, fun p l e R s m args below meth c Q c0 w0 hf K hc hw hr H locs ls hS hR h1 h2 hl => ?_⟩
    exact lv_astore_nN K.1 K.2.1 hd rfl hl (sd_blt hb) (sd_s1 (sd_ad base xa) i .null lv) (fun ls' hl' => (hk _ _ _ _ h).2 p l e R s m args below meth c Q c0 w0 hf K hc hw hr H locs ls' hS hR h1 h2 hl')
  · cases h

theorem sd_astore (hk : ∀ M pc lv st, k M pc lv st = some q → sd_P XL xs D tI tJ tZ tO base xa y d q M pc lv st) {i : Nat} (hd : decode (mm_by y) pc = .ok (.astore i, 2))  (h : mm_ex XL xs y (.astore i, e) M pc lv st k cal = some q) : sd_P XL xs D tI tJ tZ tO base xa y d q M pc lv st := by
  unfold mm_ex at h
  dsimp only at h
  split at h
  · obtain ⟨hb, h⟩ := sd_bif h
    refine ⟨(hk _ _ _ _ h).1, fun p l e R s m args below meth c Q c0 w0 hf K hc hw hr H locs ls hS hR h1 h2 hl => ?_⟩
    exact lv_astore K.1 K.2.1 hd hl (sd_blt hb) (sd_s1 _ i (.ref _) lv) (fun ls' hl' => (hk _ _ _ _ h).2 p l e R s m args below meth c Q c0 w0 hf K hc hw hr H locs ls' hS hR h1 h2 hl')
  · obtain ⟨hb, h⟩ := sd_bif h
    refine ⟨(hk _ _ _ _ h).1, fun p l e R s m args below meth c Q c0 w0 hf K hc hw hr H locs ls hS hR h1 h2 hl => ?_⟩
    exact lv_astoreN K.1 K.2.1 hd hl (sd_blt hb) (sd_s1 (sd_ad base xa) i .null lv) (fun ls' hl' => (hk _ _ _ _ h).2 p l e R s m args below meth c Q c0 w0 hf K hc hw hr H locs ls' hS hR h1 h2 hl')
  · cases h

theorem sd_iinc (hk : ∀ M pc lv st, k M pc lv st = some q → sd_P XL xs D tI tJ tZ tO base xa y d q M pc lv st) {i : Nat} {n : Int} (hd : decode (mm_by y) pc = .ok (.iinc i n, 3))  (h : mm_ex XL xs y (.iinc i n, e) M pc lv st k cal = some q) : sd_P XL xs D tI tJ tZ tO base xa y d q M pc lv st := by
  unfold mm_ex at h
  dsimp only at h
  split at h
  · rename_i hg
    obtain ⟨hb, h⟩ := sd_bif h
    obtain ⟨j, hj⟩ := List.getElem?_of_mem (List.mem_map.mpr ⟨_, sd_lg hg, rfl⟩ : sd_lp (sd_ad base xa) _ ∈ lv.map (sd_lp (sd_ad base xa)))
    refine ⟨(hk _ _ _ _ h).1, fun p l e R s m args below meth c Q c0 w0 hf K hc hw hr H locs ls hS hR h1 h2 hl => ?_⟩
    exact lv_iinc K.1 K.2.1 hd hl (k := j) hj rfl (sd_blt hb) (sd_s1 _ i (.int _) lv) (fun ls' hl' => (hk _ _ _ _ h).2 p l e R s m args below meth c Q c0 w0 hf K hc hw hr H locs ls' hS hR h1 h2 hl')
  · cases h

theorem sd_pop (hk : ∀ M pc lv st, k M pc lv st = some q → sd_P XL xs D tI tJ tZ tO base xa y d q M pc lv st)  (hd : decode (mm_by y) pc = .ok (.pop, 1))  (h : mm_ex XL xs y (.pop, e) M pc lv st k cal = some q) : sd_P XL xs D tI tJ tZ tO base xa y d q M pc lv st := by
  unfold mm_ex at h
  dsimp only at h
  split at h
  · refine ⟨(hk _ _ _ _ h).1, fun p l e R s m args below meth c Q c0 w0 hf K hc hw hr H locs ls hS hR h1 h2 hl => ?_⟩
    exact lv_pop K.1 K.2.1 hd rfl ((hk _ _ _ _ h).2 p l e R s m args below meth c Q c0 w0 hf K hc hw hr H locs ls hS hR h1 h2 hl)
  · cases h

theorem sd_dup (hk : ∀ M pc lv st, k M pc lv st = some q → sd_P XL xs D tI tJ tZ tO base xa y d q M pc lv st)  (hd : decode (mm_by y) pc = .ok (.dup, 1))  (h : mm_ex XL xs y (.dup, e) M pc lv st k cal = some q) : sd_P XL xs D tI tJ tZ tO base xa y d q M pc lv st := by
  unfold mm_ex at h
  dsimp only at h
  split at h
  · refine ⟨(hk _ _ _ _ h).1, fun p l e R s m args below meth c Q c0 w0 hf K hc hw hr H locs ls hS hR h1 h2 hl => ?_⟩
    exact lv_dup K.1 K.2.1 hd rfl ((hk _ _ _ _ h).2 p l e R s m args below meth c Q c0 w0 hf K hc hw hr H locs ls hS hR h1 h2 hl)
  · refine ⟨(hk _ _ _ _ h).1, fun p l e R s m args below meth c Q c0 w0 hf K hc hw hr H locs ls hS hR h1 h2 hl => ?_⟩
    exact lv_dup K.1 K.2.1 hd rfl ((hk _ _ _ _ h).2 p l e R s m args below meth c Q c0 w0 hf K hc hw hr H locs ls hS hR h1 h2 hl)
  · cases h

theorem sd_dup2 (hk : ∀ M pc lv st, k M pc lv st = some q → sd_P XL xs D tI tJ tZ tO base xa y d q M pc lv st)  (hd : decode (mm_by y) pc = .ok (.dup2, 1))  (h : mm_ex XL xs y (.dup2, e) M pc lv st k cal = some q) : sd_P XL xs D tI tJ tZ tO base xa y d q M pc lv st := by
  unfold mm_ex at h
  dsimp only at h
  split at h
  · refine ⟨(hk _ _ _ _ h).1, fun p l e R s m args below meth c Q c0 w0 hf K hc hw hr H locs ls hS hR h1 h2 hl => ?_⟩
    exact lv_dup2_11 K.1 K.2.1 hd rfl rfl ((hk _ _ _ _ h).2 p l e R s m args below meth c Q c0 w0 hf K hc hw hr H locs ls hS hR h1 h2 hl)
  · cases h

theorem sd_iadd (hk : ∀ M pc lv st, k M pc lv st = some q → sd_P XL xs D tI tJ tZ tO base xa y d q M pc lv st)  (hd : decode (mm_by y) pc = .ok (.iadd, 1))  (h : mm_ex XL xs y (.iadd, e) M pc lv st k cal = some q) : sd_P XL xs D tI tJ tZ tO base xa y d q M pc lv st := by
  unfold mm_ex at h
  dsimp only at h
  split at h
  · refine ⟨(hk _ _ _ _ h).1, fun p l e R s m args below meth c Q c0 w0 hf K hc hw hr H locs ls hS hR h1 h2 hl => ?_⟩
    exact lv_iadd K.1 K.2.1 hd ((hk _ _ _ _ h).2 p l e R s m args below meth c Q c0 w0 hf K hc hw hr H locs ls hS hR h1 h2 hl)
  · cases h

theorem sd_isub (hk : ∀ M pc lv st, k M pc lv st = some q → sd_P XL xs D tI tJ tZ tO base xa y d q M pc lv st)  (hd : decode (mm_by y) pc = .ok (.isub, 1))  (h : mm_ex XL xs y (.isub, e) M pc lv st k cal = some q) : sd_P XL xs D tI tJ tZ tO base xa y d q M pc lv st := by
  unfold mm_ex at h
  dsimp only at h
  split at h
  · refine ⟨(hk _ _ _ _ h).1, fun p l e R s m args below meth c Q c0 w0 hf K hc hw hr H locs ls hS hR h1 h2 hl => ?_⟩
    exact lv_isub K.1 K.2.1 hd ((hk _ _ _ _ h).2 p l e R s m args below meth c Q c0 w0 hf K hc hw hr H locs ls hS hR h1 h2 hl)
  · cases h

theorem sd_imul (hk : ∀ M pc lv st, k M pc lv st = some q → sd_P XL xs D tI tJ tZ tO base xa y d q M pc lv st)  (hd : decode (mm_by y) pc = .ok (.imul, 1))  (h : mm_ex XL xs y (.imul, e) M pc lv st k cal = some q) : sd_P XL xs D tI tJ tZ tO base xa y d q M pc lv st := by
  unfold mm_ex at h
  dsimp only at h
  split at h
  · refine ⟨(hk _ _ _ _ h).1, fun p l e R s m args below meth c Q c0 w0 hf K hc hw hr H locs ls hS hR h1 h2 hl => ?_⟩
    exact lv_imul K.1 K.2.1 hd ((hk _ _ _ _ h).2 p l e R s m args below meth c Q c0 w0 hf K hc hw hr H locs ls hS hR h1 h2 hl)
  · cases h

theorem sd_iand (hk : ∀ M pc lv st, k M pc lv st = some q → sd_P XL xs D tI tJ tZ tO base xa y d q M pc lv st)  (hd : decode (mm_by y) pc = .ok (.iand, 1))  (h : mm_ex XL xs y (.iand, e) M pc lv st k cal = some q) : sd_P XL xs D tI tJ tZ tO base xa y d q M pc lv st := by
  unfold mm_ex at h
  dsimp only at h
  split at h
  · refine ⟨(hk _ _ _ _ h).1, fun p l e R s m args below meth c Q c0 w0 hf K hc hw hr H locs ls hS hR h1 h2 hl => ?_⟩
    exact lv_iand K.1 K.2.1 hd ((hk _ _ _ _ h).2 p l e R s m args below meth c Q c0 w0 hf K hc hw hr H locs ls hS hR h1 h2 hl)
  · cases h

theorem sd_ior (hk : ∀ M pc lv st, k M pc lv st = some q → sd_P XL xs D tI tJ tZ tO base xa y d q M pc lv st)  (hd : decode (mm_by y) pc = .ok (.ior, 1))  (h : mm_ex XL xs y (.ior, e) M pc lv st k cal = some q) : sd_P XL xs D tI tJ tZ tO base xa y d q M pc lv st := by
  unfold mm_ex at h
  dsimp only at h
  split at h
  · refine ⟨(hk _ _ _ _ h).1, fun p l e R s m args below meth c Q c0 w0 hf K hc hw hr H locs ls hS hR h1 h2 hl => ?_⟩
    exact lv_ior K.1 K.2.1 hd ((hk _ _ _ _ h).2 p l e R s m args below meth c Q c0 w0 hf K hc hw hr H locs ls hS hR h1 h2 hl)
  · cases h

theorem sd_ixor (hk : ∀ M pc lv st, k M pc lv st = some q → sd_P XL xs D tI tJ tZ tO base xa y d q M pc lv st)  (hd : decode (mm_by y) pc = .ok (.ixor, 1))  (h : mm_ex XL xs y (.ixor, e) M pc lv st k cal = some q) : sd_P XL xs D tI tJ tZ tO base xa y d q M pc lv st := by
  unfold mm_ex at h
  dsimp only at h
  split at h
  · refine ⟨(hk _ _ _ _ h).1, fun p l e R s m args below meth c Q c0 w0 hf K hc hw hr H locs ls hS hR h1 h2 hl => ?_⟩
    exact lv_ixor K.1 K.2.1 hd ((hk _ _ _ _ h).2 p l e R s m args below meth c Q c0 w0 hf K hc hw hr H locs ls hS hR h1 h2 hl)
  · cases h

theorem sd_ishl (hk : ∀ M pc lv st, k M pc lv st = some q → sd_P XL xs D tI tJ tZ tO base xa y d q M pc lv st)  (hd : decode (mm_by y) pc = .ok (.ishl, 1))  (h : mm_ex XL xs y (.ishl, e) M pc lv st k cal = some q) : sd_P XL xs D tI tJ tZ tO base xa y d q M pc lv st := by
  unfold mm_ex at h
  dsimp only at h
  split at h
  · refine ⟨(hk _ _ _ _ h).1, fun p l e R s m args below meth c Q c0 w0 hf K hc hw hr H locs ls hS hR h1 h2 hl => ?_⟩
    exact lv_ishl K.1 K.2.1 hd ((hk _ _ _ _ h).2 p l e R s m args below meth c Q c0 w0 hf K hc hw hr H locs ls hS hR h1 h2 hl)
  · cases h

theorem sd_ishr (hk : ∀ M pc lv st, k M pc lv st = some q → sd_P XL xs D tI tJ tZ tO base xa y d q M pc lv st)  (hd : decode (mm_by y) pc = .ok (.ishr, 1))  (h : mm_ex XL xs y (.ishr, e) M pc lv st k cal = some q) : sd_P XL xs D tI tJ tZ tO base xa y d q M pc lv st := by
  unfold mm_ex at h
  dsimp only at h
  split at h
  · refine ⟨(hk _ _ _ _ h).1, fun p l e R s m args below meth c Q c0 w0 hf K hc hw hr H locs ls hS hR h1 h2 hl => ?_⟩
    exact lv_ishr K.1 K.2.1 hd ((hk _ _ _ _ h).2 p l e R s m args below meth c Q c0 w0 hf K hc hw hr H locs ls hS hR h1 h2 hl)
  · cases h

theorem sd_ineg (hk : ∀ M pc lv st, k M pc lv st = some q → sd_P XL xs D tI tJ tZ tO base xa y d q M pc lv st)  (hd : decode (mm_by y) pc = .ok (.ineg, 1))  (h : mm_ex XL xs y (.ineg, e) M pc lv st k cal = some q) : sd_P XL xs D tI tJ tZ tO base xa y d q M pc lv st := by
  unfold mm_ex at h
  dsimp only at h
  split at h
  · refine ⟨(hk _ _ _ _ h).1, fun p l e R s m args below meth c Q c0 w0 hf K hc hw hr H locs ls hS hR h1 h2 hl => ?_⟩
    exact lv_ineg K.1 K.2.1 hd ((hk _ _ _ _ h).2 p l e R s m args below meth c Q c0 w0 hf K hc hw hr H locs ls hS hR h1 h2 hl)
  · cases h

theorem sd_ladd (hk : ∀ M pc lv st, k M pc lv st = some q → sd_P XL xs D tI tJ tZ tO base xa y d q M pc lv st)  (hd : decode (mm_by y) pc = .ok (.ladd, 1))  (h : mm_ex XL xs y (.ladd, e) M pc lv st k cal = some q) : sd_P XL xs D tI tJ tZ tO base xa y d q M pc lv st := by
  unfold mm_ex at h
  dsimp only at h
  split at h
  · refine ⟨(hk _ _ _ _ h).1, fun p l e R s m args below meth c Q c0 w0 hf K hc hw hr H locs ls hS hR h1 h2 hl => ?_⟩
    exact lv_ladd K.1 K.2.1 hd ((hk _ _ _ _ h).2 p l e R s m args below meth c Q c0 w0 hf K hc hw hr H locs ls hS hR h1 h2 hl)
  · cases h

theorem sd_lsub (hk : ∀ M pc lv st, k M pc lv st = some q → sd_P XL xs D tI tJ tZ tO base xa y d q M pc lv st)  (hd : decode (mm_by y) pc = .ok (.lsub, 1))  (h : mm_ex XL xs y (.lsub, e) M pc lv st k cal = some q) : sd_P XL xs D tI tJ tZ tO base xa y d q M pc lv st := by
  unfold mm_ex at h
  dsimp only at h
  split at h
  · refine ⟨(hk _ _ _ _ h).1, fun p l e R s m args below meth c Q c0 w0 hf K hc hw hr H locs ls hS hR h1 h2 hl => ?_⟩
    exact lv_lsub K.1 K.2.1 hd ((hk _ _ _ _ h).2 p l e R s m args below meth c Q c0 w0 hf K hc hw hr H locs ls hS hR h1 h2 hl)
  · cases h

theorem sd_lmul (hk : ∀ M pc lv st, k M pc lv st = some q → sd_P XL xs D tI tJ tZ tO base xa y d q M pc lv st)  (hd : decode (mm_by y) pc = .ok (.lmul, 1))  (h : mm_ex XL xs y (.lmul, e) M pc lv st k cal = some q) : sd_P XL xs D tI tJ tZ tO base xa y d q M pc lv st := by
  unfold mm_ex at h
  dsimp only at h
  split at h
  · refine ⟨(hk _ _ _ _ h).1, fun p l e R s m args below meth c Q c0 w0 hf K hc hw hr H locs ls hS hR h1 h2 hl => ?_⟩
    exact lv_lmul K.1 K.2.1 hd ((hk _ _ _ _ h).2 p l e R s m args below meth c Q c0 w0 hf K hc hw hr H locs ls hS hR h1 h2 hl)
  · cases h

theorem sd_land (hk : ∀ M pc lv st, k M pc lv st = some q → sd_P XL xs D tI tJ tZ tO base xa y d q M pc lv st)  (hd : decode (mm_by y) pc = .ok (.land, 1))  (h : mm_ex XL xs y (.land, e) M pc lv st k cal = some q) : sd_P XL xs D tI tJ tZ tO base xa y d q M pc lv st := by
  unfold mm_ex at h
  dsimp only at h
  split at h
  · refine ⟨(hk _ _ _ _ h).1, fun p l e R s m args below meth c Q c0 w0 hf K hc hw hr H locs ls hS hR h1 h2 hl => ?_⟩
    exact lv_land K.1 K.2.1 hd ((hk _ _ _ _ h).2 p l e R s m args below meth c Q c0 w0 hf K hc hw hr H locs ls hS hR h1 h2 hl)
  · cases h

theorem sd_lor (hk : ∀ M pc lv st, k M pc lv st = some q → sd_P XL xs D tI tJ tZ tO base xa y d q M pc lv st)  (hd : decode (mm_by y) pc = .ok (.lor, 1))  (h : mm_ex XL xs y (.lor, e) M pc lv st k cal = some q) : sd_P XL xs D tI tJ tZ tO base xa y d q M pc lv st := by
  unfold mm_ex at h
  dsimp only at h
  split at h
  · refine ⟨(hk _ _ _ _ h).1, fun p l e R s m args below meth c Q c0 w0 hf K hc hw hr H locs ls hS hR h1 h2 hl => ?_⟩
    exact lv_lor K.1 K.2.1 hd ((hk _ _ _ _ h).2 p l e R s m args below meth c Q c0 w0 hf K hc hw hr H locs ls hS hR h1 h2 hl)
  · cases h

theorem sd_lxor (hk : ∀ M pc lv st, k M pc lv st = some q → sd_P XL xs D tI tJ tZ tO base xa y d q M pc lv st)  (hd : decode (mm_by y) pc = .ok (.lxor, 1))  (h : mm_ex XL xs y (.lxor, e) M pc lv st k cal = some q) : sd_P XL xs D tI tJ tZ tO base xa y d q M pc lv st := by
  unfold mm_ex at h
  dsimp only at h
  split at h
  · refine ⟨(hk _ _ _ _ h).1, fun p l e R s m args below meth c Q c0 w0 hf K hc hw hr H locs ls hS hR h1 h2 hl => ?_⟩
    exact lv_lxor K.1 K.2.1 hd ((hk _ _ _ _ h).2 p l e R s m args below meth c Q c0 w0 hf K hc hw hr H locs ls hS hR h1 h2 hl)
  · cases h

theorem sd_iushr (hk : ∀ M pc lv st, k M pc lv st = some q → sd_P XL xs D tI tJ tZ tO base xa y d q M pc lv st)  (hd : decode (mm_by y) pc = .ok (.iushr, 1))  (h : mm_ex XL xs y (.iushr, e) M pc lv st k cal = some q) : sd_P XL xs D tI tJ tZ tO base xa y d q M pc lv st := by
  unfold mm_ex at h
  dsimp only at h
  split at h
  · refine ⟨(hk _ _ _ _ h).1, fun p l e R s m args below meth c Q c0 w0 hf K hc hw hr H locs ls hS hR h1 h2 hl => ?_⟩
    exact lv_iushr K.1 K.2.1 hd rfl ((hk _ _ _ _ h).2 p l e R s m args below meth c Q c0 w0 hf K hc hw hr H locs ls hS hR h1 h2 hl)
  · cases h

theorem sd_lshl (hk : ∀ M pc lv st, k M pc lv st = some q → sd_P XL xs D tI tJ tZ tO base xa y d q M pc lv st)  (hd : decode (mm_by y) pc = .ok (.lshl, 1))  (h : mm_ex XL xs y (.lshl, e) M pc lv st k cal = some q) : sd_P XL xs D tI tJ tZ tO base xa y d q M pc lv st := by
  unfold mm_ex at h
  dsimp only at h
  split at h
  · refine ⟨(hk _ _ _ _ h).1, fun p l e R s m args below meth c Q c0 w0 hf K hc hw hr H locs ls hS hR h1 h2 hl => ?_⟩
    exact lv_lshl K.1 K.2.1 hd rfl ((hk _ _ _ _ h).2 p l e R s m args below meth c Q c0 w0 hf K hc hw hr H locs ls hS hR h1 h2 hl)
  · cases h

theorem sd_lushr (hk : ∀ M pc lv st, k M pc lv st = some q → sd_P XL xs D tI tJ tZ tO base xa y d q M pc lv st)  (hd : decode (mm_by y) pc = .ok (.lushr, 1))  (h : mm_ex XL xs y (.lushr, e) M pc lv st k cal = some q) : sd_P XL xs D tI tJ tZ tO base xa y d q M pc lv st := by
  unfold mm_ex at h
  dsimp only at h
  split at h
  · refine ⟨(hk _ _ _ _ h).1, fun p l e R s m args below meth c Q c0 w0 hf K hc hw hr H locs ls hS hR h1 h2 hl => ?_⟩
    exact lv_lushr K.1 K.2.1 hd rfl ((hk _ _ _ _ h).2 p l e R s m args below meth c Q c0 w0 hf K hc hw hr H locs ls hS hR h1 h2 hl)
  · cases h

theorem sd_i2l (hk : ∀ M pc lv st, k M pc lv st = some q → sd_P XL xs D tI tJ tZ tO base xa y d q M pc lv st)  (hd : decode (mm_by y) pc = .ok (.i2l, 1))  (h : mm_ex XL xs y (.i2l, e) M pc lv st k cal = some q) : sd_P XL xs D tI tJ tZ tO base xa y d q M pc lv st := by
  unfold mm_ex at h
  dsimp only at h
  split at h
  · refine ⟨(hk _ _ _ _ h).1, fun p l e R s m args below meth c Q c0 w0 hf K hc hw hr H locs ls hS hR h1 h2 hl => ?_⟩
    exact lv_i2l K.1 K.2.1 hd rfl ((hk _ _ _ _ h).2 p l e R s m args below meth c Q c0 w0 hf K hc hw hr H locs ls hS hR h1 h2 hl)
  · cases h

theorem sd_l2i (hk : ∀ M pc lv st, k M pc lv st = some q → sd_P XL xs D tI tJ tZ tO base xa y d q M pc lv st)  (hd : decode (mm_by y) pc = .ok (.l2i, 1))  (h : mm_ex XL xs y (.l2i, e) M pc lv st k cal = some q) : sd_P XL xs D tI tJ tZ tO base xa y d q M pc lv st := by
  unfold mm_ex at h
  dsimp only at h
  split at h
  · refine ⟨(hk _ _ _ _ h).1, fun p l e R s m args below meth c Q c0 w0 hf K hc hw hr H locs ls hS hR h1 h2 hl => ?_⟩
    exact lv_l2i K.1 K.2.1 hd rfl ((hk _ _ _ _ h).2 p l e R s m args below meth c Q c0 w0 hf K hc hw hr H locs ls hS hR h1 h2 hl)
  · cases h

theorem sd_lcmp (hk : ∀ M pc lv st, k M pc lv st = some q → sd_P XL xs D tI tJ tZ tO base xa y d q M pc lv st)  (hd : decode (mm_by y) pc = .ok (.lcmp, 1))  (h : mm_ex XL xs y (.lcmp, e) M pc lv st k cal = some q) : sd_P XL xs D tI tJ tZ tO base xa y d q M pc lv st := by
  unfold mm_ex at h
  dsimp only at h
  split at h
  · refine ⟨(hk _ _ _ _ h).1, fun p l e R s m args below meth c Q c0 w0 hf K hc hw hr H locs ls hS hR h1 h2 hl => ?_⟩
    exact W.lcmp K.1 K.2.1 hd ((hk _ _ _ _ h).2 p l e R s m args below meth c Q c0 w0 hf K hc hw hr H locs ls hS hR h1 h2 hl)
  · cases h

theorem sd_idiv (hk : ∀ M pc lv st, k M pc lv st = some q → sd_P XL xs D tI tJ tZ tO base xa y d q M pc lv st)  (hd : decode (mm_by y) pc = .ok (.idiv, 1))  (h : mm_ex XL xs y (.idiv, e) M pc lv st k cal = some q) : sd_P XL xs D tI tJ tZ tO base xa y d q M pc lv st := by
  unfold mm_ex at h
  dsimp only at h
  split at h
  · obtain ⟨hn, h⟩ := sd_ifn h
    refine ⟨(hk _ _ _ _ h).1, fun p l e R s m args below meth c Q c0 w0 hf K hc hw hr H locs ls hS hR h1 h2 hl => ?_⟩
    exact lv_idiv K.1 K.2.1 hd hn ((hk _ _ _ _ h).2 p l e R s m args below meth c Q c0 w0 hf K hc hw hr H locs ls hS hR h1 h2 hl)
  · cases h

theorem sd_irem (hk : ∀ M pc lv st, k M pc lv st = some q → sd_P XL xs D tI tJ tZ tO base xa y d q M pc lv st)  (hd : decode (mm_by y) pc = .ok (.irem, 1))  (h : mm_ex XL xs y (.irem, e) M pc lv st k cal = some q) : sd_P XL xs D tI tJ tZ tO base xa y d q M pc lv st := by
  unfold mm_ex at h
  dsimp only at h
  split at h
  · obtain ⟨hn, h⟩ := sd_ifn h
    refine ⟨(hk _ _ _ _ h).1, fun p l e R s m args below meth c Q c0 w0 hf K hc hw hr H locs ls hS hR h1 h2 hl => ?_⟩
    exact lv_irem K.1 K.2.1 hd hn ((hk _ _ _ _ h).2 p l e R s m args below meth c Q c0 w0 hf K hc hw hr H locs ls hS hR h1 h2 hl)
  · cases h

theorem sd_ldiv (hk : ∀ M pc lv st, k M pc lv st = some q → sd_P XL xs D tI tJ tZ tO base xa y d q M pc lv st)  (hd : decode (mm_by y) pc = .ok (.ldiv, 1))  (h : mm_ex XL xs y (.ldiv, e) M pc lv st k cal = some q) : sd_P XL xs D tI tJ tZ tO base xa y d q M pc lv st := by
  unfold mm_ex at h
  dsimp only at h
  split at h
  · obtain ⟨hn, h⟩ := sd_ifn h
    refine ⟨(hk _ _ _ _ h).1, fun p l e R s m args below meth c Q c0 w0 hf K hc hw hr H locs ls hS hR h1 h2 hl => ?_⟩
    exact lv_ldiv K.1 K.2.1 hd hn ((hk _ _ _ _ h).2 p l e R s m args below meth c Q c0 w0 hf K hc hw hr H locs ls hS hR h1 h2 hl)
  · cases h

theorem sd_lrem (hk : ∀ M pc lv st, k M pc lv st = some q → sd_P XL xs D tI tJ tZ tO base xa y d q M pc lv st)  (hd : decode (mm_by y) pc = .ok (.lrem, 1))  (h : mm_ex XL xs y (.lrem, e) M pc lv st k cal = some q) : sd_P XL xs D tI tJ tZ tO base xa y d q M pc lv st := by
  unfold mm_ex at h
  dsimp only at h
  split at h
  · obtain ⟨hn, h⟩ := sd_ifn h
    refine ⟨(hk _ _ _ _ h).1, fun p l e R s m args below meth c Q c0 w0 hf K hc hw hr H locs ls hS hR h1 h2 hl => ?_⟩
    exact lv_lrem K.1 K.2.1 hd hn ((hk _ _ _ _ h).2 p l e R s m args below meth c Q c0 w0 hf K hc hw hr H locs ls hS hR h1 h2 hl)
  · cases h

theorem sd_goto (hk : ∀ M pc lv st, k M pc lv st = some q → sd_P XL xs D tI tJ tZ tO base xa y d q M pc lv st) {off : Int} (hd : decode (mm_by y) pc = .ok (.goto off, 3)) (ht : 0 ≤ (pc : Int) + off) (h : mm_ex XL xs y (.goto off, e) M pc lv st k cal = some q) : sd_P XL xs D tI tJ tZ tO base xa y d q M pc lv st := by
  unfold mm_ex at h
  dsimp only at h
  refine ⟨(hk _ _ _ _ h).1, fun p l e R s m args below meth c Q c0 w0 hf K hc hw hr H locs ls hS hR h1 h2 hl => ?_⟩
  exact lv_goto K.1 K.2.1 hd (Int.toNat_of_nonneg ht).symm ((hk _ _ _ _ h).2 p l e R s m args below meth c Q c0 w0 hf K hc hw hr H locs ls hS hR h1 h2 hl)

theorem sd_if_eq (hk : ∀ M pc lv st, k M pc lv st = some q → sd_P XL xs D tI tJ tZ tO base xa y d q M pc lv st) {off : Int} (hd : decode (mm_by y) pc = .ok (.ifCond .eq off, 3)) (ht : 0 ≤ (pc : Int) + off) (h : mm_ex XL xs y (.ifCond .eq off, e) M pc lv st k cal = some q) : sd_P XL xs D tI tJ tZ tO base xa y d q M pc lv st := by
  unfold mm_ex at h
  dsimp only at h
  split at h
  · split at h
    · rename_i hx
      refine ⟨(hk _ _ _ _ h).1, fun p l e R s m args below meth c Q c0 w0 hf K hc hw hr H locs ls hS hR h1 h2 hl => ?_⟩
      exact lv_if_eq K.1 K.2.1 hd (Int.toNat_of_nonneg ht).symm (fun z => ((hk _ _ _ _ h).2 p l e R s m args below meth c Q c0 w0 hf K hc hw hr H locs ls hS hR h1 h2 hl)) (fun z => absurd hx z)
    · rename_i hx
      refine ⟨(hk _ _ _ _ h).1, fun p l e R s m args below meth c Q c0 w0 hf K hc hw hr H locs ls hS hR h1 h2 hl => ?_⟩
      exact lv_if_eq K.1 K.2.1 hd (Int.toNat_of_nonneg ht).symm (fun z => absurd z hx) (fun z => ((hk _ _ _ _ h).2 p l e R s m args below meth c Q c0 w0 hf K hc hw hr H locs ls hS hR h1 h2 hl))
  · cases h

theorem sd_if_ne (hk : ∀ M pc lv st, k M pc lv st = some q → sd_P XL xs D tI tJ tZ tO base xa y d q M pc lv st) {off : Int} (hd : decode (mm_by y) pc = .ok (.ifCond .ne off, 3)) (ht : 0 ≤ (pc : Int) + off) (h : mm_ex XL xs y (.ifCond .ne off, e) M pc lv st k cal = some q) : sd_P XL xs D tI tJ tZ tO base xa y d q M pc lv st := by
  unfold mm_ex at h
  dsimp only at h
  split at h
  · split at h
    · rename_i hx
      refine ⟨(hk _ _ _ _ h).1, fun p l e R s m args below meth c Q c0 w0 hf K hc hw hr H locs ls hS hR h1 h2 hl => ?_⟩
      exact lv_if_ne K.1 K.2.1 hd (Int.toNat_of_nonneg ht).symm (fun z => absurd hx z) (fun z => ((hk _ _ _ _ h).2 p l e R s m args below meth c Q c0 w0 hf K hc hw hr H locs ls hS hR h1 h2 hl))
    · rename_i hx
      refine ⟨(hk _ _ _ _ h).1, fun p l e R s m args below meth c Q c0 w0 hf K hc hw hr H locs ls hS hR h1 h2 hl => ?_⟩
      exact lv_if_ne K.1 K.2.1 hd (Int.toNat_of_nonneg ht).symm (fun z => ((hk _ _ _ _ h).2 p l e R s m args below meth c Q c0 w0 hf K hc hw hr H locs ls hS hR h1 h2 hl)) (fun z => absurd z hx)
  · cases h

theorem sd_if_lt (hk : ∀ M pc lv st, k M pc lv st = some q → sd_P XL xs D tI tJ tZ tO base xa y d q M pc lv st) {off : Int} (hd : decode (mm_by y) pc = .ok (.ifCond .lt off, 3)) (ht : 0 ≤ (pc : Int) + off) (h : mm_ex XL xs y (.ifCond .lt off, e) M pc lv st k cal = some q) : sd_P XL xs D tI tJ tZ tO base xa y d q M pc lv st := by
  unfold mm_ex at h
  dsimp only at h
  split at h
  · split at h
    · rename_i hx
      refine ⟨(hk _ _ _ _ h).1, fun p l e R s m args below meth c Q c0 w0 hf K hc hw hr H locs ls hS hR h1 h2 hl => ?_⟩
      exact lv_if_lt K.1 K.2.1 hd (Int.toNat_of_nonneg ht).symm (fun z => ((hk _ _ _ _ h).2 p l e R s m args below meth c Q c0 w0 hf K hc hw hr H locs ls hS hR h1 h2 hl)) (fun z => absurd hx z)
    · rename_i hx
      refine ⟨(hk _ _ _ _ h).1, fun p l e R s m args below meth c Q c0 w0 hf K hc hw hr H locs ls hS hR h1 h2 hl => ?_⟩
      exact lv_if_lt K.1 K.2.1 hd (Int.toNat_of_nonneg ht).symm (fun z => absurd z hx) (fun z => ((hk _ _ _ _ h).2 p l e R s m args below meth c Q c0 w0 hf K hc hw hr H locs ls hS hR h1 h2 hl))
  · cases h

theorem sd_if_ge (hk : ∀ M pc lv st, k M pc lv st = some q → sd_P XL xs D tI tJ tZ tO base xa y d q M pc lv st) {off : Int} (hd : decode (mm_by y) pc = .ok (.ifCond .ge off, 3)) (ht : 0 ≤ (pc : Int) + off) (h : mm_ex XL xs y (.ifCond .ge off, e) M pc lv st k cal = some q) : sd_P XL xs D tI tJ tZ tO base xa y d q M pc lv st := by
  unfold mm_ex at h
  dsimp only at h
  split at h
  · split at h
    · rename_i hx
      refine ⟨(hk _ _ _ _ h).1, fun p l e R s m args below meth c Q c0 w0 hf K hc hw hr H locs ls hS hR h1 h2 hl => ?_⟩
      exact lv_if_ge K.1 K.2.1 hd (Int.toNat_of_nonneg ht).symm (fun z => absurd hx (Int32.not_lt.mpr z)) (fun z => ((hk _ _ _ _ h).2 p l e R s m args below meth c Q c0 w0 hf K hc hw hr H locs ls hS hR h1 h2 hl))
    · rename_i hx
      refine ⟨(hk _ _ _ _ h).1, fun p l e R s m args below meth c Q c0 w0 hf K hc hw hr H locs ls hS hR h1 h2 hl => ?_⟩
      exact lv_if_ge K.1 K.2.1 hd (Int.toNat_of_nonneg ht).symm (fun z => ((hk _ _ _ _ h).2 p l e R s m args below meth c Q c0 w0 hf K hc hw hr H locs ls hS hR h1 h2 hl)) (fun z => absurd (Int32.not_lt.mp hx) z)
  · cases h

theorem sd_if_gt (hk : ∀ M pc lv st, k M pc lv st = some q → sd_P XL xs D tI tJ tZ tO base xa y d q M pc lv st) {off : Int} (hd : decode (mm_by y) pc = .ok (.ifCond .gt off, 3)) (ht : 0 ≤ (pc : Int) + off) (h : mm_ex XL xs y (.ifCond .gt off, e) M pc lv st k cal = some q) : sd_P XL xs D tI tJ tZ tO base xa y d q M pc lv st := by
  unfold mm_ex at h
  dsimp only at h
  split at h
  · split at h
    · rename_i hx
      refine ⟨(hk _ _ _ _ h).1, fun p l e R s m args below meth c Q c0 w0 hf K hc hw hr H locs ls hS hR h1 h2 hl => ?_⟩
      exact lv_if_gt K.1 K.2.1 hd (Int.toNat_of_nonneg ht).symm (fun z => absurd hx (Int32.not_le.mpr z)) (fun z => ((hk _ _ _ _ h).2 p l e R s m args below meth c Q c0 w0 hf K hc hw hr H locs ls hS hR h1 h2 hl))
    · rename_i hx
      refine ⟨(hk _ _ _ _ h).1, fun p l e R s m args below meth c Q c0 w0 hf K hc hw hr H locs ls hS hR h1 h2 hl => ?_⟩
      exact lv_if_gt K.1 K.2.1 hd (Int.toNat_of_nonneg ht).symm (fun z => ((hk _ _ _ _ h).2 p l e R s m args below meth c Q c0 w0 hf K hc hw hr H locs ls hS hR h1 h2 hl)) (fun z => absurd (Int32.not_le.mp hx) z)
  · cases h

theorem sd_if_le (hk : ∀ M pc lv st, k M pc lv st = some q → sd_P XL xs D tI tJ tZ tO base xa y d q M pc lv st) {off : Int} (hd : decode (mm_by y) pc = .ok (.ifCond .le off, 3)) (ht : 0 ≤ (pc : Int) + off) (h : mm_ex XL xs y (.ifCond .le off, e) M pc lv st k cal = some q) : sd_P XL xs D tI tJ tZ tO base xa y d q M pc lv st := by
  unfold mm_ex at h
  dsimp only at h
  split at h
  · split at h
    · rename_i hx
      refine ⟨(hk _ _ _ _ h).1, fun p l e R s m args below meth c Q c0 w0 hf K hc hw hr H locs ls hS hR h1 h2 hl => ?_⟩
      exact lv_if_le K.1 K.2.1 hd (Int.toNat_of_nonneg ht).symm (fun z => ((hk _ _ _ _ h).2 p l e R s m args below meth c Q c0 w0 hf K hc hw hr H locs ls hS hR h1 h2 hl)) (fun z => absurd hx z)
    · rename_i hx
      refine ⟨(hk _ _ _ _ h).1, fun p l e R s m args below meth c Q c0 w0 hf K hc hw hr H locs ls hS hR h1 h2 hl => ?_⟩
      exact lv_if_le K.1 K.2.1 hd (Int.toNat_of_nonneg ht).symm (fun z => absurd z hx) (fun z => ((hk _ _ _ _ h).2 p l e R s m args below meth c Q c0 w0 hf K hc hw hr H locs ls hS hR h1 h2 hl))
  · cases h

theorem sd_icmp_eq (hk : ∀ M pc lv st, k M pc lv st = some q → sd_P XL xs D tI tJ tZ tO base xa y d q M pc lv st) {off : Int} (hd : decode (mm_by y) pc = .ok (.if_icmp .eq off, 3)) (ht : 0 ≤ (pc : Int) + off) (h : mm_ex XL xs y (.if_icmp .eq off, e) M pc lv st k cal = some q) : sd_P XL xs D tI tJ tZ tO base xa y d q M pc lv st := by
  unfold mm_ex at h
  dsimp only at h
  split at h
  · split at h
    · rename_i hx
      refine ⟨(hk _ _ _ _ h).1, fun p l e R s m args below meth c Q c0 w0 hf K hc hw hr H locs ls hS hR h1 h2 hl => ?_⟩
      exact lv_icmp_eq K.1 K.2.1 hd (Int.toNat_of_nonneg ht).symm (fun z => ((hk _ _ _ _ h).2 p l e R s m args below meth c Q c0 w0 hf K hc hw hr H locs ls hS hR h1 h2 hl)) (fun z => absurd hx z)
    · rename_i hx
      refine ⟨(hk _ _ _ _ h).1, fun p l e R s m args below meth c Q c0 w0 hf K hc hw hr H locs ls hS hR h1 h2 hl => ?_⟩
      exact lv_icmp_eq K.1 K.2.1 hd (Int.toNat_of_nonneg ht).symm (fun z => absurd z hx) (fun z => ((hk _ _ _ _ h).2 p l e R s m args below meth c Q c0 w0 hf K hc hw hr H locs ls hS hR h1 h2 hl))
  · cases h

theorem sd_icmp_ne (hk : ∀ M pc lv st, k M pc lv st = some q → sd_P XL xs D tI tJ tZ tO base xa y d q M pc lv st) {off : Int} (hd : decode (mm_by y) pc = .ok (.if_icmp .ne off, 3)) (ht : 0 ≤ (pc : Int) + off) (h : mm_ex XL xs y (.if_icmp .ne off, e) M pc lv st k cal = some q) : sd_P XL xs D tI tJ tZ tO base xa y d q M pc lv st := by
  unfold mm_ex at h
  dsimp only at h
  split at h
  · split at h
    · rename_i hx
      refine ⟨(hk _ _ _ _ h).1, fun p l e R s m args below meth c Q c0 w0 hf K hc hw hr H locs ls hS hR h1 h2 hl => ?_⟩
      exact lv_icmp_ne K.1 K.2.1 hd (Int.toNat_of_nonneg ht).symm (fun z => absurd hx z) (fun z => ((hk _ _ _ _ h).2 p l e R s m args below meth c Q c0 w0 hf K hc hw hr H locs ls hS hR h1 h2 hl))
    · rename_i hx
      refine ⟨(hk _ _ _ _ h).1, fun p l e R s m args below meth c Q c0 w0 hf K hc hw hr H locs ls hS hR h1 h2 hl => ?_⟩
      exact lv_icmp_ne K.1 K.2.1 hd (Int.toNat_of_nonneg ht).symm (fun z => ((hk _ _ _ _ h).2 p l e R s m args below meth c Q c0 w0 hf K hc hw hr H locs ls hS hR h1 h2 hl)) (fun z => absurd z hx)
  · cases h

theorem sd_icmp_lt (hk : ∀ M pc lv st, k M pc lv st = some q → sd_P XL xs D tI tJ tZ tO base xa y d q M pc lv st) {off : Int} (hd : decode (mm_by y) pc = .ok (.if_icmp .lt off, 3)) (ht : 0 ≤ (pc : Int) + off) (h : mm_ex XL xs y (.if_icmp .lt off, e) M pc lv st k cal = some q) : sd_P XL xs D tI tJ tZ tO base xa y d q M pc lv st := by
  unfold mm_ex at h
  dsimp only at h
  split at h
  · split at h
    · rename_i hx
      refine ⟨(hk _ _ _ _ h).1, fun p l e R s m args below meth c Q c0 w0 hf K hc hw hr H locs ls hS hR h1 h2 hl => ?_⟩
      exact lv_icmp_lt K.1 K.2.1 hd (Int.toNat_of_nonneg ht).symm (fun z => ((hk _ _ _ _ h).2 p l e R s m args below meth c Q c0 w0 hf K hc hw hr H locs ls hS hR h1 h2 hl)) (fun z => absurd hx z)
    · rename_i hx
      refine ⟨(hk _ _ _ _ h).1, fun p l e R s m args below meth c Q c0 w0 hf K hc hw hr H locs ls hS hR h1 h2 hl => ?_⟩
      exact lv_icmp_lt K.1 K.2.1 hd (Int.toNat_of_nonneg ht).symm (fun z => absurd z hx) (fun z => ((hk _ _ _ _ h).2 p l e R s m args below meth c Q c0 w0 hf K hc hw hr H locs ls hS hR h1 h2 hl))
  · cases h

theorem sd_icmp_ge (hk : ∀ M pc lv st, k M pc lv st = some q → sd_P XL xs D tI tJ tZ tO base xa y d q M pc lv st) {off : Int} (hd : decode (mm_by y) pc = .ok (.if_icmp .ge off, 3)) (ht : 0 ≤ (pc : Int) + off) (h : mm_ex XL xs y (.if_icmp .ge off, e) M pc lv st k cal = some q) : sd_P XL xs D tI tJ tZ tO base xa y d q M pc lv st := by
  unfold mm_ex at h
  dsimp only at h
  split at h
  · split at h
    · rename_i hx
      refine ⟨(hk _ _ _ _ h).1, fun p l e R s m args below meth c Q c0 w0 hf K hc hw hr H locs ls hS hR h1 h2 hl => ?_⟩
      exact lv_icmp_ge K.1 K.2.1 hd (Int.toNat_of_nonneg ht).symm (fun z => absurd hx (Int32.not_lt.mpr z)) (fun z => ((hk _ _ _ _ h).2 p l e R s m args below meth c Q c0 w0 hf K hc hw hr H locs ls hS hR h1 h2 hl))
    · rename_i hx
      refine ⟨(hk _ _ _ _ h).1, fun p l e R s m args below meth c Q c0 w0 hf K hc hw hr H locs ls hS hR h1 h2 hl => ?_⟩
      exact lv_icmp_ge K.1 K.2.1 hd (Int.toNat_of_nonneg ht).symm (fun z => ((hk _ _ _ _ h).2 p l e R s m args below meth c Q c0 w0 hf K hc hw hr H locs ls hS hR h1 h2 hl)) (fun z => absurd (Int32.not_lt.mp hx) z)
  · cases h

theorem sd_icmp_gt (hk : ∀ M pc lv st, k M pc lv st = some q → sd_P XL xs D tI tJ tZ tO base xa y d q M pc lv st) {off : Int} (hd : decode (mm_by y) pc = .ok (.if_icmp .gt off, 3)) (ht : 0 ≤ (pc : Int) + off) (h : mm_ex XL xs y (.if_icmp .gt off, e) M pc lv st k cal = some q) : sd_P XL xs D tI tJ tZ tO base xa y d q M pc lv st := by
  unfold mm_ex at h
  dsimp only at h
  split at h
  · split at h
    · rename_i hx
      refine ⟨(hk _ _ _ _ h).1, fun p l e R s m args below meth c Q c0 w0 hf K hc hw hr H locs ls hS hR h1 h2 hl => ?_⟩
      exact lv_icmp_gt K.1 K.2.1 hd (Int.toNat_of_nonneg ht).symm (fun z => absurd hx (Int32.not_le.mpr z)) (fun z => ((hk _ _ _ _ h).2 p l e R s m args below meth c Q c0 w0 hf K hc hw hr H locs ls hS hR h1 h2 hl))
    · rename_i hx
      refine ⟨(hk _ _ _ _ h).1, fun p l e R s m args below meth c Q c0 w0 hf K hc hw hr H locs ls hS hR h1 h2 hl => ?_⟩
      exact lv_icmp_gt K.1 K.2.1 hd (Int.toNat_of_nonneg ht).symm (fun z => ((hk _ _ _ _ h).2 p l e R s m args below meth c Q c0 w0 hf K hc hw hr H locs ls hS hR h1 h2 hl)) (fun z => absurd (Int32.not_le.mp hx) z)
  · cases h

theorem sd_icmp_le (hk : ∀ M pc lv st, k M pc lv st = some q → sd_P XL xs D tI tJ tZ tO base xa y d q M pc lv st) {off : Int} (hd : decode (mm_by y) pc = .ok (.if_icmp .le off, 3)) (ht : 0 ≤ (pc : Int) + off) (h : mm_ex XL xs y (.if_icmp .le off, e) M pc lv st k cal = some q) : sd_P XL xs D tI tJ tZ tO base xa y d q M pc lv st := by
  unfold mm_ex at h
  dsimp only at h
  split at h
  · split at h
    · rename_i hx
      refine ⟨(hk _ _ _ _ h).1, fun p l e R s m args below meth c Q c0 w0 hf K hc hw hr H locs ls hS hR h1 h2 hl => ?_⟩
      exact lv_icmp_le K.1 K.2.1 hd (Int.toNat_of_nonneg ht).symm (fun z => ((hk _ _ _ _ h).2 p l e R s m args below meth c Q c0 w0 hf K hc hw hr H locs ls hS hR h1 h2 hl)) (fun z => absurd hx z)
    · rename_i hx
      refine ⟨(hk _ _ _ _ h).1, fun p l e R s m args below meth c Q c0 w0 hf K hc hw hr H locs ls hS hR h1 h2 hl => ?_⟩
      exact lv_icmp_le K.1 K.2.1 hd (Int.toNat_of_nonneg ht).symm (fun z => absurd z hx) (fun z => ((hk _ _ _ _ h).2 p l e R s m args below meth c Q c0 w0 hf K hc hw hr H locs ls hS hR h1 h2 hl))
  · cases h

theorem sd_ifnull (hk : ∀ M pc lv st, k M pc lv st = some q → sd_P XL xs D tI tJ tZ tO base xa y d q M pc lv st) {off : Int} (hd : decode (mm_by y) pc = .ok (.ifnull off, 3)) (ht : 0 ≤ (pc : Int) + off) (h : mm_ex XL xs y (.ifnull off, e) M pc lv st k cal = some q) : sd_P XL xs D tI tJ tZ tO base xa y d q M pc lv st := by
  unfold mm_ex at h
  dsimp only at h
  split at h
  · refine ⟨(hk _ _ _ _ h).1, fun p l e R s m args below meth c Q c0 w0 hf K hc hw hr H locs ls hS hR h1 h2 hl => ?_⟩
    exact lv_ifnullN K.1 K.2.1 hd (Int.toNat_of_nonneg ht).symm ((hk _ _ _ _ h).2 p l e R s m args below meth c Q c0 w0 hf K hc hw hr H locs ls hS hR h1 h2 hl)
  · refine ⟨(hk _ _ _ _ h).1, fun p l e R s m args below meth c Q c0 w0 hf K hc hw hr H locs ls hS hR h1 h2 hl => ?_⟩
    exact lv_ifnull K.1 K.2.1 hd ((hk _ _ _ _ h).2 p l e R s m args below meth c Q c0 w0 hf K hc hw hr H locs ls hS hR h1 h2 hl)
  · cases h

theorem sd_ifnonnull (hk : ∀ M pc lv st, k M pc lv st = some q → sd_P XL xs D tI tJ tZ tO base xa y d q M pc lv st) {off : Int} (hd : decode (mm_by y) pc = .ok (.ifnonnull off, 3)) (ht : 0 ≤ (pc : Int) + off) (h : mm_ex XL xs y (.ifnonnull off, e) M pc lv st k cal = some q) : sd_P XL xs D tI tJ tZ tO base xa y d q M pc lv st := by
  unfold mm_ex at h
  dsimp only at h
  split at h
  · refine ⟨(hk _ _ _ _ h).1, fun p l e R s m args below meth c Q c0 w0 hf K hc hw hr H locs ls hS hR h1 h2 hl => ?_⟩
    exact lv_ifnonnullN K.1 K.2.1 hd ((hk _ _ _ _ h).2 p l e R s m args below meth c Q c0 w0 hf K hc hw hr H locs ls hS hR h1 h2 hl)
  · refine ⟨(hk _ _ _ _ h).1, fun p l e R s m args below meth c Q c0 w0 hf K hc hw hr H locs ls hS hR h1 h2 hl => ?_⟩
    exact lv_ifnonnull K.1 K.2.1 hd (Int.toNat_of_nonneg ht).symm ((hk _ _ _ _ h).2 p l e R s m args below meth c Q c0 w0 hf K hc hw hr H locs ls hS hR h1 h2 hl)
  · cases h

theorem sd_tableswitch (hk : ∀ M pc lv st, k M pc lv st = some q → sd_P XL xs D tI tJ tZ tO base xa y d q M pc lv st) {dflt lo hi : Int} {offs : Array Int} {ln : Nat} (hd : decode (mm_by y) pc = .ok (.tableswitch dflt lo hi offs, ln)) (ht : 0 ≤ (pc : Int) + dflt) (ht2 : ∀ o ∈ offs, 0 ≤ (pc : Int) + o) (h : mm_ex XL xs y (.tableswitch dflt lo hi offs, e) M pc lv st k cal = some q) : sd_P XL xs D tI tJ tZ tO base xa y d q M pc lv st := by
  unfold mm_ex at h
  dsimp only at h
  split at h
  · split at h
    · rename_i hx
      refine ⟨(hk _ _ _ _ h).1, fun p l e R s m args below meth c Q c0 w0 hf K hc hw hr H locs ls hS hR h1 h2 hl => ?_⟩
      exact lv_tableOut K.1 K.2.1 hd hx (Int.toNat_of_nonneg ht).symm ((hk _ _ _ _ h).2 p l e R s m args below meth c Q c0 w0 hf K hc hw hr H locs ls hS hR h1 h2 hl)
    · rename_i hx
      split at h
      · rename_i ho
        refine ⟨(hk _ _ _ _ h).1, fun p l e R s m args below meth c Q c0 w0 hf K hc hw hr H locs ls hS hR h1 h2 hl => ?_⟩
        exact lv_tableIn K.1 K.2.1 hd (fun z => hx (Or.inl z)) (fun z => hx (Or.inr z)) ho (Int.toNat_of_nonneg (ht2 _ (Array.mem_of_getElem? ho))).symm ((hk _ _ _ _ h).2 p l e R s m args below meth c Q c0 w0 hf K hc hw hr H locs ls hS hR h1 h2 hl)
      · cases h
  · cases h

theorem sd_lookupswitch (hk : ∀ M pc lv st, k M pc lv st = some q → sd_P XL xs D tI tJ tZ tO base xa y d q M pc lv st) {dflt : Int} {ps : Array (Int × Int)} {ln : Nat} (hd : decode (mm_by y) pc = .ok (.lookupswitch dflt ps, ln)) (hp : (ps.toList.zip (ps.toList.drop 1)).all (fun (a, next) => a.1 < next.1) = true) (ht : ∀ z, 0 ≤ (pc : Int) + Op.lookupswitch.offset ps.toList dflt z) (h : mm_ex XL xs y (.lookupswitch dflt ps, e) M pc lv st k cal = some q) : sd_P XL xs D tI tJ tZ tO base xa y d q M pc lv st := by
  unfold mm_ex at h
  dsimp only at h
  split at h
  · refine ⟨(hk _ _ _ _ h).1, fun p l e R s m args below meth c Q c0 w0 hf K hc hw hr H locs ls hS hR h1 h2 hl => ?_⟩
    exact lv_lookup K.1 K.2.1 hd hp rfl (Int.toNat_of_nonneg (ht _)).symm ((hk _ _ _ _ h).2 p l e R s m args below meth c Q c0 w0 hf K hc hw hr H locs ls hS hR h1 h2 hl)
  · cases h

end SD
