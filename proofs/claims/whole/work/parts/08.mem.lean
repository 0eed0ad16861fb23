section SD
variable {XL : Nat} {xs : Nat → Int32} {D : va_G} {tI tJ tZ : ClassId} {tO : Nat → ClassId} {base : Nat} {xa : Nat → Nat}
variable {y d : Nat} {q : mm_R} {M : mm_M} {pc : Nat} {lv : mm_L} {st : List Value} {k : mm_M → Nat → mm_L → List Value → Option mm_R} {cal : Nat → List Value → (Option Value → mm_M → Option mm_R) → Option mm_R} {e : Nat × Nat × Nat × Int}

theorem sd_map_set {N k : Nat} {f g : Nat → Value} {v : Value} (hk : k < N) (h1 : g k = v) (h2 : ∀ j, j ≠ k → g j = f j) : ((List.range N).map f).set k v = (List.range N).map g := by
  apply List.ext_getElem?
  intro j
  simp only [List.getElem?_set, List.getElem?_map, List.length_map, List.length_range]
  by_cases hj : k = j
  · subst hj
    simp [hk, h1]
  · rw [if_neg hj]
    by_cases hl : j < N
    · simp [hl, h2 j (Ne.symm hj)]
    · simp [hl]
/-- a store in a field -/
theorem sd_putL {i a : Nat} {v : Value} {M' : mm_M} {st : List Value} (hd : decode (mm_by y) pc = .ok (.putfield i, 3)) (hw0 : sd_fp (mm_oc y) i e.2.1 e.2.2.1) (g1 : (mm_kd a).1 = e.2.1) (g3 : a < M.2.2.2.1) (g4 : (!(mm_T e.2.1 e.2.2.1).2.2.2 || (mm_in y && Nat.beq (mm_oc y) e.2.1)) = true)
    (hP : sd_P XL xs D tI tJ tZ tO base xa y d q M' (pc + 3) lv st) (hn : M'.2.2.2 = M.2.2.2) (ho : ∀ j, j ≠ a → sd_cl tI tJ tZ tO base xa M' j = sd_cl tI tJ tZ tO base xa M j) (hg1 : mm_gf M' (mm_ty e.2.1 e.2.2.1) a e.2.2.1 = v) (hg2 : ∀ j, j ≠ e.2.2.1 → mm_gf M' (mm_ty e.2.1 j) a j = mm_gf M (mm_ty e.2.1 j) a j)
    (hnw : narrow (mm_ty e.2.1 e.2.2.1) (sd_tv (sd_ad base xa) v) = sd_tv (sd_ad base xa) v) (hft : fits (mm_ty e.2.1 e.2.2.1) (sd_tv (sd_ad base xa) v) = true) : sd_P XL xs D tI tJ tZ tO base xa y d q M pc lv (v :: .ref a :: st) := by
  obtain ⟨⟨w1, w2, w3⟩, wf⟩ := hw0
  obtain ⟨c1, c2, c3, c4, c5⟩ := sd_cls _ w1
  have hM1 : M'.2.2.2.2.1 = M.2.2.2.2.1 := by rw [hn]
  have hM2 : M'.2.2.2.2.2 = M.2.2.2.2.2 := by rw [hn]
  refine ⟨by rw [← hM1, ← hM2]; exact hP.1, fun p l e' R s m args below meth c Q c0 w0 hf K hc hw hr H locs ls hS hR h1 h2 hl => ?_⟩
  have he := (sd_at (tI := tI) (tJ := tJ) (tZ := tZ) (tO := tO) (base := base) (xa := xa) g3).trans (by rw [sd_clo g1 w1])
  have hcl : ∀ w ∈ u_ws (mm_Rn e.2.1) (mm_T e.2.1) (mm_N e.2.1), w ∈ sd_gW := fun w hw => sd_gin (c2 w hw).1 (c2 w hw).2
  have hset : ((List.range (mm_N e.2.1)).map fun k => sd_tv (sd_ad base xa) (mm_gf M (mm_ty e.2.1 k) a k)).set e.2.2.1 (sd_tv (sd_ad base xa) v) = (List.range (mm_N e.2.1)).map fun k => sd_tv (sd_ad base xa) (mm_gf M' (mm_ty e.2.1 k) a k) :=
    sd_map_set w2 (by rw [hg1]) (fun j hj => by rw [hg2 j hj])
  have hlen : e.2.2.1 < ((List.range (mm_N e.2.1)).map fun k => sd_tv (sd_ad base xa) (mm_gf M (mm_ty e.2.1 k) a k)).length := by simpa using w2
  have hK := K.2.2.2.2.2.2.2.2.2.2.1.1
  obtain ⟨r, r1, cell, q1, q2, q3, q4⟩ := hR.1 _ _ he
  have hre : r = (mm_Rn e.2.1, mm_T e.2.1, mm_N e.2.1) := Option.some.inj (r1.symm.trans c1)
  subst hre
  obtain ⟨hS', hfc, kC, hkC, hkind⟩ := hK.1 _ _ c1
  obtain ⟨cf, kf, fi, f, hi, hsl⟩ := hS' _ w2
  have hap := va_apart (own := "") K.2.2.2.2.1 hcl (mm_ty e.2.1) c3 c4 hK c1
  have hly := u_lays K.2.2.2.2.1 hcl w2
  have hst := (u_facts hfc hkC hly hi).1
  have hfit := u_fits hfc hkC hkind hly hi (c3 _ w2) hnw hft
  have hslt : f.slot < cell.slots.size := by rw [hsl]; exact k2_hasslot (q4 _ w2)
  have kk : ∀ H1 : Heap, H1[sd_ad base xa a]? = some (cell.setSlot f.slot (sd_tv (sd_ad base xa) v)) → H1.size = H.size → (∀ x, x ≠ sd_ad base xa a → H1[x]? = H[x]?) → W p l e' R s m args below meth c H1 (locs ++ [⟨sd_ad base xa a, f.slot⟩]) (M.2.2.2.2.1 - c0) (M.2.2.2.2.2 - w0) Q (F0 m (pc + 3) ls (st.map (sd_tv (sd_ad base xa)))) := by
    intro H1 e1 e2 e3
    rw [hsl] at e1
    have hP1 : va_P D vwCl ((sd_ws tI tJ tZ tO base xa M).set a (sd_ad base xa a, .inr (e.2.1, ((List.range (mm_N e.2.1)).map fun k => sd_tv (sd_ad base xa) (mm_gf M (mm_ty e.2.1 k) a k)).set e.2.2.1 (sd_tv (sd_ad base xa) v)))) H1 :=
      hR.1.set hR.2.1 he ⟨_, c1, t_OB.to (V := updV (vp_V _) e.2.2.1 (sd_tv (sd_ad base xa) v)) ⟨_, e1, q2, q3, t_set q4 hap w2 _⟩ (fun j _ => vp_updV_set hlen _ j)⟩ e3
    have G := hP.2 p l e' R s m args below meth c Q c0 w0 hf K hc hw hr H1 _ ls (hS.put (k := f.slot) e2 e3 (hR.2.1.2 _ _ he)) (sd_Rs hn ho ⟨hR.2.2.1.1, fun z => e2.trans (hR.2.2.1.2 z)⟩ hR.2.2.2 (by rw [sd_clo g1 w1, ← hset]) hP1 (hR.2.1.set he)) (by rw [hM1]; exact h1) (by rw [hM2]; exact h2) hl
    rw [hM1, hM2] at G
    exact G
  have hsame : s.fieldFound? (mm_Rn e.2.1) (mm_T e.2.1 e.2.2.1).2.1 (mm_T e.2.1 e.2.2.1).2.2.1 = some (cf, kf, fi, f) := by rw [← c5 _ w2]; exact hi
  have hlay := K.2.2.2.2.1 _ (hcl _ (u_in_lay w2))
  unfold u_lay at hlay
  cases hfin : (mm_T e.2.1 e.2.2.1).2.2.2 with
  | false =>
    rw [if_neg (by rw [hfin]; decide)] at hlay
    have h6 := u_store hfc hkC hkind hlay hi (c3 _ w2) hnw hft
    rcases w3 with w3 | w3
    · exact W.putK K.1 K.2.1 (f := f) ⟨K.2.2.2.1, K.2.2.2.2.1 _ w3, ⟨_, _, _, hsame⟩, hst⟩ (by rw [q2]; exact h6) q1 q3 hslt rfl rfl hd kk
    · exact va_WputK K.1 K.2.1 (f := f) K.2.2.2.1 (va_Nw.use rfl (K.2.2.2.2.2.2.2.2.2.2.1.2.1 _ w3)) hsame hst (by rw [q2]; exact h6) q1 q3 hslt rfl rfl hd kk
  | true =>
    rw [if_pos hfin] at hlay
    have w3 := wf hfin
    rw [hfin] at g4
    simp only [Bool.not_true, Bool.false_or, Bool.and_eq_true] at g4
    have hcf : m.cls = cf := by
      obtain ⟨_, _, c', _, _, _, -, -, hf', -, -, -, hown2, -⟩ := Cond.laysFinal_spec hlay
      have e1 : c' = cf := by have := hi.symm.trans hf'; simp at this; exact this.1.symm
      rw [c5 _ w2, ← sd_beq g4.2] at hown2
      rw [← e1]; exact Option.some.inj (K.2.2.2.1.symm.trans hown2)
    exact W.putFinK K.1 K.2.1 K.2.2.2.1 (K.2.2.2.2.1 _ w3) hsame hst hcf (K.2.2.2.2.2.2.2.1 g4.1) (by rw [q2]; exact hfit) q1 q3 hslt rfl rfl hd kk
theorem sd_putfield (hk : ∀ M pc lv st, k M pc lv st = some q → sd_P XL xs D tI tJ tZ tO base xa y d q M pc lv st) {i : Nat} (hd : decode (mm_by y) pc = .ok (.putfield i, 3)) (hw0 : sd_fp (mm_oc y) i e.2.1 e.2.2.1) (h : mm_ex XL xs y (.putfield i, e) M pc lv st k cal = some q) : sd_P XL xs D tI tJ tZ tO base xa y d q M pc lv st := by
  unfold mm_ex at h
  dsimp only at h
  split at h
  · rename_i v a st'
    obtain ⟨g1, h⟩ := sd_bif h
    obtain ⟨g2, h⟩ := sd_bif h
    obtain ⟨g3, h⟩ := sd_bif h
    obtain ⟨g4, h⟩ := sd_bif h
    have g1 := sd_beq g1
    have g3 := sd_blt g3
    split at h
    · have hty : mm_ty e.2.1 e.2.2.1 = .int := by assumption
      refine sd_putL hd hw0 g1 g3 g4 (hk _ _ _ _ h) rfl (sd_cli M a _ _) (by rw [hty]; simp [mm_gf, mm_pi, mm_up]) (fun j hj => ?_) (by rw [hty]; rfl) (by rw [hty]; rfl)
      cases mm_ty e.2.1 j <;> simp [mm_gf, mm_pi, mm_up, hj]
    · have hty : mm_ty e.2.1 e.2.2.1 = .boolean := by assumption
      obtain ⟨hx, h⟩ := sd_ift h
      refine sd_putL hd hw0 g1 g3 g4 (hk _ _ _ _ h) rfl (sd_cli M a _ _) (by rw [hty]; simp [mm_gf, mm_pi, mm_up]) (fun j hj => ?_) (by rw [hty]; rcases hx with rfl | rfl <;> rfl) (by rw [hty]; rcases hx with rfl | rfl <;> rfl)
      cases mm_ty e.2.1 j <;> simp [mm_gf, mm_pi, mm_up, hj]
    · have hty : mm_ty e.2.1 e.2.2.1 = .long := by assumption
      refine sd_putL hd hw0 g1 g3 g4 (hk _ _ _ _ h) rfl (sd_cll M a _ _) (by rw [hty]; simp [mm_gf, mm_pl, mm_up]) (fun j hj => ?_) (by rw [hty]; rfl) (by rw [hty]; rfl)
      cases mm_ty e.2.1 j <;> simp [mm_gf, mm_pl, mm_up, hj]
    · obtain ⟨C, hty⟩ : ∃ C, mm_ty e.2.1 e.2.2.1 = .object C := ⟨_, by assumption⟩
      refine sd_putL hd hw0 g1 g3 g4 (hk _ _ _ _ h) rfl (sd_clr M a _ _) (by rw [hty]; simp [mm_gf, mm_pr, mm_up, va_rf]) (fun j hj => ?_) (by rw [hty]; rfl) (by rw [hty]; rfl)
      cases mm_ty e.2.1 j <;> simp [mm_gf, mm_pr, mm_up, hj]
    · obtain ⟨C, hty⟩ : ∃ C, mm_ty e.2.1 e.2.2.1 = .array C := ⟨_, by assumption⟩
      refine sd_putL hd hw0 g1 g3 g4 (hk _ _ _ _ h) rfl (sd_clr M a _ _) (by rw [hty]; simp [mm_gf, mm_pr, mm_up, va_rf]) (fun j hj => ?_) (by rw [hty]; rfl) (by rw [hty]; rfl)
      cases mm_ty e.2.1 j <;> simp [mm_gf, mm_pr, mm_up, hj]
    · cases h
  · cases h
end SD
