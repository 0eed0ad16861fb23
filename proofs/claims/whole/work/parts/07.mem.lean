theorem sd_upd (f : Nat → Nat → Int32) (a k : Nat) (x : Int32) : mm_up f a k x a = upd (f a) k x := by
  funext j
  by_cases h : j = k <;> simp [mm_up, upd, h]
theorem sd_updL (f : Nat → Nat → Int64) (a k : Nat) (x : Int64) : mm_up f a k x a = vp_updL (f a) k x := by
  funext j
  by_cases h : j = k <;> simp [mm_up, vp_updL, h]
theorem sd_une {α : Type} (f : Nat → Nat → α) {a b : Nat} (k : Nat) (x : α) (h : b ≠ a) : mm_up f a k x b = f b := by
  funext j
  simp [mm_up, h]
theorem sd_urne {α : Type} (f : Nat → Nat → α) {a b : Nat} (x : α) (h : b ≠ a) : mm_ur f a x b = f b := by
  funext j
  simp [mm_ur, h]
theorem sd_ure {α : Type} (f : Nat → Nat → α) (a : Nat) (x : α) : mm_ur f a x a = fun _ => x := by
  funext j
  simp [mm_ur]
section SD
variable {XL : Nat} {xs : Nat → Int32} {D : va_G} {tI tJ tZ : ClassId} {tO : Nat → ClassId} {base : Nat} {xa : Nat → Nat}
variable {y d : Nat} {q : mm_R} {M : mm_M} {pc : Nat} {lv : mm_L} {st : List Value} {k : mm_M → Nat → mm_L → List Value → Option mm_R} {cal : Nat → List Value → (Option Value → mm_M → Option mm_R) → Option mm_R} {e : Nat × Nat × Nat × Int}
theorem sd_at {i : Nat} (h : i < M.2.2.2.1) : (sd_ws tI tJ tZ tO base xa M)[i]? = some (sd_ad base xa i, sd_cl tI tJ tZ tO base xa M i) := by
  simp [sd_ws, h]
theorem sd_set {M' : mm_M} {i : Nat} (hn : M'.2.2.2.1 = M.2.2.2.1) (ho : ∀ j, j ≠ i → sd_cl tI tJ tZ tO base xa M' j = sd_cl tI tJ tZ tO base xa M j) : (sd_ws tI tJ tZ tO base xa M).set i (sd_ad base xa i, sd_cl tI tJ tZ tO base xa M' i) = sd_ws tI tJ tZ tO base xa M' := by
  apply List.ext_getElem?
  intro j
  simp only [sd_ws, hn, List.getElem?_set, List.getElem?_map, List.length_map, List.length_range]
  by_cases hj : i = j
  · subst hj
    by_cases hl : i < M.2.2.2.1 <;> simp [hl]
  · rw [if_neg hj]
    by_cases hl : j < M.2.2.2.1
    · simp [hl, ho j (Ne.symm hj)]
    · simp [hl]
theorem sd_cli (M : mm_M) (a i : Nat) (v : Int32) (j : Nat) (h : j ≠ a) : sd_cl tI tJ tZ tO base xa (mm_pi M a i v) j = sd_cl tI tJ tZ tO base xa M j := by
  have e1 : (mm_pi M a i v).1 j = M.1 j := sd_une M.1 i v h
  have e4 : ∀ ty k, mm_gf (mm_pi M a i v) ty j k = mm_gf M ty j k := fun ty k => by cases ty <;> simp [mm_gf, e1] <;> rfl
  simp only [sd_cl, e1, e4]
  rfl
theorem sd_cll (M : mm_M) (a i : Nat) (v : Int64) (j : Nat) (h : j ≠ a) : sd_cl tI tJ tZ tO base xa (mm_pl M a i v) j = sd_cl tI tJ tZ tO base xa M j := by
  have e1 : (mm_pl M a i v).2.1 j = M.2.1 j := sd_une M.2.1 i v h
  have e4 : ∀ ty k, mm_gf (mm_pl M a i v) ty j k = mm_gf M ty j k := fun ty k => by cases ty <;> simp [mm_gf, e1] <;> rfl
  simp only [sd_cl, e1, e4]
  rfl
theorem sd_clr (M : mm_M) (a i : Nat) (v : Option Nat) (j : Nat) (h : j ≠ a) : sd_cl tI tJ tZ tO base xa (mm_pr M a i v) j = sd_cl tI tJ tZ tO base xa M j := by
  have e1 : (mm_pr M a i v).2.2.1 j = M.2.2.1 j := sd_une M.2.2.1 i v h
  have e4 : ∀ ty k, mm_gf (mm_pr M a i v) ty j k = mm_gf M ty j k := fun ty k => by cases ty <;> simp [mm_gf, e1] <;> rfl
  simp only [sd_cl, e1, e4]
  rfl
/-- an object's cell -/
theorem sd_clo {ci a : Nat} (hk : (mm_kd a).1 = ci) (hc : ci < 12) : sd_cl tI tJ tZ tO base xa M a = .inr (ci, (List.range (mm_N ci)).map fun k => sd_tv (sd_ad base xa) (mm_gf M (mm_ty ci k) a k)) := by
  subst hk
  unfold sd_cl
  rw [if_pos hc]
theorem sd_clI {a : Nat} (hk : (mm_kd a).1 = 20) : sd_cl tI tJ tZ tO base xa M a = .inl (tI, (mm_kd a).2, .inl (M.1 a)) := by
  unfold sd_cl
  rw [if_neg (by omega), if_pos hk]
theorem sd_clJ {a : Nat} (hk : (mm_kd a).1 = 21) : sd_cl tI tJ tZ tO base xa M a = .inl (tJ, (mm_kd a).2, .inr (.inl (M.2.1 a))) := by
  unfold sd_cl
  rw [if_neg (by omega), if_neg (by omega), if_pos hk]
theorem sd_clZ {a : Nat} (hk : (mm_kd a).1 = 22) : sd_cl tI tJ tZ tO base xa M a = .inl (tZ, (mm_kd a).2, .inl (M.1 a)) := by
  unfold sd_cl
  rw [if_neg (by omega), if_neg (by omega), if_neg (by omega), if_pos hk]
theorem sd_clO {ci a : Nat} (hk : (mm_kd a).1 = 30 + ci) : sd_cl tI tJ tZ tO base xa M a = .inl (tO ci, (mm_kd a).2, .inr (.inr (.inr (.inr (fun k => (M.2.2.1 a k).map (sd_ad base xa)))))) := by
  unfold sd_cl
  rw [if_neg (by omega), if_neg (by omega), if_neg (by omega), if_neg (by omega), hk, Nat.add_sub_cancel_left]
/-- a store into one cell -/
theorem sd_Rs {M' : mm_M} {H1 : Heap} {a : Nat} (hn : M'.2.2.2 = M.2.2.2) (ho : ∀ j, j ≠ a → sd_cl tI tJ tZ tO base xa M' j = sd_cl tI tJ tZ tO base xa M j) (hz : M.2.2.2.1 ≤ M.2.2.2.2.1 ∧ (M.2.2.2.1 = M.2.2.2.2.1 → H1.size = base + M.2.2.2.1)) (h640 : M.2.2.2.1 ≤ 640) {w : va_E} (hw : sd_cl tI tJ tZ tO base xa M' a = w) (hP : va_P D vwCl ((sd_ws tI tJ tZ tO base xa M).set a (sd_ad base xa a, w)) H1) (hD : va_D (sd_A base) ((sd_ws tI tJ tZ tO base xa M).set a (sd_ad base xa a, w))) : sd_Rp D tI tJ tZ tO base xa M' H1 := by
  subst hw
  rw [sd_set (by rw [hn]) ho] at hP hD
  exact ⟨hP, hD, by rw [hn]; exact hz, by rw [hn]; exact h640⟩
theorem sd_in {i : Int32} {n : Nat} (h : ¬ (i < 0 ∨ n ≤ i.toNatClampNeg)) : vp_in i n := h
theorem sd_getfield (hk : ∀ M pc lv st, k M pc lv st = some q → sd_P XL xs D tI tJ tZ tO base xa y d q M pc lv st) {i : Nat} (hd : decode (mm_by y) pc = .ok (.getfield i, 3)) (hw0 : sd_fk (mm_oc y) i e.2.1 e.2.2.1) (h : mm_ex XL xs y (.getfield i, e) M pc lv st k cal = some q) : sd_P XL xs D tI tJ tZ tO base xa y d q M pc lv st := by
  unfold mm_ex at h
  dsimp only at h
  split at h
  · rename_i a st'
    obtain ⟨g1, h⟩ := sd_bif h
    obtain ⟨g2, h⟩ := sd_bif h
    obtain ⟨g3, h⟩ := sd_bif h
    obtain ⟨w1, w2, w3⟩ := hw0
    obtain ⟨c1, c2, c3, c4, c5⟩ := sd_cls _ w1
    refine ⟨(hk _ _ _ _ h).1, fun p l e' R s m args below meth c Q c0 w0 hf K hc hw hr H locs ls hS hR h1 h2 hl => ?_⟩
    have G := (hk _ _ _ _ h).2 p l e' R s m args below meth c Q c0 w0 hf K hc hw hr H locs ls hS hR h1 h2 hl
    have he := (sd_at (tI := tI) (tJ := tJ) (tZ := tZ) (tO := tO) (base := base) (xa := xa) (sd_blt g3)).trans (by rw [sd_clo (sd_beq g1) w1])
    have hv : ((List.range (mm_N e.2.1)).map fun k => sd_tv (sd_ad base xa) (mm_gf M (mm_ty e.2.1 k) a k))[e.2.2.1]? = some (sd_tv (sd_ad base xa) (mm_gf M (mm_ty e.2.1 e.2.2.1) a e.2.2.1)) := by rw [List.getElem?_map, List.getElem?_range w2]; rfl
    have hcl : ∀ w ∈ u_ws (mm_Rn e.2.1) (mm_T e.2.1) (mm_N e.2.1), w ∈ sd_gW := fun w hw => sd_gin (c2 w hw).1 (c2 w hw).2
    rcases w3 with w3 | w3
    · exact va_get K.1 K.2.1 (T := mm_T e.2.1) K.2.2.2.2.1 hcl K.2.2.2.1 K.2.2.2.2.2.2.2.2.2.2.1.1 hR.1 _ he c1 e.2.2.1 w2 (K.2.2.2.2.1 _ w3) (by rw [c5 _ w2]; exact fun x hx => hx) hv hd G
    · exact va_getN K.1 K.2.1 (T := mm_T e.2.1) K.2.2.2.2.1 hcl K.2.2.2.1 K.2.2.2.2.2.2.2.2.2.2.1.1 hR.1 _ he c1 e.2.2.1 w2 (va_Nw.use rfl (K.2.2.2.2.2.2.2.2.2.2.1.2.1 _ w3)) (by rw [c5 _ w2]; exact fun x hx => hx) hv hd G
  · cases h
end SD
