/-! THE LAW'S OWN 'thing': BuriedGoods.thing returns or throws, and the law's catches -/
def th_X : String := "java/util/NoSuchElementException"
def th_Ns : List String := ["java/lang/RuntimeException", "java/lang/Exception"]
theorem th_w1 : Cond.classLink RX10 187 th_X ∈ sd_gW := sd_gin (by decide +kernel) rfl
theorem th_w2 : Cond.initialized th_X ∈ sd_gW := sd_gin (by decide +kernel) rfl
theorem th_w3 : Cond.methodLink RL 7 yX10_thing ∈ sd_gW := sd_gin (by decide +kernel) rfl
theorem th_w4 : Cond.classLink RL 13 th_X ∈ sd_gW := sd_gin (by decide +kernel) rfl
theorem th_w5 : Cond.methodLink RL 46 yL_thing ∈ sd_gW := sd_gin (by decide +kernel) rfl
theorem th_w6 : Cond.static yL_thing ∈ sd_gW := sd_gin (by decide +kernel) rfl
theorem th_w7 : Cond.initialized RL ∈ sd_gW := sd_gin (by decide +kernel) rfl
theorem th_w8 : Cond.codeWith yL_thing cL_thing 5 (some .int) [(0, 10, 13, 13)] ∈ sd_gW := sd_gin (by decide +kernel) rfl
theorem th_w9 : Cond.castable th_X th_X ∈ sd_nW := sd_nin (by decide +kernel) rfl
theorem th_at : ∀ w ∈ (vx_at0 RX10 189 th_X th_Ns).filter goodWord, w ∈ lw_tbl := by decide +kernel
theorem th_nat : ∀ w ∈ (vx_at0 RX10 189 th_X th_Ns).filter (fun w => !goodWord w), w ∈ lw_tbl ∧ sd_nst w = true := by decide +kernel
theorem th_good : ∀ w ∈ Cond.classLink RX10 187 th_X :: Cond.initialized th_X :: vx_at0 RX10 189 th_X th_Ns, vx_ot w = true := by decide +kernel
theorem th_ot {w : Cond} (h : sd_nst w = true) : w.onTables = true := by
  cases w <;> first | rfl | (simp [sd_nst] at h)
theorem th_hat {args : Array Value} {s : State} (h1 : ∀ w ∈ sd_gW, w.before args s = true) (h2 : ∀ w ∈ sd_nW, va_Nw w s) : ∀ w ∈ vx_at0 RX10 189 th_X th_Ns, w.before args s = true := by
  intro w hw
  by_cases g : goodWord w = true
  · exact h1 w (sd_gin (th_at w (List.mem_filter.mpr ⟨hw, g⟩)) g)
  · have h3 := th_nat w (List.mem_filter.mpr ⟨hw, by
      cases hg : goodWord w with
      | true => exact absurd hg g
      | false => rfl⟩)
    exact va_Nw.use (th_ot h3.2) (h2 w (sd_nin h3.1 h3.2))
theorem th_tr {l : Launch} (hf : l.flags = flags0) : l.stackTraces = false := by
  unfold Launch.stackTraces
  rw [hf]
  decide +kernel
section TH
variable {XL : Nat} {xs : Nat → Int32} {D : va_G} {tI tJ tZ : ClassId} {tO : Nat → ClassId} {base : Nat} {xa : Nat → Nat}
variable {p : Program} {l : Launch} {e' : Env} {R : Room} {s : State} {m : MethodId} {args : Array Value} {below : List Frame} {meth : Method} {c : Code} {Q : State → Prop} {H H1 : Heap} {locs : List Loc} {ls : Array Slot} {c0 w0 : Nat} {M : mm_M} {x now t o : Nat} {a b : Int32} {r : mm_R}
/-- runs without calls -/
theorem th_main0 : ∀ (n y : Nat) (q : mm_R) (M : mm_M) (pc : Nat) (lv : mm_L) (st : List Value), mm_run XL xs n 0 y M pc lv st = some q → sd_P XL xs D tI tJ tZ tO base xa y 0 q M pc lv st := by
  intro n
  induction n with
  | zero => intro y q M pc lv st h; cases h
  | succ n ih =>
    intro y q M pc lv st h
    unfold mm_run at h
    split at h
    · rename_i en hen
      obtain ⟨hd, hl⟩ := ck_Tab y pc en hen
      exact sd_ins (fun M pc lv st h => ih y q M pc lv st h) (fun y' as k' hc => by cases hc) hd hl h
    · cases h
theorem th_Kd {y d d' : Nat} (h : d' ≤ d) (K : sd_K XL xs D tI tJ tZ tO base xa p R s m args meth c y d) : sd_K XL xs D tI tJ tZ tO base xa p R s m args meth c y d' := by
  obtain ⟨k1, k2, k3, k4, k5, k6, k7, k8, k9, k10, k11⟩ := K
  exact ⟨k1, k2, k3, k4, k5, k6, k7, k8, by omega, by omega, k11⟩
def th_V (M : mm_M) (t : Nat) (b : Int32) : Int32 := if b = 0 then M.1 t 1 else if b = 1 then M.1 t 2 else if b = 2 then M.1 t 3 else if b = 3 then M.1 t 4 else if M.1 t 3 = -1 then 0 else if M.1 t 5 = 0 then 0 else 1
set_option maxRecDepth 20000 in
theorem th_run (hk : (mm_kd t).1 = 9) (ht : t < M.2.2.2.1) (hb : ¬ (b < 0 ∨ 4 < b)) : mm_run XL xs 20 0 102 M 30 [(3, .ref t), (0, .ref x), (1, .int a), (2, .int b)] [] = some (some (.int (th_V M t b)), M) := by
  have k1 : Nat.beq (mm_kd t).1 9 = true := by rw [hk]; rfl
  have k2 : Nat.blt t M.2.2.2.1 = true := Nat.ble_eq_true_of_le ht
  have eb := nn_of (fun z => hb (Or.inl z))
  have bn := (nn_lek (k := 4) (fun z => hb (Or.inl z)) (by decide)).mp (Int32.not_lt.mp (fun z => hb (Or.inr z)))
  generalize b.toNatClampNeg = k at eb bn
  subst eb
  clear hb
  obtain rfl | rfl | rfl | rfl | rfl : k = 0 ∨ k = 1 ∨ k = 2 ∨ k = 3 ∨ k = 4 := by omega
  · have e : th_V M t (Int32.ofNat 0) = M.1 t 1 := if_pos rfl
    rw [e]
    have g : mm_run XL xs 20 0 102 M 30 [(3, .ref t), (0, .ref x), (1, .int a), (2, .int (Int32.ofNat 0))] [] = bif Nat.beq (mm_kd t).1 9 then (bif Nat.blt t M.2.2.2.1 then some (some (.int (M.1 t 1)), M) else none) else none := rfl
    rw [g, k1, k2]; rfl
  · have e : th_V M t (Int32.ofNat 1) = M.1 t 2 := by
      unfold th_V
      rw [if_neg (show ¬ Int32.ofNat 1 = 0 by decide)]
      exact if_pos rfl
    rw [e]
    have g : mm_run XL xs 20 0 102 M 30 [(3, .ref t), (0, .ref x), (1, .int a), (2, .int (Int32.ofNat 1))] [] = bif Nat.beq (mm_kd t).1 9 then (bif Nat.blt t M.2.2.2.1 then some (some (.int (M.1 t 2)), M) else none) else none := rfl
    rw [g, k1, k2]; rfl
  · have e : th_V M t (Int32.ofNat 2) = M.1 t 3 := by
      unfold th_V
      rw [if_neg (show ¬ Int32.ofNat 2 = 0 by decide), if_neg (show ¬ Int32.ofNat 2 = 1 by decide)]
      exact if_pos rfl
    rw [e]
    have g : mm_run XL xs 20 0 102 M 30 [(3, .ref t), (0, .ref x), (1, .int a), (2, .int (Int32.ofNat 2))] [] = bif Nat.beq (mm_kd t).1 9 then (bif Nat.blt t M.2.2.2.1 then some (some (.int (M.1 t 3)), M) else none) else none := rfl
    rw [g, k1, k2]; rfl
  · have e : th_V M t (Int32.ofNat 3) = M.1 t 4 := by
      unfold th_V
      rw [if_neg (show ¬ Int32.ofNat 3 = 0 by decide), if_neg (show ¬ Int32.ofNat 3 = 1 by decide), if_neg (show ¬ Int32.ofNat 3 = 2 by decide)]
      exact if_pos rfl
    rw [e]
    have g : mm_run XL xs 20 0 102 M 30 [(3, .ref t), (0, .ref x), (1, .int a), (2, .int (Int32.ofNat 3))] [] = bif Nat.beq (mm_kd t).1 9 then (bif Nat.blt t M.2.2.2.1 then some (some (.int (M.1 t 4)), M) else none) else none := rfl
    rw [g, k1, k2]; rfl
  · have e : th_V M t (Int32.ofNat 4) = if M.1 t 3 = Int32.ofInt (-1) then 0 else if M.1 t 5 = 0 then 0 else 1 := by
      unfold th_V
      rw [if_neg (show ¬ Int32.ofNat 4 = 0 by decide), if_neg (show ¬ Int32.ofNat 4 = 1 by decide), if_neg (show ¬ Int32.ofNat 4 = 2 by decide), if_neg (show ¬ Int32.ofNat 4 = 3 by decide)]
      rfl
    rw [e]
    have g : mm_run XL xs 20 0 102 M 30 [(3, .ref t), (0, .ref x), (1, .int a), (2, .int (Int32.ofNat 4))] [] = bif Nat.beq (mm_kd t).1 9 then (bif Nat.blt t M.2.2.2.1 then (if M.1 t 3 = Int32.ofInt (-1) then some (some (.int (Int32.ofInt 0)), M) else (bif Nat.beq (mm_kd t).1 9 then (bif Nat.blt t M.2.2.2.1 then (if M.1 t 5 = 0 then some (some (.int (Int32.ofInt 0)), M) else some (some (.int (Int32.ofInt 1)), M)) else none) else none)) else none) else none := rfl
    rw [g, k1, k2]
    simp only [cond_true]
    by_cases q1 : M.1 t 3 = Int32.ofInt (-1)
    · rw [if_pos q1, if_pos q1]; rfl
    · rw [if_neg q1, if_neg q1]
      by_cases q2 : M.1 t 5 = 0
      · rw [if_pos q2, if_pos q2]; rfl
      · rw [if_neg q2, if_neg q2]; rfl
/-- the memory behind a throw: one cell more that nobody holds -/
def th_up (M : mm_M) : mm_M := (M.1, M.2.1, M.2.2.1, M.2.2.2.1, M.2.2.2.2.1 + 1, M.2.2.2.2.2 + 6)
theorem th_ws : sd_ws tI tJ tZ tO base xa (th_up M) = sd_ws tI tJ tZ tO base xa M := by
  unfold sd_ws
  refine List.map_congr_left fun j _ => ?_
  rfl
theorem th_Rpu (hR : sd_Rp D tI tJ tZ tO base xa M H) (hq : ∀ q : Nat, q < H.size → H1[q]? = H[q]?) : sd_Rp D tI tJ tZ tO base xa (th_up M) H1 := by
  have h1 := hR.2.2.1.1
  refine ⟨?_, ?_, ⟨?_, fun z => absurd z ?_⟩, hR.2.2.2⟩
  · rw [th_ws]; exact hR.1.kept (fun k x hx => hq x.1 ((hR.1 k x hx).lt))
  · rw [th_ws]; exact hR.2.1
  · show M.2.2.2.1 ≤ M.2.2.2.2.1 + 1
    omega
  · show ¬ M.2.2.2.1 = M.2.2.2.2.1 + 1
    omega
theorem th_recv {y : Nat} (hy : sd_Yok y) (hoc : mm_oc y < 12) (hK : va_K D vwCl (sd_tys tI tJ tZ tO) s) (hR : sd_Rp D tI tJ tZ tO base xa M H) (hx : (mm_kd x).1 = mm_oc y) (hxl : x < M.2.2.2.1) : ∃ cellB : Cell, H[sd_ad base xa x]? = some cellB ∧ cellB.vm.isStatics = false ∧ s.vm.findClass (mm_nm y).cls = some cellB.cls := by
  have he := (sd_at (tI := tI) (tJ := tJ) (tZ := tZ) (tO := tO) (base := base) (xa := xa) hxl).trans (by rw [sd_clo hx hoc])
  obtain ⟨q1, -⟩ := sd_cls _ hoc
  obtain ⟨rr, r1, cell, s1, s2, s3, -⟩ := hR.1 _ _ he
  have hrr : rr = (mm_Rn (mm_oc y), mm_T (mm_oc y), mm_N (mm_oc y)) := Option.some.inj (r1.symm.trans q1)
  subst hrr
  exact ⟨cell, s1, by rw [s3]; rfl, by rw [s2, hy.2.2.2.2.2.1]; exact (hK.1 _ _ q1).2.1⟩
/-- the run of BuriedGoods.thing up to what 'find' answers -/
theorem th_pre (hf : l.flags = flags0) (K : sd_K XL xs D tI tJ tZ tO base xa p R s m args meth c 102 7) (hx : (mm_kd x).1 = 10) (hxl : x < M.2.2.2.1) (hnow : M.2.2.1 x 5 = some now) (hnk : (mm_kd now).1 = 7) (hnl : now < M.2.2.2.1) (hfind : sd_P XL xs D tI tJ tZ tO base xa 69 1 r M 0 (lv_args 0 [.ref now, .int a]) []) (hc : r.2.2.2.2.2.1 - c0 ≤ R.cells) (hw : r.2.2.2.2.2.2 - w0 ≤ R.slots) (h1 : c0 ≤ M.2.2.2.2.1) (h2 : w0 ≤ M.2.2.2.2.2) (hS : va_S (sd_A base) s.heap H locs) (hR : sd_Rp D tI tJ tZ tO base xa M H) (hl : lv_has ls 4 [(0, .ref (sd_ad base xa x)), (1, .int a), (2, .int b)])
    (kk : ∀ (H1 : Heap) (locs1 : List Loc), sd_Rp D tI tJ tZ tO base xa r.2 H1 → va_S (sd_A base) s.heap H1 locs1 → W p l e' R s m args below meth c H1 locs1 (r.2.2.2.2.2.1 - c0) (r.2.2.2.2.2.2 - w0) Q (F0 m 8 ls ((r.1.map (sd_tv (sd_ad base xa))).toList ++ []))) :
    W p l e' R s m args below meth c H locs (M.2.2.2.2.1 - c0) (M.2.2.2.2.2 - w0) Q (F0 m 0 ls []) := by
  have d0 : decode (mm_by 102) 0 = .ok (.aload_n 0, 1) := (ck_Tab 102 0 (.aload_n 0, 1, 0, 0, 0) rfl).1
  have d1 : decode (mm_by 102) 1 = .ok (.getfield 40, 3) := (ck_Tab 102 1 (.getfield 40, 3, 10, 5, 0) rfl).1
  have f1 : sd_fk (mm_oc 102) 40 10 5 := (ck_Tab 102 1 (.getfield 40, 3, 10, 5, 0) rfl).2
  have d4 : decode (mm_by 102) 4 = .ok (.iload_n 1, 1) := (ck_Tab 102 4 (.iload_n 1, 1, 0, 0, 0) rfl).1
  have d5 : decode (mm_by 102) 5 = .ok (.invokevirtual 183, 3) := (ck_Tab 102 5 (.invokevirtual 183, 3, 69, 1, 0) rfl).1
  have f5 : 69 ≠ 310 ∧ 1 = mm_na 69 ∧ sd_Mk (mm_oc 102) 183 69 ∧ sd_Yok 69 ∧ Cond.instanceMethod (mm_nm 69) ∈ sd_gW ∧ Cond.selects (mm_nm 69).cls (mm_nm 69) (mm_nm 69) ∈ sd_gW ∧ mm_oc 69 < 12 := (ck_Tab 102 5 (.invokevirtual 183, 3, 69, 1, 0) rfl).2
  refine lv_aload_n K.1 K.2.1 d0 rfl (lv_at hl 0 rfl) ?_
  have G : W p l e' R s m args below meth c H locs (M.2.2.2.2.1 - c0) (M.2.2.2.2.2 - w0) Q (F0 m 4 ls [.ref (sd_ad base xa now)]) := by
    refine lv_iload_n K.1 K.2.1 d4 rfl (lv_at hl 1 rfl) ?_
    obtain ⟨w1, w2, w3, w4, w5, w6, w7⟩ := f5
    have hM := sd_met (l := l) hf hfind w4 (Nat.le_of_ble_eq_true rfl)
    have hKd := K.2.2.2.2.2.2.2.2.1
    have hKl := K.2.2.2.2.2.2.2.2.2.1
    have hm1 := hfind.1
    have hG := sd_good w4
    have hini := K.2.2.2.2.1 _ w4.2.2.1
    have hnl9 := w4.2.2.2.2.1
    have hrecv := th_recv (x := now) w4 w7 K.2.2.2.2.2.2.2.2.2.2.1.1 hR hnk hnl
    have fin : ∀ (H1 : Heap) (locs1 : List Loc), sd_Rp D tI tJ tZ tO base xa r.2 H1 → va_S (sd_A base) s.heap H1 locs1 → W p l e' R s m args below meth c H1 locs1 (M.2.2.2.2.1 - c0 + (r.2.2.2.2.2.1 - M.2.2.2.2.1)) (M.2.2.2.2.2 - w0 + (r.2.2.2.2.2.2 - M.2.2.2.2.2)) Q (F0 m 8 ls ((r.1.map (sd_tv (sd_ad base xa))).toList ++ [])) := fun H1 locs1 hR1 hS1 => by
      have x1 : M.2.2.2.2.1 - c0 + (r.2.2.2.2.2.1 - M.2.2.2.2.1) = r.2.2.2.2.2.1 - c0 := by have := hm1.1; omega
      have x2 : M.2.2.2.2.2 - w0 + (r.2.2.2.2.2.2 - M.2.2.2.2.2) = r.2.2.2.2.2.2 - w0 := by have := hm1.2; omega
      rw [x1, x2]
      exact kk H1 locs1 hR1 hS1
    rcases w3 with hlk | hlk
    · exact sd_run (va_runV (As := [.int a]) ⟨K.1, K.2.1, K.2.2.1, K.2.2.2.1, K.2.2.2.2.1⟩ hM ⟨callB_of 1 K.2.2.2.2.1 hG rfl rfl rfl hini (K.2.2.2.2.1 _ hlk) w4.2.2.2.1 ⟨by show 2 + 1 ≤ R.frames; omega, by show 8 + (mm_nl 69 + 11) + 64 * 2 ≤ R.locals; omega⟩, K.2.2.2.2.1 _ w5, K.2.2.2.2.1 _ w6⟩ ⟨sd_blind, hrecv, sd_pre (as := [.ref now, .int a]) K.2.2.2.2.2.2.2.2.2.2.1 K.2.2.2.2.2.2.2.2.2.2.2.1 K.2.2.2.2.2.2.2.2.2.2.2.2 hS hR⟩ rfl rfl hl.1 rfl (lv_room (by decide)) d5 ⟨by have := hm1.1; omega, by have := hm1.2; omega⟩) hS fin
    · exact sd_run (va_runVN (As := [.int a]) ⟨K.1, K.2.1, K.2.2.1, K.2.2.2.1, K.2.2.2.2.1⟩ hM ⟨va_cnB 1 K.2.2.2.2.1 hG rfl rfl rfl (K.2.2.2.2.2.2.2.2.2.2.1.2.1 _ hlk) hini w4.2.2.2.1 ⟨by show 2 + 1 ≤ R.frames; omega, by show 8 + (mm_nl 69 + 11) + 64 * 2 ≤ R.locals; omega⟩, K.2.2.2.2.1 _ w5, K.2.2.2.2.1 _ w6⟩ ⟨sd_blind, hrecv, sd_pre (as := [.ref now, .int a]) K.2.2.2.2.2.2.2.2.2.2.1 K.2.2.2.2.2.2.2.2.2.2.2.1 K.2.2.2.2.2.2.2.2.2.2.2.2 hS hR⟩ rfl rfl hl.1 rfl (lv_room (by decide)) d5 ⟨by have := hm1.1; omega, by have := hm1.2; omega⟩) hS fin
  obtain ⟨v1, v2, v3⟩ := f1
  obtain ⟨q1, q2, q3, q4, q5⟩ := sd_cls _ v1
  have he := (sd_at (tI := tI) (tJ := tJ) (tZ := tZ) (tO := tO) (base := base) (xa := xa) hxl).trans (by rw [sd_clo hx v1])
  have hv : ((List.range (mm_N 10)).map fun k => sd_tv (sd_ad base xa) (mm_gf M (mm_ty 10 k) x k))[5]? = some (.ref (sd_ad base xa now)) := by
    rw [List.getElem?_map, List.getElem?_range v2]
    show some (sd_tv (sd_ad base xa) (va_rf (M.2.2.1 x 5))) = _
    rw [hnow]
    rfl
  have hcl : ∀ w ∈ u_ws (mm_Rn 10) (mm_T 10) (mm_N 10), w ∈ sd_gW := fun w hw => sd_gin (q2 w hw).1 (q2 w hw).2
  rcases v3 with v3 | v3
  · exact va_get K.1 K.2.1 (T := mm_T 10) K.2.2.2.2.1 hcl K.2.2.2.1 K.2.2.2.2.2.2.2.2.2.2.1.1 hR.1 _ he q1 5 v2 (K.2.2.2.2.1 _ v3) (by rw [q5 _ v2]; exact fun x hx => hx) hv d1 G
  · exact va_getN K.1 K.2.1 (T := mm_T 10) K.2.2.2.2.1 hcl K.2.2.2.1 K.2.2.2.2.2.2.2.2.2.2.1.1 hR.1 _ he q1 5 v2 (va_Nw.use rfl (K.2.2.2.2.2.2.2.2.2.2.1.2.1 _ v3)) (by rw [q5 _ v2]; exact fun x hx => hx) hv d1 G
theorem th_K0 {R' : Room} {cc : ByteArray} {y d : Nat} {as : List Value} {S : Spec} {s₁ : State} (B : BodyLoose p l (mm_nm y) S cc (mm_nl y) (mm_rt y) e' s m (as.map (sd_tv (sd_ad base xa))).toArray below meth c s₁) (hby : cc = mm_by y) (hml : c.maxLocals = mm_nl y) (hcls : (mm_nm y).cls = mm_Rn (mm_oc y)) (hin : mm_in y = false) (hw : ∀ w ∈ sd_gW, w.before (as.map (sd_tv (sd_ad base xa))).toArray s = true) (hf : d + 1 ≤ R'.frames) (hlc : 64 * (d + 1) ≤ R'.locals) (hv : sd_Pc XL xs D tI tJ tZ tO base xa M as (as.map (sd_tv (sd_ad base xa))).toArray s) : sd_K XL xs D tI tJ tZ tO base xa p R' s m (as.map (sd_tv (sd_ad base xa))).toArray meth c y d := by
  obtain ⟨-, hR, hSk, hX, hb⟩ := hv
  have hlocks := B.notSynchronized
  exact ⟨B.exec, B.bytes.trans hby, hml, by rw [← hcls]; exact findClass_of_methodNamed B.named, hw, B.returns, hlocks, fun hi => absurd hi (by rw [hin]; decide), hf, hlc, hSk, hX, hb⟩
end TH
