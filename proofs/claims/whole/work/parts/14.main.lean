section SD
variable {XL : Nat} {xs : Nat → Int32} {D : va_G} {tI tJ tZ : ClassId} {tO : Nat → ClassId} {base : Nat} {xa : Nat → Nat}
variable {y d : Nat} {q : mm_R} {M : mm_M} {pc : Nat} {lv : mm_L} {st : List Value} {k : mm_M → Nat → mm_L → List Value → Option mm_R} {cal : Nat → List Value → (Option Value → mm_M → Option mm_R) → Option mm_R} {e : Nat × Nat × Nat × Int}

theorem sd_invokespecial (hk : ∀ M pc lv st, k M pc lv st = some q → sd_P XL xs D tI tJ tZ tO base xa y d q M pc lv st) {i : Nat} (hd : decode (mm_by y) pc = .ok (.invokespecial i, 3)) (hcal : ∀ y' as k', cal y' as k' = some q → ∃ d' r, d = d' + 1 ∧ ((y' ≠ 310 ∧ sd_Cr XL xs D tI tJ tZ tO base xa y' d' r M as) ∨ (y' = 310 ∧ sd_Th XL xs D tI tJ tZ tO base xa d' r M as)) ∧ k' r.1 r.2 = some q) (hw0 : (e.2.1 = 9999 → Cond.methodLink (mm_Rn (mm_oc y)) i objectInit ∈ sd_gW ∧ Cond.instanceMethod objectInit ∈ sd_gW ∧ Cond.code objectInit ⟨#[0xb1]⟩ 1 none ∈ sd_gW) ∧ (e.2.1 ≠ 9999 → e.2.1 ≠ 310 ∧ e.2.2.1 = mm_na e.2.1 ∧ sd_Mk (mm_oc y) i e.2.1 ∧ sd_Yok e.2.1 ∧ Cond.instanceMethod (mm_nm e.2.1) ∈ sd_gW ∧ mm_rt e.2.1 = none ∧ (mm_nm e.2.1).name = "<init>")) (h : mm_ex XL xs y (.invokespecial i, e) M pc lv st k cal = some q) : sd_P XL xs D tI tJ tZ tO base xa y d q M pc lv st := by
  unfold mm_ex at h
  dsimp only at h
  cases hb : Nat.beq e.2.1 9999 with
  | true =>
    rw [hb] at h
    simp only [cond_true] at h
    split at h
    · obtain ⟨g4, h⟩ := sd_bif h
      have g4 := sd_ble g4
      obtain ⟨o1, o2, o3⟩ := hw0.1 (sd_beq hb)
      refine ⟨(hk _ _ _ _ h).1, fun p l e' R s m args below meth c Q c0 w0 hf K hc hw hr H locs ls hS hR h1 h2 hl => ?_⟩
      have hKl := K.2.2.2.2.2.2.2.2.2.1
      refine W.objInit K.1 K.2.1 K.2.2.2.1 (K.2.2.2.2.1 _ o1) (K.2.2.2.2.1 _ o2) (K.2.2.2.2.1 _ o3) rfl (hl.1.trans K.2.2.1.symm) rfl hd (by have := K.2.2.2.2.2.2.2.2.1; omega) ?_ ((hk _ _ _ _ h).2 p l e' R s m args below meth c Q c0 w0 hf K hc hw hr H locs ls hS hR h1 h2 hl)
      have h8 := lv_room (pc := pc) (ls := ls) (m := m) (rest := []) (st := (List.map (sd_tv (sd_ad base xa)) _)) (by rw [sd_sum]; exact g4)
      rw [sd_sum] at h8 ⊢
      show 2 * 0 + _ + 12 ≤ _
      omega
    · cases h
  | false =>
  rw [hb] at h
  have hne : e.2.1 ≠ 9999 := fun z => by rw [z] at hb; cases hb
  simp only [cond_false] at h
  split at h
  · rename_i a rest hdrop
    obtain ⟨g4, h⟩ := sd_bif h
    obtain ⟨d', r, rfl, hcr, h⟩ := hcal _ _ _ h
    obtain ⟨w1, w2, w3, w4, w5, w6, w7⟩ := hw0.2 hne
    have hcr := hcr.resolve_right (fun z => w1 z.1) |>.2
    have hm1 := hcr.2.1
    have hm2 := (hk _ _ _ _ h).1
    refine ⟨⟨Nat.le_trans hm1.1 hm2.1, Nat.le_trans hm1.2 hm2.2⟩, fun p l e' R s m args below meth c Q c0 w0 hf K hc hw hr H locs ls hS hR h1 h2 hl => ?_⟩
    have hM := sd_met (l := l) hf hcr.2 w4 hcr.1
    have hKd := K.2.2.2.2.2.2.2.2.1
    have hKl := K.2.2.2.2.2.2.2.2.2.1
    have hG := sd_good w4
    have hini := K.2.2.2.2.1 _ w4.2.2.1
    have hnl := w4.2.2.2.2.1
    obtain ⟨hs1, hs2⟩ := sd_stk (sd_ad base xa) hdrop
    refine W.eq (g2 := F0 m pc ls (((st.take e.2.2.1).reverse.map (sd_tv (sd_ad base xa))).reverse ++ .ref (sd_ad base xa a) :: rest.map (sd_tv (sd_ad base xa)))) (by rw [← hs1]) ?_
    rcases w3 with hlk | hlk
    · exact sd_run (va_runI ⟨K.1, K.2.1, K.2.2.1, K.2.2.2.1, K.2.2.2.2.1⟩ hM ⟨callB_of (mm_na e.2.1) K.2.2.2.2.1 hG (by rw [← w6]; rfl) rfl rfl hini (K.2.2.2.2.1 _ hlk) w4.2.2.2.1 ⟨by omega, by show 8 + (mm_nl e.2.1 + 11) + 64 * (d' + 1) ≤ R.locals; omega⟩, w7, K.2.2.2.2.1 _ w5⟩ ⟨sd_blind, sd_pre K.2.2.2.2.2.2.2.2.2.2.1 K.2.2.2.2.2.2.2.2.2.2.2.1 K.2.2.2.2.2.2.2.2.2.2.2.2 hS hR⟩ rfl (hs2.trans w2) hl.1 rfl (lv_room (by rw [sd_sum]; exact sd_ble g4)) hd ⟨by have := hm1.1; have := hm2.1; omega, by have := hm1.2; have := hm2.2; omega⟩) hS (fun H1 locs1 hR1 hS1 => by
      have G := (hk _ _ _ _ h).2 p l e' R s m args below meth c Q c0 w0 hf K hc hw hr H1 locs1 ls hS1 hR1 (Nat.le_trans h1 hm1.1) (Nat.le_trans h2 hm1.2) hl
      rw [sd_tl]
      have x1 : M.2.2.2.2.1 - c0 + (r.2.2.2.2.2.1 - M.2.2.2.2.1) = r.2.2.2.2.2.1 - c0 := by have := hm1.1; omega
      have x2 : M.2.2.2.2.2 - w0 + (r.2.2.2.2.2.2 - M.2.2.2.2.2) = r.2.2.2.2.2.2 - w0 := by have := hm1.2; omega
      rw [x1, x2]
      exact G)
    · exact sd_run (va_runIN ⟨K.1, K.2.1, K.2.2.1, K.2.2.2.1, K.2.2.2.2.1⟩ hM ⟨va_cnB (mm_na e.2.1) K.2.2.2.2.1 hG (by rw [← w6]; rfl) rfl rfl (K.2.2.2.2.2.2.2.2.2.2.1.2.1 _ hlk) hini w4.2.2.2.1 ⟨by omega, by show 8 + (mm_nl e.2.1 + 11) + 64 * (d' + 1) ≤ R.locals; omega⟩, w7, K.2.2.2.2.1 _ w5⟩ ⟨sd_blind, sd_pre K.2.2.2.2.2.2.2.2.2.2.1 K.2.2.2.2.2.2.2.2.2.2.2.1 K.2.2.2.2.2.2.2.2.2.2.2.2 hS hR⟩ rfl (hs2.trans w2) hl.1 rfl (lv_room (by rw [sd_sum]; exact sd_ble g4)) hd ⟨by have := hm1.1; have := hm2.1; omega, by have := hm1.2; have := hm2.2; omega⟩) hS (fun H1 locs1 hR1 hS1 => by
      have G := (hk _ _ _ _ h).2 p l e' R s m args below meth c Q c0 w0 hf K hc hw hr H1 locs1 ls hS1 hR1 (Nat.le_trans h1 hm1.1) (Nat.le_trans h2 hm1.2) hl
      rw [sd_tl]
      have x1 : M.2.2.2.2.1 - c0 + (r.2.2.2.2.2.1 - M.2.2.2.2.1) = r.2.2.2.2.2.1 - c0 := by have := hm1.1; omega
      have x2 : M.2.2.2.2.2 - w0 + (r.2.2.2.2.2.2 - M.2.2.2.2.2) = r.2.2.2.2.2.2 - w0 := by have := hm1.2; omega
      rw [x1, x2]
      exact G)
  · cases h

/-- the length that decode gives -/
def mm_ln (en : mm_En) : Nat := match en.1 with
  | .bipush _ => 2 | .sipush _ => 3 | .ldc _ => 2 | .ldc_w _ => 3 | .ldc2_w _ => 3
  | .iload _ => 2 | .lload _ => 2 | .aload _ => 2 | .istore _ => 2 | .lstore _ => 2 | .astore _ => 2 | .iinc _ _ => 3
  | .goto _ => 3 | .ifCond _ _ => 3 | .if_icmp _ _ => 3 | .ifnull _ => 3 | .ifnonnull _ => 3
  | .tableswitch _ _ _ _ => en.2.1 | .lookupswitch _ _ => en.2.1
  | .getfield _ => 3 | .putfield _ => 3 | .getstatic _ => 3 | .invokevirtual _ => 3 | .invokespecial _ => 3 | .invokestatic _ => 3 | .new _ => 3 | .newarray _ => 2 | .anewarray _ => 3
  | _ => 1
/-- what the tables must hold for an entry of the code -/
def sd_En (y pc : Nat) (en : mm_En) : Prop := match en.1 with
  | .ldc i => Cond.constant (mm_Rn (mm_oc y)) i (Int32.ofInt en.2.2.2.2) ∈ sd_gW
  | .ldc_w i => Cond.constant (mm_Rn (mm_oc y)) i (Int32.ofInt en.2.2.2.2) ∈ sd_gW
  | .ldc2_w i => Cond.constantLong (mm_Rn (mm_oc y)) i (Int64.ofInt en.2.2.2.2) ∈ sd_gW
  | .getfield i => sd_fk (mm_oc y) i en.2.2.1 en.2.2.2.1
  | .putfield i => sd_fp (mm_oc y) i en.2.2.1 en.2.2.2.1
  | .getstatic i => 1 ≤ en.2.2.1 ∧ en.2.2.1 < 5 ∧ Cond.fieldLink (mm_Rn (mm_oc y)) i "BuriedGoods$Land" (sd_xn en.2.2.1) "[I" ∈ sd_gW
  | .new i => Cond.classLink (mm_Rn (mm_oc y)) i (mm_Rn en.2.2.1) ∈ sd_gW ∧ Cond.instantiable (mm_Rn en.2.2.1) (mm_N en.2.2.1) ∈ sd_gW ∧ Cond.initialized (mm_Rn en.2.2.1) ∈ sd_gW
  | .anewarray i => Cond.classLink (mm_Rn (mm_oc y)) i (mm_Rn en.2.2.1) ∈ sd_gW ∧ en.2.2.1 < 12
  | .newarray t => Cond.arrayClass (newarray.typeOf t) ∈ sd_gW
  | .goto off => 0 ≤ (pc : Int) + off
  | .ifCond _ off => 0 ≤ (pc : Int) + off
  | .if_icmp _ off => 0 ≤ (pc : Int) + off
  | .ifnull off => 0 ≤ (pc : Int) + off
  | .ifnonnull off => 0 ≤ (pc : Int) + off
  | .tableswitch dflt _ _ offs => 0 ≤ (pc : Int) + dflt ∧ ∀ o ∈ offs, 0 ≤ (pc : Int) + o
  | .lookupswitch dflt ps => (ps.toList.zip (ps.toList.drop 1)).all (fun (a, next) => a.1 < next.1) = true ∧ ∀ z, 0 ≤ (pc : Int) + Op.lookupswitch.offset ps.toList dflt z
  | .invokevirtual i => en.2.2.1 ≠ 310 ∧ en.2.2.2.1 = mm_na en.2.2.1 ∧ sd_Mk (mm_oc y) i en.2.2.1 ∧ sd_Yok en.2.2.1 ∧ Cond.instanceMethod (mm_nm en.2.2.1) ∈ sd_gW ∧ Cond.selects (mm_nm en.2.2.1).cls (mm_nm en.2.2.1) (mm_nm en.2.2.1) ∈ sd_gW ∧ mm_oc en.2.2.1 < 12
  | .invokestatic i => (en.2.2.2.1 = mm_na en.2.2.1 ∧ sd_Mk (mm_oc y) i en.2.2.1 ∧ sd_Yok en.2.2.1 ∧ Cond.static (mm_nm en.2.2.1) ∈ sd_gW ∧ en.2.2.1 ≠ 310) ∨ (en.2.2.1 = 310 ∧ i = 46 ∧ y = 311)
  | .invokespecial i => (en.2.2.1 = 9999 → Cond.methodLink (mm_Rn (mm_oc y)) i objectInit ∈ sd_gW ∧ Cond.instanceMethod objectInit ∈ sd_gW ∧ Cond.code objectInit ⟨#[0xb1]⟩ 1 none ∈ sd_gW) ∧ (en.2.2.1 ≠ 9999 → en.2.2.1 ≠ 310 ∧ en.2.2.2.1 = mm_na en.2.2.1 ∧ sd_Mk (mm_oc y) i en.2.2.1 ∧ sd_Yok en.2.2.1 ∧ Cond.instanceMethod (mm_nm en.2.2.1) ∈ sd_gW ∧ mm_rt en.2.2.1 = none ∧ (mm_nm en.2.2.1).name = "<init>")
  | _ => True
theorem sd_na98 {t : ArrayType} (h : mm_ex XL xs y (.newarray t, e) M pc lv st k cal = some q) (ht : t ≠ .int ∧ t ≠ .long ∧ t ≠ .boolean := by simp) : False := by
  unfold mm_ex at h
  dsimp only at h
  split at h
  · obtain ⟨g1, h⟩ := sd_bif h
    obtain ⟨g2, h⟩ := sd_bif h
    have g2 := sd_beq g2
    have : ∀ j, (mm_kd j).1 ≠ 98 := fun j z => by rcases sd_kds j with g | g | g | g | g | g | g | g <;> omega
    cases t <;> simp at ht <;> exact this _ g2
  · cases h
theorem sd_ins {en : mm_En} (hk : ∀ M pc lv st, k M pc lv st = some q → sd_P XL xs D tI tJ tZ tO base xa y d q M pc lv st) (hcal : ∀ y' as k', cal y' as k' = some q → ∃ d' r, d = d' + 1 ∧ ((y' ≠ 310 ∧ sd_Cr XL xs D tI tJ tZ tO base xa y' d' r M as) ∨ (y' = 310 ∧ sd_Th XL xs D tI tJ tZ tO base xa d' r M as)) ∧ k' r.1 r.2 = some q) (hd : decode (mm_by y) pc = .ok (en.1, mm_ln en)) (hl : sd_En y pc en) (h : mm_ex XL xs y en M pc lv st k cal = some q) : sd_P XL xs D tI tJ tZ tO base xa y d q M pc lv st := by
  obtain ⟨i, e⟩ := en
  cases i with
  | aconst_null => exact sd_aconst_null hk hd h
  | iconst _ => exact sd_iconst hk hd h
  | bipush _ => exact sd_bipush hk hd h
  | sipush _ => exact sd_sipush hk hd h
  | lconst _ => exact sd_lconst hk hd h
  | iload_n _ => exact sd_iload_n hk hd h
  | iload _ => exact sd_iload hk hd h
  | lload_n _ => exact sd_lload_n hk hd h
  | lload _ => exact sd_lload hk hd h
  | aload_n _ => exact sd_aload_n hk hd h
  | aload _ => exact sd_aload hk hd h
  | istore_n _ => exact sd_istore_n hk hd h
  | istore _ => exact sd_istore hk hd h
  | lstore_n _ => exact sd_lstore_n hk hd h
  | lstore _ => exact sd_lstore hk hd h
  | astore_n _ => exact sd_astore_n hk hd h
  | astore _ => exact sd_astore hk hd h
  | iinc _ _ => exact sd_iinc hk hd h
  | pop => exact sd_pop hk hd h
  | dup => exact sd_dup hk hd h
  | dup2 => exact sd_dup2 hk hd h
  | iadd => exact sd_iadd hk hd h
  | isub => exact sd_isub hk hd h
  | imul => exact sd_imul hk hd h
  | iand => exact sd_iand hk hd h
  | ior => exact sd_ior hk hd h
  | ixor => exact sd_ixor hk hd h
  | ishl => exact sd_ishl hk hd h
  | ishr => exact sd_ishr hk hd h
  | ineg => exact sd_ineg hk hd h
  | ladd => exact sd_ladd hk hd h
  | lsub => exact sd_lsub hk hd h
  | lmul => exact sd_lmul hk hd h
  | land => exact sd_land hk hd h
  | lor => exact sd_lor hk hd h
  | lxor => exact sd_lxor hk hd h
  | iushr => exact sd_iushr hk hd h
  | lshl => exact sd_lshl hk hd h
  | lushr => exact sd_lushr hk hd h
  | i2l => exact sd_i2l hk hd h
  | l2i => exact sd_l2i hk hd h
  | lcmp => exact sd_lcmp hk hd h
  | idiv => exact sd_idiv hk hd h
  | irem => exact sd_irem hk hd h
  | ldiv => exact sd_ldiv hk hd h
  | lrem => exact sd_lrem hk hd h
  | arraylength => exact sd_arraylength hk hd h
  | iaload => exact sd_iaload hk hd h
  | baload => exact sd_baload hk hd h
  | laload => exact sd_laload hk hd h
  | aaload => exact sd_aaload hk hd h
  | iastore => exact sd_iastore hk hd h
  | bastore => exact sd_bastore hk hd h
  | lastore => exact sd_lastore hk hd h
  | aastore => exact sd_aastore hk hd h
  | ireturn => exact sd_ireturn hk hd h
  | lreturn => exact sd_lreturn hk hd h
  | areturn => exact sd_areturn hk hd h
  | return_ => exact sd_return hk hd h
  | ldc _ => exact sd_ldc hk hd hl h
  | ldc_w _ => exact sd_ldc_w hk hd hl h
  | ldc2_w _ => exact sd_ldc2_w hk hd hl h
  | getfield _ => exact sd_getfield hk hd hl h
  | putfield _ => exact sd_putfield hk hd hl h
  | getstatic _ => exact sd_getstatic hk hd hl h
  | new _ => exact sd_new hk hd hl h
  | anewarray _ => exact sd_anewarray hk hd hl h
  | goto _ => exact sd_goto hk hd hl h
  | ifnull _ => exact sd_ifnull hk hd hl h
  | ifnonnull _ => exact sd_ifnonnull hk hd hl h
  | tableswitch _ _ _ _ => exact sd_tableswitch hk hd hl.1 hl.2 h
  | lookupswitch _ _ => exact sd_lookupswitch hk hd hl.1 hl.2 h
  | invokevirtual _ => exact sd_invokevirtual hk hd hcal hl h
  | invokestatic _ => exact sd_invokestatic hk hd hcal hl h
  | invokespecial _ => exact sd_invokespecial hk hd hcal hl h
  | ifCond cnd _ => cases cnd with
    | eq => exact sd_if_eq hk hd hl h
    | ne => exact sd_if_ne hk hd hl h
    | lt => exact sd_if_lt hk hd hl h
    | ge => exact sd_if_ge hk hd hl h
    | gt => exact sd_if_gt hk hd hl h
    | le => exact sd_if_le hk hd hl h
  | if_icmp cnd _ => cases cnd with
    | eq => exact sd_icmp_eq hk hd hl h
    | ne => exact sd_icmp_ne hk hd hl h
    | lt => exact sd_icmp_lt hk hd hl h
    | ge => exact sd_icmp_ge hk hd hl h
    | gt => exact sd_icmp_gt hk hd hl h
    | le => exact sd_icmp_le hk hd hl h
  | newarray t => cases t with
    | int => exact sd_newarray_int hk hd hl h
    | long => exact sd_newarray_long hk hd hl h
    | boolean => exact sd_newarray_boolean hk hd hl h
    | _ => exact (sd_na98 h).elim
  | _ => exact absurd (show (none : Option mm_R) = some q from h) (by simp)
variable (XL xs D tI tJ tZ tO base xa) in
def sd_TH : Prop := ∀ (n d : Nat) (M : mm_M) (as : List Value) (r : mm_R), 8 < d → (∀ (M : mm_M) (as : List Value) (r : mm_R), mm_run XL xs n 1 69 M 0 (lv_args 0 as) [] = some r → sd_P XL xs D tI tJ tZ tO base xa 69 1 r M 0 (lv_args 0 as) []) → mm_th (fun M as => mm_run XL xs n 1 69 M 0 (lv_args 0 as) []) M as = some r → sd_Th XL xs D tI tJ tZ tO base xa d r M as
/-- THE SMALL MACHINE IS RIGHT -/
theorem sd_main (hTab : ∀ y pc en, mm_nth (mm_cd y) pc = some (some en) → decode (mm_by y) pc = .ok (en.1, mm_ln en) ∧ sd_En y pc en) (hTH : sd_TH XL xs D tI tJ tZ tO base xa) : ∀ (n d y : Nat) (q : mm_R) (M : mm_M) (pc : Nat) (lv : mm_L) (st : List Value), mm_run XL xs n d y M pc lv st = some q → sd_P XL xs D tI tJ tZ tO base xa y d q M pc lv st := by
  intro n
  induction n with
  | zero => intro d y q M pc lv st h; cases h
  | succ n ih =>
    intro d y q M pc lv st h
    unfold mm_run at h
    split at h
    · rename_i en hen
      obtain ⟨hd, hl⟩ := hTab y pc en hen
      refine sd_ins (fun M pc lv st h => ih d y q M pc lv st h) (fun y' as k' hc => ?_) hd hl h
      cases d with
      | zero => cases hc
      | succ d' =>
        dsimp only at hc
        obtain ⟨r, hr, hc⟩ := Option.bind_eq_some_iff.mp hc
        obtain ⟨hcat, hr⟩ := sd_bif hr
        refine ⟨d', r, rfl, ?_, hc⟩
        cases hb : Nat.beq y' 310 with
        | true =>
          rw [hb] at hr
          obtain ⟨h8, hr⟩ := sd_bif hr
          exact Or.inr ⟨sd_beq hb, hTH n d' M as r (sd_blt h8) (fun M as r h => ih 1 69 r M 0 _ [] h) hr⟩
        | false =>
          rw [hb] at hr
          exact Or.inl ⟨(fun z => by rw [z] at hb; cases hb), sd_ble hcat, ih d' y' r M 0 _ [] hr⟩
    · cases h
end SD
