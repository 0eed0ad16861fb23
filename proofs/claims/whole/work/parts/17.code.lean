/-! THE CODE: every entry of the small machine's tables is what 'decode' gives of the bytes, and its links hold -/
def ck_lk (y pc : Nat) (en : mm_En) : Bool := match en.1 with
  | .ldc i => ck_Kc (mm_oc y) i en.2.2.2.2
  | .ldc_w i => ck_Kc (mm_oc y) i en.2.2.2.2
  | .ldc2_w i => ck_Lc (mm_oc y) i en.2.2.2.2
  | .getfield i => ck_f (mm_oc y) i en.2.2.1 en.2.2.2.1
  | .putfield i => ck_f (mm_oc y) i en.2.2.1 en.2.2.2.1 && (!(mm_T en.2.2.1 en.2.2.2.1).2.2.2 || ck_F.any fun q => Nat.beq q.1 (mm_oc y) && Nat.beq q.2.1 i && Nat.beq q.2.2.1 en.2.2.1 && Nat.beq q.2.2.2.1 en.2.2.2.1 && !q.2.2.2.2.2)
  | .getstatic i => ck_s (mm_oc y) i en.2.2.1
  | .new i => ck_c (mm_oc y) i en.2.2.1
  | .anewarray i => ck_c (mm_oc y) i en.2.2.1
  | .newarray t => (match t with | .int => true | .long => true | .boolean => true | _ => false)
  | .goto off => decide (0 ≤ (pc : Int) + off)
  | .ifCond _ off => decide (0 ≤ (pc : Int) + off)
  | .if_icmp _ off => decide (0 ≤ (pc : Int) + off)
  | .ifnull off => decide (0 ≤ (pc : Int) + off)
  | .ifnonnull off => decide (0 ≤ (pc : Int) + off)
  | .tableswitch dflt _ _ offs => decide (0 ≤ (pc : Int) + dflt) && offs.toList.all fun o => decide (0 ≤ (pc : Int) + o)
  | .lookupswitch dflt ps => (ps.toList.zip (ps.toList.drop 1)).all (fun (a, next) => a.1 < next.1) && decide (0 ≤ (pc : Int) + dflt) && ps.toList.all fun o => decide (0 ≤ (pc : Int) + o.2)
  | .invokevirtual i => Nat.blt en.2.2.1 310 && !mm_st en.2.2.1 && !mm_in en.2.2.1 && Nat.beq en.2.2.2.1 (mm_na en.2.2.1) && ck_m (mm_oc y) i en.2.2.1
  | .invokestatic i => (Nat.blt en.2.2.1 310 && mm_st en.2.2.1 && Nat.beq en.2.2.2.1 (mm_na en.2.2.1) && ck_m (mm_oc y) i en.2.2.1) || (Nat.beq en.2.2.1 310 && Nat.beq i 46 && Nat.beq y 311)
  | .invokespecial i => bif Nat.beq en.2.2.1 9999 then ck_o (mm_oc y) i else Nat.blt en.2.2.1 310 && !mm_st en.2.2.1 && mm_in en.2.2.1 && Nat.beq en.2.2.2.1 (mm_na en.2.2.1) && ck_m (mm_oc y) i en.2.2.1
  | _ => true
def ck_at (y pc : Nat) : Bool := match mm_nth (mm_cd y) pc with
  | some (some en) => decide (decode (mm_by y) pc = .ok (en.1, mm_ln en)) && ck_lk y pc en
  | _ => true
theorem ck_off (pc : Nat) (d : Int) (z : Int) : ∀ (l : List (Int × Int)), 0 ≤ (pc : Int) + d → (∀ q ∈ l, 0 ≤ (pc : Int) + q.2) → 0 ≤ (pc : Int) + Op.lookupswitch.offset l d z
  | [], h, _ => h
  | (a, o) :: l, h, h2 => by
    rw [Op.lookupswitch.offset_cons]
    split
    · exact h2 (a, o) List.mem_cons_self
    · exact ck_off pc d z l h (fun q hq => h2 q (List.mem_cons_of_mem _ hq))
theorem ck_En {y pc : Nat} {en : mm_En} (h : ck_lk y pc en = true) : sd_En y pc en := by
  obtain ⟨i, ln, a, b, v⟩ := en
  cases i with
  | ldc _ => exact ck_Kk h
  | ldc_w _ => exact ck_Kk h
  | ldc2_w _ => exact ck_Lk h
  | getfield _ => exact ck_fk h
  | putfield _ =>
    simp only [ck_lk, Bool.and_eq_true, Bool.or_eq_true, Bool.not_eq_true'] at h
    refine ⟨ck_fk h.1, fun hf => ?_⟩
    have h2 := h.2.resolve_left (by rw [hf]; simp)
    obtain ⟨q, hq, h3⟩ := List.any_eq_true.mp h2
    have hb := List.all_eq_true.mp ck_F_ok q hq
    simp only [Bool.and_eq_true, Bool.not_eq_true'] at h3
    obtain ⟨⟨⟨⟨g1, g2⟩, g3⟩, g4⟩, g5⟩ := h3
    obtain ⟨oc', ix', ci', k', p, nst⟩ := q
    have e1 : oc' = mm_oc y := sd_beq g1
    have e2 : ix' = _ := sd_beq g2
    have e3 : ci' = a := sd_beq g3
    have e4 : k' = b := sd_beq g4
    dsimp only at g5
    subst e1; subst e2; subst e3; subst e4; subst g5
    simp only [ck_Fb, Bool.and_eq_true] at hb
    exact ck_g hb.2
  | getstatic _ => exact ck_sk h
  | new _ => exact ⟨(ck_ck h).2, ck_nn (ck_ck h).1⟩
  | anewarray _ => exact ⟨(ck_ck h).2, (ck_ck h).1⟩
  | newarray t =>
    cases t with
    | int => exact ck_ar_int
    | long => exact ck_ar_long
    | boolean => exact ck_ar_boolean
    | _ => cases h
  | goto _ => exact (show 0 ≤ (pc : Int) + _ from of_decide_eq_true h)
  | ifCond _ _ => exact (show 0 ≤ (pc : Int) + _ from of_decide_eq_true h)
  | if_icmp _ _ => exact (show 0 ≤ (pc : Int) + _ from of_decide_eq_true h)
  | ifnull _ => exact (show 0 ≤ (pc : Int) + _ from of_decide_eq_true h)
  | ifnonnull _ => exact (show 0 ≤ (pc : Int) + _ from of_decide_eq_true h)
  | tableswitch _ _ _ offs =>
    simp only [ck_lk, Bool.and_eq_true, decide_eq_true_eq] at h
    exact ⟨h.1, fun o ho => of_decide_eq_true (List.all_eq_true.mp h.2 o (Array.mem_toList_iff.mpr ho))⟩
  | lookupswitch _ ps =>
    simp only [ck_lk, Bool.and_eq_true, decide_eq_true_eq] at h
    exact ⟨h.1.1, fun z => ck_off pc _ z _ h.1.2 (fun q hq => of_decide_eq_true (List.all_eq_true.mp h.2 q hq))⟩
  | invokevirtual _ =>
    simp only [ck_lk, Bool.and_eq_true, Bool.not_eq_true'] at h
    obtain ⟨⟨⟨⟨g1, g2⟩, g3⟩, g4⟩, g5⟩ := h
    have hy := ck_y (sd_blt g1)
    have h4 := hy.2.2 g2
    exact ⟨by have := sd_blt g1; dsimp only; omega, sd_beq g4, ck_mk g5, hy.1, h4.1, h4.2.2.2 g3, h4.2.1⟩
  | invokestatic _ =>
    simp only [ck_lk, Bool.and_eq_true, Bool.or_eq_true] at h
    rcases h with ⟨⟨⟨g1, g2⟩, g4⟩, g5⟩ | ⟨⟨g1, g2⟩, g3⟩
    · have hy := ck_y (sd_blt g1)
      exact Or.inl ⟨sd_beq g4, ck_mk g5, hy.1, hy.2.1 g2, by have := sd_blt g1; dsimp only; omega⟩
    · exact Or.inr ⟨sd_beq g1, sd_beq g2, sd_beq g3⟩
  | invokespecial ix =>
    cases hb : Nat.beq a 9999 with
    | true =>
      have h : ck_o (mm_oc y) ix = true := by simpa [ck_lk, hb] using h
      exact ⟨fun _ => ⟨ck_ok h, ck_O1, ck_O2⟩, fun z => absurd (sd_beq hb) z⟩
    | false =>
      simp only [ck_lk, hb, cond_false, Bool.and_eq_true, Bool.not_eq_true'] at h
      obtain ⟨⟨⟨⟨g1, g2⟩, g3⟩, g4⟩, g5⟩ := h
      have hy := ck_y (sd_blt g1)
      have h4 := hy.2.2 g2
      exact ⟨(fun z => by rw [show a = 9999 from z] at hb; cases hb), fun _ => ⟨by have := sd_blt g1; dsimp only; omega, sd_beq g4, ck_mk g5, hy.1, h4.1, (h4.2.2.1 g3).1, (h4.2.2.1 g3).2⟩⟩
  | _ => trivial
