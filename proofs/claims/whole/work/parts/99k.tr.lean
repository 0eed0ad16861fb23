/-! THE PRELUDE'S REFERENCES are the lasting ones -/
section TRR
def in_fin : List (Nat × Nat × Nat) → Nat → Nat → Option (Option Nat) → Option (Option Nat)
  | [], _, _, acc => acc
  | (b, j, v) :: l, a, k, acc => in_fin l a k (bif Nat.beq b a then (bif Nat.beq j 9999 then some none else bif Nat.beq j k then some (some v) else acc) else acc)
theorem in_fin_R {a k : Nat} {D : Option Nat} : ∀ (l : List (Nat × Nat × Nat)) (f : Nat → Nat → Option Nat) (acc : Option (Option Nat)), f a k = acc.getD D → in_R l f a k = (in_fin l a k acc).getD D
  | [], f, acc, h => h
  | (b, j, v) :: l, f, acc, h => by
    unfold in_R in_fin
    refine in_fin_R l _ _ ?_
    cases hb : Nat.beq b a with
    | true =>
      have eb := Nat.eq_of_beq_eq_true hb
      subst eb
      cases hj : Nat.beq j 9999 with
      | true =>
        show (if b = b then none else f b k) = none
        exact if_pos rfl
      | false =>
        cases hk : Nat.beq j k with
        | true =>
          have ek := Nat.eq_of_beq_eq_true hk
          show (if b = b ∧ k = j then some v else f b k) = some v
          exact if_pos ⟨rfl, ek.symm⟩
        | false =>
          have nk : ¬ k = j := fun z => by rw [z, Nat.beq_refl] at hk; cases hk
          show (if b = b ∧ k = j then some v else f b k) = acc.getD D
          rw [if_neg (fun z => nk z.2)]; exact h
    | false =>
      have nb : ¬ a = b := fun z => by rw [z, Nat.beq_refl] at hb; cases hb
      show (bif Nat.beq j 9999 then mm_ur f b none else mm_up f b j (some v)) a k = acc.getD D
      cases hj : Nat.beq j 9999 with
      | true =>
        show (if a = b then none else f a k) = acc.getD D
        rw [if_neg nb]; exact h
      | false =>
        show (if a = b ∧ k = j then some v else f a k) = acc.getD D
        rw [if_neg (fun z => nb z.1)]; exact h
theorem in_fin_f {a k : Nat} : ∀ (l : List (Nat × Nat × Nat)) (acc : Option (Option Nat)), in_fin l a k acc = in_fin (l.filter fun o => Nat.beq o.1 a) a k acc
  | [], acc => rfl
  | (b, j, v) :: l, acc => by
    rw [List.filter_cons]
    cases hb : Nat.beq b a with
    | true =>
      simp only [if_true]
      unfold in_fin
      exact in_fin_f l _
    | false =>
      show in_fin l a k (bif Nat.beq b a then _ else acc) = in_fin (if false = true then _ else _) a k acc
      rw [hb, if_neg (by decide)]
      exact in_fin_f l acc
theorem in_fin_hi {a k : Nat} (hk : 60 ≤ k) : ∀ (l : List (Nat × Nat × Nat)) (acc : Option (Option Nat)), (l.all fun o => Nat.blt o.2.1 60 || Nat.beq o.2.1 9999) = true → (acc = none ∨ acc = some none) → in_fin l a k acc = none ∨ in_fin l a k acc = some none
  | [], acc, _, h => h
  | (b, j, v) :: l, acc, hl, h => by
    rw [List.all_cons, Bool.and_eq_true] at hl
    unfold in_fin
    refine in_fin_hi hk l _ hl.2 ?_
    cases hb : Nat.beq b a with
    | false => exact h
    | true =>
      cases hj : Nat.beq j 9999 with
      | true => exact Or.inr rfl
      | false =>
        have h1 := hl.1
        rw [show (b, j, v).2.1 = j from rfl, hj, Bool.or_false, Nat.blt_eq] at h1
        have : Nat.beq j k = false := by
          cases hk' : Nat.beq j k with
          | false => rfl
          | true => exact absurd (Nat.eq_of_beq_eq_true hk') (by omega)
        rw [this]; exact h
def in_all : List (Nat × Nat × Nat) := List.flatten [in_r1, in_r2, in_r3, in_r4, in_r5, in_r6, in_r7, in_r8, in_r9, in_r10, in_r11, in_r12, in_r13, in_r14, in_r15, in_r16, in_r17, in_r18, in_r19, in_r20, in_r21, in_r22, in_r23, in_r24, in_r25, in_r26, in_r27, in_r28, in_r29, in_r30, in_r31, in_r32, in_r33, in_r34, in_r35, in_r36, in_r37, in_r38, in_r39, in_r40, in_r41, in_r42, in_r43, in_r44, in_r45, in_r46, in_r47, in_r48, in_r49, in_r50, in_r51, in_r52, in_r53, in_r54, in_r55, in_r56, in_r57, in_r58, in_r59, in_r60, in_r61, in_r62, in_r63, in_r64, in_r65, in_r66, in_r67, in_r68, in_r69, in_r70, in_r71, in_r72, in_r73, in_r74, in_r75, in_r76, in_r77, in_r78, in_r79, in_r80, in_r81, in_r82, in_r83, in_r84, in_r85, in_r86, in_r87, in_r88, in_r89, in_r90, in_r91, in_r92, in_r93, in_r94, in_r95, in_r96, in_r97, in_r98, in_r99, in_r100, in_r101, in_r102, in_r103, in_r104, in_r105, in_r106, in_r107, in_r108, in_r109, in_r110, in_r111, in_r112, in_r113, in_r114, in_r115, in_r116, in_r117, in_r118, in_r119, in_r120, in_r121, in_r122, in_r123, in_r124, in_r125, in_r126, in_r127, in_r128, in_r129, in_r130, in_r131, in_r132, in_r133, in_r134, in_r135, in_r136, in_r137, in_r138, in_r139, in_r140, in_r141, in_r142, in_r143, in_r144, in_r145, in_r146, in_r147, in_r148, in_r149, in_r150, in_r151, in_r152, in_r153, in_r154, in_r155, in_r156, in_r157, in_r158, in_r159]
theorem in_R_app : ∀ (a b : List (Nat × Nat × Nat)) (f : Nat → Nat → Option Nat), in_R (a ++ b) f = in_R b (in_R a f)
  | [], b, f => rfl
  | (x, y, z) :: a, b, f => in_R_app a b _
def in_Rs : List (List (Nat × Nat × Nat)) → (Nat → Nat → Option Nat) → (Nat → Nat → Option Nat)
  | [], f => f
  | l :: ls, f => in_Rs ls (in_R l f)
theorem in_Rs_f : ∀ (ls : List (List (Nat × Nat × Nat))) (f : Nat → Nat → Option Nat), in_Rs ls f = in_R ls.flatten f
  | [], f => rfl
  | l :: ls, f => by
    rw [List.flatten_cons, in_R_app]
    exact in_Rs_f ls _
set_option maxRecDepth 100000
theorem in_mR_all : in_mR159 = in_R in_all mm_tr := by
  rw [in_all, ← in_Rs_f]
  rfl
def in_chk (la : List (Nat × Nat × Nat)) (a : Nat) : Bool := ((List.range 60).all fun k => match in_fin la a k none with | none => true | some o => o == mm_tr a k) && la.all fun o => Nat.blt o.2.1 60 || Nat.beq o.2.1 9999
theorem in_chk_all : ∀ a, a < 640 → in_chk (in_all.filter fun o => Nat.beq o.1 a) a = true := by decide +kernel
theorem in_lo : (in_all.all fun o => Nat.blt o.1 640) = true := by decide +kernel
theorem in_fin_no {a k : Nat} (ha : 640 ≤ a) : ∀ (l : List (Nat × Nat × Nat)) (acc : Option (Option Nat)), (l.all fun o => Nat.blt o.1 640) = true → in_fin l a k acc = acc
  | [], acc, _ => rfl
  | (b, j, v) :: l, acc, hl => by
    rw [List.all_cons, Bool.and_eq_true, Nat.blt_eq] at hl
    unfold in_fin
    have : Nat.beq b a = false := by
      cases hb : Nat.beq b a with
      | false => rfl
      | true => exact absurd (Nat.eq_of_beq_eq_true hb) (by have : b < 640 := hl.1; omega)
    rw [this]
    exact in_fin_no ha l acc hl.2
theorem in_tr (hhi : ∀ a, a < 640 → ∀ k, 60 ≤ k → mm_tr a k = none) : in_mR159 = mm_tr := by
  rw [in_mR_all]
  funext a k
  rw [in_fin_R (D := mm_tr a k) in_all mm_tr none rfl]
  by_cases ha : a < 640
  · rw [in_fin_f]
    have hc := in_chk_all a ha
    unfold in_chk at hc
    rw [Bool.and_eq_true] at hc
    by_cases hk : k < 60
    · have h1 := List.all_eq_true.mp hc.1 k (List.mem_range.mpr hk)
      revert h1
      cases in_fin (in_all.filter fun o => Nat.beq o.1 a) a k none with
      | none => intro _; rfl
      | some o => intro h1; exact eq_of_beq h1
    · rcases in_fin_hi (a := a) (k := k) (by omega) _ none hc.2 (Or.inl rfl) with h | h
      · rw [h]; rfl
      · rw [h]; exact (hhi a ha k (by omega)).symm
  · rw [in_fin_no (by omega) in_all none in_lo]; rfl
end TRR
