/-! THE PRELUDE'S REFERENCES are the lasting ones -/
section TRR
def in_fin : List (Nat × Nat × Nat) → Nat → Nat → Option (Option Nat) → Option (Option Nat)
  | [], _, _, acc => acc
  | (b, j, v) :: l, a, k, acc => in_fin l a k (bif Nat.beq b a then (bif Nat.beq j 9999 then some none else bif Nat.beq j k then some (some v) else acc) else acc)
theorem in_fin_R {a k : Nat} {D : Option Nat} : ∀ (l : List (Nat × Nat × Nat)) (f : Nat → Nat → Option Nat) (acc : Option (Option Nat)), f a k = acc.getD D → in_R l f a k = (in_fin l a k acc).getD D
  | [], f, acc, h => h
  | (b, j, v) :: l, f, acc, h => by
    unfold in_R in_fin
    refine in_fin_R l _ _ ?_
    cases hb : Nat.beq b a with
    | true =>
      have eb := Nat.eq_of_beq_eq_true hb
      subst eb
      cases hj : Nat.beq j 9999 with
      | true =>
        show (if b = b then none else f b k) = none
        exact if_pos rfl
      | false =>
        cases hk : Nat.beq j k with
        | true =>
          have ek := Nat.eq_of_beq_eq_true hk
          show (if b = b ∧ k = j then some v else f b k) = some v
          exact if_pos ⟨rfl, ek.symm⟩
        | false =>
          have nk : ¬ k = j := fun z => by rw [z, Nat.beq_refl] at hk; cases hk
          show (if b = b ∧ k = j then some v else f b k) = acc.getD D
          rw [if_neg (fun z => nk z.2)]; exact h
    | false =>
      have nb : ¬ a = b := fun z => by rw [z, Nat.beq_refl] at hb; cases hb
      show (bif Nat.beq j 9999 then mm_ur f b none else mm_up f b j (some v)) a k = acc.getD D
      cases hj : Nat.beq j 9999 with
      | true =>
        show (if a = b then none else f a k) = acc.getD D
        rw [if_neg nb]; exact h
      | false =>
        show (if a = b ∧ k = j then some v else f a k) = acc.getD D
        rw [if_neg (fun z => nb z.1)]; exact h
theorem in_fin_f {a k : Nat} : ∀ (l : List (Nat × Nat × Nat)) (acc : Option (Option Nat)), in_fin l a k acc = in_fin (l.filter fun o => Nat.beq o.1 a) a k acc
  | [], acc => rfl
  | (b, j, v) :: l, acc => by
    rw [List.filter_cons]
    cases hb : Nat.beq b a with
    | true =>
      simp only [if_true]
      unfold in_fin
      exact in_fin_f l _
    | false =>
      show in_fin l a k (bif Nat.beq b a then _ else acc) = in_fin (if false = true then _ else _) a k acc
      rw [hb, if_neg (by decide)]
      exact in_fin_f l acc
theorem in_fin_hi {a k : Nat} (hk : 60 ≤ k) : ∀ (l : List (Nat × Nat × Nat)) (acc : Option (Option Nat)), (l.all fun o => Nat.blt o.2.1 60 || Nat.beq o.2.1 9999) = true → (acc = none ∨ acc = some none) → in_fin l a k acc = none ∨ in_fin l a k acc = some none
  | [], acc, _, h => h
  | (b, j, v) :: l, acc, hl, h => by
    rw [List.all_cons, Bool.and_eq_true] at hl
    unfold in_fin
    refine in_fin_hi hk l _ hl.2 ?_
    cases hb : Nat.beq b a with
    | false => exact h
    | true =>
      cases hj : Nat.beq j 9999 with
      | true => exact Or.inr rfl
      | false =>
        have h1 := hl.1
        rw [show (b, j, v).2.1 = j from rfl, hj, Bool.or_false, Nat.blt_eq] at h1
        have : Nat.beq j k = false := by
          cases hk' : Nat.beq j k with
          | false => rfl
          | true => exact absurd (Nat.eq_of_beq_eq_true hk') (by omega)
        rw [this]; exact h
def in_all : List (Nat × Nat × Nat) := List.flatten [in_r1, in_r2, in_r3, in_r4, in_r5, in_r6, in_r7, in_r8, in_r9, in_r10, in_r11, in_r12, in_r13, in_r14, in_r15, in_r16, in_r17, in_r18, in_r19, in_r20, in_r21, in_r22, in_r23, in_r24, in_r25, in_r26, in_r27, in_r28, in_r29, in_r30, in_r31, in_r32, in_r33, in_r34, in_r35, in_r36, in_r37, in_r38, in_r39, in_r40, in_r41, in_r42, in_r43, in_r44, in_r45, in_r46, in_r47, in_r48, in_r49, in_r50, in_r51, in_r52, in_r53, in_r54, in_r55, in_r56, in_r57, in_r58, in_r59, in_r60, in_r61, in_r62, in_r63, in_r64, in_r65, in_r66, in_r67, in_r68, in_r69, in_r70, in_r71, in_r72, in_r73, in_r74, in_r75, in_r76, in_r77, in_r78, in_r79, in_r80, in_r81, in_r82, in_r83, in_r84, in_r85, in_r86, in_r87, in_r88, in_r89, in_r90, in_r91, in_r92, in_r93, in_r94, in_r95, in_r96, in_r97, in_r98, in_r99, in_r100, in_r101, in_r102, in_r103, in_r104, in_r105, in_r106, in_r107, in_r108, in_r109, in_r110, in_r111, in_r112, in_r113, in_r114, in_r115, in_r116, in_r117, in_r118, in_r119, in_r120, in_r121, in_r122, in_r123, in_r124, in_r125, in_r126, in_r127, in_r128, in_r129, in_r130, in_r131, in_r132, in_r133, in_r134, in_r135, in_r136, in_r137, in_r138, in_r139, in_r140, in_r141, in_r142, in_r143, in_r144, in_r145, in_r146, in_r147, in_r148, in_r149, in_r150, in_r151, in_r152, in_r153, in_r154, in_r155, in_r156, in_r157, in_r158, in_r159]
theorem in_R_app : ∀ (a b : List (Nat × Nat × Nat)) (f : Nat → Nat → Option Nat), in_R (a ++ b) f = in_R b (in_R a f)
  | [], b, f => rfl
  | (x, y, z) :: a, b, f => in_R_app a b _
def in_Rs : List (List (Nat × Nat × Nat)) → (Nat → Nat → Option Nat) → (Nat → Nat → Option Nat)
  | [], f => f
  | l :: ls, f => in_Rs ls (in_R l f)
theorem in_Rs_f : ∀ (ls : List (List (Nat × Nat × Nat))) (f : Nat → Nat → Option Nat), in_Rs ls f = in_R ls.flatten f
  | [], f => rfl
  | l :: ls, f => by
    rw [List.flatten_cons, in_R_app]
    exact in_Rs_f ls _
set_option maxRecDepth 100000
theorem in_mR_all : in_mR159 = in_R in_all mm_tr := by
  rw [in_all, ← in_Rs_f]
  rfl
def in_chk (la : List (Nat × Nat × Nat)) (a : Nat) : Bool := ((List.range 60).all fun k => match in_fin la a k none with | none => true | some o => o == mm_tr a k) && la.all fun o => Nat.blt o.2.1 60 || Nat.beq o.2.1 9999
theorem in_fin_p {a k : Nat} {p : Nat × Nat × Nat → Bool} (hp : ∀ o : Nat × Nat × Nat, o.1 = a → p o = true) : ∀ (l : List (Nat × Nat × Nat)) (acc : Option (Option Nat)), in_fin l a k acc = in_fin (l.filter p) a k acc
  | [], acc => rfl
  | (b, j, v) :: l, acc => by
    rw [List.filter_cons]
    cases hb : p (b, j, v) with
    | true =>
      simp only [if_true]
      unfold in_fin
      exact in_fin_p hp l _
    | false =>
      have nb : Nat.beq b a = false := by
        cases hb' : Nat.beq b a with
        | false => rfl
        | true =>
          have := hp (b, j, v) (Nat.eq_of_beq_eq_true hb')
          rw [hb] at this; cases this
      show in_fin l a k (bif Nat.beq b a then _ else acc) = in_fin (if false = true then _ else _) a k acc
      rw [nb, if_neg (by decide)]
      exact in_fin_p hp l acc
theorem in_q0 : ∀ i, i < 20 → in_chk ((in_all.filter fun o => Nat.beq (o.1 / 20) 0).filter fun o => Nat.beq o.1 (0 + i)) (0 + i) = true := by decide +kernel
theorem in_q1 : ∀ i, i < 20 → in_chk ((in_all.filter fun o => Nat.beq (o.1 / 20) 1).filter fun o => Nat.beq o.1 (20 + i)) (20 + i) = true := by decide +kernel
theorem in_q2 : ∀ i, i < 20 → in_chk ((in_all.filter fun o => Nat.beq (o.1 / 20) 2).filter fun o => Nat.beq o.1 (40 + i)) (40 + i) = true := by decide +kernel
theorem in_q3 : ∀ i, i < 20 → in_chk ((in_all.filter fun o => Nat.beq (o.1 / 20) 3).filter fun o => Nat.beq o.1 (60 + i)) (60 + i) = true := by decide +kernel
theorem in_q4 : ∀ i, i < 20 → in_chk ((in_all.filter fun o => Nat.beq (o.1 / 20) 4).filter fun o => Nat.beq o.1 (80 + i)) (80 + i) = true := by decide +kernel
theorem in_q5 : ∀ i, i < 20 → in_chk ((in_all.filter fun o => Nat.beq (o.1 / 20) 5).filter fun o => Nat.beq o.1 (100 + i)) (100 + i) = true := by decide +kernel
theorem in_q6 : ∀ i, i < 20 → in_chk ((in_all.filter fun o => Nat.beq (o.1 / 20) 6).filter fun o => Nat.beq o.1 (120 + i)) (120 + i) = true := by decide +kernel
theorem in_q7 : ∀ i, i < 20 → in_chk ((in_all.filter fun o => Nat.beq (o.1 / 20) 7).filter fun o => Nat.beq o.1 (140 + i)) (140 + i) = true := by decide +kernel
theorem in_q8 : ∀ i, i < 20 → in_chk ((in_all.filter fun o => Nat.beq (o.1 / 20) 8).filter fun o => Nat.beq o.1 (160 + i)) (160 + i) = true := by decide +kernel
theorem in_q9 : ∀ i, i < 20 → in_chk ((in_all.filter fun o => Nat.beq (o.1 / 20) 9).filter fun o => Nat.beq o.1 (180 + i)) (180 + i) = true := by decide +kernel
theorem in_q10 : ∀ i, i < 20 → in_chk ((in_all.filter fun o => Nat.beq (o.1 / 20) 10).filter fun o => Nat.beq o.1 (200 + i)) (200 + i) = true := by decide +kernel
theorem in_q11 : ∀ i, i < 20 → in_chk ((in_all.filter fun o => Nat.beq (o.1 / 20) 11).filter fun o => Nat.beq o.1 (220 + i)) (220 + i) = true := by decide +kernel
theorem in_q12 : ∀ i, i < 20 → in_chk ((in_all.filter fun o => Nat.beq (o.1 / 20) 12).filter fun o => Nat.beq o.1 (240 + i)) (240 + i) = true := by decide +kernel
theorem in_q13 : ∀ i, i < 20 → in_chk ((in_all.filter fun o => Nat.beq (o.1 / 20) 13).filter fun o => Nat.beq o.1 (260 + i)) (260 + i) = true := by decide +kernel
theorem in_q14 : ∀ i, i < 20 → in_chk ((in_all.filter fun o => Nat.beq (o.1 / 20) 14).filter fun o => Nat.beq o.1 (280 + i)) (280 + i) = true := by decide +kernel
theorem in_q15 : ∀ i, i < 20 → in_chk ((in_all.filter fun o => Nat.beq (o.1 / 20) 15).filter fun o => Nat.beq o.1 (300 + i)) (300 + i) = true := by decide +kernel
theorem in_q16 : ∀ i, i < 20 → in_chk ((in_all.filter fun o => Nat.beq (o.1 / 20) 16).filter fun o => Nat.beq o.1 (320 + i)) (320 + i) = true := by decide +kernel
theorem in_q17 : ∀ i, i < 20 → in_chk ((in_all.filter fun o => Nat.beq (o.1 / 20) 17).filter fun o => Nat.beq o.1 (340 + i)) (340 + i) = true := by decide +kernel
theorem in_q18 : ∀ i, i < 20 → in_chk ((in_all.filter fun o => Nat.beq (o.1 / 20) 18).filter fun o => Nat.beq o.1 (360 + i)) (360 + i) = true := by decide +kernel
theorem in_q19 : ∀ i, i < 20 → in_chk ((in_all.filter fun o => Nat.beq (o.1 / 20) 19).filter fun o => Nat.beq o.1 (380 + i)) (380 + i) = true := by decide +kernel
theorem in_q20 : ∀ i, i < 20 → in_chk ((in_all.filter fun o => Nat.beq (o.1 / 20) 20).filter fun o => Nat.beq o.1 (400 + i)) (400 + i) = true := by decide +kernel
theorem in_q21 : ∀ i, i < 20 → in_chk ((in_all.filter fun o => Nat.beq (o.1 / 20) 21).filter fun o => Nat.beq o.1 (420 + i)) (420 + i) = true := by decide +kernel
theorem in_q22 : ∀ i, i < 20 → in_chk ((in_all.filter fun o => Nat.beq (o.1 / 20) 22).filter fun o => Nat.beq o.1 (440 + i)) (440 + i) = true := by decide +kernel
theorem in_q23 : ∀ i, i < 20 → in_chk ((in_all.filter fun o => Nat.beq (o.1 / 20) 23).filter fun o => Nat.beq o.1 (460 + i)) (460 + i) = true := by decide +kernel
theorem in_q24 : ∀ i, i < 20 → in_chk ((in_all.filter fun o => Nat.beq (o.1 / 20) 24).filter fun o => Nat.beq o.1 (480 + i)) (480 + i) = true := by decide +kernel
theorem in_q25 : ∀ i, i < 20 → in_chk ((in_all.filter fun o => Nat.beq (o.1 / 20) 25).filter fun o => Nat.beq o.1 (500 + i)) (500 + i) = true := by decide +kernel
theorem in_q26 : ∀ i, i < 20 → in_chk ((in_all.filter fun o => Nat.beq (o.1 / 20) 26).filter fun o => Nat.beq o.1 (520 + i)) (520 + i) = true := by decide +kernel
theorem in_q27 : ∀ i, i < 20 → in_chk ((in_all.filter fun o => Nat.beq (o.1 / 20) 27).filter fun o => Nat.beq o.1 (540 + i)) (540 + i) = true := by decide +kernel
theorem in_q28 : ∀ i, i < 20 → in_chk ((in_all.filter fun o => Nat.beq (o.1 / 20) 28).filter fun o => Nat.beq o.1 (560 + i)) (560 + i) = true := by decide +kernel
theorem in_q29 : ∀ i, i < 20 → in_chk ((in_all.filter fun o => Nat.beq (o.1 / 20) 29).filter fun o => Nat.beq o.1 (580 + i)) (580 + i) = true := by decide +kernel
theorem in_q30 : ∀ i, i < 20 → in_chk ((in_all.filter fun o => Nat.beq (o.1 / 20) 30).filter fun o => Nat.beq o.1 (600 + i)) (600 + i) = true := by decide +kernel
theorem in_q31 : ∀ i, i < 20 → in_chk ((in_all.filter fun o => Nat.beq (o.1 / 20) 31).filter fun o => Nat.beq o.1 (620 + i)) (620 + i) = true := by decide +kernel
theorem in_q_all : ∀ c, c < 32 → ∀ i, i < 20 → in_chk ((in_all.filter fun o => Nat.beq (o.1 / 20) c).filter fun o => Nat.beq o.1 (20 * c + i)) (20 * c + i) = true := by
  intro c hc
  obtain rfl | rfl | rfl | rfl | rfl | rfl | rfl | rfl | rfl | rfl | rfl | rfl | rfl | rfl | rfl | rfl | rfl | rfl | rfl | rfl | rfl | rfl | rfl | rfl | rfl | rfl | rfl | rfl | rfl | rfl | rfl | rfl : c = 0 ∨ c = 1 ∨ c = 2 ∨ c = 3 ∨ c = 4 ∨ c = 5 ∨ c = 6 ∨ c = 7 ∨ c = 8 ∨ c = 9 ∨ c = 10 ∨ c = 11 ∨ c = 12 ∨ c = 13 ∨ c = 14 ∨ c = 15 ∨ c = 16 ∨ c = 17 ∨ c = 18 ∨ c = 19 ∨ c = 20 ∨ c = 21 ∨ c = 22 ∨ c = 23 ∨ c = 24 ∨ c = 25 ∨ c = 26 ∨ c = 27 ∨ c = 28 ∨ c = 29 ∨ c = 30 ∨ c = 31 := by omega
  · exact in_q0
  · exact in_q1
  · exact in_q2
  · exact in_q3
  · exact in_q4
  · exact in_q5
  · exact in_q6
  · exact in_q7
  · exact in_q8
  · exact in_q9
  · exact in_q10
  · exact in_q11
  · exact in_q12
  · exact in_q13
  · exact in_q14
  · exact in_q15
  · exact in_q16
  · exact in_q17
  · exact in_q18
  · exact in_q19
  · exact in_q20
  · exact in_q21
  · exact in_q22
  · exact in_q23
  · exact in_q24
  · exact in_q25
  · exact in_q26
  · exact in_q27
  · exact in_q28
  · exact in_q29
  · exact in_q30
  · exact in_q31
theorem in_lo : (in_all.all fun o => Nat.blt o.1 640) = true := by decide +kernel
theorem in_fin_no {a k : Nat} (ha : 640 ≤ a) : ∀ (l : List (Nat × Nat × Nat)) (acc : Option (Option Nat)), (l.all fun o => Nat.blt o.1 640) = true → in_fin l a k acc = acc
  | [], acc, _ => rfl
  | (b, j, v) :: l, acc, hl => by
    rw [List.all_cons, Bool.and_eq_true, Nat.blt_eq] at hl
    unfold in_fin
    have : Nat.beq b a = false := by
      cases hb : Nat.beq b a with
      | false => rfl
      | true => exact absurd (Nat.eq_of_beq_eq_true hb) (by have : b < 640 := hl.1; omega)
    rw [this]
    exact in_fin_no ha l acc hl.2
theorem in_tr (hhi : ∀ a, a < 640 → ∀ k, 60 ≤ k → mm_tr a k = none) : in_mR159 = mm_tr := by
  rw [in_mR_all]
  funext a k
  rw [in_fin_R (D := mm_tr a k) in_all mm_tr none rfl]
  by_cases ha : a < 640
  · rw [in_fin_p (p := fun o => Nat.beq (o.1 / 20) (a / 20)) (fun o ho => by rw [ho]; exact Nat.beq_refl _), in_fin_f]
    have hc := in_q_all (a / 20) (by omega) (a % 20) (by omega)
    rw [show 20 * (a / 20) + a % 20 = a by omega] at hc
    unfold in_chk at hc
    rw [Bool.and_eq_true] at hc
    by_cases hk : k < 60
    · have h1 := List.all_eq_true.mp hc.1 k (List.mem_range.mpr hk)
      revert h1
      cases in_fin ((in_all.filter fun o => Nat.beq (o.1 / 20) (a / 20)).filter fun o => Nat.beq o.1 a) a k none with
      | none => intro _; rfl
      | some o => intro h1; exact eq_of_beq h1
    · rcases in_fin_hi (a := a) (k := k) (by omega) _ none hc.2 (Or.inl rfl) with h | h
      · rw [h]; rfl
      · rw [h]; exact (hhi a ha k (by omega)).symm
  · rw [in_fin_no (by omega) in_all none in_lo]; rfl
end TRR
