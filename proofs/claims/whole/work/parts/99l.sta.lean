/-! WHAT HOLDS AT THE LAW'S START -/
section STA
theorem in_cap {c : Bool} {f g : Nat → Option Nat} {k : Nat} : (bif c then f else g) k = bif c then f k else g k := by cases c <;> rfl
theorem tr_60 {a k : Nat} (hk : 60 ≤ k) : mm_tr a k = none := by
  have b : ∀ t, t ≤ 60 → Nat.blt k t = false := fun t ht => by
    cases h : Nat.blt k t with
    | false => rfl
    | true => rw [Nat.blt_eq] at h; omega
  have b1 := b 1 (by decide)
  have b2 := b 2 (by decide)
  have b3 := b 3 (by decide)
  have b4 := b 4 (by decide)
  have b5 := b 5 (by decide)
  have b6 := b 6 (by decide)
  have b7 := b 7 (by decide)
  have b8 := b 8 (by decide)
  have b9 := b 9 (by decide)
  have b10 := b 10 (by decide)
  have b11 := b 11 (by decide)
  have b12 := b 12 (by decide)
  have b13 := b 13 (by decide)
  have b14 := b 14 (by decide)
  have b15 := b 15 (by decide)
  have b16 := b 16 (by decide)
  have b17 := b 17 (by decide)
  have b18 := b 18 (by decide)
  have b19 := b 19 (by decide)
  have b20 := b 20 (by decide)
  have b21 := b 21 (by decide)
  have b22 := b 22 (by decide)
  have b23 := b 23 (by decide)
  have b24 := b 24 (by decide)
  have b25 := b 25 (by decide)
  have b26 := b 26 (by decide)
  have b27 := b 27 (by decide)
  have b28 := b 28 (by decide)
  have b29 := b 29 (by decide)
  have b30 := b 30 (by decide)
  have b31 := b 31 (by decide)
  have b32 := b 32 (by decide)
  have b33 := b 33 (by decide)
  have b34 := b 34 (by decide)
  have b35 := b 35 (by decide)
  have b36 := b 36 (by decide)
  have b37 := b 37 (by decide)
  have b38 := b 38 (by decide)
  have b39 := b 39 (by decide)
  have b40 := b 40 (by decide)
  have b41 := b 41 (by decide)
  have b42 := b 42 (by decide)
  have b43 := b 43 (by decide)
  have b44 := b 44 (by decide)
  have b45 := b 45 (by decide)
  have b46 := b 46 (by decide)
  have b47 := b 47 (by decide)
  have b48 := b 48 (by decide)
  have b49 := b 49 (by decide)
  have b50 := b 50 (by decide)
  have b51 := b 51 (by decide)
  have b52 := b 52 (by decide)
  unfold mm_tr mm_tS mm_tP mm_t0
  simp only [in_cap, cond_false, Bool.cond_self, b1, b2, b3, b4, b5, b6, b7, b8, b9, b10, b11, b12, b13, b14, b15, b16, b17, b18, b19, b20, b21, b22, b23, b24, b25, b26, b27, b28, b29, b30, b31, b32, b33, b34, b35, b36, b37, b38, b39, b40, b41, b42, b43, b44, b45, b46, b47, b48, b49, b50, b51, b52]
def in_finI : List (Nat × Nat × Int32) → Nat → Nat → Int32 → Int32
  | [], _, _, acc => acc
  | (b, j, v) :: l, a, k, acc => in_finI l a k (bif Nat.beq b a then (bif Nat.beq j 9999 then 0 else bif Nat.beq j k then v else acc) else acc)
theorem in_finI_R {a k : Nat} : ∀ (l : List (Nat × Nat × Int32)) (f : Nat → Nat → Int32), in_I l f a k = in_finI l a k (f a k)
  | [], f => rfl
  | (b, j, v) :: l, f => by
    unfold in_I in_finI
    rw [in_finI_R l]
    congr 1
    cases hb : Nat.beq b a with
    | true =>
      have eb := Nat.eq_of_beq_eq_true hb
      subst eb
      cases hj : Nat.beq j 9999 with
      | true =>
        show (if b = b then (0 : Int32) else f b k) = 0
        exact if_pos rfl
      | false =>
        cases hk : Nat.beq j k with
        | true =>
          have ek := Nat.eq_of_beq_eq_true hk
          show (if b = b ∧ k = j then v else f b k) = v
          exact if_pos ⟨rfl, ek.symm⟩
        | false =>
          have nk : ¬ k = j := fun z => by rw [z, Nat.beq_refl] at hk; cases hk
          show (if b = b ∧ k = j then v else f b k) = f b k
          rw [if_neg (fun z => nk z.2)]
    | false =>
      have nb : ¬ a = b := fun z => by rw [z, Nat.beq_refl] at hb; cases hb
      show (bif Nat.beq j 9999 then mm_ur f b 0 else mm_up f b j v) a k = f a k
      cases hj : Nat.beq j 9999 with
      | true =>
        show (if a = b then 0 else f a k) = f a k
        rw [if_neg nb]
      | false =>
        show (if a = b ∧ k = j then v else f a k) = f a k
        rw [if_neg (fun z => nb z.1)]
theorem in_I_app : ∀ (a b : List (Nat × Nat × Int32)) (f : Nat → Nat → Int32), in_I (a ++ b) f = in_I b (in_I a f)
  | [], b, f => rfl
  | (x, y, z) :: a, b, f => in_I_app a b _
def in_Is : List (List (Nat × Nat × Int32)) → (Nat → Nat → Int32) → (Nat → Nat → Int32)
  | [], f => f
  | l :: ls, f => in_Is ls (in_I l f)
theorem in_Is_f : ∀ (ls : List (List (Nat × Nat × Int32))) (f : Nat → Nat → Int32), in_Is ls f = in_I ls.flatten f
  | [], f => rfl
  | l :: ls, f => by
    rw [List.flatten_cons, in_I_app]
    exact in_Is_f ls _
def in_allI : List (Nat × Nat × Int32) := List.flatten [in_i1, in_i2, in_i3, in_i4, in_i5, in_i6, in_i7, in_i8, in_i9, in_i10, in_i11, in_i12, in_i13, in_i14, in_i15, in_i16, in_i17, in_i18, in_i19, in_i20, in_i21, in_i22, in_i23, in_i24, in_i25, in_i26, in_i27, in_i28, in_i29, in_i30, in_i31, in_i32, in_i33, in_i34, in_i35, in_i36, in_i37, in_i38, in_i39, in_i40, in_i41, in_i42, in_i43, in_i44, in_i45, in_i46, in_i47, in_i48, in_i49, in_i50, in_i51, in_i52, in_i53, in_i54, in_i55, in_i56, in_i57, in_i58, in_i59, in_i60, in_i61, in_i62, in_i63, in_i64, in_i65, in_i66, in_i67, in_i68, in_i69, in_i70, in_i71, in_i72, in_i73, in_i74, in_i75, in_i76, in_i77, in_i78, in_i79, in_i80, in_i81, in_i82, in_i83, in_i84, in_i85, in_i86, in_i87, in_i88, in_i89, in_i90, in_i91, in_i92, in_i93, in_i94, in_i95, in_i96, in_i97, in_i98, in_i99, in_i100, in_i101, in_i102, in_i103, in_i104, in_i105, in_i106, in_i107, in_i108, in_i109, in_i110, in_i111, in_i112, in_i113, in_i114, in_i115, in_i116, in_i117, in_i118, in_i119, in_i120, in_i121, in_i122, in_i123, in_i124, in_i125, in_i126, in_i127, in_i128, in_i129, in_i130, in_i131, in_i132, in_i133, in_i134, in_i135, in_i136, in_i137, in_i138, in_i139, in_i140, in_i141, in_i142, in_i143, in_i144, in_i145, in_i146, in_i147, in_i148, in_i149, in_i150, in_i151, in_i152, in_i153, in_i154, in_i155, in_i156, in_i157, in_i158, in_i159]
set_option maxRecDepth 100000
theorem in_mI_all : in_mI159 = in_I in_allI (fun _ _ => 0) := by
  rw [in_allI, ← in_Is_f]
  rfl
theorem in_cell (a k : Nat) : in_mI159 a k = in_finI in_allI a k 0 := by
  rw [in_mI_all, in_finI_R]
theorem ic_0_14 : in_mI159 0 14 = 0 := by rw [in_cell]; decide +kernel
theorem ic_606_26 : in_mI159 606 26 = 0 := by rw [in_cell]; decide +kernel
theorem ic_14_3 : in_mI159 14 3 = 0 := by rw [in_cell]; decide +kernel
theorem ic_14_4 : in_mI159 14 4 = 0 := by rw [in_cell]; decide +kernel
theorem ic_14_5 : in_mI159 14 5 = 0 := by rw [in_cell]; decide +kernel
theorem ic_14_6 : in_mI159 14 6 = 0 := by rw [in_cell]; decide +kernel
theorem ic_14_9 : in_mI159 14 9 = 0 := by rw [in_cell]; decide +kernel
theorem ic_606_25 : in_mI159 606 25 = 0 := by rw [in_cell]; decide +kernel
theorem ic_29_4 : in_mI159 29 4 = 0 := by rw [in_cell]; decide +kernel
theorem ic_29_5 : in_mI159 29 5 = 0 := by rw [in_cell]; decide +kernel
theorem ic_29_6 : in_mI159 29 6 = 0 := by rw [in_cell]; decide +kernel
theorem ic_29_7 : in_mI159 29 7 = 0 := by rw [in_cell]; decide +kernel
theorem ic_55_1 : in_mI159 55 1 = 0 := by rw [in_cell]; decide +kernel
theorem ic_55_2 : in_mI159 55 2 = 0 := by rw [in_cell]; decide +kernel
theorem ic_606_34 : in_mI159 606 34 = 0 := by rw [in_cell]; decide +kernel
theorem ic_0_15 : in_mI159 0 15 = 0 := by rw [in_cell]; decide +kernel
theorem ic_606_51 : in_mI159 606 51 = 0 := by rw [in_cell]; decide +kernel
theorem ic_1_1 : in_mI159 1 1 = 0 := by rw [in_cell]; decide +kernel
theorem ic_606_2 : in_mI159 606 2 = 0 := by rw [in_cell]; decide +kernel
theorem ic_0_16 : in_mI159 0 16 = 0 := by rw [in_cell]; decide +kernel
theorem ic_606_13 : in_mI159 606 13 = 0 := by rw [in_cell]; decide +kernel
theorem ic_0_17 : in_mI159 0 17 = -1 := by rw [in_cell]; decide +kernel
theorem ic_606_29 : in_mI159 606 29 = -1 := by rw [in_cell]; decide +kernel
theorem ic_577_5 : in_mI159 577 5 = 0 := by rw [in_cell]; decide +kernel
theorem ic_606_47 : in_mI159 606 47 = 0 := by rw [in_cell]; decide +kernel
theorem ic_623_48 : in_mI159 623 48 = 0 := by rw [in_cell]; decide +kernel
theorem ic_623_49 : in_mI159 623 49 = 0 := by rw [in_cell]; decide +kernel
theorem ic_623_50 : in_mI159 623 50 = 0 := by rw [in_cell]; decide +kernel
theorem ic_0_18 : in_mI159 0 18 = in_mI159 606 30 := by rw [in_cell, in_cell]; decide +kernel
theorem ic_620 : ∀ k, k < 4 → in_finI in_allI 620 k 0 = 0 := by decide +kernel
theorem ic_621 : ∀ k, k < 4 → in_finI in_allI 621 k 0 = in_finI in_allI 15 k 0 := by decide +kernel
theorem ic_592 : ∀ k, k < 5 → in_finI in_allI 592 k 0 = in_finI in_allI 624 k 0 := by decide +kernel
theorem ic_34 : ∀ b, b < 8 → in_finI in_allI (34 + b) 0 0 = 0 ∧ in_finI in_allI (34 + b) 5 0 = 0 := by decide +kernel
theorem ic_623 : ∀ b, b < 8 → in_finI in_allI 623 (6 * b + 5) 0 = 0 := by decide +kernel
theorem Inv_0 (l : Nat → Nat → Int64) : Inv (in_mI159, l) := by
  have c := in_cell
  have hT : thc (in_mI159, l) 34 = fun _ _ => 0 := by
    funext b k
    by_cases hb : b < 8
    · exact if_neg (fun z => z.2 ((c (34 + b) 0).trans (ic_34 b hb).1))
    · exact thc_8 _ 34 hb k
  have hR : thr (in_mI159, l) 623 0 = fun _ _ => 0 := by
    funext b k
    by_cases hb : b < 8
    · refine if_neg (fun z => ?_)
      rw [Nat.zero_add, show (in_mI159, l).1 623 (6 * b + 5) = 0 from (c 623 (6 * b + 5)).trans (ic_623 b hb)] at z
      exact absurd z.2 (by decide)
    · exact if_neg (fun z => hb z.1)
  have z0 : (0 : Int32).toNatClampNeg = 0 := rfl
  have hl1 : ∀ N, lgC (in_mI159, l) 29 0 N = fun _ _ => 0 := fun N => by funext j w; exact if_neg (fun z => absurd z.1 (by omega))
  have hl2 : lgR (in_mI159, l) 623 0 0 = fun _ _ => 0 := by funext j w; exact if_neg (fun z => absurd z.1 (by omega))
  have hc : cV (in_mI159, l) 29 = (fun _ _ => 0, 0, 0, 0, fun _ _ => 0) := by
    unfold cV
    rw [show (29 + 5 : Nat) = 34 from rfl, hT, show (in_mI159, l).1 29 6 = 0 from ic_29_6, show (in_mI159, l).1 29 7 = 0 from ic_29_7, show (in_mI159, l).1 29 4 = 0 from ic_29_4, z0, hl1]
  have hr : rV (in_mI159, l) 623 0 = (fun _ _ => 0, 0, 0, 0, fun _ _ => 0) := by
    unfold rV
    rw [hR, Nat.zero_add, Nat.zero_add, Nat.zero_add, show (in_mI159, l).1 623 48 = 0 from ic_623_48, show (in_mI159, l).1 623 49 = 0 from ic_623_49, show (in_mI159, l).1 623 50 = 0 from ic_623_50, z0, hl2]
  have n14 : ¬ (in_mI159, l).1 0 14 = 1 := by rw [show (in_mI159, l).1 0 14 = 0 from ic_0_14]; decide
  refine ⟨0, 0, [], fun _ => [], ⟨?_, Or.inl ic_0_14, ⟨?_, ?_, ?_, ?_⟩, fun r hr => ?_, fun z => absurd z n14, 0, by decide, ic_14_9, ic_606_25, fun _ => rfl, fun i hi => absurd hi (by omega)⟩, ⟨by rw [hc, hr], ⟨⟨0, 0, ic_29_4, by decide, ic_29_5, by decide⟩, fun b hb => ?_⟩, ⟨0, ic_623_50, by decide⟩, ?_, ⟨0, ic_55_1, by decide, ic_55_2, by decide, fun i v hi => by cases hi⟩, ⟨ic_606_34, by decide, fun i v hi => by cases hi⟩, fun V hV => (nomatch hV), fun _ => ⟨rfl, fun b => ?_⟩⟩, ⟨?_, Or.inl ic_0_15⟩, ⟨0, by decide, ic_1_1, ic_606_2, fun i hi => absurd hi (by omega)⟩, ⟨0, by decide, ic_0_16, ic_606_13, fun i hi => absurd hi (by omega), ?_, Or.inl ic_0_17⟩, ⟨ic_0_18, fun k hk => ?_⟩, ⟨0, by decide, ic_577_5, ic_606_47, fun _ => rfl, fun i hi => absurd hi (by omega)⟩⟩
  · exact ic_0_14.trans ic_606_26.symm
  · exact ic_14_3.trans ((c 620 0).trans (ic_620 0 (by decide))).symm
  · exact ic_14_4.trans ((c 620 1).trans (ic_620 1 (by decide))).symm
  · exact ic_14_5.trans ((c 620 2).trans (ic_620 2 (by decide))).symm
  · exact ic_14_6.trans ((c 620 3).trans (ic_620 3 (by decide))).symm
  · exact (c 15 r).trans ((ic_621 r hr).symm.trans (c 621 r).symm)
  · exact ⟨Or.inl ((c (34 + b) 0).trans (ic_34 b hb).1), Or.inl ((c (34 + b) 5).trans (ic_34 b hb).2)⟩
  · rw [hc]
    exact ⟨fun b hb => absurd (show (0 : Int32) = 1 from hb) (by decide), ⟨0, rfl, by decide⟩, 0, rfl, by decide⟩
  · rw [hT]; exact (show ¬ (0 : Int32) = 1 by decide)
  · exact ic_0_15.trans ic_606_51.symm
  · exact ic_0_17.trans ic_606_29.symm
  · exact (c 592 k).trans ((ic_592 k hk).trans (c 624 k).symm)
end STA
