/-! The small machine: more locals known do no harm; runs that end -/
def mn_nd : mm_L → Bool
  | [] => true
  | (i, _) :: l => !(l.any fun q => Nat.beq q.1 i) && mn_nd l
def mn_sub (l l' : mm_L) : Prop := mn_nd l = true ∧ ∀ i v, mm_lg l i = some v → mm_lg l' i = some v
theorem mn_lgf (p : Nat × Value → Bool) (j : Nat) (w : Value) : ∀ (l : mm_L), mn_nd l = true → mm_lg (l.filter p) j = some w → mm_lg l j = some w ∧ p (j, w) = true
  | [], _, h => by cases h
  | (i, v) :: l, hn, h => by
    simp only [mn_nd, Bool.and_eq_true, Bool.not_eq_true'] at hn
    by_cases hp : p (i, v) = true
    · rw [List.filter_cons_of_pos hp] at h
      have h : (bif Nat.beq i j then some v else mm_lg (l.filter p) j) = some w := h
      show (bif Nat.beq i j then some v else mm_lg l j) = some w ∧ _
      cases hb : Nat.beq i j with
      | true =>
        rw [hb] at h
        cases h
        exact ⟨rfl, by rw [← Nat.eq_of_beq_eq_true hb]; exact hp⟩
      | false =>
        rw [hb] at h
        exact mn_lgf p j w l hn.2 h
    · rw [List.filter_cons_of_neg hp] at h
      obtain ⟨h1, h2⟩ := mn_lgf p j w l hn.2 h
      refine ⟨?_, h2⟩
      show (bif Nat.beq i j then some v else mm_lg l j) = some w
      cases hb : Nat.beq i j with
      | true =>
        have hij := Nat.eq_of_beq_eq_true hb
        have h3 := List.any_eq_false.mp hn.1 (j, w) (sd_lg h1)
        rw [hij] at h3
        exact absurd (Nat.beq_refl j) h3
      | false => exact h1
theorem mn_lgk (p : Nat × Value → Bool) (j : Nat) (w : Value) (hp : p (j, w) = true) : ∀ (l : mm_L), mm_lg l j = some w → mm_lg (l.filter p) j = some w
  | [], h => by cases h
  | (i, v) :: l, h => by
    have h : (bif Nat.beq i j then some v else mm_lg l j) = some w := h
    cases hb : Nat.beq i j with
    | true =>
      rw [hb] at h
      have h : some v = some w := h
      have hij := Nat.eq_of_beq_eq_true hb
      have hvw : v = w := Option.some.inj h
      have hp' : p (i, v) = true := by rw [hij, hvw]; exact hp
      rw [List.filter_cons_of_pos hp']
      show (bif Nat.beq i j then some v else mm_lg (l.filter p) j) = some w
      rw [hb]
      exact h
    | false =>
      rw [hb] at h
      by_cases hq : p (i, v) = true
      · rw [List.filter_cons_of_pos hq]
        show (bif Nat.beq i j then some v else mm_lg (l.filter p) j) = some w
        rw [hb]
        exact mn_lgk p j w hp l h
      · rw [List.filter_cons_of_neg hq]
        exact mn_lgk p j w hp l h
theorem mn_ndf (p : Nat × Value → Bool) : ∀ (l : mm_L), mn_nd l = true → mn_nd (l.filter p) = true
  | [], _ => rfl
  | (i, v) :: l, hn => by
    simp only [mn_nd, Bool.and_eq_true, Bool.not_eq_true'] at hn
    by_cases hp : p (i, v) = true
    · rw [List.filter_cons_of_pos hp]
      simp only [mn_nd, Bool.and_eq_true, Bool.not_eq_true']
      exact ⟨List.any_eq_false.mpr fun q hq => List.any_eq_false.mp hn.1 q (List.mem_filter.mp hq).1, mn_ndf p l hn.2⟩
    · rw [List.filter_cons_of_neg hp]
      exact mn_ndf p l hn.2
theorem mn_st (p : Nat × Value → Bool) (i : Nat) (v : Value) {l l' : mm_L} (hp : ∀ w, p (i, w) = false) (h : mn_sub l l') : mn_sub ((i, v) :: l.filter p) ((i, v) :: l'.filter p) := by
  refine ⟨?_, fun j w hj => ?_⟩
  · simp only [mn_nd, Bool.and_eq_true, Bool.not_eq_true']
    refine ⟨List.any_eq_false.mpr fun q hq => ?_, mn_ndf p l h.1⟩
    have h2 := (List.mem_filter.mp hq).2
    intro hb
    rw [show q = (i, q.2) from by rw [← Nat.eq_of_beq_eq_true hb], hp] at h2
    cases h2
  · have hj : (bif Nat.beq i j then some v else mm_lg (l.filter p) j) = some w := hj
    show (bif Nat.beq i j then some v else mm_lg (l'.filter p) j) = some w
    cases hb : Nat.beq i j with
    | true => rw [hb] at hj; exact hj
    | false =>
      rw [hb] at hj
      obtain ⟨h1, h2⟩ := mn_lgf p j w l h.1 hj
      exact mn_lgk p j w h2 l' (h.2 j w h1)
theorem mn_s1 (i : Nat) (v : Value) {l l' : mm_L} (h : mn_sub l l') : mn_sub (mm_s1 i v l) (mm_s1 i v l') := mn_st _ i v (fun w => by simp) h
theorem mn_s2 (i : Nat) (v : Value) {l l' : mm_L} (h : mn_sub l l') : mn_sub (mm_s2 i v l) (mm_s2 i v l') := mn_st _ i v (fun w => by simp) h
section MN
variable {XL : Nat} {xs : Nat → Int32} {y : Nat} {q : mm_R} {M : mm_M} {pc : Nat} {lv lv' : mm_L} {st : List Value} {k k' : mm_M → Nat → mm_L → List Value → Option mm_R} {cal cal' : Nat → List Value → (Option Value → mm_M → Option mm_R) → Option mm_R} {e : Nat × Nat × Nat × Int}
theorem mn_iadd (hs : mn_sub lv lv') (hk : ∀ M pc l l' st, mn_sub l l' → k M pc l st = some q → k' M pc l' st = some q) (hc : ∀ y as f f', (∀ r M, f r M = some q → f' r M = some q) → cal y as f = some q → cal' y as f' = some q)  (h : mm_ex XL xs y (.iadd, e) M pc lv st k cal = some q) : mm_ex XL xs y (.iadd, e) M pc lv' st k' cal' = some q := by
  unfold mm_ex at h ⊢
  dsimp only at h ⊢
  split at h
  · exact hk _ _ _ _ _ hs h
  · cases h
theorem mn_isub (hs : mn_sub lv lv') (hk : ∀ M pc l l' st, mn_sub l l' → k M pc l st = some q → k' M pc l' st = some q) (hc : ∀ y as f f', (∀ r M, f r M = some q → f' r M = some q) → cal y as f = some q → cal' y as f' = some q)  (h : mm_ex XL xs y (.isub, e) M pc lv st k cal = some q) : mm_ex XL xs y (.isub, e) M pc lv' st k' cal' = some q := by
  unfold mm_ex at h ⊢
  dsimp only at h ⊢
  split at h
  · exact hk _ _ _ _ _ hs h
  · cases h
theorem mn_imul (hs : mn_sub lv lv') (hk : ∀ M pc l l' st, mn_sub l l' → k M pc l st = some q → k' M pc l' st = some q) (hc : ∀ y as f f', (∀ r M, f r M = some q → f' r M = some q) → cal y as f = some q → cal' y as f' = some q)  (h : mm_ex XL xs y (.imul, e) M pc lv st k cal = some q) : mm_ex XL xs y (.imul, e) M pc lv' st k' cal' = some q := by
  unfold mm_ex at h ⊢
  dsimp only at h ⊢
  split at h
  · exact hk _ _ _ _ _ hs h
  · cases h
theorem mn_iand (hs : mn_sub lv lv') (hk : ∀ M pc l l' st, mn_sub l l' → k M pc l st = some q → k' M pc l' st = some q) (hc : ∀ y as f f', (∀ r M, f r M = some q → f' r M = some q) → cal y as f = some q → cal' y as f' = some q)  (h : mm_ex XL xs y (.iand, e) M pc lv st k cal = some q) : mm_ex XL xs y (.iand, e) M pc lv' st k' cal' = some q := by
  unfold mm_ex at h ⊢
  dsimp only at h ⊢
  split at h
  · exact hk _ _ _ _ _ hs h
  · cases h
theorem mn_ior (hs : mn_sub lv lv') (hk : ∀ M pc l l' st, mn_sub l l' → k M pc l st = some q → k' M pc l' st = some q) (hc : ∀ y as f f', (∀ r M, f r M = some q → f' r M = some q) → cal y as f = some q → cal' y as f' = some q)  (h : mm_ex XL xs y (.ior, e) M pc lv st k cal = some q) : mm_ex XL xs y (.ior, e) M pc lv' st k' cal' = some q := by
  unfold mm_ex at h ⊢
  dsimp only at h ⊢
  split at h
  · exact hk _ _ _ _ _ hs h
  · cases h
theorem mn_ixor (hs : mn_sub lv lv') (hk : ∀ M pc l l' st, mn_sub l l' → k M pc l st = some q → k' M pc l' st = some q) (hc : ∀ y as f f', (∀ r M, f r M = some q → f' r M = some q) → cal y as f = some q → cal' y as f' = some q)  (h : mm_ex XL xs y (.ixor, e) M pc lv st k cal = some q) : mm_ex XL xs y (.ixor, e) M pc lv' st k' cal' = some q := by
  unfold mm_ex at h ⊢
  dsimp only at h ⊢
  split at h
  · exact hk _ _ _ _ _ hs h
  · cases h
theorem mn_ishl (hs : mn_sub lv lv') (hk : ∀ M pc l l' st, mn_sub l l' → k M pc l st = some q → k' M pc l' st = some q) (hc : ∀ y as f f', (∀ r M, f r M = some q → f' r M = some q) → cal y as f = some q → cal' y as f' = some q)  (h : mm_ex XL xs y (.ishl, e) M pc lv st k cal = some q) : mm_ex XL xs y (.ishl, e) M pc lv' st k' cal' = some q := by
  unfold mm_ex at h ⊢
  dsimp only at h ⊢
  split at h
  · exact hk _ _ _ _ _ hs h
  · cases h
theorem mn_ishr (hs : mn_sub lv lv') (hk : ∀ M pc l l' st, mn_sub l l' → k M pc l st = some q → k' M pc l' st = some q) (hc : ∀ y as f f', (∀ r M, f r M = some q → f' r M = some q) → cal y as f = some q → cal' y as f' = some q)  (h : mm_ex XL xs y (.ishr, e) M pc lv st k cal = some q) : mm_ex XL xs y (.ishr, e) M pc lv' st k' cal' = some q := by
  unfold mm_ex at h ⊢
  dsimp only at h ⊢
  split at h
  · exact hk _ _ _ _ _ hs h
  · cases h
theorem mn_ineg (hs : mn_sub lv lv') (hk : ∀ M pc l l' st, mn_sub l l' → k M pc l st = some q → k' M pc l' st = some q) (hc : ∀ y as f f', (∀ r M, f r M = some q → f' r M = some q) → cal y as f = some q → cal' y as f' = some q)  (h : mm_ex XL xs y (.ineg, e) M pc lv st k cal = some q) : mm_ex XL xs y (.ineg, e) M pc lv' st k' cal' = some q := by
  unfold mm_ex at h ⊢
  dsimp only at h ⊢
  split at h
  · exact hk _ _ _ _ _ hs h
  · cases h
theorem mn_ladd (hs : mn_sub lv lv') (hk : ∀ M pc l l' st, mn_sub l l' → k M pc l st = some q → k' M pc l' st = some q) (hc : ∀ y as f f', (∀ r M, f r M = some q → f' r M = some q) → cal y as f = some q → cal' y as f' = some q)  (h : mm_ex XL xs y (.ladd, e) M pc lv st k cal = some q) : mm_ex XL xs y (.ladd, e) M pc lv' st k' cal' = some q := by
  unfold mm_ex at h ⊢
  dsimp only at h ⊢
  split at h
  · exact hk _ _ _ _ _ hs h
  · cases h
theorem mn_lsub (hs : mn_sub lv lv') (hk : ∀ M pc l l' st, mn_sub l l' → k M pc l st = some q → k' M pc l' st = some q) (hc : ∀ y as f f', (∀ r M, f r M = some q → f' r M = some q) → cal y as f = some q → cal' y as f' = some q)  (h : mm_ex XL xs y (.lsub, e) M pc lv st k cal = some q) : mm_ex XL xs y (.lsub, e) M pc lv' st k' cal' = some q := by
  unfold mm_ex at h ⊢
  dsimp only at h ⊢
  split at h
  · exact hk _ _ _ _ _ hs h
  · cases h
theorem mn_lmul (hs : mn_sub lv lv') (hk : ∀ M pc l l' st, mn_sub l l' → k M pc l st = some q → k' M pc l' st = some q) (hc : ∀ y as f f', (∀ r M, f r M = some q → f' r M = some q) → cal y as f = some q → cal' y as f' = some q)  (h : mm_ex XL xs y (.lmul, e) M pc lv st k cal = some q) : mm_ex XL xs y (.lmul, e) M pc lv' st k' cal' = some q := by
  unfold mm_ex at h ⊢
  dsimp only at h ⊢
  split at h
  · exact hk _ _ _ _ _ hs h
  · cases h
theorem mn_land (hs : mn_sub lv lv') (hk : ∀ M pc l l' st, mn_sub l l' → k M pc l st = some q → k' M pc l' st = some q) (hc : ∀ y as f f', (∀ r M, f r M = some q → f' r M = some q) → cal y as f = some q → cal' y as f' = some q)  (h : mm_ex XL xs y (.land, e) M pc lv st k cal = some q) : mm_ex XL xs y (.land, e) M pc lv' st k' cal' = some q := by
  unfold mm_ex at h ⊢
  dsimp only at h ⊢
  split at h
  · exact hk _ _ _ _ _ hs h
  · cases h
theorem mn_lor (hs : mn_sub lv lv') (hk : ∀ M pc l l' st, mn_sub l l' → k M pc l st = some q → k' M pc l' st = some q) (hc : ∀ y as f f', (∀ r M, f r M = some q → f' r M = some q) → cal y as f = some q → cal' y as f' = some q)  (h : mm_ex XL xs y (.lor, e) M pc lv st k cal = some q) : mm_ex XL xs y (.lor, e) M pc lv' st k' cal' = some q := by
  unfold mm_ex at h ⊢
  dsimp only at h ⊢
  split at h
  · exact hk _ _ _ _ _ hs h
  · cases h
theorem mn_lxor (hs : mn_sub lv lv') (hk : ∀ M pc l l' st, mn_sub l l' → k M pc l st = some q → k' M pc l' st = some q) (hc : ∀ y as f f', (∀ r M, f r M = some q → f' r M = some q) → cal y as f = some q → cal' y as f' = some q)  (h : mm_ex XL xs y (.lxor, e) M pc lv st k cal = some q) : mm_ex XL xs y (.lxor, e) M pc lv' st k' cal' = some q := by
  unfold mm_ex at h ⊢
  dsimp only at h ⊢
  split at h
  · exact hk _ _ _ _ _ hs h
  · cases h
theorem mn_iushr (hs : mn_sub lv lv') (hk : ∀ M pc l l' st, mn_sub l l' → k M pc l st = some q → k' M pc l' st = some q) (hc : ∀ y as f f', (∀ r M, f r M = some q → f' r M = some q) → cal y as f = some q → cal' y as f' = some q)  (h : mm_ex XL xs y (.iushr, e) M pc lv st k cal = some q) : mm_ex XL xs y (.iushr, e) M pc lv' st k' cal' = some q := by
  unfold mm_ex at h ⊢
  dsimp only at h ⊢
  split at h
  · exact hk _ _ _ _ _ hs h
  · cases h
theorem mn_lshl (hs : mn_sub lv lv') (hk : ∀ M pc l l' st, mn_sub l l' → k M pc l st = some q → k' M pc l' st = some q) (hc : ∀ y as f f', (∀ r M, f r M = some q → f' r M = some q) → cal y as f = some q → cal' y as f' = some q)  (h : mm_ex XL xs y (.lshl, e) M pc lv st k cal = some q) : mm_ex XL xs y (.lshl, e) M pc lv' st k' cal' = some q := by
  unfold mm_ex at h ⊢
  dsimp only at h ⊢
  split at h
  · exact hk _ _ _ _ _ hs h
  · cases h
theorem mn_lushr (hs : mn_sub lv lv') (hk : ∀ M pc l l' st, mn_sub l l' → k M pc l st = some q → k' M pc l' st = some q) (hc : ∀ y as f f', (∀ r M, f r M = some q → f' r M = some q) → cal y as f = some q → cal' y as f' = some q)  (h : mm_ex XL xs y (.lushr, e) M pc lv st k cal = some q) : mm_ex XL xs y (.lushr, e) M pc lv' st k' cal' = some q := by
  unfold mm_ex at h ⊢
  dsimp only at h ⊢
  split at h
  · exact hk _ _ _ _ _ hs h
  · cases h
theorem mn_i2l (hs : mn_sub lv lv') (hk : ∀ M pc l l' st, mn_sub l l' → k M pc l st = some q → k' M pc l' st = some q) (hc : ∀ y as f f', (∀ r M, f r M = some q → f' r M = some q) → cal y as f = some q → cal' y as f' = some q)  (h : mm_ex XL xs y (.i2l, e) M pc lv st k cal = some q) : mm_ex XL xs y (.i2l, e) M pc lv' st k' cal' = some q := by
  unfold mm_ex at h ⊢
  dsimp only at h ⊢
  split at h
  · exact hk _ _ _ _ _ hs h
  · cases h
theorem mn_l2i (hs : mn_sub lv lv') (hk : ∀ M pc l l' st, mn_sub l l' → k M pc l st = some q → k' M pc l' st = some q) (hc : ∀ y as f f', (∀ r M, f r M = some q → f' r M = some q) → cal y as f = some q → cal' y as f' = some q)  (h : mm_ex XL xs y (.l2i, e) M pc lv st k cal = some q) : mm_ex XL xs y (.l2i, e) M pc lv' st k' cal' = some q := by
  unfold mm_ex at h ⊢
  dsimp only at h ⊢
  split at h
  · exact hk _ _ _ _ _ hs h
  · cases h
theorem mn_lcmp (hs : mn_sub lv lv') (hk : ∀ M pc l l' st, mn_sub l l' → k M pc l st = some q → k' M pc l' st = some q) (hc : ∀ y as f f', (∀ r M, f r M = some q → f' r M = some q) → cal y as f = some q → cal' y as f' = some q)  (h : mm_ex XL xs y (.lcmp, e) M pc lv st k cal = some q) : mm_ex XL xs y (.lcmp, e) M pc lv' st k' cal' = some q := by
  unfold mm_ex at h ⊢
  dsimp only at h ⊢
  split at h
  · exact hk _ _ _ _ _ hs h
  · cases h
theorem mn_pop (hs : mn_sub lv lv') (hk : ∀ M pc l l' st, mn_sub l l' → k M pc l st = some q → k' M pc l' st = some q) (hc : ∀ y as f f', (∀ r M, f r M = some q → f' r M = some q) → cal y as f = some q → cal' y as f' = some q)  (h : mm_ex XL xs y (.pop, e) M pc lv st k cal = some q) : mm_ex XL xs y (.pop, e) M pc lv' st k' cal' = some q := by
  unfold mm_ex at h ⊢
  dsimp only at h ⊢
  split at h
  · exact hk _ _ _ _ _ hs h
  · cases h
theorem mn_dup2 (hs : mn_sub lv lv') (hk : ∀ M pc l l' st, mn_sub l l' → k M pc l st = some q → k' M pc l' st = some q) (hc : ∀ y as f f', (∀ r M, f r M = some q → f' r M = some q) → cal y as f = some q → cal' y as f' = some q)  (h : mm_ex XL xs y (.dup2, e) M pc lv st k cal = some q) : mm_ex XL xs y (.dup2, e) M pc lv' st k' cal' = some q := by
  unfold mm_ex at h ⊢
  dsimp only at h ⊢
  split at h
  · exact hk _ _ _ _ _ hs h
  · cases h
theorem mn_idiv (hs : mn_sub lv lv') (hk : ∀ M pc l l' st, mn_sub l l' → k M pc l st = some q → k' M pc l' st = some q) (hc : ∀ y as f f', (∀ r M, f r M = some q → f' r M = some q) → cal y as f = some q → cal' y as f' = some q)  (h : mm_ex XL xs y (.idiv, e) M pc lv st k cal = some q) : mm_ex XL xs y (.idiv, e) M pc lv' st k' cal' = some q := by
  unfold mm_ex at h ⊢
  dsimp only at h ⊢
  split at h
  · obtain ⟨hn, h⟩ := sd_ifn h
    rw [if_neg hn]
    exact hk _ _ _ _ _ hs h
  · cases h
theorem mn_irem (hs : mn_sub lv lv') (hk : ∀ M pc l l' st, mn_sub l l' → k M pc l st = some q → k' M pc l' st = some q) (hc : ∀ y as f f', (∀ r M, f r M = some q → f' r M = some q) → cal y as f = some q → cal' y as f' = some q)  (h : mm_ex XL xs y (.irem, e) M pc lv st k cal = some q) : mm_ex XL xs y (.irem, e) M pc lv' st k' cal' = some q := by
  unfold mm_ex at h ⊢
  dsimp only at h ⊢
  split at h
  · obtain ⟨hn, h⟩ := sd_ifn h
    rw [if_neg hn]
    exact hk _ _ _ _ _ hs h
  · cases h
theorem mn_ldiv (hs : mn_sub lv lv') (hk : ∀ M pc l l' st, mn_sub l l' → k M pc l st = some q → k' M pc l' st = some q) (hc : ∀ y as f f', (∀ r M, f r M = some q → f' r M = some q) → cal y as f = some q → cal' y as f' = some q)  (h : mm_ex XL xs y (.ldiv, e) M pc lv st k cal = some q) : mm_ex XL xs y (.ldiv, e) M pc lv' st k' cal' = some q := by
  unfold mm_ex at h ⊢
  dsimp only at h ⊢
  split at h
  · obtain ⟨hn, h⟩ := sd_ifn h
    rw [if_neg hn]
    exact hk _ _ _ _ _ hs h
  · cases h
theorem mn_lrem (hs : mn_sub lv lv') (hk : ∀ M pc l l' st, mn_sub l l' → k M pc l st = some q → k' M pc l' st = some q) (hc : ∀ y as f f', (∀ r M, f r M = some q → f' r M = some q) → cal y as f = some q → cal' y as f' = some q)  (h : mm_ex XL xs y (.lrem, e) M pc lv st k cal = some q) : mm_ex XL xs y (.lrem, e) M pc lv' st k' cal' = some q := by
  unfold mm_ex at h ⊢
  dsimp only at h ⊢
  split at h
  · obtain ⟨hn, h⟩ := sd_ifn h
    rw [if_neg hn]
    exact hk _ _ _ _ _ hs h
  · cases h
theorem mn_dup (hs : mn_sub lv lv') (hk : ∀ M pc l l' st, mn_sub l l' → k M pc l st = some q → k' M pc l' st = some q) (hc : ∀ y as f f', (∀ r M, f r M = some q → f' r M = some q) → cal y as f = some q → cal' y as f' = some q)  (h : mm_ex XL xs y (.dup, e) M pc lv st k cal = some q) : mm_ex XL xs y (.dup, e) M pc lv' st k' cal' = some q := by
  unfold mm_ex at h ⊢
  dsimp only at h ⊢
  split at h
  · exact hk _ _ _ _ _ hs h
  · exact hk _ _ _ _ _ hs h
  · cases h
theorem mn_aconst_null (hs : mn_sub lv lv') (hk : ∀ M pc l l' st, mn_sub l l' → k M pc l st = some q → k' M pc l' st = some q) (hc : ∀ y as f f', (∀ r M, f r M = some q → f' r M = some q) → cal y as f = some q → cal' y as f' = some q)  (h : mm_ex XL xs y (.aconst_null, e) M pc lv st k cal = some q) : mm_ex XL xs y (.aconst_null, e) M pc lv' st k' cal' = some q := by
  unfold mm_ex at h ⊢
  dsimp only at h ⊢
  exact hk _ _ _ _ _ hs h
theorem mn_iconst (hs : mn_sub lv lv') (hk : ∀ M pc l l' st, mn_sub l l' → k M pc l st = some q → k' M pc l' st = some q) (hc : ∀ y as f f', (∀ r M, f r M = some q → f' r M = some q) → cal y as f = some q → cal' y as f' = some q) {i : Int} (h : mm_ex XL xs y (.iconst i, e) M pc lv st k cal = some q) : mm_ex XL xs y (.iconst i, e) M pc lv' st k' cal' = some q := by
  unfold mm_ex at h ⊢
  dsimp only at h ⊢
  exact hk _ _ _ _ _ hs h
theorem mn_bipush (hs : mn_sub lv lv') (hk : ∀ M pc l l' st, mn_sub l l' → k M pc l st = some q → k' M pc l' st = some q) (hc : ∀ y as f f', (∀ r M, f r M = some q → f' r M = some q) → cal y as f = some q → cal' y as f' = some q) {i : Int} (h : mm_ex XL xs y (.bipush i, e) M pc lv st k cal = some q) : mm_ex XL xs y (.bipush i, e) M pc lv' st k' cal' = some q := by
  unfold mm_ex at h ⊢
  dsimp only at h ⊢
  exact hk _ _ _ _ _ hs h
theorem mn_sipush (hs : mn_sub lv lv') (hk : ∀ M pc l l' st, mn_sub l l' → k M pc l st = some q → k' M pc l' st = some q) (hc : ∀ y as f f', (∀ r M, f r M = some q → f' r M = some q) → cal y as f = some q → cal' y as f' = some q) {i : Int} (h : mm_ex XL xs y (.sipush i, e) M pc lv st k cal = some q) : mm_ex XL xs y (.sipush i, e) M pc lv' st k' cal' = some q := by
  unfold mm_ex at h ⊢
  dsimp only at h ⊢
  exact hk _ _ _ _ _ hs h
theorem mn_lconst (hs : mn_sub lv lv') (hk : ∀ M pc l l' st, mn_sub l l' → k M pc l st = some q → k' M pc l' st = some q) (hc : ∀ y as f f', (∀ r M, f r M = some q → f' r M = some q) → cal y as f = some q → cal' y as f' = some q) {i : Fin 2} (h : mm_ex XL xs y (.lconst i, e) M pc lv st k cal = some q) : mm_ex XL xs y (.lconst i, e) M pc lv' st k' cal' = some q := by
  unfold mm_ex at h ⊢
  dsimp only at h ⊢
  exact hk _ _ _ _ _ hs h
theorem mn_ldc (hs : mn_sub lv lv') (hk : ∀ M pc l l' st, mn_sub l l' → k M pc l st = some q → k' M pc l' st = some q) (hc : ∀ y as f f', (∀ r M, f r M = some q → f' r M = some q) → cal y as f = some q → cal' y as f' = some q) {i : Nat} (h : mm_ex XL xs y (.ldc i, e) M pc lv st k cal = some q) : mm_ex XL xs y (.ldc i, e) M pc lv' st k' cal' = some q := by
  unfold mm_ex at h ⊢
  dsimp only at h ⊢
  exact hk _ _ _ _ _ hs h
theorem mn_ldc_w (hs : mn_sub lv lv') (hk : ∀ M pc l l' st, mn_sub l l' → k M pc l st = some q → k' M pc l' st = some q) (hc : ∀ y as f f', (∀ r M, f r M = some q → f' r M = some q) → cal y as f = some q → cal' y as f' = some q) {i : Nat} (h : mm_ex XL xs y (.ldc_w i, e) M pc lv st k cal = some q) : mm_ex XL xs y (.ldc_w i, e) M pc lv' st k' cal' = some q := by
  unfold mm_ex at h ⊢
  dsimp only at h ⊢
  exact hk _ _ _ _ _ hs h
theorem mn_ldc2_w (hs : mn_sub lv lv') (hk : ∀ M pc l l' st, mn_sub l l' → k M pc l st = some q → k' M pc l' st = some q) (hc : ∀ y as f f', (∀ r M, f r M = some q → f' r M = some q) → cal y as f = some q → cal' y as f' = some q) {i : Nat} (h : mm_ex XL xs y (.ldc2_w i, e) M pc lv st k cal = some q) : mm_ex XL xs y (.ldc2_w i, e) M pc lv' st k' cal' = some q := by
  unfold mm_ex at h ⊢
  dsimp only at h ⊢
  exact hk _ _ _ _ _ hs h
theorem mn_goto (hs : mn_sub lv lv') (hk : ∀ M pc l l' st, mn_sub l l' → k M pc l st = some q → k' M pc l' st = some q) (hc : ∀ y as f f', (∀ r M, f r M = some q → f' r M = some q) → cal y as f = some q → cal' y as f' = some q) {i : Int} (h : mm_ex XL xs y (.goto i, e) M pc lv st k cal = some q) : mm_ex XL xs y (.goto i, e) M pc lv' st k' cal' = some q := by
  unfold mm_ex at h ⊢
  dsimp only at h ⊢
  exact hk _ _ _ _ _ hs h
theorem mn_getstatic (hs : mn_sub lv lv') (hk : ∀ M pc l l' st, mn_sub l l' → k M pc l st = some q → k' M pc l' st = some q) (hc : ∀ y as f f', (∀ r M, f r M = some q → f' r M = some q) → cal y as f = some q → cal' y as f' = some q) {i : Nat} (h : mm_ex XL xs y (.getstatic i, e) M pc lv st k cal = some q) : mm_ex XL xs y (.getstatic i, e) M pc lv' st k' cal' = some q := by
  unfold mm_ex at h ⊢
  dsimp only at h ⊢
  exact hk _ _ _ _ _ hs h
theorem mn_iload_n (hs : mn_sub lv lv') (hk : ∀ M pc l l' st, mn_sub l l' → k M pc l st = some q → k' M pc l' st = some q) (hc : ∀ y as f f', (∀ r M, f r M = some q → f' r M = some q) → cal y as f = some q → cal' y as f' = some q) {i : Fin 4} (h : mm_ex XL xs y (.iload_n i, e) M pc lv st k cal = some q) : mm_ex XL xs y (.iload_n i, e) M pc lv' st k' cal' = some q := by
  unfold mm_ex at h ⊢
  dsimp only at h ⊢
  split at h
  · rename_i hg
    rw [hs.2 _ _ hg]
    exact hk _ _ _ _ _ hs h
  · cases h
theorem mn_iload (hs : mn_sub lv lv') (hk : ∀ M pc l l' st, mn_sub l l' → k M pc l st = some q → k' M pc l' st = some q) (hc : ∀ y as f f', (∀ r M, f r M = some q → f' r M = some q) → cal y as f = some q → cal' y as f' = some q) {i : Nat} (h : mm_ex XL xs y (.iload i, e) M pc lv st k cal = some q) : mm_ex XL xs y (.iload i, e) M pc lv' st k' cal' = some q := by
  unfold mm_ex at h ⊢
  dsimp only at h ⊢
  split at h
  · rename_i hg
    rw [hs.2 _ _ hg]
    exact hk _ _ _ _ _ hs h
  · cases h
theorem mn_lload_n (hs : mn_sub lv lv') (hk : ∀ M pc l l' st, mn_sub l l' → k M pc l st = some q → k' M pc l' st = some q) (hc : ∀ y as f f', (∀ r M, f r M = some q → f' r M = some q) → cal y as f = some q → cal' y as f' = some q) {i : Fin 4} (h : mm_ex XL xs y (.lload_n i, e) M pc lv st k cal = some q) : mm_ex XL xs y (.lload_n i, e) M pc lv' st k' cal' = some q := by
  unfold mm_ex at h ⊢
  dsimp only at h ⊢
  split at h
  · rename_i hg
    rw [hs.2 _ _ hg]
    exact hk _ _ _ _ _ hs h
  · cases h
theorem mn_lload (hs : mn_sub lv lv') (hk : ∀ M pc l l' st, mn_sub l l' → k M pc l st = some q → k' M pc l' st = some q) (hc : ∀ y as f f', (∀ r M, f r M = some q → f' r M = some q) → cal y as f = some q → cal' y as f' = some q) {i : Nat} (h : mm_ex XL xs y (.lload i, e) M pc lv st k cal = some q) : mm_ex XL xs y (.lload i, e) M pc lv' st k' cal' = some q := by
  unfold mm_ex at h ⊢
  dsimp only at h ⊢
  split at h
  · rename_i hg
    rw [hs.2 _ _ hg]
    exact hk _ _ _ _ _ hs h
  · cases h
theorem mn_aload_n (hs : mn_sub lv lv') (hk : ∀ M pc l l' st, mn_sub l l' → k M pc l st = some q → k' M pc l' st = some q) (hc : ∀ y as f f', (∀ r M, f r M = some q → f' r M = some q) → cal y as f = some q → cal' y as f' = some q) {i : Fin 4} (h : mm_ex XL xs y (.aload_n i, e) M pc lv st k cal = some q) : mm_ex XL xs y (.aload_n i, e) M pc lv' st k' cal' = some q := by
  unfold mm_ex at h ⊢
  dsimp only at h ⊢
  split at h
  · rename_i hg
    rw [hs.2 _ _ hg]
    exact hk _ _ _ _ _ hs h
  · rename_i hg
    rw [hs.2 _ _ hg]
    exact hk _ _ _ _ _ hs h
  · cases h
theorem mn_aload (hs : mn_sub lv lv') (hk : ∀ M pc l l' st, mn_sub l l' → k M pc l st = some q → k' M pc l' st = some q) (hc : ∀ y as f f', (∀ r M, f r M = some q → f' r M = some q) → cal y as f = some q → cal' y as f' = some q) {i : Nat} (h : mm_ex XL xs y (.aload i, e) M pc lv st k cal = some q) : mm_ex XL xs y (.aload i, e) M pc lv' st k' cal' = some q := by
  unfold mm_ex at h ⊢
  dsimp only at h ⊢
  split at h
  · rename_i hg
    rw [hs.2 _ _ hg]
    exact hk _ _ _ _ _ hs h
  · rename_i hg
    rw [hs.2 _ _ hg]
    exact hk _ _ _ _ _ hs h
  · cases h
theorem mn_istore_n (hs : mn_sub lv lv') (hk : ∀ M pc l l' st, mn_sub l l' → k M pc l st = some q → k' M pc l' st = some q) (hc : ∀ y as f f', (∀ r M, f r M = some q → f' r M = some q) → cal y as f = some q → cal' y as f' = some q) {i : Fin 4} (h : mm_ex XL xs y (.istore_n i, e) M pc lv st k cal = some q) : mm_ex XL xs y (.istore_n i, e) M pc lv' st k' cal' = some q := by
  unfold mm_ex at h ⊢
  dsimp only at h ⊢
  split at h
  · obtain ⟨hb, h⟩ := sd_bif h
    rw [hb]
    exact hk _ _ _ _ _ (mn_s1 _ _ hs) h
  · cases h
theorem mn_istore (hs : mn_sub lv lv') (hk : ∀ M pc l l' st, mn_sub l l' → k M pc l st = some q → k' M pc l' st = some q) (hc : ∀ y as f f', (∀ r M, f r M = some q → f' r M = some q) → cal y as f = some q → cal' y as f' = some q) {i : Nat} (h : mm_ex XL xs y (.istore i, e) M pc lv st k cal = some q) : mm_ex XL xs y (.istore i, e) M pc lv' st k' cal' = some q := by
  unfold mm_ex at h ⊢
  dsimp only at h ⊢
  split at h
  · obtain ⟨hb, h⟩ := sd_bif h
    rw [hb]
    exact hk _ _ _ _ _ (mn_s1 _ _ hs) h
  · cases h
theorem mn_lstore_n (hs : mn_sub lv lv') (hk : ∀ M pc l l' st, mn_sub l l' → k M pc l st = some q → k' M pc l' st = some q) (hc : ∀ y as f f', (∀ r M, f r M = some q → f' r M = some q) → cal y as f = some q → cal' y as f' = some q) {i : Fin 4} (h : mm_ex XL xs y (.lstore_n i, e) M pc lv st k cal = some q) : mm_ex XL xs y (.lstore_n i, e) M pc lv' st k' cal' = some q := by
  unfold mm_ex at h ⊢
  dsimp only at h ⊢
  split at h
  · obtain ⟨hb, h⟩ := sd_bif h
    rw [hb]
    exact hk _ _ _ _ _ (mn_s2 _ _ hs) h
  · cases h
theorem mn_lstore (hs : mn_sub lv lv') (hk : ∀ M pc l l' st, mn_sub l l' → k M pc l st = some q → k' M pc l' st = some q) (hc : ∀ y as f f', (∀ r M, f r M = some q → f' r M = some q) → cal y as f = some q → cal' y as f' = some q) {i : Nat} (h : mm_ex XL xs y (.lstore i, e) M pc lv st k cal = some q) : mm_ex XL xs y (.lstore i, e) M pc lv' st k' cal' = some q := by
  unfold mm_ex at h ⊢
  dsimp only at h ⊢
  split at h
  · obtain ⟨hb, h⟩ := sd_bif h
    rw [hb]
    exact hk _ _ _ _ _ (mn_s2 _ _ hs) h
  · cases h
theorem mn_astore_n (hs : mn_sub lv lv') (hk : ∀ M pc l l' st, mn_sub l l' → k M pc l st = some q → k' M pc l' st = some q) (hc : ∀ y as f f', (∀ r M, f r M = some q → f' r M = some q) → cal y as f = some q → cal' y as f' = some q) {i : Fin 4} (h : mm_ex XL xs y (.astore_n i, e) M pc lv st k cal = some q) : mm_ex XL xs y (.astore_n i, e) M pc lv' st k' cal' = some q := by
  unfold mm_ex at h ⊢
  dsimp only at h ⊢
  split at h
  · obtain ⟨hb, h⟩ := sd_bif h
    rw [hb]
    exact hk _ _ _ _ _ (mn_s1 _ _ hs) h
  · obtain ⟨hb, h⟩ := sd_bif h
    rw [hb]
    exact hk _ _ _ _ _ (mn_s1 _ _ hs) h
  · cases h
theorem mn_astore (hs : mn_sub lv lv') (hk : ∀ M pc l l' st, mn_sub l l' → k M pc l st = some q → k' M pc l' st = some q) (hc : ∀ y as f f', (∀ r M, f r M = some q → f' r M = some q) → cal y as f = some q → cal' y as f' = some q) {i : Nat} (h : mm_ex XL xs y (.astore i, e) M pc lv st k cal = some q) : mm_ex XL xs y (.astore i, e) M pc lv' st k' cal' = some q := by
  unfold mm_ex at h ⊢
  dsimp only at h ⊢
  split at h
  · obtain ⟨hb, h⟩ := sd_bif h
    rw [hb]
    exact hk _ _ _ _ _ (mn_s1 _ _ hs) h
  · obtain ⟨hb, h⟩ := sd_bif h
    rw [hb]
    exact hk _ _ _ _ _ (mn_s1 _ _ hs) h
  · cases h
theorem mn_iinc (hs : mn_sub lv lv') (hk : ∀ M pc l l' st, mn_sub l l' → k M pc l st = some q → k' M pc l' st = some q) (hc : ∀ y as f f', (∀ r M, f r M = some q → f' r M = some q) → cal y as f = some q → cal' y as f' = some q) {i : Nat} {n : Int} (h : mm_ex XL xs y (.iinc i n, e) M pc lv st k cal = some q) : mm_ex XL xs y (.iinc i n, e) M pc lv' st k' cal' = some q := by
  unfold mm_ex at h ⊢
  dsimp only at h ⊢
  split at h
  · rename_i hg
    rw [hs.2 _ _ hg]
    obtain ⟨hb, h⟩ := sd_bif h
    dsimp only
    rw [hb]
    exact hk _ _ _ _ _ (mn_s1 _ _ hs) h
  · cases h
theorem mn_if_eq (hs : mn_sub lv lv') (hk : ∀ M pc l l' st, mn_sub l l' → k M pc l st = some q → k' M pc l' st = some q) (hc : ∀ y as f f', (∀ r M, f r M = some q → f' r M = some q) → cal y as f = some q → cal' y as f' = some q) {i : Int} (h : mm_ex XL xs y (.ifCond .eq i, e) M pc lv st k cal = some q) : mm_ex XL xs y (.ifCond .eq i, e) M pc lv' st k' cal' = some q := by
  unfold mm_ex at h ⊢
  dsimp only at h ⊢
  split at h
  · split at h
    · rename_i hx
      rw [if_pos hx]
      exact hk _ _ _ _ _ hs h
    · rename_i hx
      rw [if_neg hx]
      exact hk _ _ _ _ _ hs h
  · cases h
theorem mn_icmp_eq (hs : mn_sub lv lv') (hk : ∀ M pc l l' st, mn_sub l l' → k M pc l st = some q → k' M pc l' st = some q) (hc : ∀ y as f f', (∀ r M, f r M = some q → f' r M = some q) → cal y as f = some q → cal' y as f' = some q) {i : Int} (h : mm_ex XL xs y (.if_icmp .eq i, e) M pc lv st k cal = some q) : mm_ex XL xs y (.if_icmp .eq i, e) M pc lv' st k' cal' = some q := by
  unfold mm_ex at h ⊢
  dsimp only at h ⊢
  split at h
  · split at h
    · rename_i hx
      rw [if_pos hx]
      exact hk _ _ _ _ _ hs h
    · rename_i hx
      rw [if_neg hx]
      exact hk _ _ _ _ _ hs h
  · cases h
theorem mn_if_ne (hs : mn_sub lv lv') (hk : ∀ M pc l l' st, mn_sub l l' → k M pc l st = some q → k' M pc l' st = some q) (hc : ∀ y as f f', (∀ r M, f r M = some q → f' r M = some q) → cal y as f = some q → cal' y as f' = some q) {i : Int} (h : mm_ex XL xs y (.ifCond .ne i, e) M pc lv st k cal = some q) : mm_ex XL xs y (.ifCond .ne i, e) M pc lv' st k' cal' = some q := by
  unfold mm_ex at h ⊢
  dsimp only at h ⊢
  split at h
  · split at h
    · rename_i hx
      rw [if_pos hx]
      exact hk _ _ _ _ _ hs h
    · rename_i hx
      rw [if_neg hx]
      exact hk _ _ _ _ _ hs h
  · cases h
theorem mn_icmp_ne (hs : mn_sub lv lv') (hk : ∀ M pc l l' st, mn_sub l l' → k M pc l st = some q → k' M pc l' st = some q) (hc : ∀ y as f f', (∀ r M, f r M = some q → f' r M = some q) → cal y as f = some q → cal' y as f' = some q) {i : Int} (h : mm_ex XL xs y (.if_icmp .ne i, e) M pc lv st k cal = some q) : mm_ex XL xs y (.if_icmp .ne i, e) M pc lv' st k' cal' = some q := by
  unfold mm_ex at h ⊢
  dsimp only at h ⊢
  split at h
  · split at h
    · rename_i hx
      rw [if_pos hx]
      exact hk _ _ _ _ _ hs h
    · rename_i hx
      rw [if_neg hx]
      exact hk _ _ _ _ _ hs h
  · cases h
theorem mn_if_lt (hs : mn_sub lv lv') (hk : ∀ M pc l l' st, mn_sub l l' → k M pc l st = some q → k' M pc l' st = some q) (hc : ∀ y as f f', (∀ r M, f r M = some q → f' r M = some q) → cal y as f = some q → cal' y as f' = some q) {i : Int} (h : mm_ex XL xs y (.ifCond .lt i, e) M pc lv st k cal = some q) : mm_ex XL xs y (.ifCond .lt i, e) M pc lv' st k' cal' = some q := by
  unfold mm_ex at h ⊢
  dsimp only at h ⊢
  split at h
  · split at h
    · rename_i hx
      rw [if_pos hx]
      exact hk _ _ _ _ _ hs h
    · rename_i hx
      rw [if_neg hx]
      exact hk _ _ _ _ _ hs h
  · cases h
theorem mn_icmp_lt (hs : mn_sub lv lv') (hk : ∀ M pc l l' st, mn_sub l l' → k M pc l st = some q → k' M pc l' st = some q) (hc : ∀ y as f f', (∀ r M, f r M = some q → f' r M = some q) → cal y as f = some q → cal' y as f' = some q) {i : Int} (h : mm_ex XL xs y (.if_icmp .lt i, e) M pc lv st k cal = some q) : mm_ex XL xs y (.if_icmp .lt i, e) M pc lv' st k' cal' = some q := by
  unfold mm_ex at h ⊢
  dsimp only at h ⊢
  split at h
  · split at h
    · rename_i hx
      rw [if_pos hx]
      exact hk _ _ _ _ _ hs h
    · rename_i hx
      rw [if_neg hx]
      exact hk _ _ _ _ _ hs h
  · cases h
theorem mn_if_ge (hs : mn_sub lv lv') (hk : ∀ M pc l l' st, mn_sub l l' → k M pc l st = some q → k' M pc l' st = some q) (hc : ∀ y as f f', (∀ r M, f r M = some q → f' r M = some q) → cal y as f = some q → cal' y as f' = some q) {i : Int} (h : mm_ex XL xs y (.ifCond .ge i, e) M pc lv st k cal = some q) : mm_ex XL xs y (.ifCond .ge i, e) M pc lv' st k' cal' = some q := by
  unfold mm_ex at h ⊢
  dsimp only at h ⊢
  split at h
  · split at h
    · rename_i hx
      rw [if_pos hx]
      exact hk _ _ _ _ _ hs h
    · rename_i hx
      rw [if_neg hx]
      exact hk _ _ _ _ _ hs h
  · cases h
theorem mn_icmp_ge (hs : mn_sub lv lv') (hk : ∀ M pc l l' st, mn_sub l l' → k M pc l st = some q → k' M pc l' st = some q) (hc : ∀ y as f f', (∀ r M, f r M = some q → f' r M = some q) → cal y as f = some q → cal' y as f' = some q) {i : Int} (h : mm_ex XL xs y (.if_icmp .ge i, e) M pc lv st k cal = some q) : mm_ex XL xs y (.if_icmp .ge i, e) M pc lv' st k' cal' = some q := by
  unfold mm_ex at h ⊢
  dsimp only at h ⊢
  split at h
  · split at h
    · rename_i hx
      rw [if_pos hx]
      exact hk _ _ _ _ _ hs h
    · rename_i hx
      rw [if_neg hx]
      exact hk _ _ _ _ _ hs h
  · cases h
theorem mn_if_gt (hs : mn_sub lv lv') (hk : ∀ M pc l l' st, mn_sub l l' → k M pc l st = some q → k' M pc l' st = some q) (hc : ∀ y as f f', (∀ r M, f r M = some q → f' r M = some q) → cal y as f = some q → cal' y as f' = some q) {i : Int} (h : mm_ex XL xs y (.ifCond .gt i, e) M pc lv st k cal = some q) : mm_ex XL xs y (.ifCond .gt i, e) M pc lv' st k' cal' = some q := by
  unfold mm_ex at h ⊢
  dsimp only at h ⊢
  split at h
  · split at h
    · rename_i hx
      rw [if_pos hx]
      exact hk _ _ _ _ _ hs h
    · rename_i hx
      rw [if_neg hx]
      exact hk _ _ _ _ _ hs h
  · cases h
theorem mn_icmp_gt (hs : mn_sub lv lv') (hk : ∀ M pc l l' st, mn_sub l l' → k M pc l st = some q → k' M pc l' st = some q) (hc : ∀ y as f f', (∀ r M, f r M = some q → f' r M = some q) → cal y as f = some q → cal' y as f' = some q) {i : Int} (h : mm_ex XL xs y (.if_icmp .gt i, e) M pc lv st k cal = some q) : mm_ex XL xs y (.if_icmp .gt i, e) M pc lv' st k' cal' = some q := by
  unfold mm_ex at h ⊢
  dsimp only at h ⊢
  split at h
  · split at h
    · rename_i hx
      rw [if_pos hx]
      exact hk _ _ _ _ _ hs h
    · rename_i hx
      rw [if_neg hx]
      exact hk _ _ _ _ _ hs h
  · cases h
theorem mn_if_le (hs : mn_sub lv lv') (hk : ∀ M pc l l' st, mn_sub l l' → k M pc l st = some q → k' M pc l' st = some q) (hc : ∀ y as f f', (∀ r M, f r M = some q → f' r M = some q) → cal y as f = some q → cal' y as f' = some q) {i : Int} (h : mm_ex XL xs y (.ifCond .le i, e) M pc lv st k cal = some q) : mm_ex XL xs y (.ifCond .le i, e) M pc lv' st k' cal' = some q := by
  unfold mm_ex at h ⊢
  dsimp only at h ⊢
  split at h
  · split at h
    · rename_i hx
      rw [if_pos hx]
      exact hk _ _ _ _ _ hs h
    · rename_i hx
      rw [if_neg hx]
      exact hk _ _ _ _ _ hs h
  · cases h
theorem mn_icmp_le (hs : mn_sub lv lv') (hk : ∀ M pc l l' st, mn_sub l l' → k M pc l st = some q → k' M pc l' st = some q) (hc : ∀ y as f f', (∀ r M, f r M = some q → f' r M = some q) → cal y as f = some q → cal' y as f' = some q) {i : Int} (h : mm_ex XL xs y (.if_icmp .le i, e) M pc lv st k cal = some q) : mm_ex XL xs y (.if_icmp .le i, e) M pc lv' st k' cal' = some q := by
  unfold mm_ex at h ⊢
  dsimp only at h ⊢
  split at h
  · split at h
    · rename_i hx
      rw [if_pos hx]
      exact hk _ _ _ _ _ hs h
    · rename_i hx
      rw [if_neg hx]
      exact hk _ _ _ _ _ hs h
  · cases h
theorem mn_ifnull (hs : mn_sub lv lv') (hk : ∀ M pc l l' st, mn_sub l l' → k M pc l st = some q → k' M pc l' st = some q) (hc : ∀ y as f f', (∀ r M, f r M = some q → f' r M = some q) → cal y as f = some q → cal' y as f' = some q) {i : Int} (h : mm_ex XL xs y (.ifnull i, e) M pc lv st k cal = some q) : mm_ex XL xs y (.ifnull i, e) M pc lv' st k' cal' = some q := by
  unfold mm_ex at h ⊢
  dsimp only at h ⊢
  split at h
  · exact hk _ _ _ _ _ hs h
  · exact hk _ _ _ _ _ hs h
  · cases h
theorem mn_ifnonnull (hs : mn_sub lv lv') (hk : ∀ M pc l l' st, mn_sub l l' → k M pc l st = some q → k' M pc l' st = some q) (hc : ∀ y as f f', (∀ r M, f r M = some q → f' r M = some q) → cal y as f = some q → cal' y as f' = some q) {i : Int} (h : mm_ex XL xs y (.ifnonnull i, e) M pc lv st k cal = some q) : mm_ex XL xs y (.ifnonnull i, e) M pc lv' st k' cal' = some q := by
  unfold mm_ex at h ⊢
  dsimp only at h ⊢
  split at h
  · exact hk _ _ _ _ _ hs h
  · exact hk _ _ _ _ _ hs h
  · cases h
theorem mn_tableswitch (hs : mn_sub lv lv') (hk : ∀ M pc l l' st, mn_sub l l' → k M pc l st = some q → k' M pc l' st = some q) (hc : ∀ y as f f', (∀ r M, f r M = some q → f' r M = some q) → cal y as f = some q → cal' y as f' = some q) {d lo hi : Int} {offs : Array Int} (h : mm_ex XL xs y (.tableswitch d lo hi offs, e) M pc lv st k cal = some q) : mm_ex XL xs y (.tableswitch d lo hi offs, e) M pc lv' st k' cal' = some q := by
  unfold mm_ex at h ⊢
  dsimp only at h ⊢
  split at h
  · split at h
    · rename_i hx
      rw [if_pos hx]
      exact hk _ _ _ _ _ hs h
    · rename_i hx
      rw [if_neg hx]
      split at h
      · exact hk _ _ _ _ _ hs h
      · cases h
  · cases h
theorem mn_lookupswitch (hs : mn_sub lv lv') (hk : ∀ M pc l l' st, mn_sub l l' → k M pc l st = some q → k' M pc l' st = some q) (hc : ∀ y as f f', (∀ r M, f r M = some q → f' r M = some q) → cal y as f = some q → cal' y as f' = some q) {d : Int} {ps : Array (Int × Int)} (h : mm_ex XL xs y (.lookupswitch d ps, e) M pc lv st k cal = some q) : mm_ex XL xs y (.lookupswitch d ps, e) M pc lv' st k' cal' = some q := by
  unfold mm_ex at h ⊢
  dsimp only at h ⊢
  split at h
  · exact hk _ _ _ _ _ hs h
  · cases h
theorem mn_getfield (hs : mn_sub lv lv') (hk : ∀ M pc l l' st, mn_sub l l' → k M pc l st = some q → k' M pc l' st = some q) (hc : ∀ y as f f', (∀ r M, f r M = some q → f' r M = some q) → cal y as f = some q → cal' y as f' = some q) {i : Nat} (h : mm_ex XL xs y (.getfield i, e) M pc lv st k cal = some q) : mm_ex XL xs y (.getfield i, e) M pc lv' st k' cal' = some q := by
  unfold mm_ex at h ⊢
  dsimp only at h ⊢
  split at h
  · obtain ⟨hb0, h⟩ := sd_bif h
    rw [hb0]
    simp only [cond_true]
    obtain ⟨hb1, h⟩ := sd_bif h
    rw [hb1]
    simp only [cond_true]
    obtain ⟨hb2, h⟩ := sd_bif h
    rw [hb2]
    simp only [cond_true]
    exact hk _ _ _ _ _ hs h
  · cases h
theorem mn_putfield (hs : mn_sub lv lv') (hk : ∀ M pc l l' st, mn_sub l l' → k M pc l st = some q → k' M pc l' st = some q) (hc : ∀ y as f f', (∀ r M, f r M = some q → f' r M = some q) → cal y as f = some q → cal' y as f' = some q) {i : Nat} (h : mm_ex XL xs y (.putfield i, e) M pc lv st k cal = some q) : mm_ex XL xs y (.putfield i, e) M pc lv' st k' cal' = some q := by
  unfold mm_ex at h ⊢
  dsimp only at h ⊢
  split at h
  · obtain ⟨hb0, h⟩ := sd_bif h
    obtain ⟨hb1, h⟩ := sd_bif h
    obtain ⟨hb2, h⟩ := sd_bif h
    obtain ⟨hb3, h⟩ := sd_bif h
    simp only [hb0, hb1, hb2, hb3, cond_true]
    split at h
    · exact hk _ _ _ _ _ hs h
    · obtain ⟨hx, h⟩ := sd_ift h
      rw [if_pos hx]
      exact hk _ _ _ _ _ hs h
    · exact hk _ _ _ _ _ hs h
    · exact hk _ _ _ _ _ hs h
    · exact hk _ _ _ _ _ hs h
    · cases h
  · cases h
theorem mn_baload (hs : mn_sub lv lv') (hk : ∀ M pc l l' st, mn_sub l l' → k M pc l st = some q → k' M pc l' st = some q) (hc : ∀ y as f f', (∀ r M, f r M = some q → f' r M = some q) → cal y as f = some q → cal' y as f' = some q)  (h : mm_ex XL xs y (.baload, e) M pc lv st k cal = some q) : mm_ex XL xs y (.baload, e) M pc lv' st k' cal' = some q := by
  unfold mm_ex at h ⊢
  dsimp only at h ⊢
  split at h
  · obtain ⟨hb0, h⟩ := sd_bif h
    obtain ⟨hb1, h⟩ := sd_bif h
    simp only [hb0, hb1, cond_true]
    obtain ⟨hi, h⟩ := sd_ifn h
    rw [if_neg hi]
    exact hk _ _ _ _ _ hs h
  · cases h
theorem mn_laload (hs : mn_sub lv lv') (hk : ∀ M pc l l' st, mn_sub l l' → k M pc l st = some q → k' M pc l' st = some q) (hc : ∀ y as f f', (∀ r M, f r M = some q → f' r M = some q) → cal y as f = some q → cal' y as f' = some q)  (h : mm_ex XL xs y (.laload, e) M pc lv st k cal = some q) : mm_ex XL xs y (.laload, e) M pc lv' st k' cal' = some q := by
  unfold mm_ex at h ⊢
  dsimp only at h ⊢
  split at h
  · obtain ⟨hb0, h⟩ := sd_bif h
    obtain ⟨hb1, h⟩ := sd_bif h
    simp only [hb0, hb1, cond_true]
    obtain ⟨hi, h⟩ := sd_ifn h
    rw [if_neg hi]
    exact hk _ _ _ _ _ hs h
  · cases h
theorem mn_iastore (hs : mn_sub lv lv') (hk : ∀ M pc l l' st, mn_sub l l' → k M pc l st = some q → k' M pc l' st = some q) (hc : ∀ y as f f', (∀ r M, f r M = some q → f' r M = some q) → cal y as f = some q → cal' y as f' = some q)  (h : mm_ex XL xs y (.iastore, e) M pc lv st k cal = some q) : mm_ex XL xs y (.iastore, e) M pc lv' st k' cal' = some q := by
  unfold mm_ex at h ⊢
  dsimp only at h ⊢
  split at h
  · obtain ⟨hb0, h⟩ := sd_bif h
    obtain ⟨hb1, h⟩ := sd_bif h
    simp only [hb0, hb1, cond_true]
    obtain ⟨hi, h⟩ := sd_ifn h
    rw [if_neg hi]
    exact hk _ _ _ _ _ hs h
  · cases h
theorem mn_lastore (hs : mn_sub lv lv') (hk : ∀ M pc l l' st, mn_sub l l' → k M pc l st = some q → k' M pc l' st = some q) (hc : ∀ y as f f', (∀ r M, f r M = some q → f' r M = some q) → cal y as f = some q → cal' y as f' = some q)  (h : mm_ex XL xs y (.lastore, e) M pc lv st k cal = some q) : mm_ex XL xs y (.lastore, e) M pc lv' st k' cal' = some q := by
  unfold mm_ex at h ⊢
  dsimp only at h ⊢
  split at h
  · obtain ⟨hb0, h⟩ := sd_bif h
    obtain ⟨hb1, h⟩ := sd_bif h
    simp only [hb0, hb1, cond_true]
    obtain ⟨hi, h⟩ := sd_ifn h
    rw [if_neg hi]
    exact hk _ _ _ _ _ hs h
  · cases h
theorem mn_bastore (hs : mn_sub lv lv') (hk : ∀ M pc l l' st, mn_sub l l' → k M pc l st = some q → k' M pc l' st = some q) (hc : ∀ y as f f', (∀ r M, f r M = some q → f' r M = some q) → cal y as f = some q → cal' y as f' = some q)  (h : mm_ex XL xs y (.bastore, e) M pc lv st k cal = some q) : mm_ex XL xs y (.bastore, e) M pc lv' st k' cal' = some q := by
  unfold mm_ex at h ⊢
  dsimp only at h ⊢
  split at h
  · obtain ⟨hb0, h⟩ := sd_bif h
    obtain ⟨hb1, h⟩ := sd_bif h
    simp only [hb0, hb1, cond_true]
    obtain ⟨hi, h⟩ := sd_ifn h
    rw [if_neg hi]
    obtain ⟨hx, h⟩ := sd_ift h
    rw [if_pos hx]
    exact hk _ _ _ _ _ hs h
  · cases h
theorem mn_aastore (hs : mn_sub lv lv') (hk : ∀ M pc l l' st, mn_sub l l' → k M pc l st = some q → k' M pc l' st = some q) (hc : ∀ y as f f', (∀ r M, f r M = some q → f' r M = some q) → cal y as f = some q → cal' y as f' = some q)  (h : mm_ex XL xs y (.aastore, e) M pc lv st k cal = some q) : mm_ex XL xs y (.aastore, e) M pc lv' st k' cal' = some q := by
  unfold mm_ex at h ⊢
  dsimp only at h ⊢
  split at h
  · obtain ⟨hb0, h⟩ := sd_bif h
    obtain ⟨hb1, h⟩ := sd_bif h
    obtain ⟨hb2, h⟩ := sd_bif h
    obtain ⟨hb3, h⟩ := sd_bif h
    simp only [hb0, hb1, hb2, hb3, cond_true]
    obtain ⟨hi, h⟩ := sd_ifn h
    rw [if_neg hi]
    exact hk _ _ _ _ _ hs h
  · cases h
theorem mn_iaload (hs : mn_sub lv lv') (hk : ∀ M pc l l' st, mn_sub l l' → k M pc l st = some q → k' M pc l' st = some q) (hc : ∀ y as f f', (∀ r M, f r M = some q → f' r M = some q) → cal y as f = some q → cal' y as f' = some q)  (h : mm_ex XL xs y (.iaload, e) M pc lv st k cal = some q) : mm_ex XL xs y (.iaload, e) M pc lv' st k' cal' = some q := by
  unfold mm_ex at h ⊢
  dsimp only at h ⊢
  split at h
  · rename_i i a st'
    cases hb : Nat.blt a mm_xb with
    | true =>
      simp only [hb, cond_true] at h ⊢
      obtain ⟨hb0, h⟩ := sd_bif h
      obtain ⟨hb1, h⟩ := sd_bif h
      simp only [hb0, hb1, cond_true]
      obtain ⟨hi, h⟩ := sd_ifn h
      rw [if_neg hi]
      exact hk _ _ _ _ _ hs h
    | false =>
      simp only [hb, cond_false] at h ⊢
      obtain ⟨hi, h⟩ := sd_ifn h
      rw [if_neg hi]
      exact hk _ _ _ _ _ hs h
  · cases h
theorem mn_arraylength (hs : mn_sub lv lv') (hk : ∀ M pc l l' st, mn_sub l l' → k M pc l st = some q → k' M pc l' st = some q) (hc : ∀ y as f f', (∀ r M, f r M = some q → f' r M = some q) → cal y as f = some q → cal' y as f' = some q)  (h : mm_ex XL xs y (.arraylength, e) M pc lv st k cal = some q) : mm_ex XL xs y (.arraylength, e) M pc lv' st k' cal' = some q := by
  unfold mm_ex at h ⊢
  dsimp only at h ⊢
  split at h
  · rename_i a st'
    cases hb : Nat.blt a mm_xb with
    | true =>
      simp only [hb, cond_true] at h ⊢
      cases hb2 : Nat.blt (mm_kd a).1 20 with
      | true => simp [hb2] at h
      | false =>
        simp only [hb2, cond_false] at h ⊢
        obtain ⟨hb0, h⟩ := sd_bif h
        obtain ⟨hb1, h⟩ := sd_bif h
        simp only [hb0, hb1, cond_true]
        exact hk _ _ _ _ _ hs h
    | false =>
      simp only [hb, cond_false] at h ⊢
      exact hk _ _ _ _ _ hs h
  · cases h
theorem mn_aaload (hs : mn_sub lv lv') (hk : ∀ M pc l l' st, mn_sub l l' → k M pc l st = some q → k' M pc l' st = some q) (hc : ∀ y as f f', (∀ r M, f r M = some q → f' r M = some q) → cal y as f = some q → cal' y as f' = some q)  (h : mm_ex XL xs y (.aaload, e) M pc lv st k cal = some q) : mm_ex XL xs y (.aaload, e) M pc lv' st k' cal' = some q := by
  unfold mm_ex at h ⊢
  dsimp only at h ⊢
  split at h
  · rename_i i a st'
    cases hb2 : Nat.blt (mm_kd a).1 30 with
    | true => simp [hb2] at h
    | false =>
      simp only [hb2, cond_false] at h ⊢
      obtain ⟨hb0, h⟩ := sd_bif h
      obtain ⟨hb1, h⟩ := sd_bif h
      simp only [hb0, hb1, cond_true]
      obtain ⟨hi, h⟩ := sd_ifn h
      rw [if_neg hi]
      exact hk _ _ _ _ _ hs h
  · cases h
theorem mn_new (hs : mn_sub lv lv') (hk : ∀ M pc l l' st, mn_sub l l' → k M pc l st = some q → k' M pc l' st = some q) (hc : ∀ y as f f', (∀ r M, f r M = some q → f' r M = some q) → cal y as f = some q → cal' y as f' = some q) {i : Nat} (h : mm_ex XL xs y (.new i, e) M pc lv st k cal = some q) : mm_ex XL xs y (.new i, e) M pc lv' st k' cal' = some q := by
  unfold mm_ex at h ⊢
  dsimp only at h ⊢
  obtain ⟨hb0, h⟩ := sd_bif h
  obtain ⟨hb1, h⟩ := sd_bif h
  obtain ⟨hb2, h⟩ := sd_bif h
  simp only [hb0, hb1, hb2, cond_true]
  exact hk _ _ _ _ _ hs h
theorem mn_newarray (hs : mn_sub lv lv') (hk : ∀ M pc l l' st, mn_sub l l' → k M pc l st = some q → k' M pc l' st = some q) (hc : ∀ y as f f', (∀ r M, f r M = some q → f' r M = some q) → cal y as f = some q → cal' y as f' = some q) {t : ArrayType} (h : mm_ex XL xs y (.newarray t, e) M pc lv st k cal = some q) : mm_ex XL xs y (.newarray t, e) M pc lv' st k' cal' = some q := by
  unfold mm_ex at h ⊢
  dsimp only at h ⊢
  split at h
  · obtain ⟨hb0, h⟩ := sd_bif h
    obtain ⟨hb1, h⟩ := sd_bif h
    obtain ⟨hb2, h⟩ := sd_bif h
    simp only [hb0, hb1, hb2, cond_true]
    obtain ⟨hi, h⟩ := sd_ifn h
    rw [if_neg hi]
    exact hk _ _ _ _ _ hs h
  · cases h
theorem mn_anewarray (hs : mn_sub lv lv') (hk : ∀ M pc l l' st, mn_sub l l' → k M pc l st = some q → k' M pc l' st = some q) (hc : ∀ y as f f', (∀ r M, f r M = some q → f' r M = some q) → cal y as f = some q → cal' y as f' = some q) {i : Nat} (h : mm_ex XL xs y (.anewarray i, e) M pc lv st k cal = some q) : mm_ex XL xs y (.anewarray i, e) M pc lv' st k' cal' = some q := by
  unfold mm_ex at h ⊢
  dsimp only at h ⊢
  split at h
  · obtain ⟨hb0, h⟩ := sd_bif h
    obtain ⟨hb1, h⟩ := sd_bif h
    obtain ⟨hb2, h⟩ := sd_bif h
    simp only [hb0, hb1, hb2, cond_true]
    obtain ⟨hi, h⟩ := sd_ifn h
    rw [if_neg hi]
    exact hk _ _ _ _ _ hs h
  · cases h
theorem mn_invokevirtual (hs : mn_sub lv lv') (hk : ∀ M pc l l' st, mn_sub l l' → k M pc l st = some q → k' M pc l' st = some q) (hc : ∀ y as f f', (∀ r M, f r M = some q → f' r M = some q) → cal y as f = some q → cal' y as f' = some q) {i : Nat} (h : mm_ex XL xs y (.invokevirtual i, e) M pc lv st k cal = some q) : mm_ex XL xs y (.invokevirtual i, e) M pc lv' st k' cal' = some q := by
  unfold mm_ex at h ⊢
  dsimp only at h ⊢
  split at h
  · obtain ⟨hb0, h⟩ := sd_bif h
    obtain ⟨hb1, h⟩ := sd_bif h
    obtain ⟨hb2, h⟩ := sd_bif h
    simp only [hb0, hb1, hb2, cond_true]
    exact hc _ _ _ _ (fun r M h => hk _ _ _ _ _ hs h) h
  · cases h
theorem mn_invokestatic (hs : mn_sub lv lv') (hk : ∀ M pc l l' st, mn_sub l l' → k M pc l st = some q → k' M pc l' st = some q) (hc : ∀ y as f f', (∀ r M, f r M = some q → f' r M = some q) → cal y as f = some q → cal' y as f' = some q) {i : Nat} (h : mm_ex XL xs y (.invokestatic i, e) M pc lv st k cal = some q) : mm_ex XL xs y (.invokestatic i, e) M pc lv' st k' cal' = some q := by
  unfold mm_ex at h ⊢
  dsimp only at h ⊢
  obtain ⟨hb0, h⟩ := sd_bif h
  obtain ⟨hb1, h⟩ := sd_bif h
  simp only [hb0, hb1, cond_true]
  exact hc _ _ _ _ (fun r M h => hk _ _ _ _ _ hs h) h
theorem mn_invokespecial (hs : mn_sub lv lv') (hk : ∀ M pc l l' st, mn_sub l l' → k M pc l st = some q → k' M pc l' st = some q) (hc : ∀ y as f f', (∀ r M, f r M = some q → f' r M = some q) → cal y as f = some q → cal' y as f' = some q) {i : Nat} (h : mm_ex XL xs y (.invokespecial i, e) M pc lv st k cal = some q) : mm_ex XL xs y (.invokespecial i, e) M pc lv' st k' cal' = some q := by
  unfold mm_ex at h ⊢
  dsimp only at h ⊢
  cases hb : Nat.beq e.2.1 9999 with
  | true =>
    simp only [hb, cond_true] at h ⊢
    split at h
    · obtain ⟨hb1, h⟩ := sd_bif h
      simp only [hb1, cond_true]
      exact hk _ _ _ _ _ hs h
    · cases h
  | false =>
    simp only [hb, cond_false] at h ⊢
    split at h
    · rename_i hdr
      obtain ⟨hb1, h⟩ := sd_bif h
      simp only [hdr, hb1, cond_true]
      exact hc _ _ _ _ (fun r M h => hk _ _ _ _ _ hs h) h
    · cases h
theorem mn_ireturn (hs : mn_sub lv lv') (hk : ∀ M pc l l' st, mn_sub l l' → k M pc l st = some q → k' M pc l' st = some q) (hc : ∀ y as f f', (∀ r M, f r M = some q → f' r M = some q) → cal y as f = some q → cal' y as f' = some q)  (h : mm_ex XL xs y (.ireturn, e) M pc lv st k cal = some q) : mm_ex XL xs y (.ireturn, e) M pc lv' st k' cal' = some q := by
  unfold mm_ex at h ⊢
  dsimp only at h ⊢
  exact h
theorem mn_lreturn (hs : mn_sub lv lv') (hk : ∀ M pc l l' st, mn_sub l l' → k M pc l st = some q → k' M pc l' st = some q) (hc : ∀ y as f f', (∀ r M, f r M = some q → f' r M = some q) → cal y as f = some q → cal' y as f' = some q)  (h : mm_ex XL xs y (.lreturn, e) M pc lv st k cal = some q) : mm_ex XL xs y (.lreturn, e) M pc lv' st k' cal' = some q := by
  unfold mm_ex at h ⊢
  dsimp only at h ⊢
  exact h
theorem mn_areturn (hs : mn_sub lv lv') (hk : ∀ M pc l l' st, mn_sub l l' → k M pc l st = some q → k' M pc l' st = some q) (hc : ∀ y as f f', (∀ r M, f r M = some q → f' r M = some q) → cal y as f = some q → cal' y as f' = some q)  (h : mm_ex XL xs y (.areturn, e) M pc lv st k cal = some q) : mm_ex XL xs y (.areturn, e) M pc lv' st k' cal' = some q := by
  unfold mm_ex at h ⊢
  dsimp only at h ⊢
  exact h
theorem mn_return_ (hs : mn_sub lv lv') (hk : ∀ M pc l l' st, mn_sub l l' → k M pc l st = some q → k' M pc l' st = some q) (hc : ∀ y as f f', (∀ r M, f r M = some q → f' r M = some q) → cal y as f = some q → cal' y as f' = some q)  (h : mm_ex XL xs y (.return_, e) M pc lv st k cal = some q) : mm_ex XL xs y (.return_, e) M pc lv' st k' cal' = some q := by
  unfold mm_ex at h ⊢
  dsimp only at h ⊢
  exact h
theorem mn_ex {en : mm_En} (hs : mn_sub lv lv') (hk : ∀ M pc l l' st, mn_sub l l' → k M pc l st = some q → k' M pc l' st = some q) (hc : ∀ y as f f', (∀ r M, f r M = some q → f' r M = some q) → cal y as f = some q → cal' y as f' = some q) (h : mm_ex XL xs y en M pc lv st k cal = some q) : mm_ex XL xs y en M pc lv' st k' cal' = some q := by
  obtain ⟨i, e⟩ := en
  cases i with
  | aconst_null => exact mn_aconst_null hs hk hc h
  | iconst _ => exact mn_iconst hs hk hc h
  | bipush _ => exact mn_bipush hs hk hc h
  | sipush _ => exact mn_sipush hs hk hc h
  | lconst _ => exact mn_lconst hs hk hc h
  | iload_n _ => exact mn_iload_n hs hk hc h
  | iload _ => exact mn_iload hs hk hc h
  | lload_n _ => exact mn_lload_n hs hk hc h
  | lload _ => exact mn_lload hs hk hc h
  | aload_n _ => exact mn_aload_n hs hk hc h
  | aload _ => exact mn_aload hs hk hc h
  | istore_n _ => exact mn_istore_n hs hk hc h
  | istore _ => exact mn_istore hs hk hc h
  | lstore_n _ => exact mn_lstore_n hs hk hc h
  | lstore _ => exact mn_lstore hs hk hc h
  | astore_n _ => exact mn_astore_n hs hk hc h
  | astore _ => exact mn_astore hs hk hc h
  | iinc _ _ => exact mn_iinc hs hk hc h
  | pop => exact mn_pop hs hk hc h
  | dup => exact mn_dup hs hk hc h
  | dup2 => exact mn_dup2 hs hk hc h
  | iadd => exact mn_iadd hs hk hc h
  | isub => exact mn_isub hs hk hc h
  | imul => exact mn_imul hs hk hc h
  | iand => exact mn_iand hs hk hc h
  | ior => exact mn_ior hs hk hc h
  | ixor => exact mn_ixor hs hk hc h
  | ishl => exact mn_ishl hs hk hc h
  | ishr => exact mn_ishr hs hk hc h
  | ineg => exact mn_ineg hs hk hc h
  | ladd => exact mn_ladd hs hk hc h
  | lsub => exact mn_lsub hs hk hc h
  | lmul => exact mn_lmul hs hk hc h
  | land => exact mn_land hs hk hc h
  | lor => exact mn_lor hs hk hc h
  | lxor => exact mn_lxor hs hk hc h
  | iushr => exact mn_iushr hs hk hc h
  | lshl => exact mn_lshl hs hk hc h
  | lushr => exact mn_lushr hs hk hc h
  | i2l => exact mn_i2l hs hk hc h
  | l2i => exact mn_l2i hs hk hc h
  | lcmp => exact mn_lcmp hs hk hc h
  | idiv => exact mn_idiv hs hk hc h
  | irem => exact mn_irem hs hk hc h
  | ldiv => exact mn_ldiv hs hk hc h
  | lrem => exact mn_lrem hs hk hc h
  | arraylength => exact mn_arraylength hs hk hc h
  | iaload => exact mn_iaload hs hk hc h
  | baload => exact mn_baload hs hk hc h
  | laload => exact mn_laload hs hk hc h
  | aaload => exact mn_aaload hs hk hc h
  | iastore => exact mn_iastore hs hk hc h
  | bastore => exact mn_bastore hs hk hc h
  | lastore => exact mn_lastore hs hk hc h
  | aastore => exact mn_aastore hs hk hc h
  | ireturn => exact mn_ireturn hs hk hc h
  | lreturn => exact mn_lreturn hs hk hc h
  | areturn => exact mn_areturn hs hk hc h
  | return_ => exact mn_return_ hs hk hc h
  | ldc _ => exact mn_ldc hs hk hc h
  | ldc_w _ => exact mn_ldc_w hs hk hc h
  | ldc2_w _ => exact mn_ldc2_w hs hk hc h
  | getfield _ => exact mn_getfield hs hk hc h
  | putfield _ => exact mn_putfield hs hk hc h
  | getstatic _ => exact mn_getstatic hs hk hc h
  | new _ => exact mn_new hs hk hc h
  | anewarray _ => exact mn_anewarray hs hk hc h
  | newarray _ => exact mn_newarray hs hk hc h
  | goto _ => exact mn_goto hs hk hc h
  | ifnull _ => exact mn_ifnull hs hk hc h
  | ifnonnull _ => exact mn_ifnonnull hs hk hc h
  | tableswitch _ _ _ _ => exact mn_tableswitch hs hk hc h
  | lookupswitch _ _ => exact mn_lookupswitch hs hk hc h
  | invokevirtual _ => exact mn_invokevirtual hs hk hc h
  | invokestatic _ => exact mn_invokestatic hs hk hc h
  | invokespecial _ => exact mn_invokespecial hs hk hc h
  | ifCond cnd _ => cases cnd with
    | eq => exact mn_if_eq hs hk hc h
    | ne => exact mn_if_ne hs hk hc h
    | lt => exact mn_if_lt hs hk hc h
    | ge => exact mn_if_ge hs hk hc h
    | gt => exact mn_if_gt hs hk hc h
    | le => exact mn_if_le hs hk hc h
  | if_icmp cnd _ => cases cnd with
    | eq => exact mn_icmp_eq hs hk hc h
    | ne => exact mn_icmp_ne hs hk hc h
    | lt => exact mn_icmp_lt hs hk hc h
    | ge => exact mn_icmp_ge hs hk hc h
    | gt => exact mn_icmp_gt hs hk hc h
    | le => exact mn_icmp_le hs hk hc h
  | _ => exact absurd (show (none : Option mm_R) = some q from h) (by simp)
theorem mn_run : ∀ (n d y : Nat) (q : mm_R) (M : mm_M) (pc : Nat) (lv lv' : mm_L) (st : List Value), mn_sub lv lv' → mm_run XL xs n d y M pc lv st = some q → mm_run XL xs n d y M pc lv' st = some q := by
  intro n
  induction n with
  | zero => intro d y q M pc lv lv' st _ h; cases h
  | succ n ih =>
    intro d y q M pc lv lv' st hs h
    unfold mm_run at h ⊢
    split at h
    · rename_i en hen
      refine mn_ex hs (fun M pc l l' st hs h => ih d y q M pc l l' st hs h) (fun y' as f f' hf h => ?_) h
      cases d with
      | zero => cases h
      | succ d' =>
        obtain ⟨r, hr, h⟩ := Option.bind_eq_some_iff.mp h
        exact Option.bind_eq_some_iff.mpr ⟨r, hr, hf _ _ h⟩
    · cases h
end MN
