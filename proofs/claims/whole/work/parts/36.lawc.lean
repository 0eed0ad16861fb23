/-! THE CLASS WORKS A LAW OUT -/
/-- the cells that it writes -/
def WL (u : Nat) : Nat → Nat → Bool := fun a k => a == u + 2 || (a == u && k == 3)
theorem WL_s (u k : Nat) : WL u (u + 2) k = true := by simp [WL]
theorem WL_t (u : Nat) : WL u u 3 = true := by simp [WL]
theorem WL_n {u a k : Nat} (h1 : ¬ a = u + 2) (h2 : ¬ (a = u ∧ k = 3)) : WL u a k = false := by
  simp only [WL, Bool.or_eq_false_iff, beq_eq_false_iff_ne, Bool.and_eq_false_iff]
  exact ⟨h1, by omega⟩
theorem c_push (m : mm_MM) (u : Nat) (v : Int32) {j : Nat} (hk : mm_kd (u + 2) = (20, 64)) (ht : m.1 u 3 = Int32.ofNat j) (hj : j < 64) : fX2_push m u v = some (wI (wI m (u + 2) j v) u 3 (Int32.ofNat (j + 1))) := by
  unfold fX2_push
  rw [ht, c_place_n m (u + 2) v (n := 64) (by rw [hk]) (by decide) hj]
  simp only [Option.bind_some]
  rw [wI_ne (by omega), ht, nn_s]
theorem c_pop (m : mm_MM) (u : Nat) {j : Nat} (hk : mm_kd (u + 2) = (20, 64)) (ht : m.1 u 3 = Int32.ofNat (j + 1)) (hj : j < 64) : fX2_pop m u = some (m.1 (u + 2) j, wI m u 3 (Int32.ofNat j)) := by
  have e : m.1 u 3 - 1 = Int32.ofNat j := by rw [ht, ← nn_s]; grind
  unfold fX2_pop
  rw [e, wI_eq, c_pick_n _ (u + 2) (n := 64) (by rw [hk]) (by decide) hj]
  simp only [Option.bind_some]
  rw [wI_ne (by omega)]
/-- what the small class holds of a law at work: the stack -/
def CS (m0 m : mm_MM) (u : Nat) (st : List Int32) : Prop := m.1 u 3 = Int32.ofNat st.length ∧ stk (m.1 (u + 2)) st ∧ fr (WL u) m0 m
theorem CS_push {m0 m : mm_MM} {u : Nat} {st : List Int32} (v : Int32) (h : CS m0 m u st) : CS m0 (wI (wI m (u + 2) st.length v) u 3 (Int32.ofNat (st.length + 1))) u (v :: st) := by
  refine ⟨wI_eq, ⟨?_, ?_⟩, fr_wI (fr_wI h.2.2 (WL_s _ _)) (WL_t _)⟩
  · rw [wI_ne (by omega), wI_eq]
  · refine stk_up h.2.1 fun j hj => ?_
    rw [wI_ne (by omega), wI_nk (by omega)]
theorem CS_pop {m0 m : mm_MM} {u : Nat} {a : Int32} {st : List Int32} (h : CS m0 m u (a :: st)) : CS m0 (wI m u 3 (Int32.ofNat st.length)) u st := by
  refine ⟨wI_eq, ?_, fr_wI h.2.2 (WL_t _)⟩
  refine stk_up h.2.1.2 fun j hj => ?_
  rw [wI_ne (by omega)]
/-- the letters of a thing that grows -/
def letC (m : mm_MM) : Nat → Int32 := fun k => if k = 0 then m.1 583 0 else if k = 1 then m.1 583 1 else if k = 2 then m.1 583 3 else if k = 3 then m.1 583 2 else if k = 4 then m.1 583 4 else rem (m.1 583 5) 12
theorem ty_len {t : Tok} {s s' : List Bool} {st : List Int32} (hs : okS s st) (ht : tyT t s = some s') (h : s.length ≤ 60) : s'.length ≤ 60 := by
  rcases tyT_inv hs ht with ⟨v, rfl, hv, hl', rfl⟩ | ⟨v, rfl, hv, hl', rfl⟩ | ⟨v, a, r, q, rfl, rfl, rfl, rfl, ha, hr⟩ | ⟨c, v, a, b, r, q, rfl, h1, h2, rfl, rfl, rfl, hb, ha, hr⟩ | ⟨c, v, a, b, r, q, rfl, h1, h2, rfl, rfl, rfl, hb, ha, hr⟩ | ⟨c, v, a, b, r, q, rfl, h1, h2, rfl, rfl, rfl, hb, ha, hr⟩ <;> simp only [List.length_cons] at h ⊢ <;> omega
theorem c_joined (m : mm_MM) (a b : Int32) {c v : Nat} (h1 : 2 ≤ c) (h2 : c ≤ 11) (h9 : ¬ c = 9) : fX2_joined m a b (-(encT (c, v))) = some (opT c a b, m) := by
  obtain rfl | rfl | rfl | rfl | rfl | rfl | rfl | rfl | rfl : c = 2 ∨ c = 3 ∨ c = 4 ∨ c = 5 ∨ c = 6 ∨ c = 7 ∨ c = 8 ∨ c = 10 ∨ c = 11 := by omega
  · simp [encT, fX2_joined, opT, c_held]
  · simp [encT, fX2_joined, opT, c_held]
  · simp [encT, fX2_joined, opT, c_held]
  · by_cases h0 : b = 0 <;> simp [encT, fX2_joined, fX2_joined_c154, opT, h0]
  · by_cases h0 : a = b <;> simp [encT, fX2_joined, fX2_joined_c165, opT, h0]
  · by_cases h0 : a < b <;> simp [encT, fX2_joined, fX2_joined_c176, opT, h0]
  · by_cases h0 : a ≤ b <;> simp [encT, fX2_joined, fX2_joined_c187, opT, h0]
  · simp [encT, fX2_joined, opT]
  · simp [encT, fX2_joined, opT]
/-- a sign of two -/
theorem c_two {m0 m : mm_MM} {u : Nat} (hk2 : mm_kd (u + 2) = (20, 64)) {i : Nat} {c v : Nat} (h1 : 2 ≤ c) (h2 : c ≤ 11) (h9 : ¬ c = 9) {a b : Int32} {r : List Int32} (hr : r.length < 60) (hlt : Int32.ofNat i < m.1 u 2) (hpk : fX10_pick m (u + 1) (Int32.ofNat i) = some (encT (c, v), m)) (h : CS m0 m u (b :: a :: r)) :
    ∃ m', (∀ f, fX2_worth_c9 (f + 1) m u 0 (Int32.ofNat i) = fX2_worth_c9 f m' u 0 (Int32.ofNat (i + 1))) ∧ CS m0 m' u (opT c a b :: r) := by
  have hp := c_pop m u (j := (a :: r).length) hk2 h.1 (by simp only [List.length_cons]; omega)
  have h' := CS_pop h
  have hp2 := c_pop _ u (j := r.length) hk2 h'.1 (by omega)
  have h'' := CS_pop h'
  have hp3 := c_push _ u (opT c a b) hk2 h''.1 (by omega)
  have eb : m.1 (u + 2) (a :: r).length = b := h.2.1.1
  have ea : (wI m u 3 (Int32.ofNat (a :: r).length)).1 (u + 2) r.length = a := h'.2.1.1
  have hj := fun m => c_joined m a b (v := v) h1 h2 h9
  refine ⟨_, fun f => ?_, CS_push (opT c a b) h''⟩
  rw [fX2_worth_c9]
  simp only [if_pos hlt, hpk, Option.bind_some]
  have n1 : ¬ encT (c, v) = -59 := by
    obtain rfl | rfl | rfl | rfl | rfl | rfl | rfl | rfl | rfl : c = 2 ∨ c = 3 ∨ c = 4 ∨ c = 5 ∨ c = 6 ∨ c = 7 ∨ c = 8 ∨ c = 10 ∨ c = 11 := by omega
    all_goals simp [encT]
  have n2 : ¬ encT (c, v) = -63 := by
    obtain rfl | rfl | rfl | rfl | rfl | rfl | rfl | rfl | rfl : c = 2 ∨ c = 3 ∨ c = 4 ∨ c = 5 ∨ c = 6 ∨ c = 7 ∨ c = 8 ∨ c = 10 ∨ c = 11 := by omega
    all_goals simp [encT]
  have n3 : encT (c, v) < 0 := by
    obtain rfl | rfl | rfl | rfl | rfl | rfl | rfl | rfl | rfl : c = 2 ∨ c = 3 ∨ c = 4 ∨ c = 5 ∨ c = 6 ∨ c = 7 ∨ c = 8 ∨ c = 10 ∨ c = 11 := by omega
    all_goals simp [encT]
  have n4 : fX2_isLetter m (-(encT (c, v))) = some (0, m) := by
    obtain rfl | rfl | rfl | rfl | rfl | rfl | rfl | rfl | rfl : c = 2 ∨ c = 3 ∨ c = 4 ∨ c = 5 ∨ c = 6 ∨ c = 7 ∨ c = 8 ∨ c = 10 ∨ c = 11 := by omega
    all_goals rfl
  have n5 : ¬ encT (c, v) = -33 := by
    obtain rfl | rfl | rfl | rfl | rfl | rfl | rfl | rfl | rfl : c = 2 ∨ c = 3 ∨ c = 4 ∨ c = 5 ∨ c = 6 ∨ c = 7 ∨ c = 8 ∨ c = 10 ∨ c = 11 := by omega
    all_goals simp [encT]
  simp only [if_true, if_neg n1, if_neg n2, if_pos n3, n4, Option.bind_some, if_neg n5, hp, hp2, ea, eb, hj, hp3, fX2_worth_c167, nn_s]
theorem c_tok {m0 m : mm_MM} {u : Nat} (hu : ¬ u = 583 ∧ ¬ u + 2 = 583) (hk1 : mm_kd (u + 1) = (20, 240)) (hk2 : mm_kd (u + 2) = (20, 64)) {n i : Nat} (hn : m0.1 u 2 = Int32.ofNat n) (h240 : n ≤ 240) (hi : i < n) {t : Tok} (hc : m0.1 (u + 1) i = encT t) {s s' : List Bool} {st : List Int32} (hs : okS s st) (hd : s.length ≤ 60) (ht : tyT t s = some s') (h : CS m0 m u st) :
    ∃ m', (∀ f, fX2_worth_c9 (f + 1) m u 0 (Int32.ofNat i) = fX2_worth_c9 f m' u 0 (Int32.ofNat (i + 1))) ∧ CS m0 m' u (exT (letC m0) t st) := by
  have hl := okS_len hs
  have hlt : Int32.ofNat i < m.1 u 2 := by
    rw [h.2.2.1 u 2 (WL_n (by omega) (by omega)), hn]
    exact (nn_lt (by omega) (by omega)).mpr hi
  have hpk : fX10_pick m (u + 1) (Int32.ofNat i) = some (encT t, m) := by
    rw [c_pick_n m (u + 1) (n := 240) (by rw [hk1]) (by decide) (by omega), h.2.2.1 (u + 1) i (WL_n (by omega) (by omega)), hc]
  have hfr : ∀ k, m.1 583 k = m0.1 583 k := fun k => h.2.2.1 583 k (WL_n (by omega) (by omega))
  rcases tyT_inv hs ht with ⟨v, rfl, hv, hl', rfl⟩ | ⟨v, rfl, hv, hl', rfl⟩ | ⟨v, a, r, q, rfl, rfl, rfl, rfl, ha, hr⟩ | ⟨c, v, a, b, r, q, rfl, h1, h2, rfl, rfl, rfl, hb, ha, hr⟩ | ⟨c, v, a, b, r, q, rfl, h1, h2, rfl, rfl, rfl, hb, ha, hr⟩ | ⟨c, v, a, b, r, q, rfl, h1, h2, rfl, rfl, rfl, hb, ha, hr⟩
  · have hp := c_push m u (Int32.ofNat v) hk2 h.1 (by omega)
    have e : encT (0, v) = Int32.ofNat v := rfl
    have h0 : ¬ Int32.ofNat v < 0 := nn_n0 (by omega)
    have h59 : ¬ Int32.ofNat v = -59 := fun z => h0 (by rw [z]; decide)
    have h63 : ¬ Int32.ofNat v = -63 := fun z => h0 (by rw [z]; decide)
    refine ⟨_, fun f => ?_, CS_push (Int32.ofNat v) h⟩
    rw [fX2_worth_c9]
    simp only [if_pos hlt, hpk, Option.bind_some, e, if_neg h59, if_neg h63, if_neg h0, hp, fX2_worth_c167, nn_s, if_true]
  · refine ⟨_, fun f => ?_, CS_push (letC m0 v) h⟩
    have hp := c_push m u (letC m0 v) hk2 h.1 (by omega)
    rw [fX2_worth_c9]
    simp only [if_pos hlt, hpk, Option.bind_some]
    obtain rfl | rfl | rfl | rfl | rfl | rfl : v = 0 ∨ v = 1 ∨ v = 2 ∨ v = 3 ∨ v = 4 ∨ v = 5 := by omega
    all_goals simp [encT, fX2_isLetter, fX2_letter, hfr, fX2_worth_c167, letC, rem] at hp ⊢
    all_goals simp [hp]
  · simp only [List.length_cons] at hl hd
    have hp := c_pop m u (j := r.length) hk2 h.1 (by omega)
    have h' := CS_pop h
    have ea : m.1 (u + 2) r.length = a := h.2.1.1
    have hp2 := c_push (wI m u 3 (Int32.ofNat r.length)) u (if a = 0 then 1 else 0) hk2 h'.1 (by omega)
    refine ⟨_, fun f => ?_, CS_push (if a = 0 then 1 else 0) h'⟩
    rw [fX2_worth_c9]
    simp only [if_pos hlt, hpk, Option.bind_some]
    by_cases h0 : a = 0
    · simp [h0] at hp2
      simp [encT, fX2_isLetter, hp, ea, h0, fX2_worth_c139, hp2, fX2_worth_c167]
    · simp [h0] at hp2
      simp [encT, fX2_isLetter, hp, ea, h0, fX2_worth_c139, hp2, fX2_worth_c167]
  · simp only [List.length_cons] at hl hd
    have := c_two hk2 (v := v) h1 (by omega) (by omega) (by omega) hlt hpk h
    obtain rfl | rfl | rfl | rfl : c = 2 ∨ c = 3 ∨ c = 4 ∨ c = 5 := by omega
    all_goals exact this
  · simp only [List.length_cons] at hl hd
    have := c_two hk2 (v := v) (by omega) (by omega) (by omega) (by omega) hlt hpk h
    obtain rfl | rfl | rfl : c = 6 ∨ c = 7 ∨ c = 8 := by omega
    all_goals exact this
  · simp only [List.length_cons] at hl hd
    have := c_two hk2 (v := v) (by omega) (by omega) (by omega) (by omega) hlt hpk h
    obtain rfl | rfl : c = 10 ∨ c = 11 := by omega
    all_goals exact this
/-- a row of tokens -/
theorem c_toks {m0 : mm_MM} {u : Nat} (hu : ¬ u = 583 ∧ ¬ u + 2 = 583) (hk1 : mm_kd (u + 1) = (20, 240)) (hk2 : mm_kd (u + 2) = (20, 64)) {n : Nat} (hn : m0.1 u 2 = Int32.ofNat n) (h240 : n ≤ 240) (hL : ∀ k, k ≤ 5 → okV false (letC m0 k)) : ∀ (ts : List Tok) (i : Nat) (m : mm_MM) (s s' : List Bool) (st : List Int32), i + ts.length ≤ n → (∀ j t, ts[j]? = some t → m0.1 (u + 1) (i + j) = encT t) → okS s st → s.length ≤ 60 → tyTs ts s = some s' → CS m0 m u st →
    ∃ m', (∀ f, fX2_worth_c9 (f + ts.length) m u 0 (Int32.ofNat i) = fX2_worth_c9 f m' u 0 (Int32.ofNat (i + ts.length))) ∧ CS m0 m' u (exTs (letC m0) ts st)
  | [], i, m, s, s', st, hi, hc, hs, hd, ht, h => ⟨m, fun f => rfl, h⟩
  | t :: ts, i, m, s, s', st, hi, hc, hs, hd, ht, h => by
    obtain ⟨s1, h1, h2⟩ := Option.bind_eq_some_iff.mp ht
    simp only [List.length_cons] at hi
    obtain ⟨m1, e1, g1⟩ := c_tok hu hk1 hk2 hn h240 (i := i) (by omega) (hc 0 t rfl) hs hd h1 h
    obtain ⟨m2, e2, g2⟩ := c_toks hu hk1 hk2 hn h240 hL ts (i + 1) m1 s1 s' _ (by omega) (fun j t' hj => by rw [Nat.add_assoc, Nat.add_comm 1 j]; exact hc (j + 1) t' hj) (okS_exT hL hs h1) (ty_len hs h1 hd) h2 g1
    refine ⟨m2, fun f => ?_, g2⟩
    rw [List.length_cons, ← Nat.add_assoc, e1, e2, Nat.add_assoc, Nat.add_comm 1]
