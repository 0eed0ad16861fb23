/-! CLAUSES: a test (none: empty) and a sum -/
abbrev Cla : Type := List Tok × List Tok
def topV (st : List Int32) : Int32 := st.headD 0
def evC (L : Nat → Int32) : List Cla → Int32
  | [] => 0
  | c :: cs => if c.1 = [] ∨ ¬ topV (exTs L c.1 []) = 0 then topV (exTs L c.2 []) else evC L cs
def wfC (c : Cla) : Prop := (c.1 = [] ∨ tyTs c.1 [] = some [true]) ∧ tyTs c.2 [] = some [false]
def encC (c : Cla) : List Int32 := (if c.1 = [] then [] else c.1.map encT ++ [-63]) ++ (c.2.map encT ++ [-59])
def encCs : List Cla → List Int32
  | [] => []
  | c :: cs => encC c ++ encCs cs
/-- a list stands in a row from i on -/
def inR (row : Nat → Int32) (i : Nat) (l : List Int32) : Prop := ∀ j x, l[j]? = some x → row (i + j) = x
theorem inR_app {row : Nat → Int32} {i : Nat} {a b : List Int32} (h : inR row i (a ++ b)) : inR row i a ∧ inR row (i + a.length) b := by
  refine ⟨fun j x hj => h j x ?_, fun j x hj => ?_⟩
  · rw [List.getElem?_append_left (List.getElem?_eq_some_iff.mp hj).1]; exact hj
  · rw [Nat.add_assoc]
    refine h _ x ?_
    rw [List.getElem?_append_right (Nat.le_add_right _ _), Nat.add_sub_cancel_left]
    exact hj
theorem inR_one {row : Nat → Int32} {i : Nat} {x : Int32} (h : inR row i [x]) : row i = x := h 0 x rfl
theorem inR_map {row : Nat → Int32} {i : Nat} {ts : List Tok} (h : inR row i (ts.map encT)) : ∀ j t, ts[j]? = some t → row (i + j) = encT t := fun j t hj => h j _ (by rw [List.getElem?_map, hj]; rfl)
theorem enc_ne {t : Tok} {s s' : List Bool} {st : List Int32} (hs : okS s st) (ht : tyT t s = some s') : ¬ encT t = -59 := by
  rcases tyT_inv hs ht with ⟨v, rfl, hv, hl', rfl⟩ | ⟨v, rfl, hv, hl', rfl⟩ | ⟨v, a, r, q, rfl, rfl, rfl, rfl, ha, hr⟩ | ⟨c, v, a, b, r, q, rfl, h1, h2, rfl, rfl, rfl, hb, ha, hr⟩ | ⟨c, v, a, b, r, q, rfl, h1, h2, rfl, rfl, rfl, hb, ha, hr⟩ | ⟨c, v, a, b, r, q, rfl, h1, h2, rfl, rfl, rfl, hb, ha, hr⟩
  · have h0 : ¬ Int32.ofNat v < 0 := nn_n0 (by omega)
    exact fun z => h0 (by rw [show Int32.ofNat v = -59 from z]; decide)
  · obtain rfl | rfl | rfl | rfl | rfl | rfl : v = 0 ∨ v = 1 ∨ v = 2 ∨ v = 3 ∨ v = 4 ∨ v = 5 := by omega
    all_goals simp [encT]
  · simp [encT]
  · obtain rfl | rfl | rfl | rfl : c = 2 ∨ c = 3 ∨ c = 4 ∨ c = 5 := by omega
    all_goals simp [encT]
  · obtain rfl | rfl | rfl : c = 6 ∨ c = 7 ∨ c = 8 := by omega
    all_goals simp [encT]
  · obtain rfl | rfl : c = 10 ∨ c = 11 := by omega
    all_goals simp [encT]
theorem enc_all {L : Nat → Int32} (hL : ∀ k, k ≤ 5 → okV false (L k)) : ∀ {ts : List Tok} {s s' : List Bool} {st : List Int32}, okS s st → tyTs ts s = some s' → ∀ t ∈ ts, ¬ encT t = -59
  | [], _, _, _, _, _, t, h => nomatch h
  | t :: ts, s, s', st, hs, ht, t', h' => by
    obtain ⟨s1, h1, h2⟩ := Option.bind_eq_some_iff.mp ht
    rcases List.mem_cons.mp h' with rfl | h'
    · exact enc_ne hs h1
    · exact enc_all hL (ts := ts) (okS_exT hL hs h1) h2 t' h'
section CW
variable {m0 : mm_MM} {u : Nat} {n : Nat}
theorem c_lt {m : mm_MM} {st : List Int32} {i : Nat} (hn : m0.1 u 2 = Int32.ofNat n) (h240 : n ≤ 240) (hi : i < n) (h : CS m0 m u st) : Int32.ofNat i < m.1 u 2 := by
  rw [h.2.2.1 u 2 (WL_n (by omega) (by omega)), hn]
  exact (nn_lt (by omega) (by omega)).mpr hi
theorem c_pk {m : mm_MM} {st : List Int32} {i : Nat} {x : Int32} (hk1 : mm_kd (u + 1) = (20, 240)) (hi : i < 240) (hc : m0.1 (u + 1) i = x) (h : CS m0 m u st) : fX10_pick m (u + 1) (Int32.ofNat i) = some (x, m) := by
  rw [c_pick_n m (u + 1) (n := 240) (by rw [hk1]) (by decide) (by omega), h.2.2.1 (u + 1) i (WL_n (by omega) (by omega)), hc]
theorem c_skip (hk1 : mm_kd (u + 1) = (20, 240)) (hn : m0.1 u 2 = Int32.ofNat n) (h240 : n ≤ 240) {m : mm_MM} {st : List Int32} (h : CS m0 m u st) : ∀ (l : List Int32) (i : Nat), i + l.length < n → inR (m0.1 (u + 1)) i (l ++ [-59]) → (∀ x ∈ l, ¬ x = -59) → ∀ f, fX2_worth_c9 (f + (l.length + 1)) m u 1 (Int32.ofNat i) = fX2_worth_c9 f m u 0 (Int32.ofNat (i + (l.length + 1)))
  | [], i, hi, hr, hl, f => by
    have e := c_pk hk1 (i := i) (by simp only [List.length_nil] at hi; omega) (inR_one hr) h
    show fX2_worth_c9 (f + 1) m u 1 (Int32.ofNat i) = fX2_worth_c9 f m u 0 (Int32.ofNat (i + 1))
    rw [fX2_worth_c9]
    simp [if_pos (c_lt hn h240 (show i < n by simp only [List.length_nil] at hi; omega) h), e, fX2_worth_c43, fX2_worth_c167]
  | x :: l, i, hi, hr, hl, f => by
    simp only [List.length_cons] at hi
    have e := c_pk hk1 (i := i) (by omega) (hr 0 x rfl) h
    have hx := hl x List.mem_cons_self
    have ih := c_skip hk1 hn h240 h l (i + 1) (by omega) (fun j y hj => by rw [Nat.add_assoc, Nat.add_comm 1 j]; exact hr (j + 1) y hj) (fun y hy => hl y (List.mem_cons_of_mem _ hy)) f
    rw [List.length_cons, show f + (l.length + 1 + 1) = f + (l.length + 1) + 1 by omega, fX2_worth_c9]
    simp only [if_pos (c_lt hn h240 (show i < n by omega) h), e, Option.bind_some, if_neg (show ¬ (1 : Int32) = 0 by decide), if_neg hx, fX2_worth_c43, fX2_worth_c167, nn_s]
    rw [ih, show i + 1 + (l.length + 1) = i + (l.length + 1 + 1) by omega]
/-- a sum, and what it comes to -/
theorem c_sum (hu : ¬ u = 583 ∧ ¬ u + 2 = 583) (hk1 : mm_kd (u + 1) = (20, 240)) (hk2 : mm_kd (u + 2) = (20, 64)) (hn : m0.1 u 2 = Int32.ofNat n) (h240 : n ≤ 240) (hL : ∀ k, k ≤ 5 → okV false (letC m0 k)) {m : mm_MM} {ts : List Tok} {i : Nat} (hi : i + ts.length < n) (hr : inR (m0.1 (u + 1)) i (ts.map encT ++ [-59])) (ht : tyTs ts [] = some [false]) (h : CS m0 m u []) : ∃ m', (∀ f, fX2_worth_c9 (f + (ts.length + 1)) m u 0 (Int32.ofNat i) = some (topV (exTs (letC m0) ts []), m')) ∧ fr (WL u) m0 m' := by
  have hr := inR_app hr
  rw [List.length_map] at hr
  obtain ⟨m1, e1, g1⟩ := c_toks hu hk1 hk2 hn h240 hL ts i m [] [false] [] (by omega) (inR_map hr.1) True.intro (by decide) ht h
  have hok := okS_exTs hL (ts := ts) (s := []) (st := []) True.intro ht
  obtain ⟨a, r, he, -, hr0⟩ := okS_c hok
  have hr1 : r = [] := by cases r with | nil => rfl | cons _ _ => exact hr0.elim
  rw [hr1] at he
  rw [he] at g1 ⊢
  have e := c_pk hk1 (i := i + ts.length) (by omega) (inR_one hr.2) g1
  have hp := c_pop m1 u (j := 0) hk2 g1.1 (by decide)
  refine ⟨wI m1 u 3 (Int32.ofNat 0), fun f => ?_, (CS_pop g1).2.2⟩
  rw [show f + (ts.length + 1) = (f + 1) + ts.length by omega, e1, fX2_worth_c9]
  simp only [if_pos (c_lt hn h240 (show i + ts.length < n by omega) g1), e, Option.bind_some, if_true, hp]
  rw [show m1.1 (u + 2) 0 = a from g1.2.1.1]
  rfl
theorem c_clauses (hu : ¬ u = 583 ∧ ¬ u + 2 = 583) (hk1 : mm_kd (u + 1) = (20, 240)) (hk2 : mm_kd (u + 2) = (20, 64)) (hn : m0.1 u 2 = Int32.ofNat n) (h240 : n ≤ 240) (hL : ∀ k, k ≤ 5 → okV false (letC m0 k)) : ∀ (cs : List Cla) (i : Nat) (m : mm_MM), i + (encCs cs).length = n → inR (m0.1 (u + 1)) i (encCs cs) → (∀ c ∈ cs, wfC c) → CS m0 m u [] → ∃ m', (∀ f, 300 < f + i → fX2_worth_c9 f m u 0 (Int32.ofNat i) = some (evC (letC m0) cs, m')) ∧ fr (WL u) m0 m'
  | [], i, m, hi, hr, hw, h => by
    refine ⟨m, fun f hf => ?_, h.2.2⟩
    obtain ⟨f, rfl⟩ : ∃ g, f = g + 1 := ⟨f - 1, by simp only [encCs, List.length_nil] at hi; omega⟩
    have hlt : ¬ Int32.ofNat i < m.1 u 2 := by
      simp only [encCs, List.length_nil] at hi
      rw [h.2.2.1 u 2 (WL_n (by omega) (by omega)), hn, nn_lt (by omega) (by omega)]
      omega
    rw [fX2_worth_c9]
    simp only [if_neg hlt, evC]
  | c :: cs, i, m, hi, hr, hw, h => by
    obtain ⟨te, su⟩ := c
    have hwc := hw _ List.mem_cons_self
    have hr := inR_app hr
    simp only [encCs, List.length_append] at hi
    have ih := c_clauses hu hk1 hk2 hn h240 hL cs (i + (encC (te, su)).length) 
    by_cases hte : te = []
    · subst hte
      have hl : (encC ([], su)).length = su.length + 1 := by simp [encC]
      have hr1 : inR (m0.1 (u + 1)) i (su.map encT ++ [-59]) := by simpa [encC] using hr.1
      obtain ⟨m', e', g'⟩ := c_sum hu hk1 hk2 hn h240 hL (by omega) hr1 hwc.2 h
      refine ⟨m', fun f hf => ?_, g'⟩
      obtain ⟨g, rfl⟩ : ∃ g, f = g + (su.length + 1) := ⟨f - (su.length + 1), by omega⟩
      rw [e', evC, if_pos (Or.inl rfl)]
    · have ht : tyTs te [] = some [true] := hwc.1.resolve_left hte
      have hl : (encC (te, su)).length = te.length + 1 + (su.length + 1) := by simp [encC, hte]; omega
      have hr1 : inR (m0.1 (u + 1)) i ((te.map encT ++ [-63]) ++ (su.map encT ++ [-59])) := by simpa only [encC, if_neg hte] using hr.1
      have hr2 := inR_app hr1
      have hr3 := inR_app hr2.1
      rw [List.length_map] at hr3
      rw [List.length_append, List.length_map, List.length_singleton] at hr2
      obtain ⟨m1, e1, g1⟩ := c_toks hu hk1 hk2 hn h240 hL te i m [] [true] [] (by omega) (inR_map hr3.1) True.intro (by decide) ht h
      have hok := okS_exTs hL (ts := te) (s := []) (st := []) True.intro ht
      obtain ⟨a, r, he, hoa, hr0⟩ := okS_c hok
      have hr4 : r = [] := by cases r with | nil => rfl | cons _ _ => exact hr0.elim
      rw [hr4] at he
      rw [he] at g1
      have e := c_pk hk1 (i := i + te.length) (by omega) (inR_one hr3.2) g1
      have hp := c_pop m1 u (j := 0) hk2 g1.1 (by decide)
      have ea : m1.1 (u + 2) 0 = a := g1.2.1.1
      have g2 : CS m0 (wI m1 u 3 (Int32.ofNat 0)) u [] := CS_pop g1
      have etop : topV (exTs (letC m0) te []) = a := by rw [he]; rfl
      by_cases ha : a = 0
      · have hsk := c_skip (m := wI m1 u 3 (Int32.ofNat 0)) hk1 hn h240 g2 (su.map encT) (i + (te.length + 1)) (by rw [List.length_map]; omega) hr2.2 (fun x hx => by
          obtain ⟨t, ht1, rfl⟩ := List.mem_map.mp hx
          exact enc_all hL (ts := su) (s := []) (st := []) True.intro hwc.2 t ht1)
        rw [List.length_map] at hsk
        obtain ⟨m', e', g'⟩ := ih (wI m1 u 3 (Int32.ofNat 0)) (by omega) hr.2 (fun c hc => hw c (List.mem_cons_of_mem _ hc)) g2
        refine ⟨m', fun f hf => ?_, g'⟩
        obtain ⟨g, rfl⟩ : ∃ g, f = ((g + (su.length + 1)) + 1) + te.length := ⟨f - (te.length + 1 + (su.length + 1)), by omega⟩
        rw [e1, fX2_worth_c9]
        simp only [if_pos (c_lt hn h240 (show i + te.length < n by omega) g1), e, Option.bind_some, if_true, hp, ea, if_pos ha, if_neg (show ¬ (-63 : Int32) = -59 by decide), fX2_worth_c78, fX2_worth_c167, nn_s]
        rw [show i + te.length + 1 = i + (te.length + 1) by omega, hsk, evC, etop, if_neg (by simp [hte, ha]), show i + (te.length + 1) + (su.length + 1) = i + (encC (te, su)).length by omega]
        exact e' g (by omega)
      · obtain ⟨m', e', g'⟩ := c_sum hu hk1 hk2 hn h240 hL (i := i + (te.length + 1)) (by omega) hr2.2 hwc.2 g2
        refine ⟨m', fun f hf => ?_, g'⟩
        obtain ⟨g, rfl⟩ : ∃ g, f = ((g + (su.length + 1)) + 1) + te.length := ⟨f - (te.length + 1 + (su.length + 1)), by omega⟩
        rw [e1, fX2_worth_c9]
        simp only [if_pos (c_lt hn h240 (show i + te.length < n by omega) g1), e, Option.bind_some, if_true, hp, ea, if_neg ha, if_neg (show ¬ (-63 : Int32) = -59 by decide), fX2_worth_c78, fX2_worth_c167, nn_s]
        rw [show i + te.length + 1 = i + (te.length + 1) by omega, e', evC, etop, if_pos (Or.inr ha)]
end CW
/-- a law of the class: its code, its length -/
def LawC (m : mm_MM) (u : Nat) (cs : List Cla) : Prop := m.1 u 2 = Int32.ofNat (encCs cs).length ∧ (encCs cs).length ≤ 240 ∧ inR (m.1 (u + 1)) 0 (encCs cs)
theorem c_worth {m : mm_MM} {u : Nat} (hu : ¬ u = 583 ∧ ¬ u + 2 = 583) (hk1 : mm_kd (u + 1) = (20, 240)) (hk2 : mm_kd (u + 2) = (20, 64)) {cs : List Cla} (h : LawC m u cs) (hw : ∀ c ∈ cs, wfC c) (hL : ∀ k, k ≤ 5 → okV false (letC m k)) : ∃ m', fX2_worth m u = some (evC (letC m) cs, m') ∧ fr (WL u) m m' := by
  obtain ⟨m', e, g⟩ := c_clauses hu hk1 hk2 h.1 h.2.1 hL cs 0 (wI m u 3 0) (by omega) h.2.2 hw ⟨wI_eq, True.intro, fr_wI (fr_refl _ _) (WL_t u)⟩
  exact ⟨m', e fu (by decide), g⟩
