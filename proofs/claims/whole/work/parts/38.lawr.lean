/-! THE REFERENCE WORKS A LAW OUT -/
theorem nn_p (j : Nat) : Int32.ofNat (j + 1) - 1 = Int32.ofNat j := by rw [← nn_s]; grind
theorem nn_m (j : Nat) : Int32.ofNat (j + 1) + (-1) = Int32.ofNat j := by rw [← nn_s]; grind
theorem nn_gn {α : Type} {n k : Nat} {A : Option α} (hn : n < 2 ^ 31) (hk : n < k) : (if Int32.ofNat n < 0 ∨ k ≤ n then none else A) = A := if_neg (fun z => z.elim (nn_n0 hn) (fun z => by omega))
theorem r_worked (m : mm_MM) {c : Nat} {a b : Int32} (h : (2 ≤ c ∧ c ≤ 8 ∧ okV false a ∧ okV false b) ∨ (10 ≤ c ∧ c ≤ 11 ∧ okV true a ∧ okV true b)) : fX11_worked m (Int32.ofNat c) a.toInt64 b.toInt64 = some (opT c a b, m) := by
  have z0 : (b.toInt64 = 0) = (b = 0) := propext (t64_eq b 0)
  have z1 : (a.toInt64 = 0) = (a = 0) := propext (t64_eq a 0)
  rcases h with ⟨h1, h2, ha, hb⟩ | ⟨h1, h2, ha, hb⟩
  · obtain rfl | rfl | rfl | rfl | rfl | rfl | rfl : c = 2 ∨ c = 3 ∨ c = 4 ∨ c = 5 ∨ c = 6 ∨ c = 7 ∨ c = 8 := by omega
    · simp [fX11_worked, opT, r_bounded]
    · simp [fX11_worked, opT, r_bounded]
    · simp [fX11_worked, opT, r_bounded]
    · by_cases h0 : b = 0
      · simp [fX11_worked, opT, fX11_worked_c89, lc_eq, z0, h0]
      · simp [fX11_worked, opT, fX11_worked_c89, lc_eq, z0, h0, r_bounded, div_ok ha]
    · by_cases h0 : a = b
      · simp [fX11_worked, opT, fX11_worked_c101, lc_eq, h0]
      · simp [fX11_worked, opT, fX11_worked_c101, lc_eq, t64_eq, h0]
    · by_cases h0 : a < b
      · simp [fX11_worked, opT, fX11_worked_c113, lc_lt, t64_lt, h0]
      · simp [fX11_worked, opT, fX11_worked_c113, lc_lt, t64_lt, h0]
    · by_cases h0 : a ≤ b
      · simp [fX11_worked, opT, fX11_worked_c125, lc_le, t64_le, h0]
      · simp [fX11_worked, opT, fX11_worked_c125, lc_le, t64_le, h0]
  · obtain rfl | rfl : c = 10 ∨ c = 11 := by omega
    · rcases ha with rfl | rfl <;> rcases hb with rfl | rfl <;> rfl
    · rcases ha with rfl | rfl <;> rcases hb with rfl | rfl <;> rfl
def WR : Nat → Nat → Bool := fun a _ => a == 616
theorem WR_s (k : Nat) : WR 616 k = true := rfl
theorem WR_n {a k : Nat} (h : ¬ a = 616) : WR a k = false := by simp [WR, h]
def RS (m0 m : mm_MM) (st : List Int32) : Prop := stk (m.1 616) st ∧ fr WR m0 m
theorem RS_push {m0 m : mm_MM} {st : List Int32} (v : Int32) (h : RS m0 m st) : RS m0 (wI m 616 st.length v) (v :: st) := by
  refine ⟨⟨wI_eq, ?_⟩, fr_wI h.2 (WR_s _)⟩
  refine stk_up h.1 fun j hj => ?_
  rw [wI_nk (by omega)]
theorem r_tok {m0 m : mm_MM} {n e k : Nat} (hn : n < 5) (hk : k < 520 * n + e) (he : e ≤ 520) {t : Tok} (hc : m0.1 608 k = Int32.ofNat t.1 ∧ m0.1 609 k = Int32.ofNat t.2) {s s' : List Bool} {st : List Int32} (hs : okS s st) (hd : s.length ≤ 60) (ht : tyT t s = some s') (h : RS m0 m st) :
    ∃ m', (∀ f, fX11_workOut_c12 (f + 1) m (Int32.ofNat n) (Int32.ofNat e) (Int32.ofNat st.length) (Int32.ofNat k) = fX11_workOut_c12 f m' (Int32.ofNat n) (Int32.ofNat e) (Int32.ofNat (exT (m0.1 615) t st).length) (Int32.ofNat (k + 1))) ∧ RS m0 m' (exT (m0.1 615) t st) := by
  have hl := okS_len hs
  have hlt : Int32.ofNat k < 520 * Int32.ofNat n + Int32.ofNat e := by
    rw [show (520 : Int32) = Int32.ofNat 520 from rfl, ← Int32.ofNat_mul, ← Int32.ofNat_add, nn_lt (by omega) (by omega)]
    exact hk
  have hg : ∀ {α : Type} {A : Option α}, (if Int32.ofNat k < 0 ∨ 2600 ≤ k then none else A) = A := fun {α A} => nn_gn (by omega) (by omega)
  have h608 : m.1 608 k = Int32.ofNat t.1 := by rw [h.2.1 608 k (WR_n (by decide)), hc.1]
  have h609 : m.1 609 k = Int32.ofNat t.2 := by rw [h.2.1 609 k (WR_n (by decide)), hc.2]
  have h615 : ∀ k, m.1 615 k = m0.1 615 k := fun k => h.2.1 615 k (WR_n (by decide))
  have etn : (Int32.ofNat k).toNatClampNeg = k := nn_tn (by omega)
  rcases tyT_inv hs ht with ⟨v, rfl, hv, hl', rfl⟩ | ⟨v, rfl, hv, hl', rfl⟩ | ⟨v, a, r, q, rfl, rfl, rfl, rfl, ha, hr⟩ | ⟨c, v, a, b, r, q, rfl, h1, h2, rfl, rfl, rfl, hb, ha, hr⟩ | ⟨c, v, a, b, r, q, rfl, h1, h2, rfl, rfl, rfl, hb, ha, hr⟩ | ⟨c, v, a, b, r, q, rfl, h1, h2, rfl, rfl, rfl, hb, ha, hr⟩
  · refine ⟨_, fun f => ?_, RS_push (Int32.ofNat v) h⟩
    rw [fX11_workOut_c12]
    simp only [if_pos hlt, hg, etn, h608, h609, fX11_workOut_c45, fX11_workOut_c83, fX11_workOut_c165, nn_s]
    rw [if_pos (show Int32.ofNat 0 = 0 from rfl), if_pos (show Int32.ofNat 0 = 0 from rfl), nn_go (by omega) (by omega), nn_tn (by omega)]
    rfl
  · refine ⟨_, fun f => ?_, RS_push (m0.1 615 v) h⟩
    rw [fX11_workOut_c12]
    simp only [if_pos hlt, hg, etn, h608, h609, fX11_workOut_c45, fX11_workOut_c83, fX11_workOut_c165, nn_s]
    rw [if_neg (show ¬ Int32.ofNat 1 = 0 by decide), if_pos (show Int32.ofNat 1 = 1 from rfl), if_neg (show ¬ Int32.ofNat 1 = 0 by decide), nn_go (by omega) (by omega), nn_go (by omega) (by omega), nn_tn (by omega), nn_tn (by omega), h615]
    rfl
  · simp only [List.length_cons] at hl hd
    have ea : m.1 616 r.length = a := h.1.1
    have h' : RS m0 m r := ⟨h.1.2, h.2⟩
    refine ⟨wI m 616 r.length (1 - a), fun f => ?_, ?_⟩
    · rw [fX11_workOut_c12]
      simp only [if_pos hlt, hg, etn, h608, fX11_workOut_c165, nn_s]
      rw [if_neg (show ¬ Int32.ofNat 9 = 0 by decide), if_neg (show ¬ Int32.ofNat 9 = 1 by decide), if_pos (show Int32.ofNat 9 = 9 from rfl), List.length_cons, nn_p, nn_go (by omega) (by omega), nn_go (by omega) (by omega), nn_tn (by omega), ea]
      rfl
    · have e : (if a = 0 then 1 else 0) = 1 - a := by rcases ha with rfl | rfl <;> decide
      show RS m0 _ ((if a = 0 then 1 else 0) :: r)
      rw [e]
      exact RS_push _ h'
  all_goals
    simp only [List.length_cons] at hl hd
    have ea : m.1 616 r.length = a := h.1.2.1
    have eb : m.1 616 (r.length + 1) = b := h.1.1
    have h' : RS m0 m r := ⟨h.1.2.2, h.2⟩
    have hw : fX11_worked m (Int32.ofNat c) a.toInt64 b.toInt64 = some (opT c a b, m) := r_worked m (by first | exact Or.inl ⟨by omega, by omega, ha, hb⟩ | exact Or.inr ⟨by omega, by omega, ha, hb⟩)
    have e : exT (m0.1 615) (c, v) (b :: a :: r) = opT c a b :: r := by
      have : c = 2 ∨ c = 3 ∨ c = 4 ∨ c = 5 ∨ c = 6 ∨ c = 7 ∨ c = 8 ∨ c = 10 ∨ c = 11 := by omega
      rcases this with rfl | rfl | rfl | rfl | rfl | rfl | rfl | rfl | rfl <;> rfl
    have n0 : ¬ Int32.ofNat c = 0 := fun z => absurd (nn_inj (k := 0) (by omega) (by decide) z) (by omega)
    have n1 : ¬ Int32.ofNat c = 1 := fun z => absurd (nn_inj (k := 1) (by omega) (by decide) z) (by omega)
    have n9 : ¬ Int32.ofNat c = 9 := fun z => absurd (nn_inj (k := 9) (by omega) (by decide) z) (by omega)
    refine ⟨wI m 616 r.length (opT c a b), fun f => ?_, by rw [e]; exact RS_push _ h'⟩
    rw [fX11_workOut_c12, e]
    simp only [if_pos hlt, hg, etn, h608, if_neg n0, if_neg n1, if_neg n9, fX11_workOut_c128, fX11_workOut_c165, nn_s, List.length_cons, nn_m, nn_p]
    rw [nn_go (by omega) (by omega), nn_go (by omega) (by omega), nn_tn (by omega), nn_tn (by omega), ea, eb, hw]
    simp only [Option.bind_some]
    rw [nn_gn (by omega) (by omega)]
/-- tokens in the reference's rows -/
def tokR (m : mm_MM) (i : Nat) (ts : List Tok) : Prop := ∀ j t, ts[j]? = some t → m.1 608 (i + j) = Int32.ofNat t.1 ∧ m.1 609 (i + j) = Int32.ofNat t.2
theorem r_toks {m0 : mm_MM} {n e : Nat} (hn : n < 5) (he : e ≤ 520) (hL : ∀ k, k ≤ 5 → okV false (m0.1 615 k)) : ∀ (ts : List Tok) (k : Nat) (m : mm_MM) (s s' : List Bool) (st : List Int32), k + ts.length ≤ 520 * n + e → tokR m0 k ts → okS s st → s.length ≤ 60 → tyTs ts s = some s' → RS m0 m st →
    ∃ m', (∀ f, fX11_workOut_c12 (f + ts.length) m (Int32.ofNat n) (Int32.ofNat e) (Int32.ofNat st.length) (Int32.ofNat k) = fX11_workOut_c12 f m' (Int32.ofNat n) (Int32.ofNat e) (Int32.ofNat (exTs (m0.1 615) ts st).length) (Int32.ofNat (k + ts.length))) ∧ RS m0 m' (exTs (m0.1 615) ts st)
  | [], k, m, s, s', st, hi, hc, hs, hd, ht, h => ⟨m, fun f => rfl, h⟩
  | t :: ts, k, m, s, s', st, hi, hc, hs, hd, ht, h => by
    obtain ⟨s1, h1, h2⟩ := Option.bind_eq_some_iff.mp ht
    simp only [List.length_cons] at hi
    obtain ⟨m1, e1, g1⟩ := r_tok hn (k := k) (e := e) (by omega) he (hc 0 t rfl) hs hd h1 h
    obtain ⟨m2, e2, g2⟩ := r_toks hn he hL ts (k + 1) m1 s1 s' _ (by omega) (fun j t' hj => by rw [Nat.add_assoc, Nat.add_comm 1 j]; exact hc (j + 1) t' hj) (okS_exT hL hs h1) (ty_len hs h1 hd) h2 g1
    refine ⟨m2, fun f => ?_, g2⟩
    rw [List.length_cons, ← Nat.add_assoc, e1, e2, Nat.add_assoc, Nat.add_comm 1]
    rfl
theorem r_workOut {m0 : mm_MM} {n p : Nat} (hn : n < 5) {ts : List Tok} (hp : p + ts.length ≤ 519) (hL : ∀ k, k ≤ 5 → okV false (m0.1 615 k)) (hc : tokR m0 (520 * n + p) ts) {b : Bool} (ht : tyTs ts [] = some [b]) {m : mm_MM} (h : fr WR m0 m) : ∃ m', fX11_workOut m (Int32.ofNat n) (Int32.ofNat p) (Int32.ofNat (p + ts.length)) = some (topV (exTs (m0.1 615) ts []), m') ∧ fr WR m0 m' := by
  obtain ⟨m1, e1, g1⟩ := r_toks hn (e := p + ts.length) (by omega) hL ts (520 * n + p) m [] [b] [] (by omega) hc True.intro (by decide) ht ⟨True.intro, h⟩
  refine ⟨m1, ?_, g1.2⟩
  have hok := okS_exTs hL (ts := ts) (s := []) (st := []) True.intro ht
  obtain ⟨a, r, he, -, hr0⟩ := okS_c hok
  have hr1 : r = [] := by cases r with | nil => rfl | cons _ _ => exact hr0.elim
  rw [hr1] at he
  rw [he] at g1 ⊢
  unfold fX11_workOut
  rw [show (520 : Int32) = Int32.ofNat 520 from rfl, ← Int32.ofNat_mul, ← Int32.ofNat_add, show fu = (19999 - ts.length + 1) + ts.length by unfold fu; omega]
  rw [show (0 : Int32) = Int32.ofNat ([] : List Int32).length from rfl, e1, fX11_workOut_c12]
  have hlt : ¬ Int32.ofNat (520 * n + p + ts.length) < 520 * Int32.ofNat n + Int32.ofNat (p + ts.length) := by
    rw [show (520 : Int32) = Int32.ofNat 520 from rfl, ← Int32.ofNat_mul, ← Int32.ofNat_add, nn_lt (by omega) (by omega)]
    omega
  dsimp only
  rw [if_neg hlt, show m1.1 616 0 = a from g1.1.1]
  rfl
def rowsR (m : mm_MM) (n : Nat) : Nat → Nat → List Cla → Prop
  | _, _, [] => True
  | j, p, c :: cs => m.1 612 (140 * n + j) = Int32.ofNat p ∧ m.1 613 (140 * n + j) = Int32.ofNat (p + c.1.length) ∧ m.1 614 (140 * n + j) = Int32.ofNat (p + c.1.length + c.2.length) ∧ tokR m (520 * n + p) c.1 ∧ tokR m (520 * n + (p + c.1.length)) c.2 ∧ rowsR m n (j + 1) (p + c.1.length + c.2.length) cs
def lenCs : List Cla → Nat
  | [] => 0
  | c :: cs => c.1.length + c.2.length + lenCs cs
def LawR (m : mm_MM) (n : Nat) (cs : List Cla) : Prop := m.1 611 n = Int32.ofNat cs.length ∧ cs.length ≤ 139 ∧ lenCs cs ≤ 519 ∧ rowsR m n 0 0 cs
theorem r_clauses {m0 : mm_MM} {n : Nat} (hn : n < 5) {N : Nat} (h611 : m0.1 611 n = Int32.ofNat N) (hN : N ≤ 139) (hL : ∀ k, k ≤ 5 → okV false (m0.1 615 k)) : ∀ (cs : List Cla) (j p : Nat) (m : mm_MM), j + cs.length = N → p + lenCs cs ≤ 519 → rowsR m0 n j p cs → (∀ c ∈ cs, wfC c) → fr WR m0 m → ∃ m', (∀ f, 300 < f + j → fX11_worthOf_c6 f m (Int32.ofNat n) (Int32.ofNat (140 * n + j)) = some (evC (m0.1 615) cs, m')) ∧ fr WR m0 m'
  | [], j, p, m, hj, hp, hr, hw, h => by
    refine ⟨m, fun f hf => ?_, h⟩
    simp only [List.length_nil] at hj
    obtain ⟨f, rfl⟩ : ∃ g, f = g + 1 := ⟨f - 1, by omega⟩
    rw [fX11_worthOf_c6]
    have e611 : m.1 611 n = Int32.ofNat N := by rw [h.1 611 n (WR_n (by decide)), h611]
    have hlt : ¬ Int32.ofNat (140 * n + j) < 140 * Int32.ofNat n + Int32.ofNat N := by
      rw [show (140 : Int32) = Int32.ofNat 140 from rfl, ← Int32.ofNat_mul, ← Int32.ofNat_add, nn_lt (by omega) (by omega)]
      omega
    dsimp only
    rw [nn_go (by omega) (by omega), nn_tn (by omega), e611, if_neg hlt]
    rfl
  | c :: cs, j, p, m, hj, hp, hr, hw, h => by
    obtain ⟨te, su⟩ := c
    simp only [List.length_cons] at hj
    simp only [lenCs] at hp
    obtain ⟨h12, h13, h14, htt, hts, hrr⟩ := hr
    dsimp only at h12 h13 h14 htt hts hrr
    have hwc := hw _ List.mem_cons_self
    have e611 : m.1 611 n = Int32.ofNat N := by rw [h.1 611 n (WR_n (by decide)), h611]
    have hlt : Int32.ofNat (140 * n + j) < 140 * Int32.ofNat n + Int32.ofNat N := by
      rw [show (140 : Int32) = Int32.ofNat 140 from rfl, ← Int32.ofNat_mul, ← Int32.ofNat_add, nn_lt (by omega) (by omega)]
      omega
    have hg : ∀ {α : Type} {A : Option α}, (if Int32.ofNat (140 * n + j) < 0 ∨ 700 ≤ 140 * n + j then none else A) = A := fun {α A} => nn_gn (by omega) (by omega)
    have etn : (Int32.ofNat (140 * n + j)).toNatClampNeg = 140 * n + j := nn_tn (by omega)
    by_cases hte : te = []
    · subst hte
      obtain ⟨m', e', g'⟩ := r_workOut hn (p := p + 0) (by simp only [List.length_nil] at hp; omega) hL hts hwc.2 h
      refine ⟨m', fun f hf => ?_, g'⟩
      obtain ⟨f, rfl⟩ : ∃ g, f = g + 1 := ⟨f - 1, by omega⟩
      rw [fX11_worthOf_c6]
      dsimp only
      rw [nn_go (by omega) (by omega), nn_tn (by omega), e611, if_pos hlt]
      simp only [hg, etn, h.1 612 _ (WR_n (by decide)), h.1 613 _ (WR_n (by decide)), h.1 614 _ (WR_n (by decide)), h12, h13, h14, fX11_worthOf_c57]
      simp only [List.length_nil, Nat.add_zero, if_true] at e' ⊢
      rw [e', evC, if_pos (Or.inl rfl)]
      rfl
    · have ht : tyTs te [] = some [true] := hwc.1.resolve_left hte
      have hlen : te.length ≠ 0 := fun z => hte (List.length_eq_zero_iff.mp z)
      have hne : ¬ Int32.ofNat p = Int32.ofNat (p + te.length) := fun z => by have := nn_inj (by omega) (by omega) z; omega
      obtain ⟨m1, e1, g1⟩ := r_workOut hn (p := p) (by omega) hL htt ht h
      by_cases ha : topV (exTs (m0.1 615) te []) = 0
      · obtain ⟨m', e', g'⟩ := r_clauses hn h611 hN hL cs (j + 1) (p + te.length + su.length) m1 (by omega) (by omega) hrr (fun c hc => hw c (List.mem_cons_of_mem _ hc)) g1
        refine ⟨m', fun f hf => ?_, g'⟩
        obtain ⟨f, rfl⟩ : ∃ g, f = g + 1 := ⟨f - 1, by omega⟩
        rw [fX11_worthOf_c6]
        dsimp only
        rw [nn_go (by omega) (by omega), nn_tn (by omega), e611, if_pos hlt]
        simp only [hg, etn, h.1 612 _ (WR_n (by decide)), h.1 613 _ (WR_n (by decide)), h12, h13, if_neg hne, e1, Option.bind_some, ha, if_true, nn_s]
        rw [evC, if_neg (by simp [hte, ha])]
        exact e' f (by omega)
      · obtain ⟨m', e', g'⟩ := r_workOut hn (p := p + te.length) (by omega) hL hts hwc.2 g1
        refine ⟨m', fun f hf => ?_, g'⟩
        obtain ⟨f, rfl⟩ : ∃ g, f = g + 1 := ⟨f - 1, by omega⟩
        rw [fX11_worthOf_c6]
        dsimp only
        rw [nn_go (by omega) (by omega), nn_tn (by omega), e611, if_pos hlt]
        simp only [hg, etn, h.1 612 _ (WR_n (by decide)), h.1 613 _ (WR_n (by decide)), h12, h13, if_neg hne, e1, Option.bind_some, if_neg ha, fX11_worthOf_c57, g1.1 613 _ (WR_n (by decide)), g1.1 614 _ (WR_n (by decide)), h14, e']
        rw [evC, if_pos (Or.inr ha)]
theorem r_worthOf {m : mm_MM} {n : Nat} (hn : n < 5) {cs : List Cla} (h : LawR m n cs) (hw : ∀ c ∈ cs, wfC c) (hL : ∀ k, k ≤ 5 → okV false (m.1 615 k)) : ∃ m', fX11_worthOf m (Int32.ofNat n) = some (evC (m.1 615) cs, m') ∧ fr WR m m' := by
  obtain ⟨m', e, g⟩ := r_clauses hn h.1 h.2.1 hL cs 0 0 m (by omega) (by have := h.2.2.1; omega) h.2.2.2 hw (fr_refl _ _)
  refine ⟨m', ?_, g⟩
  unfold fX11_worthOf
  rw [show (140 : Int32) = Int32.ofNat 140 from rfl, ← Int32.ofNat_mul]
  exact e fu (by decide)
