/-! LAWS READ: both sides step by step -/
section LWS
variable {B : Nat → Int32} {n tx : Nat}
def LwS (B : Nat → Int32) (n tx : Nat) (M R : mm_MM) (p d len cnt : Nat) : Prop := (tpeC M B n ∧ tpeR R B n) ∧ (M.1 1 2 = Int32.ofNat p ∧ R.1 606 3 = Int32.ofNat p) ∧ R.1 606 4 = -1 ∧ R.1 606 5 = Int32.ofNat d ∧ R.1 606 14 = Int32.ofNat tx ∧ (M.1 25 2 = Int32.ofNat len ∧ R.1 610 tx = Int32.ofNat cnt) ∧ p ≤ n ∧ len ≤ p ∧ cnt ≤ p
def CF (M M' : mm_MM) (len : Nat) : Prop := ∀ a k, ¬ ((a = 1 ∧ k = 2) ∨ (a = 25 ∧ k = 2) ∨ (a = 26 ∧ len ≤ k)) → M'.1 a k = M.1 a k
def RF (tx : Nat) (R R' : mm_MM) (cnt : Nat) : Prop := ∀ a k, ¬ ((a = 606 ∧ (k = 3 ∨ k = 4 ∨ k = 5)) ∨ ((a = 608 ∨ a = 609) ∧ 520 * tx + cnt ≤ k ∧ k < 520 * tx + 520) ∨ (a = 610 ∧ k = tx)) → R'.1 a k = R.1 a k
def OKo (n tx : Nat) (M M' R R' : mm_MM) (p p' d len cnt : Nat) (l : List Int32) (ts : List Tok) : Prop := (CF M M' len ∧ RF tx R R' cnt) ∧ (M'.1 25 2 = Int32.ofNat (len + l.length) ∧ inR (M'.1 26) len l) ∧ (R'.1 610 tx = Int32.ofNat (cnt + ts.length) ∧ tokR R' (520 * tx + cnt) ts) ∧ (M'.1 1 2 = Int32.ofNat p' ∧ R'.1 606 3 = Int32.ofNat p') ∧ R'.1 606 4 = -1 ∧ R'.1 606 5 = Int32.ofNat d ∧ p' ≤ n ∧ p + l.length ≤ p' ∧ ts.length ≤ l.length
def ERo (n tx : Nat) (M M' R R' : mm_MM) (p e len cnt : Nat) : Prop := (CF M M' len ∧ RF tx R R' cnt) ∧ M'.1 1 2 = Int32.ofNat e ∧ e ≤ n ∧ R'.1 606 4 = Int32.ofNat e ∧ ∃ c', R'.1 610 tx = Int32.ofNat c' ∧ cnt ≤ c' ∧ c' + p ≤ cnt + n
def Sim (B : Nat → Int32) (n tx : Nat) (fc : mm_MM → Option (Int32 × mm_MM)) (fr : mm_MM → Option mm_MM) (d : Nat) (pre post : List Bool) (bd : Nat) : Prop := ∀ M R p len cnt, LwS B n tx M R p d len cnt →
  (∃ M' R' p' ts, fc M = some (1, M') ∧ fr R = some R' ∧ OKo n tx M M' R R' p p' d len cnt (ts.map encT) ts ∧ ∀ s, s.length ≤ bd → tyTs ts (pre ++ s) = some (post ++ s)) ∨
  (∃ M' R' e, fc M = some (0, M') ∧ fr R = some R' ∧ ERo n tx M M' R R' p e len cnt)
def em (M : mm_MM) (v : Int32) (len : Nat) : mm_MM := wI (wI M 26 len v) 25 2 (Int32.ofNat (len + 1))
def pu (tx : Nat) (R : mm_MM) (x v : Int32) (cnt : Nat) : mm_MM := wI (wI (wI R 608 (520 * tx + cnt) x) 609 (520 * tx + cnt) v) 610 tx (Int32.ofNat (cnt + 1))
theorem c_emit {M : mm_MM} {len : Nat} (h : M.1 25 2 = Int32.ofNat len) (hl : len < 240) (v : Int32) : fX2_emit M 25 v = some (em M v len) := by
  unfold fX2_emit fX2_emit_c32 em
  rw [h, if_pos (show Int32.ofNat len < 240 from (nn_lt (k := 240) (by omega) (by decide)).mpr hl), c_place_n M (25 + 1) v (n := 240) rfl (by decide) hl]
  simp only [Option.bind_some]
  rw [wI_ne (show ¬ 25 = 25 + 1 by decide), h, nn_s]
theorem r_put {R : mm_MM} {cnt : Nat} (ht : tx < 5) (h14 : R.1 606 14 = Int32.ofNat tx) (hc : R.1 610 tx = Int32.ofNat cnt) (hl : cnt < 520) (x v : Int32) : fX11_put R x v = some (pu tx R x v cnt) := by
  have e : (520 : Int32) * Int32.ofNat tx + Int32.ofNat cnt = Int32.ofNat (520 * tx + cnt) := by rw [Int32.ofNat_add, Int32.ofNat_mul]; rfl
  unfold fX11_put pu
  rw [h14, nn_tn (by omega), hc, e, nn_tn (by omega), nn_s]
  rw [nn_gn (by omega) ht, nn_gn (by omega) (by omega), nn_gn (by omega) ht, nn_gn (by omega) (by omega), nn_gn (by omega) ht, nn_gn (by omega) ht]
theorem CF_refl (M : mm_MM) (len : Nat) : CF M M len := fun _ _ _ => rfl
theorem RF_refl (R : mm_MM) (cnt : Nat) : RF tx R R cnt := fun _ _ _ => rfl
theorem CF_w {M M' : mm_MM} {len a k : Nat} {v : Int32} (h : CF M M' len) (hw : (a = 1 ∧ k = 2) ∨ (a = 25 ∧ k = 2) ∨ (a = 26 ∧ len ≤ k)) : CF M (wI M' a k v) len := fun i j z => by
  rw [wI_1, if_neg (fun e => z (by rw [e.1, e.2]; exact hw))]; exact h i j z
theorem RF_w {R R' : mm_MM} {cnt a k : Nat} {v : Int32} (h : RF tx R R' cnt) (hw : (a = 606 ∧ (k = 3 ∨ k = 4 ∨ k = 5)) ∨ ((a = 608 ∨ a = 609) ∧ 520 * tx + cnt ≤ k ∧ k < 520 * tx + 520) ∨ (a = 610 ∧ k = tx)) : RF tx R (wI R' a k v) cnt := fun i j z => by
  rw [wI_1, if_neg (fun e => z (by rw [e.1, e.2]; exact hw))]; exact h i j z
theorem CF_trans {M M' M2 : mm_MM} {len len' : Nat} (h : CF M M' len) (h' : CF M' M2 len') (hl : len ≤ len') : CF M M2 len := fun a k z => (h' a k (by omega)).trans (h a k z)
theorem RF_trans {M M' M2 : mm_MM} {len len' : Nat} (h : RF tx M M' len) (h' : RF tx M' M2 len') (hl : len ≤ len') : RF tx M M2 len := fun a k z => (h' a k (by omega)).trans (h a k z)
theorem inR_cat {row : Nat → Int32} {i : Nat} {a b : List Int32} (h1 : inR row i a) (h2 : inR row (i + a.length) b) : inR row i (a ++ b) := by
  intro j x hj
  by_cases c : j < a.length
  · rw [List.getElem?_append_left c] at hj
    exact h1 j x hj
  · rw [List.getElem?_append_right (by omega)] at hj
    have := h2 (j - a.length) x hj
    rwa [show i + a.length + (j - a.length) = i + j by omega] at this
theorem inR_up {row row' : Nat → Int32} {i : Nat} {a : List Int32} (h : inR row i a) (e : ∀ k, k < i + a.length → row' k = row k) : inR row' i a := by
  intro j x hj
  have hl : j < a.length := by
    refine Decidable.byContradiction (fun z => ?_)
    rw [List.getElem?_eq_none (by omega)] at hj; cases hj
  rw [e _ (by omega)]; exact h j x hj
theorem tokR_cat {R : mm_MM} {i : Nat} {a b : List Tok} (h1 : tokR R i a) (h2 : tokR R (i + a.length) b) : tokR R i (a ++ b) := by
  intro j x hj
  by_cases c : j < a.length
  · rw [List.getElem?_append_left c] at hj
    exact h1 j x hj
  · rw [List.getElem?_append_right (by omega)] at hj
    have := h2 (j - a.length) x hj
    rwa [show i + a.length + (j - a.length) = i + j by omega] at this
theorem tokR_up {R R' : mm_MM} {i : Nat} {a : List Tok} (h : tokR R i a) (e : ∀ c, (c = 608 ∨ c = 609) → ∀ k, i ≤ k → k < i + a.length → R'.1 c k = R.1 c k) : tokR R' i a := by
  intro j x hj
  have hl : j < a.length := by
    refine Decidable.byContradiction (fun z => ?_)
    rw [List.getElem?_eq_none (by omega)] at hj; cases hj
  rw [e 608 (Or.inl rfl) _ (by omega) (by omega), e 609 (Or.inr rfl) _ (by omega) (by omega)]; exact h j x hj
section
variable {M M' M2 R R' R2 : mm_MM} {p p' q d d' len cnt e : Nat} {l l' : List Int32} {ts ts' : List Tok}
theorem LwS_OK (h : LwS B n tx M R p d len cnt) (o : OKo n tx M M' R R' p p' d' len cnt l ts) : LwS B n tx M' R' p' d' (len + l.length) (cnt + ts.length) := by
  obtain ⟨⟨t1, t2⟩, -, -, -, h14, -, h7, h8, h9⟩ := h
  obtain ⟨⟨o1, o2⟩, ⟨o3, -⟩, ⟨o4, -⟩, o5, o6, o7, o8, o9, o10⟩ := o
  exact ⟨⟨⟨(o1 1 1 (by omega)).trans t1.1, fun i hi => (o1 2 i (by omega)).trans (t1.2 i hi)⟩, (o2 606 2 (by omega)).trans t2.1, fun i hi => (o2 607 i (by omega)).trans (t2.2 i hi)⟩, o5, o6, o7, (o2 606 14 (by omega)).trans h14, ⟨o3, o4⟩, o8, by omega, by omega⟩
theorem OK_0 (h : LwS B n tx M R p d len cnt) : OKo n tx M M R R p p d len cnt [] [] :=
  ⟨⟨CF_refl _ _, RF_refl _ _⟩, ⟨h.2.2.2.2.2.1.1, fun j x hj => by cases hj⟩, ⟨h.2.2.2.2.2.1.2, fun j x hj => by cases hj⟩, h.2.1, h.2.2.1, h.2.2.2.1, h.2.2.2.2.2.2.1, Nat.le_refl _, Nat.le_refl _⟩
theorem OK_h (o : OKo n tx M M' R R' p p' d len cnt l ts) (h1 : p' ≤ q) (h2 : q ≤ n) : OKo n tx M (hC M' q) R (hR R' q) p q d len cnt l ts := by
  obtain ⟨⟨o1, o2⟩, ⟨o3, o3'⟩, ⟨o4, o4'⟩, o5, o6, o7, o8, o9, o10⟩ := o
  exact ⟨⟨CF_w o1 (by omega), RF_w o2 (by omega)⟩, ⟨(hC_n (by omega)).trans o3, inR_up o3' (fun k _ => hC_n (by omega))⟩, ⟨(hR_n (by omega)).trans o4, tokR_up o4' (fun c hc k _ _ => hR_n (by omega))⟩, ⟨hC_h _ _, hR_h _ _⟩, (hR_n (by omega)).trans o6, (hR_n (by omega)).trans o7, h2, by omega, o10⟩
theorem OK_d (o : OKo n tx M M' R R' p p' d len cnt l ts) (d' : Nat) : OKo n tx M M' R (wI R' 606 5 (Int32.ofNat d')) p p' d' len cnt l ts := by
  obtain ⟨⟨o1, o2⟩, ⟨o3, o3'⟩, ⟨o4, o4'⟩, ⟨o5, o5'⟩, o6, o7, o8, o9, o10⟩ := o
  exact ⟨⟨o1, RF_w o2 (by omega)⟩, ⟨o3, o3'⟩, ⟨(wI_ne (by decide)).trans o4, tokR_up o4' (fun c hc k _ _ => wI_ne (by omega))⟩, ⟨o5, (wI_nk (by decide)).trans o5'⟩, (wI_nk (by decide)).trans o6, wI_eq, o8, o9, o10⟩
theorem OK_emit (o : OKo n tx M M' R R' p p' d len cnt l ts) (h : p + l.length + 1 ≤ p') (v : Int32) : OKo n tx M (em M' v (len + l.length)) R R' p p' d len cnt (l ++ [v]) ts := by
  obtain ⟨⟨o1, o2⟩, ⟨o3, o3'⟩, o4, ⟨o5, o5'⟩, o6, o7, o8, o9, o10⟩ := o
  have hl : (l ++ [v]).length = l.length + 1 := by rw [List.length_append]; rfl
  refine ⟨⟨CF_w (CF_w o1 (by omega)) (by omega), o2⟩, ⟨?_, inR_cat (inR_up o3' (fun k hk => ?_)) (fun j x hj => ?_)⟩, o4, ⟨?_, o5'⟩, o6, o7, o8, by rw [hl]; omega, by rw [hl]; omega⟩
  · rw [hl]; exact wI_eq
  · unfold em; rw [wI_ne (by decide), wI_nk (by omega)]
  · obtain rfl : j = 0 := by
      by_cases c : j = 0
      · exact c
      · rw [List.getElem?_eq_none (by show 1 ≤ j; omega)] at hj; cases hj
    cases hj
    unfold em; rw [wI_ne (by decide), Nat.add_zero, wI_eq]
  · unfold em; rw [wI_ne (by decide), wI_ne (by decide)]; exact o5
theorem OK_pu (o : OKo n tx M M' R R' p p' d len cnt l ts) (h : ts.length + 1 ≤ l.length) (hc : cnt + ts.length < 520) (t : Tok) : OKo n tx M M' R (pu tx R' (Int32.ofNat t.1) (Int32.ofNat t.2) (cnt + ts.length)) p p' d len cnt l (ts ++ [t]) := by
  obtain ⟨⟨o1, o2⟩, o3, ⟨o4, o4'⟩, ⟨o5, o5'⟩, o6, o7, o8, o9, o10⟩ := o
  have hl : (ts ++ [t]).length = ts.length + 1 := by rw [List.length_append]; rfl
  refine ⟨⟨o1, RF_w (RF_w (RF_w o2 (by omega)) (by omega)) (by omega)⟩, o3, ⟨?_, tokR_cat (tokR_up o4' (fun c hc' k k1 k2 => ?_)) (fun j x hj => ?_)⟩, ⟨o5, ?_⟩, ?_, ?_, o8, o9, by rw [hl]; omega⟩
  · rw [hl]; exact wI_eq
  · unfold pu
    rcases hc' with rfl | rfl
    · rw [wI_ne (by decide), wI_ne (by decide), wI_nk (by omega)]
    · rw [wI_ne (by decide), wI_nk (by omega), wI_ne (by decide)]
  · obtain rfl : j = 0 := by
      by_cases c : j = 0
      · exact c
      · rw [List.getElem?_eq_none (by show 1 ≤ j; omega)] at hj; cases hj
    cases hj
    unfold pu
    have ez : 520 * tx + cnt + ts.length + 0 = 520 * tx + (cnt + ts.length) := by omega
    rw [ez]
    exact ⟨by rw [wI_ne (by decide), wI_ne (by decide), wI_eq], by rw [wI_ne (by decide), wI_eq]⟩
  · unfold pu; rw [wI_ne (by decide), wI_ne (by decide), wI_ne (by decide)]; exact o5'
  · unfold pu; rw [wI_ne (by decide), wI_ne (by decide), wI_ne (by decide)]; exact o6
  · unfold pu; rw [wI_ne (by decide), wI_ne (by decide), wI_ne (by decide)]; exact o7
theorem OK_trans (o : OKo n tx M M' R R' p p' d len cnt l ts) (u : OKo n tx M' M2 R' R2 p' q d' (len + l.length) (cnt + ts.length) l' ts') : OKo n tx M M2 R R2 p q d' len cnt (l ++ l') (ts ++ ts') := by
  obtain ⟨⟨o1, o2⟩, ⟨o3, o3'⟩, ⟨o4, o4'⟩, -, o6, o7, o8, o9, o10⟩ := o
  obtain ⟨⟨u1, u2⟩, ⟨u3, u3'⟩, ⟨u4, u4'⟩, u5, u6, u7, u8, u9, u10⟩ := u
  refine ⟨⟨CF_trans o1 u1 (by omega), RF_trans o2 u2 (by omega)⟩, ⟨?_, inR_cat (inR_up o3' (fun k hk => u1 26 k (by omega))) u3'⟩, ⟨?_, tokR_cat (tokR_up o4' (fun c hc k k1 k2 => u2 c k (by omega))) (by rw [Nat.add_assoc]; exact u4')⟩, u5, u6, u7, u8, ?_, ?_⟩
  · rw [u3, List.length_append, Nat.add_assoc]
  · rw [u4, List.length_append, Nat.add_assoc]
  · rw [List.length_append]; omega
  · rw [List.length_append, List.length_append]; omega
theorem ER_bad (o : OKo n tx M M' R R' p p' d len cnt l ts) : ERo n tx M M' R (wI R' 606 4 (Int32.ofNat p')) p p' len cnt := by
  obtain ⟨⟨o1, o2⟩, -, ⟨o4, -⟩, ⟨o5, -⟩, -, -, o8, o9, o10⟩ := o
  exact ⟨⟨o1, RF_w o2 (by omega)⟩, o5, o8, wI_eq, _, (wI_ne (by decide)).trans o4, by omega, by omega⟩
theorem ER_w (u : ERo n tx M M' R R' p e len cnt) {k : Nat} {v : Int32} (hk : k = 3 ∨ k = 5) : ERo n tx M M' R (wI R' 606 k v) p e len cnt := by
  obtain ⟨⟨u1, u2⟩, u3, u4, u5, c', u6, u6', u7⟩ := u
  exact ⟨⟨u1, RF_w u2 (by omega)⟩, u3, u4, (wI_nk (by omega)).trans u5, c', (wI_ne (by decide)).trans u6, u6', u7⟩
theorem ER_trans (o : OKo n tx M M' R R' p p' d len cnt l ts) (u : ERo n tx M' M2 R' R2 p' e (len + l.length) (cnt + ts.length)) : ERo n tx M M2 R R2 p e len cnt := by
  obtain ⟨⟨o1, o2⟩, -, -, -, -, -, o8, o9, o10⟩ := o
  obtain ⟨⟨u1, u2⟩, u3, u4, u5, c', u6, u6', u7⟩ := u
  exact ⟨⟨CF_trans o1 u1 (by omega), RF_trans o2 u2 (by omega)⟩, u3, u4, u5, c', u6, by omega, by omega⟩
/-- an error behind a sign that stands for a token yet to come -/
theorem ER_put (ht : tx < 5) (hn : n ≤ 240) (h : LwS B n tx M R p d len cnt) (o : OKo n tx M M' R R' p p' d' len cnt l ts) (hp : p + l.length + 1 ≤ p') (u : ERo n tx M' M2 R' R2 p' e (len + l.length) (cnt + ts.length)) (x v : Int32) : ∃ R3, fX11_put R2 x v = some R3 ∧ ERo n tx M M2 R R3 p e len cnt := by
  obtain ⟨⟨o1, o2⟩, -, -, -, -, -, o8, o9, o10⟩ := o
  obtain ⟨⟨u1, u2⟩, u3, u4, u5, c', u6, u6', u7⟩ := u
  obtain ⟨-, -, -, -, h14, -, h7, h8, h9⟩ := h
  have e14 : R2.1 606 14 = Int32.ofNat tx := by rw [u2 606 14 (by omega), o2 606 14 (by omega), h14]
  refine ⟨_, r_put ht e14 u6 (by omega) x v, ⟨CF_trans o1 u1 (by omega), ?_⟩, u3, u4, ?_, c' + 1, wI_eq, by omega, by omega⟩
  · have f := RF_trans o2 u2 (show cnt ≤ cnt + ts.length by omega)
    intro a k z
    unfold pu
    by_cases c1 : a = 610 ∧ k = tx
    · exact absurd (Or.inr (Or.inr c1)) z
    · by_cases c2 : (a = 608 ∨ a = 609) ∧ k = 520 * tx + c'
      · exact absurd (Or.inr (Or.inl ⟨c2.1, by omega, by omega⟩)) z
      · rw [wI_1, if_neg c1, wI_1, if_neg (by omega), wI_1, if_neg (by omega)]
        exact f a k z
  · unfold pu; rw [wI_ne (by decide), wI_ne (by decide), wI_ne (by decide)]; exact u5
end
end LWS
