/-! RUNS THAT END, rule by rule; the memory in its lasting shape: the references are 'mm_tr', all 640 cells are made -/
abbrev mm_MM : Type := (Nat → Nat → Int32) × (Nat → Nat → Int64)
def wI (m : mm_MM) (a k : Nat) (v : Int32) : mm_MM := (mm_up m.1 a k v, m.2)
def wL (m : mm_MM) (a k : Nat) (v : Int64) : mm_MM := (m.1, mm_up m.2 a k v)
abbrev ev_M (m : mm_MM) (c w : Nat) : mm_M := (m.1, m.2, mm_tr, 640, c, w)
def fr_v (c w : Nat) (r : mm_MM) : mm_R := (none, ev_M r c w)
def fr_i (c w : Nat) (r : Int32 × mm_MM) : mm_R := (some (.int r.1), ev_M r.2 c w)
def fr_l (c w : Nat) (r : Int64 × mm_MM) : mm_R := (some (.long r.1), ev_M r.2 c w)
def fr_r (c w : Nat) (r : Option Nat × mm_MM) : mm_R := (some (va_rf r.1), ev_M r.2 c w)
def fu : Nat := 20000
section EV
variable (XL : Nat) (xs : Nat → Int32)
def Ev (d y : Nat) (M : mm_M) (pc : Nat) (lv : mm_L) (st : List Value) (q : mm_R) : Prop := ∃ K, ∀ n, K ≤ n → mm_run XL xs n d y M pc lv st = some q
end EV
section EV
variable {XL : Nat} {xs : Nat → Int32} {d y : Nat} {M M' M1 M2 : mm_M} {pc pc' pc1 pc2 : Nat} {lv lv' lv1 lv2 : mm_L} {st st' st1 st2 rest : List Value} {q r : mm_R} {α : Type} {A B : Option α} {q0 : α} {y' : Nat} {la : mm_L} {a : Nat} {ci i ln : Nat} {v : Int}
theorem ev_s (k : Nat) (hs : ∀ n, mm_run XL xs (n + k) d y M pc lv st = mm_run XL xs n d y M' pc' lv' st') (h : Ev XL xs d y M' pc' lv' st' q) : Ev XL xs d y M pc lv st q := by
  obtain ⟨K, h⟩ := h
  refine ⟨K + k, fun n hn => ?_⟩
  obtain ⟨j, rfl⟩ : ∃ j, n = j + k := ⟨n - k, by omega⟩
  rw [hs]
  exact h j (by omega)
theorem ev_r (k : Nat) (hs : ∀ n, mm_run XL xs (n + k) d y M pc lv st = some q) : Ev XL xs d y M pc lv st q := by
  refine ⟨k, fun n hn => ?_⟩
  obtain ⟨j, rfl⟩ : ∃ j, n = j + k := ⟨n - k, by omega⟩
  exact hs j
theorem ev_i (k : Nat) {c : Prop} [Decidable c] (hs : ∀ n, mm_run XL xs (n + k) d y M pc lv st = if c then mm_run XL xs n d y M1 pc1 lv1 st1 else mm_run XL xs n d y M2 pc2 lv2 st2) (h : (if c then A else B) = some q0) (ha : c → A = some q0 → Ev XL xs d y M1 pc1 lv1 st1 q) (hb : ¬ c → B = some q0 → Ev XL xs d y M2 pc2 lv2 st2 q) : Ev XL xs d y M pc lv st q := by
  by_cases hc : c
  · rw [if_pos hc] at h
    exact ev_s k (fun n => by rw [hs, if_pos hc]) (ha hc h)
  · rw [if_neg hc] at h
    exact ev_s k (fun n => by rw [hs, if_neg hc]) (hb hc h)
theorem ev_g (k : Nat) {c : Prop} [Decidable c] (hs : ∀ n, mm_run XL xs (n + k) d y M pc lv st = if c then none else mm_run XL xs n d y M1 pc1 lv1 st1) (h : (if c then none else A) = some q0) (ha : ¬ c → A = some q0 → Ev XL xs d y M1 pc1 lv1 st1 q) : Ev XL xs d y M pc lv st q := by
  by_cases hc : c
  · rw [if_pos hc] at h
    cases h
  · rw [if_neg hc] at h
    exact ev_s k (fun n => by rw [hs, if_neg hc]) (ha hc h)
theorem ev_gp (k : Nat) {c : Prop} [Decidable c] (hs : ∀ n, mm_run XL xs (n + k) d y M pc lv st = if c then mm_run XL xs n d y M1 pc1 lv1 st1 else none) (h : (if c then A else none) = some q0) (ha : c → A = some q0 → Ev XL xs d y M1 pc1 lv1 st1 q) : Ev XL xs d y M pc lv st q := by
  by_cases hc : c
  · rw [if_pos hc] at h
    exact ev_s k (fun n => by rw [hs, if_pos hc]) (ha hc h)
  · rw [if_neg hc] at h
    cases h
/-- a guarded return -/
theorem ev_rg (k : Nat) {c : Prop} [Decidable c] {r0 : α} {f : α → mm_R} (hs : ∀ n, mm_run XL xs (n + k) d y M pc lv st = if c then some (f r0) else none) (h : (if c then some r0 else none) = some q0) : Ev XL xs d y M pc lv st (f q0) := by
  by_cases hc : c
  · rw [if_pos hc] at h
    cases h
    exact ev_r k (fun n => by rw [hs, if_pos hc])
  · rw [if_neg hc] at h
    cases h
theorem ev_c (k : Nat) (hs : ∀ n, mm_run XL xs (n + k) (d + 1) y M pc lv st = (mm_run XL xs n d y' M1 0 la []).bind fun r => mm_run XL xs n (d + 1) y r.2 pc' lv' (r.1.toList ++ rest)) (hc : Ev XL xs d y' M1 0 la [] r) (hn : Ev XL xs (d + 1) y r.2 pc' lv' (r.1.toList ++ rest) q) : Ev XL xs (d + 1) y M pc lv st q := by
  obtain ⟨K1, hc⟩ := hc
  obtain ⟨K2, hn⟩ := hn
  refine ⟨K1 + K2 + k, fun n h => ?_⟩
  obtain ⟨j, rfl⟩ : ∃ j, n = j + k := ⟨n - k, by omega⟩
  rw [hs, hc j (by omega), Option.bind_some]
  exact hn j (by omega)
theorem ev_sub (hs : mn_sub lv lv') (h : Ev XL xs d y M pc lv st q) : Ev XL xs d y M pc lv' st q := by
  obtain ⟨K, h⟩ := h
  exact ⟨K, fun n hn => mn_run n d y q M pc lv lv' st hs (h n hn)⟩
def mn_all : mm_L → mm_L → Prop
  | [], _ => True
  | (i, v) :: l, l' => mm_lg l' i = some v ∧ mn_all l l'
theorem mn_of : ∀ {l l' : mm_L}, mn_nd l = true → mn_all l l' → mn_sub l l' := by
  intro l l' hn h
  refine ⟨hn, ?_⟩
  clear hn
  induction l with
  | nil => intro i v h; cases h
  | cons p l ih =>
    obtain ⟨j, w⟩ := p
    intro i v hv
    have hv : (bif Nat.beq j i then some w else mm_lg l i) = some v := hv
    cases hb : Nat.beq j i with
    | true =>
      rw [hb] at hv
      have hv : some w = some v := hv
      rw [← Nat.eq_of_beq_eq_true hb, ← hv]
      exact h.1
    | false =>
      rw [hb] at hv
      exact ih h.2 i v hv
/-! one instruction at a reference that is a variable -/
theorem ev_1 {en : mm_En} (he : mm_nth (mm_cd y) pc = some (some en)) (hx : ∀ (k : mm_M → Nat → mm_L → List Value → Option mm_R) (cal : Nat → List Value → (Option Value → mm_M → Option mm_R) → Option mm_R), mm_ex XL xs y en M pc lv st k cal = k M' pc' lv' st') (h : Ev XL xs d y M' pc' lv' st' q) : Ev XL xs d y M pc lv st q :=
  ev_s 1 (fun n => by
    show (match mm_nth (mm_cd y) pc with | some (some en) => _ | _ => none) = _
    rw [he]
    exact hx _ _) h
theorem ev_lt (h : (mm_kd a).1 < 99) : Nat.blt a 640 = true := Nat.ble_eq_true_of_le (sd_k640 h)
theorem ev_gf {m : mm_MM} {c w k : Nat} (he : mm_nth (mm_cd y) pc = some (some (.getfield i, ln, ci, k, v))) (hkd : (mm_kd a).1 = ci) (hk : (Nat.blt k (mm_N ci) && Nat.blt ci 99) = true) {x : Value} (hx : mm_gf (ev_M m c w) (mm_ty ci k) a k = x) (h : Ev XL xs d y (ev_M m c w) (pc + 3) lv (x :: st) q) : Ev XL xs d y (ev_M m c w) pc lv (.ref a :: st) q := by
  simp only [Bool.and_eq_true] at hk
  refine ev_1 he (fun k0 cal => ?_) h
  unfold mm_ex
  dsimp only
  rw [hkd, Nat.beq_refl, hk.1, ev_lt (by rw [hkd]; exact sd_blt hk.2), hx]
  rfl
theorem ev_pfi {m : mm_MM} {c w k : Nat} {x : Int32} (he : mm_nth (mm_cd y) pc = some (some (.putfield i, ln, ci, k, v))) (hkd : (mm_kd a).1 = ci) (hk : (Nat.blt k (mm_N ci) && Nat.blt ci 99) = true) (hf : (!(mm_T ci k).2.2.2 || (mm_in y && Nat.beq (mm_oc y) ci)) = true) (hty : mm_ty ci k = .int) (h : Ev XL xs d y (ev_M (wI m a k x) c w) (pc + 3) lv st q) : Ev XL xs d y (ev_M m c w) pc lv (.int x :: .ref a :: st) q := by
  simp only [Bool.and_eq_true] at hk
  refine ev_1 he (fun k0 cal => ?_) h
  unfold mm_ex
  dsimp only
  rw [hkd, Nat.beq_refl, hk.1, ev_lt (by rw [hkd]; exact sd_blt hk.2), hf, hty]
  rfl
theorem ev_pfz {m : mm_MM} {c w k : Nat} {x : Int32} (he : mm_nth (mm_cd y) pc = some (some (.putfield i, ln, ci, k, v))) (hkd : (mm_kd a).1 = ci) (hk : (Nat.blt k (mm_N ci) && Nat.blt ci 99) = true) (hf : (!(mm_T ci k).2.2.2 || (mm_in y && Nat.beq (mm_oc y) ci)) = true) (hty : mm_ty ci k = .boolean) (h0 : (if x = 0 ∨ x = 1 then A else none) = some q0) (h : A = some q0 → Ev XL xs d y (ev_M (wI m a k x) c w) (pc + 3) lv st q) : Ev XL xs d y (ev_M m c w) pc lv (.int x :: .ref a :: st) q := by
  simp only [Bool.and_eq_true] at hk
  obtain ⟨hx, h0⟩ := sd_ift h0
  refine ev_1 he (fun k0 cal => ?_) (h h0)
  unfold mm_ex
  dsimp only
  rw [hkd, Nat.beq_refl, hk.1, ev_lt (by rw [hkd]; exact sd_blt hk.2), hf, hty]
  exact if_pos hx
theorem ev_xb (h : (mm_kd a).1 < 99) : Nat.blt a mm_xb = true := Nat.ble_eq_true_of_le (Nat.lt_of_lt_of_le (sd_k640 h) (Nat.le_of_ble_eq_true rfl))
theorem ev_ia {m : mm_MM} {c w n : Nat} {j : Int32} (he : mm_nth (mm_cd y) pc = some (some (.iaload, ln, ci, i, v))) (hkd : (mm_kd a).1 = 20) (hsz : (mm_kd a).2 = n) (h0 : (if j < 0 ∨ n ≤ j.toNatClampNeg then none else A) = some q0) (h : ¬ (j < 0 ∨ n ≤ j.toNatClampNeg) → A = some q0 → Ev XL xs d y (ev_M m c w) (pc + 1) lv (.int (m.1 a j.toNatClampNeg) :: st) q) : Ev XL xs d y (ev_M m c w) pc lv (.int j :: .ref a :: st) q := by
  obtain ⟨hx, h0⟩ := sd_ifn h0
  refine ev_1 he (fun k0 cal => ?_) (h hx h0)
  unfold mm_ex
  dsimp only
  rw [ev_xb (by rw [hkd]; decide), hkd, hsz, ev_lt (by rw [hkd]; decide), if_neg hx]
  rfl
theorem ev_is {m : mm_MM} {c w n : Nat} {j x : Int32} (he : mm_nth (mm_cd y) pc = some (some (.iastore, ln, ci, i, v))) (hkd : (mm_kd a).1 = 20) (hsz : (mm_kd a).2 = n) (h0 : (if j < 0 ∨ n ≤ j.toNatClampNeg then none else A) = some q0) (h : ¬ (j < 0 ∨ n ≤ j.toNatClampNeg) → A = some q0 → Ev XL xs d y (ev_M (wI m a j.toNatClampNeg x) c w) (pc + 1) lv st q) : Ev XL xs d y (ev_M m c w) pc lv (.int x :: .int j :: .ref a :: st) q := by
  obtain ⟨hx, h0⟩ := sd_ifn h0
  refine ev_1 he (fun k0 cal => ?_) (h hx h0)
  unfold mm_ex
  dsimp only
  rw [hkd, hsz, ev_lt (by rw [hkd]; decide), if_neg hx]
  rfl
theorem ev_al {m : mm_MM} {c w n : Nat} (he : mm_nth (mm_cd y) pc = some (some (.arraylength, ln, ci, i, v))) (hkd : 20 ≤ (mm_kd a).1 ∧ (mm_kd a).1 < 60) (hsz : (mm_kd a).2 = n) (h : Ev XL xs d y (ev_M m c w) (pc + 1) lv (.int (Int32.ofNat n) :: st) q) : Ev XL xs d y (ev_M m c w) pc lv (.ref a :: st) q := by
  refine ev_1 he (fun k0 cal => ?_) h
  have h1 : Nat.blt (mm_kd a).1 20 = false := by
    cases hb : Nat.blt (mm_kd a).1 20 with
    | false => rfl
    | true => have := sd_blt hb; omega
  have h2 : Nat.blt (mm_kd a).1 60 = true := Nat.ble_eq_true_of_le hkd.2
  unfold mm_ex
  dsimp only
  rw [ev_xb (by omega), h1, h2, ev_lt (by omega), hsz]
  rfl
/-- an element that is a reference: never null, by the lasting references -/
theorem ev_aa {m : mm_MM} {c w n : Nat} {j : Int32} {b : Nat} (he : mm_nth (mm_cd y) pc = some (some (.aaload, ln, ci, i, v))) (hkd : 30 ≤ (mm_kd a).1 ∧ (mm_kd a).1 < 60) (hsz : (mm_kd a).2 = n) (h0 : (if j < 0 ∨ n ≤ j.toNatClampNeg then none else A) = some q0) (hb : j.toNatClampNeg < n → mm_tr a j.toNatClampNeg = some b) (h : ¬ (j < 0 ∨ n ≤ j.toNatClampNeg) → A = some q0 → Ev XL xs d y (ev_M m c w) (pc + 1) lv (.ref b :: st) q) : Ev XL xs d y (ev_M m c w) pc lv (.int j :: .ref a :: st) q := by
  obtain ⟨hx, h0⟩ := sd_ifn h0
  refine ev_1 he (fun k0 cal => ?_) (h hx h0)
  have h1 : Nat.blt (mm_kd a).1 30 = false := by
    cases hb : Nat.blt (mm_kd a).1 30 with
    | false => rfl
    | true => have := sd_blt hb; omega
  have h2 : Nat.blt (mm_kd a).1 60 = true := Nat.ble_eq_true_of_le hkd.2
  have h3 := hb (Nat.not_le.mp fun z => hx (Or.inr z))
  unfold mm_ex
  dsimp only
  rw [h1, h2, ev_lt (by omega), hsz, if_neg hx, h3]
  rfl
theorem ev_cv {m : mm_MM} {c w k : Nat} (he : mm_nth (mm_cd y) pc = some (some (.invokevirtual i, ln, y', k, v))) (hdr : st.drop k = .ref a :: rest) (hkd : (mm_kd a).1 = mm_oc y') (hk : (Nat.blt (mm_oc y') 99 && Nat.ble (rest.map fun v => v.category).sum 8 && Nat.ble (((Value.ref a) :: (st.take k).reverse).map fun v => v.category).sum (mm_nl y') && !Nat.beq y' 310) = true) (hc : Ev XL xs d y' (ev_M m c w) 0 (lv_args 0 (.ref a :: (st.take k).reverse)) [] r) (hn : Ev XL xs (d + 1) y r.2 (pc + 3) lv (r.1.toList ++ rest) q) : Ev XL xs (d + 1) y (ev_M m c w) pc lv st q := by
  simp only [Bool.and_eq_true, Bool.not_eq_true'] at hk
  obtain ⟨⟨⟨k1, k2⟩, k3⟩, k4⟩ := hk
  refine ev_c 1 (fun n => ?_) hc hn
  show (match mm_nth (mm_cd y) pc with | some (some en) => _ | _ => none) = _
  rw [he]
  show mm_ex XL xs y _ _ _ _ _ _ _ = _
  unfold mm_ex
  dsimp only
  rw [hdr]
  dsimp only
  rw [hkd, Nat.beq_refl, ev_lt (by rw [hkd]; exact sd_blt k1), k2]
  dsimp only [cond_true]
  rw [k3, k4]
  rfl
end EV
/-! the lasting references -/
theorem tr_S1 : ∀ s, s < 640 → (mm_kd s).1 = 7 → mm_tr s 0 = some (s + 1) ∧ mm_tr s 1 = some (s + 2) ∧ mm_tr s 2 = some (s + 3) ∧ mm_tr s 3 = some (s + 4) := by decide +kernel
theorem tr_S2 : ∀ s, s < 640 → (mm_kd s).1 = 7 → mm_kd (s + 1) = (39, 8) ∧ mm_kd (s + 2) = (20, 60) ∧ mm_kd (s + 3) = (20, 60) ∧ mm_kd (s + 4) = (20, 60) := by decide +kernel
theorem tr_S3 : ∀ s, s < 640 → (mm_kd s).1 = 7 → ∀ j, j < 8 → mm_tr (s + 1) j = some (s + 5 + j) ∧ mm_kd (s + 5 + j) = (9, 6) := by decide +kernel
theorem tr_L : ∀ s, s < 640 → (mm_kd s).1 = 1 → mm_tr s 0 = some (s + 1) ∧ mm_tr s 1 = some (s + 2) ∧ mm_kd (s + 1) = (20, 4) ∧ mm_kd (s + 2) = (39, 8) ∧ ∀ j, j < 8 → mm_tr (s + 2) j = some (s + 3 + j) ∧ mm_kd (s + 3 + j) = (9, 6) := by decide +kernel
theorem tr_W : ∀ s, s < 640 → (mm_kd s).1 = 2 → mm_tr s 0 = some (s + 1) ∧ mm_tr s 1 = some (s + 2) ∧ mm_kd (s + 1) = (20, 240) ∧ mm_kd (s + 2) = (20, 64) := by decide +kernel
theorem tr_A : ∀ j, j < 4 → mm_tr 28 j = some (594 + 3 * j) ∧ mm_kd (594 + 3 * j) = (2, 4) := by decide +kernel
theorem tr_P : ∀ j, j < 40 → mm_tr 56 j = some (57 + 13 * j) ∧ mm_kd (57 + 13 * j) = (7, 8) := by decide +kernel
