theorem nn_ll {z : Nat} (K : Nat) (h : z < K) (hK : K < 2 ^ 31) : Int32.ofNat z < OfNat.ofNat K := (nn_lt (by omega) hK).mpr h
/-! THE PAST: a list of views, the oldest first, forty at most -/
def kp (V : Vw) (P : List Vw) : List Vw := if P.length < 40 then P ++ [V] else P.tail ++ [V]
theorem kp_len (V : Vw) {P : List Vw} (h : P.length ≤ 40) : (kp V P).length ≤ 40 := by
  unfold kp
  split
  · rw [List.length_append, List.length_singleton]; omega
  · rw [List.length_append, List.length_tail, List.length_singleton]; omega
def PC (m : mm_MM) (P : List Vw) : Prop := ∃ F, m.1 55 1 = Int32.ofNat F ∧ F < 40 ∧ m.1 55 2 = Int32.ofNat P.length ∧ P.length ≤ 40 ∧ ∀ i v, P[i]? = some v → cV m (stA ((F + i) % 40)) = v ∧ cOK m (stA ((F + i) % 40))
def PR (m : mm_MM) (P : List Vw) : Prop := m.1 606 34 = Int32.ofNat P.length ∧ P.length ≤ 40 ∧ ∀ i v, P[i]? = some v → rV m 626 (231 * i) = v ∧ rOK m 626 (231 * i)
def WP : Nat → Nat → Bool := fun a _ => a == 55 || (Nat.ble 57 a && Nat.blt a 577)
theorem WP_t {a k : Nat} (h : a = 55 ∨ (57 ≤ a ∧ a < 577)) : WP a k = true := by
  simp only [WP, Nat.ble_eq, Nat.blt_eq, Bool.and_eq_true, Bool.or_eq_true, beq_iff_eq]; exact h
theorem WP_f {a k : Nat} (h : ¬ (a = 55 ∨ (57 ≤ a ∧ a < 577))) : WP a k = false := by
  cases hb : WP a k with
  | false => rfl
  | true => simp only [WP, Nat.ble_eq, Nat.blt_eq, Bool.and_eq_true, Bool.or_eq_true, beq_iff_eq] at hb; exact absurd hb h
theorem WP_St {i : Nat} (h : i < 40) : ∀ a k, WP a k = false → WSt (stA i) a k = false := by
  intro a k hw
  refine WSt_f ?_ k
  cases Nat.lt_or_ge a (stA i) with
  | inl h1 => exact Or.inl h1
  | inr h1 =>
    cases Nat.lt_or_ge a (stA i + 13) with
    | inr h2 => exact Or.inr h2
    | inl h2 =>
      unfold stA at h1 h2
      rw [WP_t (Or.inr ⟨by omega, by omega⟩)] at hw; cases hw
theorem stA_ne {i j : Nat} (h : ¬ i = j) : stA i + 13 ≤ stA j ∨ stA j + 13 ≤ stA i := by unfold stA; omega
theorem cV_st {m m' : mm_MM} {i j : Nat} (hf : fr (WSt (stA i)) m m') (h : ¬ i = j) : cV m' (stA j) = cV m (stA j) := cV_fr hf (fun a k h1 h2 => WSt_f (by have := stA_ne h; omega) k) (fun k _ _ => WSt_f (by have := stA_ne h; omega) k)
theorem cOK_st {m m' : mm_MM} {i j : Nat} (hf : fr (WSt (stA i)) m m') (h : ¬ i = j) (ho : cOK m (stA j)) : cOK m' (stA j) := cOK_fr hf (fun a k h1 h2 => WSt_f (by have := stA_ne h; omega) k) (fun k _ _ => WSt_f (by have := stA_ne h; omega) k) ho
/-- a write that no stand shows -/
theorem cV_w {m : mm_MM} {a k s : Nat} {v : Int32} (h : a < s) : cV (wI m a k v) s = cV m s := cV_congr (fun b hb k hk => wI_ne (by omega)) (fun k _ _ => wI_ne (by omega)) (fun w hw j hj => wI_ne (by omega))
theorem cOK_w {m : mm_MM} {a k s : Nat} {v : Int32} (h : a < s) (ho : cOK m s) : cOK (wI m a k v) s := cOK_congr (fun b hb k hk => wI_ne (by omega)) (fun k _ _ => wI_ne (by omega)) ho
theorem c_keep {m : mm_MM} {P : List Vw} (hok : cOK m 29) (hP : PC m P) : ∃ m', fX3_keep m 29 = some m' ∧ PC m' (kp (cV m 29) P) ∧ fr WP m m' := by
  obtain ⟨F, h1, hF, h2, hn, hv⟩ := hP
  generalize hi : (F + P.length) % 40 = i
  have hi40 : i < 40 := by rw [← hi]; exact Nat.mod_lt _ (by decide)
  have hat := c_at m h1 hF (i := P.length) (by omega)
  rw [hi] at hat
  obtain ⟨m1, e1, g1, o1, f1⟩ := c_standCopy m (t := stA i) (u := 29) (stA_kd hi40) rfl (by unfold stA; omega) hok
  have h55 : ∀ k, m1.1 55 k = m.1 55 k := fun k => f1.1 55 k (WSt_f (by unfold stA; omega) k)
  have hs55 : ∀ j, 55 < stA j := fun j => by unfold stA; omega
  have hkeep : fX3_keep m 29 = fX3_keep_c18 m1 := by
    unfold fX3_keep
    rw [h2, hat]
    simp only [Option.bind_some, if_pos (stA_kd hi40), e1]
  have fP : fr WP m m1 := fr_mono (WP_St hi40) f1
  by_cases hlt : P.length < 40
  · refine ⟨wI m1 55 2 (Int32.ofNat (P.length + 1)), ?_, ?_, fr_wI fP (WP_t (Or.inl rfl))⟩
    · rw [hkeep, fX3_keep_c18, h55, h2, if_pos (nn_ll 40 hlt (by decide)), nn_s]
      rfl
    · refine ⟨F, by rw [wI_nk (by decide), h55, h1], hF, by rw [wI_eq, kp, if_pos hlt, List.length_append, List.length_singleton], kp_len _ hn, fun j v hj => ?_⟩
      rw [cV_w (hs55 _)]
      suffices H : cV m1 (stA ((F + j) % 40)) = v ∧ cOK m1 (stA ((F + j) % 40)) from ⟨H.1, cOK_w (hs55 _) H.2⟩
      rw [kp, if_pos hlt] at hj
      by_cases hjl : j < P.length
      · rw [List.getElem?_append_left hjl] at hj
        have hne : ¬ i = (F + j) % 40 := by omega
        rw [cV_st f1 hne]
        exact ⟨(hv j v hj).1, cOK_st f1 hne (hv j v hj).2⟩
      · have hl : j < (P ++ [cV m 29]).length := (List.getElem?_eq_some_iff.mp hj).1
        rw [List.length_append, List.length_singleton] at hl
        obtain rfl : j = P.length := by omega
        rw [List.getElem?_append_right (Nat.le_refl _), Nat.sub_self] at hj
        cases hj
        rw [hi]; exact ⟨g1, o1⟩
  · have h40 : P.length = 40 := by omega
    have eF : i = F := by rw [← hi, h40]; omega
    subst eF
    have e55 : m1.1 55 1 + 1 - (m1.1 55 1 + 1) / 40 * 40 = Int32.ofNat ((i + 1) % 40) := by
      rw [h55, h1, nn_s]
      exact rem_n (k := 40) (by omega) (by decide)
    refine ⟨wI m1 55 1 (Int32.ofNat ((i + 1) % 40)), ?_, ?_, fr_wI fP (WP_t (Or.inl rfl))⟩
    · rw [hkeep, fX3_keep_c18, h55, h2, if_neg (by rw [h40]; decide), e55]
      rfl
    · have ht : P.tail.length = 39 := by rw [List.length_tail]; omega
      refine ⟨(i + 1) % 40, wI_eq, Nat.mod_lt _ (by decide), by rw [wI_nk (by decide), h55, h2, kp, if_neg hlt, List.length_append, ht, h40]; rfl, kp_len _ hn, fun j v hj => ?_⟩
      rw [cV_w (hs55 _)]
      suffices H : cV m1 (stA (((i + 1) % 40 + j) % 40)) = v ∧ cOK m1 (stA (((i + 1) % 40 + j) % 40)) from ⟨H.1, cOK_w (hs55 _) H.2⟩
      rw [kp, if_neg hlt] at hj
      have hl : j < (P.tail ++ [cV m 29]).length := (List.getElem?_eq_some_iff.mp hj).1
      rw [List.length_append, List.length_singleton, ht] at hl
      by_cases hjl : j < 39
      · rw [List.getElem?_append_left (by omega), List.getElem?_tail] at hj
        have hq := hv (j + 1) v hj
        have hne : ¬ i = (i + (j + 1)) % 40 := by omega
        rw [show ((i + 1) % 40 + j) % 40 = (i + (j + 1)) % 40 by omega, cV_st f1 hne]
        exact ⟨hq.1, cOK_st f1 hne hq.2⟩
      · obtain rfl : j = 39 := by omega
        rw [List.getElem?_append_right (by omega), ht] at hj
        cases hj
        rw [show ((i + 1) % 40 + 39) % 40 = i by omega]
        exact ⟨g1, o1⟩
theorem c_restore0 {m : mm_MM} (hP : PC m []) : fX3_restore m 29 = some (0, m) := by
  obtain ⟨F, h1, hF, h2, hn, hv⟩ := hP
  unfold fX3_restore
  rw [h2, if_pos (by decide)]
  rfl
def WN : Nat → Nat → Bool := fun a k => WSt 29 a k || a == 55
theorem c_restore {m : mm_MM} {P : List Vw} {V : Vw} (hP : PC m (P ++ [V])) : ∃ m', fX3_restore m 29 = some (1, m') ∧ PC m' P ∧ cV m' 29 = V ∧ cOK m' 29 ∧ fr WN m m' := by
  obtain ⟨F, h1, hF, h2, hn, hv⟩ := hP
  rw [List.length_append, List.length_singleton] at h2 hn
  have hl := hv P.length V (by rw [List.getElem?_append_right (Nat.le_refl _), Nat.sub_self]; rfl)
  generalize hi : (F + P.length) % 40 = i at hl
  have hi40 : i < 40 := by rw [← hi]; exact Nat.mod_lt _ (by decide)
  have hat := c_at m h1 hF (i := P.length) (by omega)
  rw [hi] at hat
  obtain ⟨m1, e1, g1, o1, f1⟩ := c_standCopy m (t := 29) (u := stA i) rfl (stA_kd hi40) (by unfold stA; omega) hl.2
  have h55 : ∀ k, m1.1 55 k = m.1 55 k := fun k => f1.1 55 k (WSt_f (by omega) k)
  have hs : ∀ j, 29 + 13 ≤ stA j := fun j => by unfold stA; omega
  have hs55 : ∀ j, 55 < stA j := fun j => by unfold stA; omega
  refine ⟨wI m1 55 2 (Int32.ofNat P.length), ?_, ?_, ?_, ?_, ?_⟩
  · unfold fX3_restore
    rw [h2, if_neg (by rw [show (0 : Int32) = Int32.ofNat 0 from rfl, nn_le (by omega) (by decide)]; omega), nn_p, hat]
    simp only [Option.bind_some, if_pos (stA_kd hi40), fX3_restore_c21, e1, h55, h2, nn_p]
  · refine ⟨F, by rw [wI_nk (by decide), h55, h1], hF, wI_eq, by omega, fun j v hj => ?_⟩
    rw [cV_w (hs55 _)]
    have hjl := (List.getElem?_eq_some_iff.mp hj).1
    have := hv j v (by rw [List.getElem?_append_left hjl]; exact hj)
    have hh := hs ((F + j) % 40)
    refine ⟨(cV_fr f1 (fun a k h1 h2 => WSt_f (by omega) k) (fun k _ _ => WSt_f (by omega) k)).trans this.1, cOK_w (hs55 _) (cOK_fr f1 (fun a k h1 h2 => WSt_f (by omega) k) (fun k _ _ => WSt_f (by omega) k) this.2)⟩
  · rw [cV_congr (m := m1) (s := 29) (s' := 29) (fun b hb k hk => wI_ne (by omega)) (fun k _ _ => wI_ne (by omega)) (fun w hw j hj => wI_ne (by omega)), g1, hl.1]
  · exact cOK_congr (m := m1) (s := 29) (s' := 29) (fun b hb k hk => wI_ne (by omega)) (fun k _ _ => wI_ne (by omega)) o1
  · exact fr_wI (fr_mono (fun a k h => by simp only [WN, Bool.or_eq_false_iff] at h; exact h.1) f1) (by simp [WN])
/-! the reference -/
def WK : Nat → Nat → Bool := fun a k => a == 626 || (a == 606 && k == 34)
theorem r_keep52 {m : mm_MM} {n : Nat} (h : m.1 606 34 = Int32.ofNat n) (hn : n < 40) : fX11_keep_c52 m = some (wI (cpM m 626 (231 * n) 231 623 0) 606 34 (Int32.ofNat (n + 1))) := by
  unfold fX11_keep_c52
  have := cp_l (F := fX11_keep_c54) (fin := fun m => some (wI m 606 34 (m.1 606 34 + 1))) (I := fun m => m.1 606 34 = Int32.ofNat n) (A := 623) (B := 626) (o := 231 * n) (p := 0) (c := 0) (N := 231) (Or.inl (by decide)) (fun m j v h => by rw [wI_ne (by decide)]; exact h) ?_ ?_ h fu (by unfold fu; omega)
  · rw [show (0 : Int32) = Int32.ofNat 0 from rfl, this, cpM_ne (by decide), h, nn_s]
  · intro k m z hz hI
    rw [fX11_keep_c54]
    dsimp only
    rw [if_pos (nn_ll 231 (by omega) (by decide)), nn_go (by omega) (by omega), hI, show (231 : Int32) = Int32.ofNat 231 from rfl, ← Int32.ofNat_mul, ← Int32.ofNat_add, nn_go (by omega) (by omega), nn_tn (by omega), nn_tn (by omega), nn_s, Nat.zero_add]
  · intro k m hI
    rw [fX11_keep_c54]
    dsimp only
    rw [if_neg (by decide)]
theorem r_keep {m : mm_MM} {P : List Vw} (hok : rOK m 623 0) (hP : PR m P) : ∃ m', fX11_keep m = some m' ∧ PR m' (kp (rV m 623 0) P) ∧ fr WK m m' := by
  obtain ⟨h1, hn, hv⟩ := hP
  by_cases hlt : P.length < 40
  · refine ⟨wI (cpM m 626 (231 * P.length) 231 623 0) 606 34 (Int32.ofNat (P.length + 1)), ?_, ?_, ?_⟩
    · unfold fX11_keep
      rw [if_neg (fun z => by rw [h1] at z; have := nn_inj (k := 40) (by omega) (by decide) z; omega), r_keep52 h1 hlt]
    · refine ⟨by rw [wI_eq, kp, if_pos hlt, List.length_append, List.length_singleton], kp_len _ hn, fun j v hj => ?_⟩
      rw [kp, if_pos hlt] at hj
      have hl : j < (P ++ [rV m 623 0]).length := (List.getElem?_eq_some_iff.mp hj).1
      rw [List.length_append, List.length_singleton] at hl
      by_cases hjl : j < P.length
      · rw [List.getElem?_append_left hjl] at hj
        have hq := hv j v hj
        have hc : ∀ k, k < 231 → (wI (cpM m 626 (231 * P.length) 231 623 0) 606 34 (Int32.ofNat (P.length + 1))).1 626 (231 * j + k) = m.1 626 (231 * j + k) := fun k hk => by
          rw [wI_ne (by decide), cpM_out (by omega)]
        exact ⟨(rV_congr hc hq.2).trans hq.1, rOK_congr (hc 50 (by decide)) hq.2⟩
      · obtain rfl : j = P.length := by omega
        rw [List.getElem?_append_right (Nat.le_refl _), Nat.sub_self] at hj
        cases hj
        have hc : ∀ k, k < 231 → (wI (cpM m 626 (231 * P.length) 231 623 0) 606 34 (Int32.ofNat (P.length + 1))).1 626 (231 * P.length + k) = m.1 623 (0 + k) := fun k hk => by
          rw [wI_ne (by decide), cpM_in hk]
        exact ⟨rV_congr hc hok, rOK_congr (hc 50 (by decide)) hok⟩
    · exact fr_wI (fr_cpM (fr_refl _ _) (fun _ _ _ => rfl)) rfl
  · have h40 : P.length = 40 := by omega
    have e13 := cp_l (F := fX11_keep_c13) (fin := fun m => fX11_keep_c52 (wI m 606 34 (m.1 606 34 - 1))) (I := fun _ => True) (A := 626) (B := 626) (o := 0) (p := 231) (c := 231) (N := 9009) (Or.inr (by decide)) (fun _ _ _ _ => trivial) (fun k m z hz _ => by
      rw [fX11_keep_c13]
      dsimp only
      have es : Int32.ofNat (231 + z) - 231 = Int32.ofNat (0 + z) := by
        rw [show (231 : Int32) = Int32.ofNat 231 from rfl, ← Int32.ofNat_sub _ _ (Nat.le_add_right _ _)]
        exact congrArg Int32.ofNat (by rw [Nat.add_sub_cancel_left, Nat.zero_add])
      rw [if_pos (nn_ll 9240 (by omega) (by decide)), nn_go (by omega) (by omega), es, nn_go (by omega) (by omega), nn_tn (by omega), nn_tn (by omega), nn_s]) (fun k m _ => by
      rw [fX11_keep_c13]
      dsimp only
      rw [if_neg (by decide)]) (m := m) trivial fu (by unfold fu; omega)
    generalize hm1 : cpM m 626 0 9009 626 231 = m1 at e13
    have h34 : m1.1 606 34 = m.1 606 34 := by rw [← hm1, cpM_ne (by decide)]
    rw [h34, h1, h40, show Int32.ofNat 40 = Int32.ofNat (39 + 1) from rfl, nn_p] at e13
    have e52 := r_keep52 (m := wI m1 606 34 (Int32.ofNat 39)) (n := 39) wI_eq (by decide)
    have hk : fX11_keep m = some (wI (cpM (wI m1 606 34 (Int32.ofNat 39)) 626 (231 * 39) 231 623 0) 606 34 (Int32.ofNat (39 + 1))) := by
      unfold fX11_keep
      rw [if_pos (by rw [h1, h40]; rfl), show (231 : Int32) = Int32.ofNat 231 from rfl, e13, e52]
    refine ⟨_, hk, ?_, ?_⟩
    · have ht : P.tail.length = 39 := by rw [List.length_tail]; omega
      refine ⟨by rw [wI_eq, kp, if_neg hlt, List.length_append, ht]; rfl, kp_len _ hn, fun j v hj => ?_⟩
      rw [kp, if_neg hlt] at hj
      have hl : j < (P.tail ++ [rV m 623 0]).length := (List.getElem?_eq_some_iff.mp hj).1
      rw [List.length_append, List.length_singleton, ht] at hl
      by_cases hjl : j < 39
      · rw [List.getElem?_append_left (by omega), List.getElem?_tail] at hj
        have hq := hv (j + 1) v hj
        have hc : ∀ k, k < 231 → (wI (cpM (wI m1 606 34 (Int32.ofNat 39)) 626 (231 * 39) 231 623 0) 606 34 (Int32.ofNat (39 + 1))).1 626 (231 * j + k) = m.1 626 (231 * (j + 1) + k) := fun k hk => by
          rw [wI_ne (by decide), cpM_out (by omega), wI_ne (by decide), ← hm1]
          have z := cpM_in (m := m) (B := 626) (o := 0) (N := 9009) (A := 626) (p := 231) (j := 231 * j + k) (by omega)
          rw [Nat.zero_add] at z
          exact z.trans (congrArg (m.1 626) (by omega))
        exact ⟨(rV_congr hc hq.2).trans hq.1, rOK_congr (hc 50 (by decide)) hq.2⟩
      · obtain rfl : j = 39 := by omega
        rw [List.getElem?_append_right (by omega), ht] at hj
        cases hj
        have hc : ∀ k, k < 231 → (wI (cpM (wI m1 606 34 (Int32.ofNat 39)) 626 (231 * 39) 231 623 0) 606 34 (Int32.ofNat (39 + 1))).1 626 (231 * 39 + k) = m.1 623 (0 + k) := fun k hk => by
          rw [wI_ne (by decide), cpM_in hk, wI_ne (by decide), ← hm1, cpM_ne (by decide)]
        exact ⟨rV_congr hc hok, rOK_congr (hc 50 (by decide)) hok⟩
    · refine fr_wI (fr_cpM (fr_wI ?_ rfl) (fun _ _ _ => rfl)) rfl
      rw [← hm1]
      exact fr_cpM (fr_refl _ _) (fun _ _ _ => rfl)
theorem r_undo0 {m : mm_MM} (hP : PR m []) : fX11_undo m = some (-1, m) := by
  unfold fX11_undo
  rw [hP.1, if_pos (show Int32.ofNat ([] : List Vw).length = 0 from rfl)]
def WU : Nat → Nat → Bool := fun a k => a == 623 || (a == 606 && k == 34)
theorem r_undo {m : mm_MM} {P : List Vw} {V : Vw} (hP : PR m (P ++ [V])) : ∃ m', fX11_undo m = some (Int32.ofNat P.length, m') ∧ PR m' P ∧ rV m' 623 0 = V ∧ rOK m' 623 0 ∧ fr WU m m' := by
  obtain ⟨h1, hn, hv⟩ := hP
  rw [List.length_append, List.length_singleton] at h1 hn
  have hq := hv P.length V (by rw [List.getElem?_append_right (Nat.le_refl _), Nat.sub_self]; rfl)
  have e21 := cp_l (F := fX11_undo_c21) (fin := fun m => some (m.1 606 34, m)) (I := fun m => m.1 606 34 = Int32.ofNat P.length) (A := 626) (B := 623) (o := 0) (p := 231 * P.length) (c := 0) (N := 231) (Or.inl (by decide)) (fun m j v h => by rw [wI_ne (by decide)]; exact h) (fun k m z hz hI => by
    rw [fX11_undo_c21]
    dsimp only
    rw [if_pos (nn_ll 231 (by omega) (by decide)), hI, show (231 : Int32) = Int32.ofNat 231 from rfl, ← Int32.ofNat_mul, ← Int32.ofNat_add, nn_go (by omega) (by omega), nn_go (by omega) (by omega), nn_tn (by omega), nn_tn (by omega), nn_s, Nat.zero_add]) (fun k m hI => by
    rw [fX11_undo_c21]
    dsimp only
    rw [if_neg (by decide)]) (m := wI m 606 34 (Int32.ofNat P.length)) wI_eq fu (by unfold fu; omega)
  refine ⟨cpM (wI m 606 34 (Int32.ofNat P.length)) 623 0 231 626 (231 * P.length), ?_, ?_, ?_, ?_, fr_cpM (fr_wI (fr_refl _ _) rfl) (fun _ _ _ => rfl)⟩
  · unfold fX11_undo
    rw [h1, if_neg (fun z => by have := nn_inj (k := 0) (by omega) (by decide) z; omega), nn_p, show (0 : Int32) = Int32.ofNat 0 from rfl, e21, cpM_ne (by decide), wI_eq]
  · refine ⟨by rw [cpM_ne (by decide), wI_eq], by omega, fun j v hj => ?_⟩
    have hjl := (List.getElem?_eq_some_iff.mp hj).1
    have := hv j v (by rw [List.getElem?_append_left hjl]; exact hj)
    have hc : ∀ k, k < 231 → (cpM (wI m 606 34 (Int32.ofNat P.length)) 623 0 231 626 (231 * P.length)).1 626 (231 * j + k) = m.1 626 (231 * j + k) := fun k _ => by rw [cpM_ne (by decide), wI_ne (by decide)]
    exact ⟨(rV_congr hc this.2).trans this.1, rOK_congr (hc 50 (by decide)) this.2⟩
  · have hc : ∀ k, k < 231 → (cpM (wI m 606 34 (Int32.ofNat P.length)) 623 0 231 626 (231 * P.length)).1 623 (0 + k) = m.1 626 (231 * P.length + k) := fun k hk => by rw [cpM_in hk, wI_ne (by decide)]
    exact (rV_congr hc hq.2).trans hq.1
  · have hc : ∀ k, k < 231 → (cpM (wI m 606 34 (Int32.ofNat P.length)) 623 0 231 626 (231 * P.length)).1 623 (0 + k) = m.1 626 (231 * P.length + k) := fun k hk => by rw [cpM_in hk, wI_ne (by decide)]
    exact rOK_congr (hc 50 (by decide)) hq.2
