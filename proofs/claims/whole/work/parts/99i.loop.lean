/-! THE LAW'S LOOP, to its end -/
section LPE
variable {XL : Nat} {xs : Nat → Int32} {m : mm_MM} {x : Int32}
theorem and63 (y : Int32) : ∃ j, j < 64 ∧ y &&& 63 = Int32.ofNat j := by
  refine ⟨(y &&& 63).toBitVec.toNat, ?_, ?_⟩
  · rw [Int32.toBitVec_and, BitVec.toNat_and]
    have : y.toBitVec.toNat &&& (63 : Int32).toBitVec.toNat ≤ 63 := Nat.and_le_right
    omega
  · refine Int32.toBitVec_inj.mp ?_
    show _ = BitVec.ofNat 32 _
    rw [BitVec.ofNat_toNat, BitVec.setWidth_eq]
theorem of_add (i k : Nat) : Int32.ofNat i + Int32.ofNat k = Int32.ofNat (i + k) := (Int32.ofNat_add i k).symm
set_option maxRecDepth 20000 in
theorem loop_l (hXL : XL < 2 ^ 31) : ∀ (N i : Nat) (m : mm_MM), XL - i < N → i ≤ XL → Inv m → ∃ m' de dw, Inv m' ∧ dw ≤ 6 * de ∧ 6 * de + i ≤ XL ∧ ∀ (d c w : Nat), Ev XL xs (d + 101) 311 (ev_M m c w) 23 (lvX (Int32.ofNat i)) [] (some (.int 1), ev_M m' (c + de) (w + dw)) := by
  intro N
  induction N with
  | zero => intro i m h; omega
  | succ N ih =>
    intro i m hN hi hI
    have hs : ∀ d c w n, mm_run XL xs (n + 6) (d + 101) 311 (ev_M m c w) 23 (lvX (Int32.ofNat i)) [] = if Int32.ofNat i ≤ Int32.ofNat XL - 6 then mm_run XL xs n (d + 101) 311 (ev_M m c w) 33 (lvX (Int32.ofNat i)) [] else mm_run XL xs n (d + 101) 311 (ev_M m c w) 1601 (lvX (Int32.ofNat i)) [] := fun d c w n => rfl
    by_cases h6 : i + 6 ≤ XL
    · have hle : Int32.ofNat i ≤ Int32.ofNat XL - 6 := by
        obtain ⟨k, rfl⟩ : ∃ k, XL = k + 6 := ⟨XL - 6, by omega⟩
        have e : Int32.ofNat (k + 6) - 6 = Int32.ofNat k := by
          rw [Int32.ofNat_add]
          show (Int32.ofNat k + 6) - 6 = _
          grind
        rw [e, nn_le (by omega) (by omega)]; omega
      have rd : ∀ k, k < 6 → ¬ (Int32.ofNat i + Int32.ofNat k < 0 ∨ XL ≤ (Int32.ofNat i + Int32.ofNat k).toNatClampNeg) := fun k hk z => by
        rw [of_add, nn_tn (by omega)] at z
        exact z.elim (nn_n0 (by omega)) (fun z => by omega)
      have rd0 : ¬ (Int32.ofNat i < 0 ∨ XL ≤ (Int32.ofNat i).toNatClampNeg) := fun z => by
        rw [nn_tn (by omega)] at z
        exact z.elim (nn_n0 (by omega)) (fun z => by omega)
      obtain ⟨j, hj, ev⟩ := and63 (xs (Int32.ofNat i).toNatClampNeg)
      obtain ⟨m1, dc, dw, hI1, w1, w2, L⟩ := sv_all (XL := XL) (xs := xs) (x := Int32.ofNat i) hI (rd 1 (by decide)) (rd 2 (by decide)) (rd 3 (by decide)) (rd 4 (by decide)) (rd 5 (by decide)) j hj
      obtain ⟨m2, de, dw2, hI2, u1, u2, R⟩ := ih (i + 6) m1 (by omega) h6 hI1
      refine ⟨m2, dc + de, dw + dw2, hI2, by omega, by omega, fun d c w => ?_⟩
      refine ev_s 6 (fun n => (hs d c w n).trans (if_pos hle)) ?_
      refine ev_s 5 (M' := ev_M m c w) (pc' := 40) (lv' := lvX (Int32.ofNat i)) (st' := [.int (Int32.ofNat j)]) (fun n => (show mm_run XL xs (n + 5) (d + 101) 311 (ev_M m c w) 33 (lvX (Int32.ofNat i)) [] = if Int32.ofNat i < 0 ∨ XL ≤ (Int32.ofNat i).toNatClampNeg then none else mm_run XL xs n (d + 101) 311 (ev_M m c w) 40 (lvX (Int32.ofNat i)) [.int (xs (Int32.ofNat i).toNatClampNeg &&& 63)] from rfl).trans (by rw [if_neg rd0, ev])) ?_
      refine L d c w _ ?_
      have R' := R d (c + dc) (w + dw)
      rw [Nat.add_assoc, Nat.add_assoc] at R'
      refine ev_s 2 (M' := ev_M m1 (c + dc) (w + dw)) (pc' := 23) (lv' := lvX (Int32.ofNat (i + 6))) (st' := []) (fun n => (show mm_run XL xs (n + 2) (d + 101) 311 (ev_M m1 (c + dc) (w + dw)) 1595 (lvX (Int32.ofNat i)) [] = mm_run XL xs n (d + 101) 311 (ev_M m1 (c + dc) (w + dw)) 23 (lvX (Int32.ofNat i + 6)) [] from rfl).trans (by rw [← of_add i 6]; rfl)) R'
    · have hle : ¬ Int32.ofNat i ≤ Int32.ofNat XL - 6 := by
        by_cases hx : XL < 6
        · have : ∀ XL, XL < 6 → ∀ i, i < 6 → i ≤ XL → ¬ Int32.ofNat i ≤ Int32.ofNat XL - 6 := by decide
          exact this XL hx i (by omega) hi
        · obtain ⟨k, rfl⟩ : ∃ k, XL = k + 6 := ⟨XL - 6, by omega⟩
          have e : Int32.ofNat (k + 6) - 6 = Int32.ofNat k := by
            rw [Int32.ofNat_add]
            show (Int32.ofNat k + 6) - 6 = _
            grind
          rw [e, nn_le (by omega) (by omega)]; omega
      refine ⟨m, 0, 0, hI, Nat.le_refl _, by omega, fun d c w => ?_⟩
      refine ev_s 6 (fun n => (hs d c w n).trans (if_neg hle)) ?_
      exact ev_r 2 (fun n => rfl)
end LPE
