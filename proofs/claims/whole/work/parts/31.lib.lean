/-! INTS BY NATURALS -/
theorem nn_lt {n k : Nat} (hn : n < 2 ^ 31) (hk : k < 2 ^ 31) : (Int32.ofNat n < Int32.ofNat k) ↔ (n < k) := Int32.ofNat_lt_iff_lt hn hk
theorem nn_le {n k : Nat} (hn : n < 2 ^ 31) (hk : k < 2 ^ 31) : (Int32.ofNat n ≤ Int32.ofNat k) ↔ (n ≤ k) := Int32.ofNat_le_iff_le hn hk
theorem nn_tn {n : Nat} (hn : n < 2 ^ 31) : (Int32.ofNat n).toNatClampNeg = n := Int32.toNatClampNeg_ofNat_of_lt hn
theorem nn_s (n : Nat) : Int32.ofNat n + 1 = Int32.ofNat (n + 1) := (Int32.ofNat_add n 1).symm
theorem nn_n0 {n : Nat} (hn : n < 2 ^ 31) : ¬ Int32.ofNat n < 0 := by
  show ¬ Int32.ofNat n < Int32.ofNat 0
  rw [nn_lt hn (by decide)]
  omega
theorem nn_of {x : Int32} (h : ¬ x < 0) : x = Int32.ofNat x.toNatClampNeg := (Int32.ofNat_toNatClampNeg x (Int32.not_lt.mp h)).symm
theorem nn_ltk {x : Int32} {k : Nat} (h0 : ¬ x < 0) (hk : k < 2 ^ 31) : (x < Int32.ofNat k) ↔ (x.toNatClampNeg < k) := by
  conv => lhs; rw [nn_of h0]
  exact nn_lt (Int32.toNatClampNeg_lt x) hk
theorem nn_lek {x : Int32} {k : Nat} (h0 : ¬ x < 0) (hk : k < 2 ^ 31) : (x ≤ Int32.ofNat k) ↔ (x.toNatClampNeg ≤ k) := by
  conv => lhs; rw [nn_of h0]
  exact nn_le (Int32.toNatClampNeg_lt x) hk
theorem nn_inj {n k : Nat} (hn : n < 2 ^ 31) (hk : k < 2 ^ 31) (h : Int32.ofNat n = Int32.ofNat k) : n = k := by
  have := congrArg Int32.toNatClampNeg h
  rwa [nn_tn hn, nn_tn hk] at this
/-! a guard of a row's place -/
theorem nn_g {α : Type} {x : Int32} {k : Nat} {A : Option α} (h0 : ¬ x < 0) (hk : x.toNatClampNeg < k) : (if x < 0 ∨ k ≤ x.toNatClampNeg then none else A) = A := if_neg (fun h => h.elim h0 (fun h => by omega))
theorem nn_go {α : Type} {n k : Nat} {A : Option α} (hn : n < 2 ^ 31) (hk : n < k) : (if Int32.ofNat n < 0 ∨ k ≤ (Int32.ofNat n).toNatClampNeg then none else A) = A := nn_g (nn_n0 hn) (by rw [nn_tn hn]; exact hk)
