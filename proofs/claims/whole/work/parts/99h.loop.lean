/-! THE LAW'S LOOP, whole -/
section LOP
variable {XL : Nat} {xs : Nat → Int32} {m : mm_MM} {x : Int32}
abbrev lvX (x : Int32) : mm_L := [(4, .int x), (3, .ref 639), (2, .ref 606), (1, .ref 0), (0, .ref 1000000)]
def SV (XL : Nat) (xs : Nat → Int32) (m : mm_MM) (x v : Int32) : Prop := ∃ m' dc dw, Inv m' ∧ dw ≤ 6 * dc ∧ dc ≤ 1 ∧ ∀ (d c w : Nat) (q : mm_R), Ev XL xs (d + 101) 311 (ev_M m' (c + dc) (w + dw)) 1595 (lvX x) [] q → Ev XL xs (d + 101) 311 (ev_M m c w) 40 (lvX x) [.int v] q
theorem sv_of {v : Int32} {P : Nat} (L : ∃ m', Inv m' ∧ ∀ (d c w : Nat) (q : mm_R), Ev XL xs (d + 101) 311 (ev_M m' c w) 1595 (lvX x) [] q → Ev XL xs (d + 101) 311 (ev_M m c w) P (lvX x) [] q) (hs : ∀ d c w n, mm_run XL xs (n + 1) (d + 101) 311 (ev_M m c w) 40 (lvX x) [.int v] = mm_run XL xs n (d + 101) 311 (ev_M m c w) P (lvX x) []) : SV XL xs m x v := by
  obtain ⟨m', hi, L⟩ := L
  exact ⟨m', 0, 0, hi, Nat.le_refl _, by decide, fun d c w q h => ev_s 1 (hs d c w) (L d c w q h)⟩
theorem sv_of6 {v : Int32} {P : Nat} (L : ∃ m' dc dw, Inv m' ∧ dw ≤ 6 * dc ∧ dc ≤ 1 ∧ ∀ (d c w : Nat) (q : mm_R), Ev XL xs (d + 101) 311 (ev_M m' (c + dc) (w + dw)) 1595 (lvX x) [] q → Ev XL xs (d + 101) 311 (ev_M m c w) P (lvX x) [] q) (hs : ∀ d c w n, mm_run XL xs (n + 1) (d + 101) 311 (ev_M m c w) 40 (lvX x) [.int v] = mm_run XL xs n (d + 101) 311 (ev_M m c w) P (lvX x) []) : SV XL xs m x v := by
  obtain ⟨m', dc, dw, hi, h1, h2, L⟩ := L
  exact ⟨m', dc, dw, hi, h1, h2, fun d c w q h => ev_s 1 (hs d c w) (L d c w q h)⟩
set_option maxRecDepth 20000 in
theorem sv_0 (hi : Inv m) (h1 : ¬ (x + 1 < 0 ∨ XL ≤ (x + 1).toNatClampNeg)) (h2 : ¬ (x + 2 < 0 ∨ XL ≤ (x + 2).toNatClampNeg)) (h3 : ¬ (x + 3 < 0 ∨ XL ≤ (x + 3).toNatClampNeg)) (h4 : ¬ (x + 4 < 0 ∨ XL ≤ (x + 4).toNatClampNeg)) (h5 : ¬ (x + 5 < 0 ∨ XL ≤ (x + 5).toNatClampNeg)) : SV XL xs m x (Int32.ofNat 0) := sv_of (P := 216) (lc_0 hi h1 h2 h3 h4 h5) (fun d c w n => rfl)
set_option maxRecDepth 20000 in
theorem sv_1 (hi : Inv m) (h1 : ¬ (x + 1 < 0 ∨ XL ≤ (x + 1).toNatClampNeg)) (h2 : ¬ (x + 2 < 0 ∨ XL ≤ (x + 2).toNatClampNeg)) (h3 : ¬ (x + 3 < 0 ∨ XL ≤ (x + 3).toNatClampNeg)) (h4 : ¬ (x + 4 < 0 ∨ XL ≤ (x + 4).toNatClampNeg)) (h5 : ¬ (x + 5 < 0 ∨ XL ≤ (x + 5).toNatClampNeg)) : SV XL xs m x (Int32.ofNat 1) := sv_of (P := 289) (lc_1 hi h1 h2 h3 h4 h5) (fun d c w n => rfl)
set_option maxRecDepth 20000 in
theorem sv_2 (hi : Inv m) (h1 : ¬ (x + 1 < 0 ∨ XL ≤ (x + 1).toNatClampNeg)) (h2 : ¬ (x + 2 < 0 ∨ XL ≤ (x + 2).toNatClampNeg)) (h3 : ¬ (x + 3 < 0 ∨ XL ≤ (x + 3).toNatClampNeg)) (h4 : ¬ (x + 4 < 0 ∨ XL ≤ (x + 4).toNatClampNeg)) (h5 : ¬ (x + 5 < 0 ∨ XL ≤ (x + 5).toNatClampNeg)) : SV XL xs m x (Int32.ofNat 2) := sv_of (P := 314) (lc_2 hi h1 h2 h3 h4 h5) (fun d c w n => rfl)
set_option maxRecDepth 20000 in
theorem sv_3 (hi : Inv m) (h1 : ¬ (x + 1 < 0 ∨ XL ≤ (x + 1).toNatClampNeg)) (h2 : ¬ (x + 2 < 0 ∨ XL ≤ (x + 2).toNatClampNeg)) (h3 : ¬ (x + 3 < 0 ∨ XL ≤ (x + 3).toNatClampNeg)) (h4 : ¬ (x + 4 < 0 ∨ XL ≤ (x + 4).toNatClampNeg)) (h5 : ¬ (x + 5 < 0 ∨ XL ≤ (x + 5).toNatClampNeg)) : SV XL xs m x (Int32.ofNat 3) := sv_of (P := 339) (lc_3 hi h1 h2 h3 h4 h5) (fun d c w n => rfl)
set_option maxRecDepth 20000 in
theorem sv_4 (hi : Inv m) (h1 : ¬ (x + 1 < 0 ∨ XL ≤ (x + 1).toNatClampNeg)) (h2 : ¬ (x + 2 < 0 ∨ XL ≤ (x + 2).toNatClampNeg)) (h3 : ¬ (x + 3 < 0 ∨ XL ≤ (x + 3).toNatClampNeg)) (h4 : ¬ (x + 4 < 0 ∨ XL ≤ (x + 4).toNatClampNeg)) (h5 : ¬ (x + 5 < 0 ∨ XL ≤ (x + 5).toNatClampNeg)) : SV XL xs m x (Int32.ofNat 4) := sv_of (P := 364) (lc_4 hi h1 h2 h3 h4 h5) (fun d c w n => rfl)
set_option maxRecDepth 20000 in
theorem sv_5 (hi : Inv m) (h1 : ¬ (x + 1 < 0 ∨ XL ≤ (x + 1).toNatClampNeg)) (h2 : ¬ (x + 2 < 0 ∨ XL ≤ (x + 2).toNatClampNeg)) (h3 : ¬ (x + 3 < 0 ∨ XL ≤ (x + 3).toNatClampNeg)) (h4 : ¬ (x + 4 < 0 ∨ XL ≤ (x + 4).toNatClampNeg)) (h5 : ¬ (x + 5 < 0 ∨ XL ≤ (x + 5).toNatClampNeg)) : SV XL xs m x (Int32.ofNat 5) := sv_of (P := 389) (lc_5 hi h1 h2 h3 h4 h5) (fun d c w n => rfl)
set_option maxRecDepth 20000 in
theorem sv_6 (hi : Inv m) (h1 : ¬ (x + 1 < 0 ∨ XL ≤ (x + 1).toNatClampNeg)) (h2 : ¬ (x + 2 < 0 ∨ XL ≤ (x + 2).toNatClampNeg)) (h3 : ¬ (x + 3 < 0 ∨ XL ≤ (x + 3).toNatClampNeg)) (h4 : ¬ (x + 4 < 0 ∨ XL ≤ (x + 4).toNatClampNeg)) (h5 : ¬ (x + 5 < 0 ∨ XL ≤ (x + 5).toNatClampNeg)) : SV XL xs m x (Int32.ofNat 6) := sv_of6 (P := 414) (lc_6 hi h1 h2) (fun d c w n => rfl)
set_option maxRecDepth 20000 in
theorem sv_7 (hi : Inv m) (h1 : ¬ (x + 1 < 0 ∨ XL ≤ (x + 1).toNatClampNeg)) (h2 : ¬ (x + 2 < 0 ∨ XL ≤ (x + 2).toNatClampNeg)) (h3 : ¬ (x + 3 < 0 ∨ XL ≤ (x + 3).toNatClampNeg)) (h4 : ¬ (x + 4 < 0 ∨ XL ≤ (x + 4).toNatClampNeg)) (h5 : ¬ (x + 5 < 0 ∨ XL ≤ (x + 5).toNatClampNeg)) : SV XL xs m x (Int32.ofNat 7) := sv_of (P := 482) (lc_7 hi h1 h2 h3 h4 h5) (fun d c w n => rfl)
set_option maxRecDepth 20000 in
theorem sv_8 (hi : Inv m) (h1 : ¬ (x + 1 < 0 ∨ XL ≤ (x + 1).toNatClampNeg)) (h2 : ¬ (x + 2 < 0 ∨ XL ≤ (x + 2).toNatClampNeg)) (h3 : ¬ (x + 3 < 0 ∨ XL ≤ (x + 3).toNatClampNeg)) (h4 : ¬ (x + 4 < 0 ∨ XL ≤ (x + 4).toNatClampNeg)) (h5 : ¬ (x + 5 < 0 ∨ XL ≤ (x + 5).toNatClampNeg)) : SV XL xs m x (Int32.ofNat 8) := sv_of (P := 507) (lc_8 hi h1 h2 h3 h4 h5) (fun d c w n => rfl)
set_option maxRecDepth 20000 in
theorem sv_9 (hi : Inv m) (h1 : ¬ (x + 1 < 0 ∨ XL ≤ (x + 1).toNatClampNeg)) (h2 : ¬ (x + 2 < 0 ∨ XL ≤ (x + 2).toNatClampNeg)) (h3 : ¬ (x + 3 < 0 ∨ XL ≤ (x + 3).toNatClampNeg)) (h4 : ¬ (x + 4 < 0 ∨ XL ≤ (x + 4).toNatClampNeg)) (h5 : ¬ (x + 5 < 0 ∨ XL ≤ (x + 5).toNatClampNeg)) : SV XL xs m x (Int32.ofNat 9) := sv_of (P := 532) (lc_9 hi h1 h2 h3 h4 h5) (fun d c w n => rfl)
set_option maxRecDepth 20000 in
theorem sv_10 (hi : Inv m) (h1 : ¬ (x + 1 < 0 ∨ XL ≤ (x + 1).toNatClampNeg)) (h2 : ¬ (x + 2 < 0 ∨ XL ≤ (x + 2).toNatClampNeg)) (h3 : ¬ (x + 3 < 0 ∨ XL ≤ (x + 3).toNatClampNeg)) (h4 : ¬ (x + 4 < 0 ∨ XL ≤ (x + 4).toNatClampNeg)) (h5 : ¬ (x + 5 < 0 ∨ XL ≤ (x + 5).toNatClampNeg)) : SV XL xs m x (Int32.ofNat 10) := sv_of (P := 557) (lc_10 hi h1 h2 h3 h4 h5) (fun d c w n => rfl)
set_option maxRecDepth 20000 in
theorem sv_11 (hi : Inv m) (h1 : ¬ (x + 1 < 0 ∨ XL ≤ (x + 1).toNatClampNeg)) (h2 : ¬ (x + 2 < 0 ∨ XL ≤ (x + 2).toNatClampNeg)) (h3 : ¬ (x + 3 < 0 ∨ XL ≤ (x + 3).toNatClampNeg)) (h4 : ¬ (x + 4 < 0 ∨ XL ≤ (x + 4).toNatClampNeg)) (h5 : ¬ (x + 5 < 0 ∨ XL ≤ (x + 5).toNatClampNeg)) : SV XL xs m x (Int32.ofNat 11) := sv_of (P := 582) (lc_11 hi h1 h2 h3 h4 h5) (fun d c w n => rfl)
set_option maxRecDepth 20000 in
theorem sv_12 (hi : Inv m) (h1 : ¬ (x + 1 < 0 ∨ XL ≤ (x + 1).toNatClampNeg)) (h2 : ¬ (x + 2 < 0 ∨ XL ≤ (x + 2).toNatClampNeg)) (h3 : ¬ (x + 3 < 0 ∨ XL ≤ (x + 3).toNatClampNeg)) (h4 : ¬ (x + 4 < 0 ∨ XL ≤ (x + 4).toNatClampNeg)) (h5 : ¬ (x + 5 < 0 ∨ XL ≤ (x + 5).toNatClampNeg)) : SV XL xs m x (Int32.ofNat 12) := sv_of (P := 619) (lc_12 hi h1 h2 h3 h4 h5) (fun d c w n => rfl)
set_option maxRecDepth 20000 in
theorem sv_13 (hi : Inv m) (h1 : ¬ (x + 1 < 0 ∨ XL ≤ (x + 1).toNatClampNeg)) (h2 : ¬ (x + 2 < 0 ∨ XL ≤ (x + 2).toNatClampNeg)) (h3 : ¬ (x + 3 < 0 ∨ XL ≤ (x + 3).toNatClampNeg)) (h4 : ¬ (x + 4 < 0 ∨ XL ≤ (x + 4).toNatClampNeg)) (h5 : ¬ (x + 5 < 0 ∨ XL ≤ (x + 5).toNatClampNeg)) : SV XL xs m x (Int32.ofNat 13) := sv_of (P := 644) (lc_13 hi h1 h2 h3 h4 h5) (fun d c w n => rfl)
set_option maxRecDepth 20000 in
theorem sv_14 (hi : Inv m) (h1 : ¬ (x + 1 < 0 ∨ XL ≤ (x + 1).toNatClampNeg)) (h2 : ¬ (x + 2 < 0 ∨ XL ≤ (x + 2).toNatClampNeg)) (h3 : ¬ (x + 3 < 0 ∨ XL ≤ (x + 3).toNatClampNeg)) (h4 : ¬ (x + 4 < 0 ∨ XL ≤ (x + 4).toNatClampNeg)) (h5 : ¬ (x + 5 < 0 ∨ XL ≤ (x + 5).toNatClampNeg)) : SV XL xs m x (Int32.ofNat 14) := sv_of (P := 669) (lc_14 hi h1 h2 h3 h4 h5) (fun d c w n => rfl)
set_option maxRecDepth 20000 in
theorem sv_15 (hi : Inv m) (h1 : ¬ (x + 1 < 0 ∨ XL ≤ (x + 1).toNatClampNeg)) (h2 : ¬ (x + 2 < 0 ∨ XL ≤ (x + 2).toNatClampNeg)) (h3 : ¬ (x + 3 < 0 ∨ XL ≤ (x + 3).toNatClampNeg)) (h4 : ¬ (x + 4 < 0 ∨ XL ≤ (x + 4).toNatClampNeg)) (h5 : ¬ (x + 5 < 0 ∨ XL ≤ (x + 5).toNatClampNeg)) : SV XL xs m x (Int32.ofNat 15) := sv_of (P := 706) (lc_15 hi h1 h2 h3 h4 h5) (fun d c w n => rfl)
set_option maxRecDepth 20000 in
theorem sv_16 (hi : Inv m) (h1 : ¬ (x + 1 < 0 ∨ XL ≤ (x + 1).toNatClampNeg)) (h2 : ¬ (x + 2 < 0 ∨ XL ≤ (x + 2).toNatClampNeg)) (h3 : ¬ (x + 3 < 0 ∨ XL ≤ (x + 3).toNatClampNeg)) (h4 : ¬ (x + 4 < 0 ∨ XL ≤ (x + 4).toNatClampNeg)) (h5 : ¬ (x + 5 < 0 ∨ XL ≤ (x + 5).toNatClampNeg)) : SV XL xs m x (Int32.ofNat 16) := sv_of (P := 731) (lc_16 hi h1 h2 h3 h4 h5) (fun d c w n => rfl)
set_option maxRecDepth 20000 in
theorem sv_17 (hi : Inv m) (h1 : ¬ (x + 1 < 0 ∨ XL ≤ (x + 1).toNatClampNeg)) (h2 : ¬ (x + 2 < 0 ∨ XL ≤ (x + 2).toNatClampNeg)) (h3 : ¬ (x + 3 < 0 ∨ XL ≤ (x + 3).toNatClampNeg)) (h4 : ¬ (x + 4 < 0 ∨ XL ≤ (x + 4).toNatClampNeg)) (h5 : ¬ (x + 5 < 0 ∨ XL ≤ (x + 5).toNatClampNeg)) : SV XL xs m x (Int32.ofNat 17) := sv_of (P := 756) (lc_17 hi h1 h2 h3 h4 h5) (fun d c w n => rfl)
set_option maxRecDepth 20000 in
theorem sv_18 (hi : Inv m) (h1 : ¬ (x + 1 < 0 ∨ XL ≤ (x + 1).toNatClampNeg)) (h2 : ¬ (x + 2 < 0 ∨ XL ≤ (x + 2).toNatClampNeg)) (h3 : ¬ (x + 3 < 0 ∨ XL ≤ (x + 3).toNatClampNeg)) (h4 : ¬ (x + 4 < 0 ∨ XL ≤ (x + 4).toNatClampNeg)) (h5 : ¬ (x + 5 < 0 ∨ XL ≤ (x + 5).toNatClampNeg)) : SV XL xs m x (Int32.ofNat 18) := sv_of (P := 781) (lc_18 hi h1 h2 h3 h4 h5) (fun d c w n => rfl)
set_option maxRecDepth 20000 in
theorem sv_19 (hi : Inv m) (h1 : ¬ (x + 1 < 0 ∨ XL ≤ (x + 1).toNatClampNeg)) (h2 : ¬ (x + 2 < 0 ∨ XL ≤ (x + 2).toNatClampNeg)) (h3 : ¬ (x + 3 < 0 ∨ XL ≤ (x + 3).toNatClampNeg)) (h4 : ¬ (x + 4 < 0 ∨ XL ≤ (x + 4).toNatClampNeg)) (h5 : ¬ (x + 5 < 0 ∨ XL ≤ (x + 5).toNatClampNeg)) : SV XL xs m x (Int32.ofNat 19) := sv_of (P := 850) (lc_19 hi h1 h2 h3 h4 h5) (fun d c w n => rfl)
set_option maxRecDepth 20000 in
theorem sv_20 (hi : Inv m) (h1 : ¬ (x + 1 < 0 ∨ XL ≤ (x + 1).toNatClampNeg)) (h2 : ¬ (x + 2 < 0 ∨ XL ≤ (x + 2).toNatClampNeg)) (h3 : ¬ (x + 3 < 0 ∨ XL ≤ (x + 3).toNatClampNeg)) (h4 : ¬ (x + 4 < 0 ∨ XL ≤ (x + 4).toNatClampNeg)) (h5 : ¬ (x + 5 < 0 ∨ XL ≤ (x + 5).toNatClampNeg)) : SV XL xs m x (Int32.ofNat 20) := sv_of (P := 875) (lc_20 hi h1 h2 h3 h4 h5) (fun d c w n => rfl)
set_option maxRecDepth 20000 in
theorem sv_21 (hi : Inv m) (h1 : ¬ (x + 1 < 0 ∨ XL ≤ (x + 1).toNatClampNeg)) (h2 : ¬ (x + 2 < 0 ∨ XL ≤ (x + 2).toNatClampNeg)) (h3 : ¬ (x + 3 < 0 ∨ XL ≤ (x + 3).toNatClampNeg)) (h4 : ¬ (x + 4 < 0 ∨ XL ≤ (x + 4).toNatClampNeg)) (h5 : ¬ (x + 5 < 0 ∨ XL ≤ (x + 5).toNatClampNeg)) : SV XL xs m x (Int32.ofNat 21) := sv_of (P := 888) (lc_21 hi h1 h2 h3 h4 h5) (fun d c w n => rfl)
set_option maxRecDepth 20000 in
theorem sv_22 (hi : Inv m) (h1 : ¬ (x + 1 < 0 ∨ XL ≤ (x + 1).toNatClampNeg)) (h2 : ¬ (x + 2 < 0 ∨ XL ≤ (x + 2).toNatClampNeg)) (h3 : ¬ (x + 3 < 0 ∨ XL ≤ (x + 3).toNatClampNeg)) (h4 : ¬ (x + 4 < 0 ∨ XL ≤ (x + 4).toNatClampNeg)) (h5 : ¬ (x + 5 < 0 ∨ XL ≤ (x + 5).toNatClampNeg)) : SV XL xs m x (Int32.ofNat 22) := sv_of (P := 925) (lc_22 hi h1 h2 h3 h4 h5) (fun d c w n => rfl)
set_option maxRecDepth 20000 in
theorem sv_23 (hi : Inv m) (h1 : ¬ (x + 1 < 0 ∨ XL ≤ (x + 1).toNatClampNeg)) (h2 : ¬ (x + 2 < 0 ∨ XL ≤ (x + 2).toNatClampNeg)) (h3 : ¬ (x + 3 < 0 ∨ XL ≤ (x + 3).toNatClampNeg)) (h4 : ¬ (x + 4 < 0 ∨ XL ≤ (x + 4).toNatClampNeg)) (h5 : ¬ (x + 5 < 0 ∨ XL ≤ (x + 5).toNatClampNeg)) : SV XL xs m x (Int32.ofNat 23) := sv_of (P := 962) (lc_23 hi h1 h2 h3 h4 h5) (fun d c w n => rfl)
set_option maxRecDepth 20000 in
theorem sv_24 (hi : Inv m) (h1 : ¬ (x + 1 < 0 ∨ XL ≤ (x + 1).toNatClampNeg)) (h2 : ¬ (x + 2 < 0 ∨ XL ≤ (x + 2).toNatClampNeg)) (h3 : ¬ (x + 3 < 0 ∨ XL ≤ (x + 3).toNatClampNeg)) (h4 : ¬ (x + 4 < 0 ∨ XL ≤ (x + 4).toNatClampNeg)) (h5 : ¬ (x + 5 < 0 ∨ XL ≤ (x + 5).toNatClampNeg)) : SV XL xs m x (Int32.ofNat 24) := sv_of (P := 987) (lc_24 hi h1 h2 h3 h4 h5) (fun d c w n => rfl)
set_option maxRecDepth 20000 in
theorem sv_25 (hi : Inv m) (h1 : ¬ (x + 1 < 0 ∨ XL ≤ (x + 1).toNatClampNeg)) (h2 : ¬ (x + 2 < 0 ∨ XL ≤ (x + 2).toNatClampNeg)) (h3 : ¬ (x + 3 < 0 ∨ XL ≤ (x + 3).toNatClampNeg)) (h4 : ¬ (x + 4 < 0 ∨ XL ≤ (x + 4).toNatClampNeg)) (h5 : ¬ (x + 5 < 0 ∨ XL ≤ (x + 5).toNatClampNeg)) : SV XL xs m x (Int32.ofNat 25) := sv_of (P := 1024) (lc_25 hi h1 h2 h3 h4 h5) (fun d c w n => rfl)
set_option maxRecDepth 20000 in
theorem sv_26 (hi : Inv m) (h1 : ¬ (x + 1 < 0 ∨ XL ≤ (x + 1).toNatClampNeg)) (h2 : ¬ (x + 2 < 0 ∨ XL ≤ (x + 2).toNatClampNeg)) (h3 : ¬ (x + 3 < 0 ∨ XL ≤ (x + 3).toNatClampNeg)) (h4 : ¬ (x + 4 < 0 ∨ XL ≤ (x + 4).toNatClampNeg)) (h5 : ¬ (x + 5 < 0 ∨ XL ≤ (x + 5).toNatClampNeg)) : SV XL xs m x (Int32.ofNat 26) := sv_of (P := 1061) (lc_26 hi h1 h2 h3 h4 h5) (fun d c w n => rfl)
set_option maxRecDepth 20000 in
theorem sv_27 (hi : Inv m) (h1 : ¬ (x + 1 < 0 ∨ XL ≤ (x + 1).toNatClampNeg)) (h2 : ¬ (x + 2 < 0 ∨ XL ≤ (x + 2).toNatClampNeg)) (h3 : ¬ (x + 3 < 0 ∨ XL ≤ (x + 3).toNatClampNeg)) (h4 : ¬ (x + 4 < 0 ∨ XL ≤ (x + 4).toNatClampNeg)) (h5 : ¬ (x + 5 < 0 ∨ XL ≤ (x + 5).toNatClampNeg)) : SV XL xs m x (Int32.ofNat 27) := sv_of (P := 1074) (lc_27 hi h1 h2 h3 h4 h5) (fun d c w n => rfl)
set_option maxRecDepth 20000 in
theorem sv_28 (hi : Inv m) (h1 : ¬ (x + 1 < 0 ∨ XL ≤ (x + 1).toNatClampNeg)) (h2 : ¬ (x + 2 < 0 ∨ XL ≤ (x + 2).toNatClampNeg)) (h3 : ¬ (x + 3 < 0 ∨ XL ≤ (x + 3).toNatClampNeg)) (h4 : ¬ (x + 4 < 0 ∨ XL ≤ (x + 4).toNatClampNeg)) (h5 : ¬ (x + 5 < 0 ∨ XL ≤ (x + 5).toNatClampNeg)) : SV XL xs m x (Int32.ofNat 28) := sv_of (P := 1087) (lc_28 hi h1 h2 h3 h4 h5) (fun d c w n => rfl)
set_option maxRecDepth 20000 in
theorem sv_29 (hi : Inv m) (h1 : ¬ (x + 1 < 0 ∨ XL ≤ (x + 1).toNatClampNeg)) (h2 : ¬ (x + 2 < 0 ∨ XL ≤ (x + 2).toNatClampNeg)) (h3 : ¬ (x + 3 < 0 ∨ XL ≤ (x + 3).toNatClampNeg)) (h4 : ¬ (x + 4 < 0 ∨ XL ≤ (x + 4).toNatClampNeg)) (h5 : ¬ (x + 5 < 0 ∨ XL ≤ (x + 5).toNatClampNeg)) : SV XL xs m x (Int32.ofNat 29) := sv_of (P := 1176) (lc_29 hi h1 h2 h3 h4 h5) (fun d c w n => rfl)
set_option maxRecDepth 20000 in
theorem sv_30 (hi : Inv m) (h1 : ¬ (x + 1 < 0 ∨ XL ≤ (x + 1).toNatClampNeg)) (h2 : ¬ (x + 2 < 0 ∨ XL ≤ (x + 2).toNatClampNeg)) (h3 : ¬ (x + 3 < 0 ∨ XL ≤ (x + 3).toNatClampNeg)) (h4 : ¬ (x + 4 < 0 ∨ XL ≤ (x + 4).toNatClampNeg)) (h5 : ¬ (x + 5 < 0 ∨ XL ≤ (x + 5).toNatClampNeg)) : SV XL xs m x (Int32.ofNat 30) := sv_of (P := 1213) (lc_30 hi h1 h2 h3 h4 h5) (fun d c w n => rfl)
set_option maxRecDepth 20000 in
theorem sv_31 (hi : Inv m) (h1 : ¬ (x + 1 < 0 ∨ XL ≤ (x + 1).toNatClampNeg)) (h2 : ¬ (x + 2 < 0 ∨ XL ≤ (x + 2).toNatClampNeg)) (h3 : ¬ (x + 3 < 0 ∨ XL ≤ (x + 3).toNatClampNeg)) (h4 : ¬ (x + 4 < 0 ∨ XL ≤ (x + 4).toNatClampNeg)) (h5 : ¬ (x + 5 < 0 ∨ XL ≤ (x + 5).toNatClampNeg)) : SV XL xs m x (Int32.ofNat 31) := sv_of (P := 1250) (lc_31 hi h1 h2 h3 h4 h5) (fun d c w n => rfl)
set_option maxRecDepth 20000 in
theorem sv_32 (hi : Inv m) (h1 : ¬ (x + 1 < 0 ∨ XL ≤ (x + 1).toNatClampNeg)) (h2 : ¬ (x + 2 < 0 ∨ XL ≤ (x + 2).toNatClampNeg)) (h3 : ¬ (x + 3 < 0 ∨ XL ≤ (x + 3).toNatClampNeg)) (h4 : ¬ (x + 4 < 0 ∨ XL ≤ (x + 4).toNatClampNeg)) (h5 : ¬ (x + 5 < 0 ∨ XL ≤ (x + 5).toNatClampNeg)) : SV XL xs m x (Int32.ofNat 32) := sv_of (P := 1323) (lc_32 hi h1 h2 h3 h4 h5) (fun d c w n => rfl)
set_option maxRecDepth 20000 in
theorem sv_33 (hi : Inv m) (h1 : ¬ (x + 1 < 0 ∨ XL ≤ (x + 1).toNatClampNeg)) (h2 : ¬ (x + 2 < 0 ∨ XL ≤ (x + 2).toNatClampNeg)) (h3 : ¬ (x + 3 < 0 ∨ XL ≤ (x + 3).toNatClampNeg)) (h4 : ¬ (x + 4 < 0 ∨ XL ≤ (x + 4).toNatClampNeg)) (h5 : ¬ (x + 5 < 0 ∨ XL ≤ (x + 5).toNatClampNeg)) : SV XL xs m x (Int32.ofNat 33) := sv_of (P := 1372) (lc_33 hi h1 h2 h3 h4 h5) (fun d c w n => rfl)
set_option maxRecDepth 20000 in
theorem sv_34 (hi : Inv m) (h1 : ¬ (x + 1 < 0 ∨ XL ≤ (x + 1).toNatClampNeg)) (h2 : ¬ (x + 2 < 0 ∨ XL ≤ (x + 2).toNatClampNeg)) (h3 : ¬ (x + 3 < 0 ∨ XL ≤ (x + 3).toNatClampNeg)) (h4 : ¬ (x + 4 < 0 ∨ XL ≤ (x + 4).toNatClampNeg)) (h5 : ¬ (x + 5 < 0 ∨ XL ≤ (x + 5).toNatClampNeg)) : SV XL xs m x (Int32.ofNat 34) := sv_of (P := 1421) (lc_34 hi h1 h2 h3 h4 h5) (fun d c w n => rfl)
set_option maxRecDepth 20000 in
theorem sv_35 (hi : Inv m) (h1 : ¬ (x + 1 < 0 ∨ XL ≤ (x + 1).toNatClampNeg)) (h2 : ¬ (x + 2 < 0 ∨ XL ≤ (x + 2).toNatClampNeg)) (h3 : ¬ (x + 3 < 0 ∨ XL ≤ (x + 3).toNatClampNeg)) (h4 : ¬ (x + 4 < 0 ∨ XL ≤ (x + 4).toNatClampNeg)) (h5 : ¬ (x + 5 < 0 ∨ XL ≤ (x + 5).toNatClampNeg)) : SV XL xs m x (Int32.ofNat 35) := sv_of (P := 1482) (lc_35 hi h1 h2 h3 h4 h5) (fun d c w n => rfl)
set_option maxRecDepth 20000 in
theorem sv_36 (hi : Inv m) (h1 : ¬ (x + 1 < 0 ∨ XL ≤ (x + 1).toNatClampNeg)) (h2 : ¬ (x + 2 < 0 ∨ XL ≤ (x + 2).toNatClampNeg)) (h3 : ¬ (x + 3 < 0 ∨ XL ≤ (x + 3).toNatClampNeg)) (h4 : ¬ (x + 4 < 0 ∨ XL ≤ (x + 4).toNatClampNeg)) (h5 : ¬ (x + 5 < 0 ∨ XL ≤ (x + 5).toNatClampNeg)) : SV XL xs m x (Int32.ofNat 36) := sv_of (P := 1519) (lc_36 hi h1 h2 h3 h4 h5) (fun d c w n => rfl)
set_option maxRecDepth 20000 in
theorem sv_37 (hi : Inv m) (h1 : ¬ (x + 1 < 0 ∨ XL ≤ (x + 1).toNatClampNeg)) (h2 : ¬ (x + 2 < 0 ∨ XL ≤ (x + 2).toNatClampNeg)) (h3 : ¬ (x + 3 < 0 ∨ XL ≤ (x + 3).toNatClampNeg)) (h4 : ¬ (x + 4 < 0 ∨ XL ≤ (x + 4).toNatClampNeg)) (h5 : ¬ (x + 5 < 0 ∨ XL ≤ (x + 5).toNatClampNeg)) : SV XL xs m x (Int32.ofNat 37) := sv_of (P := 1544) (lc_37 hi h1 h2 h3 h4 h5) (fun d c w n => rfl)
set_option maxRecDepth 20000 in
theorem sv_38 (hi : Inv m) (h1 : ¬ (x + 1 < 0 ∨ XL ≤ (x + 1).toNatClampNeg)) (h2 : ¬ (x + 2 < 0 ∨ XL ≤ (x + 2).toNatClampNeg)) (h3 : ¬ (x + 3 < 0 ∨ XL ≤ (x + 3).toNatClampNeg)) (h4 : ¬ (x + 4 < 0 ∨ XL ≤ (x + 4).toNatClampNeg)) (h5 : ¬ (x + 5 < 0 ∨ XL ≤ (x + 5).toNatClampNeg)) : SV XL xs m x (Int32.ofNat 38) := sv_of (P := 1557) (lc_38 hi h1 h2 h3 h4 h5) (fun d c w n => rfl)
set_option maxRecDepth 20000 in
theorem sv_39 (hi : Inv m) (h1 : ¬ (x + 1 < 0 ∨ XL ≤ (x + 1).toNatClampNeg)) (h2 : ¬ (x + 2 < 0 ∨ XL ≤ (x + 2).toNatClampNeg)) (h3 : ¬ (x + 3 < 0 ∨ XL ≤ (x + 3).toNatClampNeg)) (h4 : ¬ (x + 4 < 0 ∨ XL ≤ (x + 4).toNatClampNeg)) (h5 : ¬ (x + 5 < 0 ∨ XL ≤ (x + 5).toNatClampNeg)) : SV XL xs m x (Int32.ofNat 39) := sv_of (P := 1570) (lc_39 hi h1 h2 h3 h4 h5) (fun d c w n => rfl)
set_option maxRecDepth 20000 in
theorem sv_40 (hi : Inv m) (h1 : ¬ (x + 1 < 0 ∨ XL ≤ (x + 1).toNatClampNeg)) (h2 : ¬ (x + 2 < 0 ∨ XL ≤ (x + 2).toNatClampNeg)) (h3 : ¬ (x + 3 < 0 ∨ XL ≤ (x + 3).toNatClampNeg)) (h4 : ¬ (x + 4 < 0 ∨ XL ≤ (x + 4).toNatClampNeg)) (h5 : ¬ (x + 5 < 0 ∨ XL ≤ (x + 5).toNatClampNeg)) : SV XL xs m x (Int32.ofNat 40) := sv_of (P := 1595) ⟨m, hi, fun _ _ _ _ h => h⟩ (fun d c w n => rfl)
set_option maxRecDepth 20000 in
theorem sv_41 (hi : Inv m) (h1 : ¬ (x + 1 < 0 ∨ XL ≤ (x + 1).toNatClampNeg)) (h2 : ¬ (x + 2 < 0 ∨ XL ≤ (x + 2).toNatClampNeg)) (h3 : ¬ (x + 3 < 0 ∨ XL ≤ (x + 3).toNatClampNeg)) (h4 : ¬ (x + 4 < 0 ∨ XL ≤ (x + 4).toNatClampNeg)) (h5 : ¬ (x + 5 < 0 ∨ XL ≤ (x + 5).toNatClampNeg)) : SV XL xs m x (Int32.ofNat 41) := sv_of (P := 1595) ⟨m, hi, fun _ _ _ _ h => h⟩ (fun d c w n => rfl)
set_option maxRecDepth 20000 in
theorem sv_42 (hi : Inv m) (h1 : ¬ (x + 1 < 0 ∨ XL ≤ (x + 1).toNatClampNeg)) (h2 : ¬ (x + 2 < 0 ∨ XL ≤ (x + 2).toNatClampNeg)) (h3 : ¬ (x + 3 < 0 ∨ XL ≤ (x + 3).toNatClampNeg)) (h4 : ¬ (x + 4 < 0 ∨ XL ≤ (x + 4).toNatClampNeg)) (h5 : ¬ (x + 5 < 0 ∨ XL ≤ (x + 5).toNatClampNeg)) : SV XL xs m x (Int32.ofNat 42) := sv_of (P := 1595) ⟨m, hi, fun _ _ _ _ h => h⟩ (fun d c w n => rfl)
set_option maxRecDepth 20000 in
theorem sv_43 (hi : Inv m) (h1 : ¬ (x + 1 < 0 ∨ XL ≤ (x + 1).toNatClampNeg)) (h2 : ¬ (x + 2 < 0 ∨ XL ≤ (x + 2).toNatClampNeg)) (h3 : ¬ (x + 3 < 0 ∨ XL ≤ (x + 3).toNatClampNeg)) (h4 : ¬ (x + 4 < 0 ∨ XL ≤ (x + 4).toNatClampNeg)) (h5 : ¬ (x + 5 < 0 ∨ XL ≤ (x + 5).toNatClampNeg)) : SV XL xs m x (Int32.ofNat 43) := sv_of (P := 1595) ⟨m, hi, fun _ _ _ _ h => h⟩ (fun d c w n => rfl)
set_option maxRecDepth 20000 in
theorem sv_44 (hi : Inv m) (h1 : ¬ (x + 1 < 0 ∨ XL ≤ (x + 1).toNatClampNeg)) (h2 : ¬ (x + 2 < 0 ∨ XL ≤ (x + 2).toNatClampNeg)) (h3 : ¬ (x + 3 < 0 ∨ XL ≤ (x + 3).toNatClampNeg)) (h4 : ¬ (x + 4 < 0 ∨ XL ≤ (x + 4).toNatClampNeg)) (h5 : ¬ (x + 5 < 0 ∨ XL ≤ (x + 5).toNatClampNeg)) : SV XL xs m x (Int32.ofNat 44) := sv_of (P := 1595) ⟨m, hi, fun _ _ _ _ h => h⟩ (fun d c w n => rfl)
set_option maxRecDepth 20000 in
theorem sv_45 (hi : Inv m) (h1 : ¬ (x + 1 < 0 ∨ XL ≤ (x + 1).toNatClampNeg)) (h2 : ¬ (x + 2 < 0 ∨ XL ≤ (x + 2).toNatClampNeg)) (h3 : ¬ (x + 3 < 0 ∨ XL ≤ (x + 3).toNatClampNeg)) (h4 : ¬ (x + 4 < 0 ∨ XL ≤ (x + 4).toNatClampNeg)) (h5 : ¬ (x + 5 < 0 ∨ XL ≤ (x + 5).toNatClampNeg)) : SV XL xs m x (Int32.ofNat 45) := sv_of (P := 1595) ⟨m, hi, fun _ _ _ _ h => h⟩ (fun d c w n => rfl)
set_option maxRecDepth 20000 in
theorem sv_46 (hi : Inv m) (h1 : ¬ (x + 1 < 0 ∨ XL ≤ (x + 1).toNatClampNeg)) (h2 : ¬ (x + 2 < 0 ∨ XL ≤ (x + 2).toNatClampNeg)) (h3 : ¬ (x + 3 < 0 ∨ XL ≤ (x + 3).toNatClampNeg)) (h4 : ¬ (x + 4 < 0 ∨ XL ≤ (x + 4).toNatClampNeg)) (h5 : ¬ (x + 5 < 0 ∨ XL ≤ (x + 5).toNatClampNeg)) : SV XL xs m x (Int32.ofNat 46) := sv_of (P := 1595) ⟨m, hi, fun _ _ _ _ h => h⟩ (fun d c w n => rfl)
set_option maxRecDepth 20000 in
theorem sv_47 (hi : Inv m) (h1 : ¬ (x + 1 < 0 ∨ XL ≤ (x + 1).toNatClampNeg)) (h2 : ¬ (x + 2 < 0 ∨ XL ≤ (x + 2).toNatClampNeg)) (h3 : ¬ (x + 3 < 0 ∨ XL ≤ (x + 3).toNatClampNeg)) (h4 : ¬ (x + 4 < 0 ∨ XL ≤ (x + 4).toNatClampNeg)) (h5 : ¬ (x + 5 < 0 ∨ XL ≤ (x + 5).toNatClampNeg)) : SV XL xs m x (Int32.ofNat 47) := sv_of (P := 1595) ⟨m, hi, fun _ _ _ _ h => h⟩ (fun d c w n => rfl)
set_option maxRecDepth 20000 in
theorem sv_48 (hi : Inv m) (h1 : ¬ (x + 1 < 0 ∨ XL ≤ (x + 1).toNatClampNeg)) (h2 : ¬ (x + 2 < 0 ∨ XL ≤ (x + 2).toNatClampNeg)) (h3 : ¬ (x + 3 < 0 ∨ XL ≤ (x + 3).toNatClampNeg)) (h4 : ¬ (x + 4 < 0 ∨ XL ≤ (x + 4).toNatClampNeg)) (h5 : ¬ (x + 5 < 0 ∨ XL ≤ (x + 5).toNatClampNeg)) : SV XL xs m x (Int32.ofNat 48) := sv_of (P := 1595) ⟨m, hi, fun _ _ _ _ h => h⟩ (fun d c w n => rfl)
set_option maxRecDepth 20000 in
theorem sv_49 (hi : Inv m) (h1 : ¬ (x + 1 < 0 ∨ XL ≤ (x + 1).toNatClampNeg)) (h2 : ¬ (x + 2 < 0 ∨ XL ≤ (x + 2).toNatClampNeg)) (h3 : ¬ (x + 3 < 0 ∨ XL ≤ (x + 3).toNatClampNeg)) (h4 : ¬ (x + 4 < 0 ∨ XL ≤ (x + 4).toNatClampNeg)) (h5 : ¬ (x + 5 < 0 ∨ XL ≤ (x + 5).toNatClampNeg)) : SV XL xs m x (Int32.ofNat 49) := sv_of (P := 1595) ⟨m, hi, fun _ _ _ _ h => h⟩ (fun d c w n => rfl)
set_option maxRecDepth 20000 in
theorem sv_50 (hi : Inv m) (h1 : ¬ (x + 1 < 0 ∨ XL ≤ (x + 1).toNatClampNeg)) (h2 : ¬ (x + 2 < 0 ∨ XL ≤ (x + 2).toNatClampNeg)) (h3 : ¬ (x + 3 < 0 ∨ XL ≤ (x + 3).toNatClampNeg)) (h4 : ¬ (x + 4 < 0 ∨ XL ≤ (x + 4).toNatClampNeg)) (h5 : ¬ (x + 5 < 0 ∨ XL ≤ (x + 5).toNatClampNeg)) : SV XL xs m x (Int32.ofNat 50) := sv_of (P := 1595) ⟨m, hi, fun _ _ _ _ h => h⟩ (fun d c w n => rfl)
set_option maxRecDepth 20000 in
theorem sv_51 (hi : Inv m) (h1 : ¬ (x + 1 < 0 ∨ XL ≤ (x + 1).toNatClampNeg)) (h2 : ¬ (x + 2 < 0 ∨ XL ≤ (x + 2).toNatClampNeg)) (h3 : ¬ (x + 3 < 0 ∨ XL ≤ (x + 3).toNatClampNeg)) (h4 : ¬ (x + 4 < 0 ∨ XL ≤ (x + 4).toNatClampNeg)) (h5 : ¬ (x + 5 < 0 ∨ XL ≤ (x + 5).toNatClampNeg)) : SV XL xs m x (Int32.ofNat 51) := sv_of (P := 1595) ⟨m, hi, fun _ _ _ _ h => h⟩ (fun d c w n => rfl)
set_option maxRecDepth 20000 in
theorem sv_52 (hi : Inv m) (h1 : ¬ (x + 1 < 0 ∨ XL ≤ (x + 1).toNatClampNeg)) (h2 : ¬ (x + 2 < 0 ∨ XL ≤ (x + 2).toNatClampNeg)) (h3 : ¬ (x + 3 < 0 ∨ XL ≤ (x + 3).toNatClampNeg)) (h4 : ¬ (x + 4 < 0 ∨ XL ≤ (x + 4).toNatClampNeg)) (h5 : ¬ (x + 5 < 0 ∨ XL ≤ (x + 5).toNatClampNeg)) : SV XL xs m x (Int32.ofNat 52) := sv_of (P := 1595) ⟨m, hi, fun _ _ _ _ h => h⟩ (fun d c w n => rfl)
set_option maxRecDepth 20000 in
theorem sv_53 (hi : Inv m) (h1 : ¬ (x + 1 < 0 ∨ XL ≤ (x + 1).toNatClampNeg)) (h2 : ¬ (x + 2 < 0 ∨ XL ≤ (x + 2).toNatClampNeg)) (h3 : ¬ (x + 3 < 0 ∨ XL ≤ (x + 3).toNatClampNeg)) (h4 : ¬ (x + 4 < 0 ∨ XL ≤ (x + 4).toNatClampNeg)) (h5 : ¬ (x + 5 < 0 ∨ XL ≤ (x + 5).toNatClampNeg)) : SV XL xs m x (Int32.ofNat 53) := sv_of (P := 1595) ⟨m, hi, fun _ _ _ _ h => h⟩ (fun d c w n => rfl)
set_option maxRecDepth 20000 in
theorem sv_54 (hi : Inv m) (h1 : ¬ (x + 1 < 0 ∨ XL ≤ (x + 1).toNatClampNeg)) (h2 : ¬ (x + 2 < 0 ∨ XL ≤ (x + 2).toNatClampNeg)) (h3 : ¬ (x + 3 < 0 ∨ XL ≤ (x + 3).toNatClampNeg)) (h4 : ¬ (x + 4 < 0 ∨ XL ≤ (x + 4).toNatClampNeg)) (h5 : ¬ (x + 5 < 0 ∨ XL ≤ (x + 5).toNatClampNeg)) : SV XL xs m x (Int32.ofNat 54) := sv_of (P := 1595) ⟨m, hi, fun _ _ _ _ h => h⟩ (fun d c w n => rfl)
set_option maxRecDepth 20000 in
theorem sv_55 (hi : Inv m) (h1 : ¬ (x + 1 < 0 ∨ XL ≤ (x + 1).toNatClampNeg)) (h2 : ¬ (x + 2 < 0 ∨ XL ≤ (x + 2).toNatClampNeg)) (h3 : ¬ (x + 3 < 0 ∨ XL ≤ (x + 3).toNatClampNeg)) (h4 : ¬ (x + 4 < 0 ∨ XL ≤ (x + 4).toNatClampNeg)) (h5 : ¬ (x + 5 < 0 ∨ XL ≤ (x + 5).toNatClampNeg)) : SV XL xs m x (Int32.ofNat 55) := sv_of (P := 1595) ⟨m, hi, fun _ _ _ _ h => h⟩ (fun d c w n => rfl)
set_option maxRecDepth 20000 in
theorem sv_56 (hi : Inv m) (h1 : ¬ (x + 1 < 0 ∨ XL ≤ (x + 1).toNatClampNeg)) (h2 : ¬ (x + 2 < 0 ∨ XL ≤ (x + 2).toNatClampNeg)) (h3 : ¬ (x + 3 < 0 ∨ XL ≤ (x + 3).toNatClampNeg)) (h4 : ¬ (x + 4 < 0 ∨ XL ≤ (x + 4).toNatClampNeg)) (h5 : ¬ (x + 5 < 0 ∨ XL ≤ (x + 5).toNatClampNeg)) : SV XL xs m x (Int32.ofNat 56) := sv_of (P := 1595) ⟨m, hi, fun _ _ _ _ h => h⟩ (fun d c w n => rfl)
set_option maxRecDepth 20000 in
theorem sv_57 (hi : Inv m) (h1 : ¬ (x + 1 < 0 ∨ XL ≤ (x + 1).toNatClampNeg)) (h2 : ¬ (x + 2 < 0 ∨ XL ≤ (x + 2).toNatClampNeg)) (h3 : ¬ (x + 3 < 0 ∨ XL ≤ (x + 3).toNatClampNeg)) (h4 : ¬ (x + 4 < 0 ∨ XL ≤ (x + 4).toNatClampNeg)) (h5 : ¬ (x + 5 < 0 ∨ XL ≤ (x + 5).toNatClampNeg)) : SV XL xs m x (Int32.ofNat 57) := sv_of (P := 1595) ⟨m, hi, fun _ _ _ _ h => h⟩ (fun d c w n => rfl)
set_option maxRecDepth 20000 in
theorem sv_58 (hi : Inv m) (h1 : ¬ (x + 1 < 0 ∨ XL ≤ (x + 1).toNatClampNeg)) (h2 : ¬ (x + 2 < 0 ∨ XL ≤ (x + 2).toNatClampNeg)) (h3 : ¬ (x + 3 < 0 ∨ XL ≤ (x + 3).toNatClampNeg)) (h4 : ¬ (x + 4 < 0 ∨ XL ≤ (x + 4).toNatClampNeg)) (h5 : ¬ (x + 5 < 0 ∨ XL ≤ (x + 5).toNatClampNeg)) : SV XL xs m x (Int32.ofNat 58) := sv_of (P := 1595) ⟨m, hi, fun _ _ _ _ h => h⟩ (fun d c w n => rfl)
set_option maxRecDepth 20000 in
theorem sv_59 (hi : Inv m) (h1 : ¬ (x + 1 < 0 ∨ XL ≤ (x + 1).toNatClampNeg)) (h2 : ¬ (x + 2 < 0 ∨ XL ≤ (x + 2).toNatClampNeg)) (h3 : ¬ (x + 3 < 0 ∨ XL ≤ (x + 3).toNatClampNeg)) (h4 : ¬ (x + 4 < 0 ∨ XL ≤ (x + 4).toNatClampNeg)) (h5 : ¬ (x + 5 < 0 ∨ XL ≤ (x + 5).toNatClampNeg)) : SV XL xs m x (Int32.ofNat 59) := sv_of (P := 1595) ⟨m, hi, fun _ _ _ _ h => h⟩ (fun d c w n => rfl)
set_option maxRecDepth 20000 in
theorem sv_60 (hi : Inv m) (h1 : ¬ (x + 1 < 0 ∨ XL ≤ (x + 1).toNatClampNeg)) (h2 : ¬ (x + 2 < 0 ∨ XL ≤ (x + 2).toNatClampNeg)) (h3 : ¬ (x + 3 < 0 ∨ XL ≤ (x + 3).toNatClampNeg)) (h4 : ¬ (x + 4 < 0 ∨ XL ≤ (x + 4).toNatClampNeg)) (h5 : ¬ (x + 5 < 0 ∨ XL ≤ (x + 5).toNatClampNeg)) : SV XL xs m x (Int32.ofNat 60) := sv_of (P := 1595) ⟨m, hi, fun _ _ _ _ h => h⟩ (fun d c w n => rfl)
set_option maxRecDepth 20000 in
theorem sv_61 (hi : Inv m) (h1 : ¬ (x + 1 < 0 ∨ XL ≤ (x + 1).toNatClampNeg)) (h2 : ¬ (x + 2 < 0 ∨ XL ≤ (x + 2).toNatClampNeg)) (h3 : ¬ (x + 3 < 0 ∨ XL ≤ (x + 3).toNatClampNeg)) (h4 : ¬ (x + 4 < 0 ∨ XL ≤ (x + 4).toNatClampNeg)) (h5 : ¬ (x + 5 < 0 ∨ XL ≤ (x + 5).toNatClampNeg)) : SV XL xs m x (Int32.ofNat 61) := sv_of (P := 1595) ⟨m, hi, fun _ _ _ _ h => h⟩ (fun d c w n => rfl)
set_option maxRecDepth 20000 in
theorem sv_62 (hi : Inv m) (h1 : ¬ (x + 1 < 0 ∨ XL ≤ (x + 1).toNatClampNeg)) (h2 : ¬ (x + 2 < 0 ∨ XL ≤ (x + 2).toNatClampNeg)) (h3 : ¬ (x + 3 < 0 ∨ XL ≤ (x + 3).toNatClampNeg)) (h4 : ¬ (x + 4 < 0 ∨ XL ≤ (x + 4).toNatClampNeg)) (h5 : ¬ (x + 5 < 0 ∨ XL ≤ (x + 5).toNatClampNeg)) : SV XL xs m x (Int32.ofNat 62) := sv_of (P := 1595) ⟨m, hi, fun _ _ _ _ h => h⟩ (fun d c w n => rfl)
set_option maxRecDepth 20000 in
theorem sv_63 (hi : Inv m) (h1 : ¬ (x + 1 < 0 ∨ XL ≤ (x + 1).toNatClampNeg)) (h2 : ¬ (x + 2 < 0 ∨ XL ≤ (x + 2).toNatClampNeg)) (h3 : ¬ (x + 3 < 0 ∨ XL ≤ (x + 3).toNatClampNeg)) (h4 : ¬ (x + 4 < 0 ∨ XL ≤ (x + 4).toNatClampNeg)) (h5 : ¬ (x + 5 < 0 ∨ XL ≤ (x + 5).toNatClampNeg)) : SV XL xs m x (Int32.ofNat 63) := sv_of (P := 1595) ⟨m, hi, fun _ _ _ _ h => h⟩ (fun d c w n => rfl)
theorem sv_all (hi : Inv m) (h1 : ¬ (x + 1 < 0 ∨ XL ≤ (x + 1).toNatClampNeg)) (h2 : ¬ (x + 2 < 0 ∨ XL ≤ (x + 2).toNatClampNeg)) (h3 : ¬ (x + 3 < 0 ∨ XL ≤ (x + 3).toNatClampNeg)) (h4 : ¬ (x + 4 < 0 ∨ XL ≤ (x + 4).toNatClampNeg)) (h5 : ¬ (x + 5 < 0 ∨ XL ≤ (x + 5).toNatClampNeg)) : ∀ j, j < 64 → SV XL xs m x (Int32.ofNat j) := by
  intro j hj
  obtain rfl | rfl | rfl | rfl | rfl | rfl | rfl | rfl | rfl | rfl | rfl | rfl | rfl | rfl | rfl | rfl | rfl | rfl | rfl | rfl | rfl | rfl | rfl | rfl | rfl | rfl | rfl | rfl | rfl | rfl | rfl | rfl | rfl | rfl | rfl | rfl | rfl | rfl | rfl | rfl | rfl | rfl | rfl | rfl | rfl | rfl | rfl | rfl | rfl | rfl | rfl | rfl | rfl | rfl | rfl | rfl | rfl | rfl | rfl | rfl | rfl | rfl | rfl | rfl : j = 0 ∨ j = 1 ∨ j = 2 ∨ j = 3 ∨ j = 4 ∨ j = 5 ∨ j = 6 ∨ j = 7 ∨ j = 8 ∨ j = 9 ∨ j = 10 ∨ j = 11 ∨ j = 12 ∨ j = 13 ∨ j = 14 ∨ j = 15 ∨ j = 16 ∨ j = 17 ∨ j = 18 ∨ j = 19 ∨ j = 20 ∨ j = 21 ∨ j = 22 ∨ j = 23 ∨ j = 24 ∨ j = 25 ∨ j = 26 ∨ j = 27 ∨ j = 28 ∨ j = 29 ∨ j = 30 ∨ j = 31 ∨ j = 32 ∨ j = 33 ∨ j = 34 ∨ j = 35 ∨ j = 36 ∨ j = 37 ∨ j = 38 ∨ j = 39 ∨ j = 40 ∨ j = 41 ∨ j = 42 ∨ j = 43 ∨ j = 44 ∨ j = 45 ∨ j = 46 ∨ j = 47 ∨ j = 48 ∨ j = 49 ∨ j = 50 ∨ j = 51 ∨ j = 52 ∨ j = 53 ∨ j = 54 ∨ j = 55 ∨ j = 56 ∨ j = 57 ∨ j = 58 ∨ j = 59 ∨ j = 60 ∨ j = 61 ∨ j = 62 ∨ j = 63 := by omega
  · exact sv_0 hi h1 h2 h3 h4 h5
  · exact sv_1 hi h1 h2 h3 h4 h5
  · exact sv_2 hi h1 h2 h3 h4 h5
  · exact sv_3 hi h1 h2 h3 h4 h5
  · exact sv_4 hi h1 h2 h3 h4 h5
  · exact sv_5 hi h1 h2 h3 h4 h5
  · exact sv_6 hi h1 h2 h3 h4 h5
  · exact sv_7 hi h1 h2 h3 h4 h5
  · exact sv_8 hi h1 h2 h3 h4 h5
  · exact sv_9 hi h1 h2 h3 h4 h5
  · exact sv_10 hi h1 h2 h3 h4 h5
  · exact sv_11 hi h1 h2 h3 h4 h5
  · exact sv_12 hi h1 h2 h3 h4 h5
  · exact sv_13 hi h1 h2 h3 h4 h5
  · exact sv_14 hi h1 h2 h3 h4 h5
  · exact sv_15 hi h1 h2 h3 h4 h5
  · exact sv_16 hi h1 h2 h3 h4 h5
  · exact sv_17 hi h1 h2 h3 h4 h5
  · exact sv_18 hi h1 h2 h3 h4 h5
  · exact sv_19 hi h1 h2 h3 h4 h5
  · exact sv_20 hi h1 h2 h3 h4 h5
  · exact sv_21 hi h1 h2 h3 h4 h5
  · exact sv_22 hi h1 h2 h3 h4 h5
  · exact sv_23 hi h1 h2 h3 h4 h5
  · exact sv_24 hi h1 h2 h3 h4 h5
  · exact sv_25 hi h1 h2 h3 h4 h5
  · exact sv_26 hi h1 h2 h3 h4 h5
  · exact sv_27 hi h1 h2 h3 h4 h5
  · exact sv_28 hi h1 h2 h3 h4 h5
  · exact sv_29 hi h1 h2 h3 h4 h5
  · exact sv_30 hi h1 h2 h3 h4 h5
  · exact sv_31 hi h1 h2 h3 h4 h5
  · exact sv_32 hi h1 h2 h3 h4 h5
  · exact sv_33 hi h1 h2 h3 h4 h5
  · exact sv_34 hi h1 h2 h3 h4 h5
  · exact sv_35 hi h1 h2 h3 h4 h5
  · exact sv_36 hi h1 h2 h3 h4 h5
  · exact sv_37 hi h1 h2 h3 h4 h5
  · exact sv_38 hi h1 h2 h3 h4 h5
  · exact sv_39 hi h1 h2 h3 h4 h5
  · exact sv_40 hi h1 h2 h3 h4 h5
  · exact sv_41 hi h1 h2 h3 h4 h5
  · exact sv_42 hi h1 h2 h3 h4 h5
  · exact sv_43 hi h1 h2 h3 h4 h5
  · exact sv_44 hi h1 h2 h3 h4 h5
  · exact sv_45 hi h1 h2 h3 h4 h5
  · exact sv_46 hi h1 h2 h3 h4 h5
  · exact sv_47 hi h1 h2 h3 h4 h5
  · exact sv_48 hi h1 h2 h3 h4 h5
  · exact sv_49 hi h1 h2 h3 h4 h5
  · exact sv_50 hi h1 h2 h3 h4 h5
  · exact sv_51 hi h1 h2 h3 h4 h5
  · exact sv_52 hi h1 h2 h3 h4 h5
  · exact sv_53 hi h1 h2 h3 h4 h5
  · exact sv_54 hi h1 h2 h3 h4 h5
  · exact sv_55 hi h1 h2 h3 h4 h5
  · exact sv_56 hi h1 h2 h3 h4 h5
  · exact sv_57 hi h1 h2 h3 h4 h5
  · exact sv_58 hi h1 h2 h3 h4 h5
  · exact sv_59 hi h1 h2 h3 h4 h5
  · exact sv_60 hi h1 h2 h3 h4 h5
  · exact sv_61 hi h1 h2 h3 h4 h5
  · exact sv_62 hi h1 h2 h3 h4 h5
  · exact sv_63 hi h1 h2 h3 h4 h5
end LOP
