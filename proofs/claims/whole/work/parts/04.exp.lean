section EX
variable (XL : Nat) (xs : Nat → Int32)
theorem e_cut (n d : Nat) (I : Nat → Nat → Int32) (L : Nat → Nat → Int64) (c w : Nat) (x : Int32) : mm_run XL xs (n + 20) d 80 (I, L, mm_tr, 640, c, w) 0 (lv_args 0 [.ref 1, .int x]) [] = some (none, (mm_up I 1 1 x, L, mm_tr, 640, c, w)) := rfl
theorem e_pick (n d : Nat) (I : Nat → Nat → Int32) (L : Nat → Nat → Int64) (c w : Nat) (i : Int32) : mm_run XL xs (n + 30) d 175 (I, L, mm_tr, 640, c, w) 0 (lv_args 0 [.ref 2, .int i]) [] = if i < 0 then some (some (.int 0), (I, L, mm_tr, 640, c, w)) else if i < 240 then (if i < 0 ∨ 240 ≤ i.toNatClampNeg then none else some (some (.int (I 2 i.toNatClampNeg)), (I, L, mm_tr, 640, c, w))) else some (some (.int 0), (I, L, mm_tr, 640, c, w)) := rfl
theorem e_end (n d : Nat) (I : Nat → Nat → Int32) (L : Nat → Nat → Int64) (c w : Nat) (x : Int32) : mm_run XL xs (n + 40) (d + 3) 94 (I, L, mm_tr, 640, c, w) 0 (lv_args 0 [.ref 0, .int x]) [] = if x < 0 then some (some (.int 0), (I, L, mm_tr, 640, c, w)) else if x ≤ I 1 1 then some (some (.int 1), (mm_up I 1 1 x, L, mm_tr, 640, c, w)) else some (some (.int 0), (I, L, mm_tr, 640, c, w)) := rfl
end EX
