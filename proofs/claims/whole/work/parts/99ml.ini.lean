section INI
variable {XL : Nat} {xs : Nat → Int32}
set_option maxRecDepth 100000
theorem in_c158 (n d : Nat) : mm_run XL xs (n + 300) (d + 2) 180 (in_mI157, in_mL157, in_mR157, 607, 607, 16844) 0 [(0, .ref 606)] [] = some (none, (in_mI158, in_mL158, in_mR158, 639, 639, 36839)) := rfl
end INI
