/-! THE CONSTRUCTORS, run in the small machine from the empty memory: 15,049 steps, nothing symbolic in them -/
def in_M0 : mm_M := (fun _ _ => 0, fun _ _ => 0, fun _ _ => none, 1, 1, 20)
def in_ok : Bool := match mm_run 0 (fun _ => 0) 20000 20 92 in_M0 0 [(0, .ref 0)] [] with
  | some (none, M) => Nat.beq M.2.2.2.1 606 && Nat.beq M.2.2.2.2.1 606
  | _ => false
theorem in_ok1 : in_ok = true := by decide +kernel
