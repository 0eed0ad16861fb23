section INI
variable {XL : Nat} {xs : Nat → Int32}
set_option maxRecDepth 100000
theorem in_past_s10 {d : Nat} {q : mm_R} (h : Ev XL xs (d + 8) 38 (in_mI47, in_mL47, in_mR47, 200, 200, 3930) 46 [(1, .int 10), (0, .ref 55)] [.ref 187, .int 10, .ref 56] q) : Ev XL xs (d + 8) 38 (in_mI44, in_mL44, in_mR44, 187, 187, 3686) 46 [(1, .int 9), (0, .ref 55)] [.ref 174, .int 9, .ref 56] q := by
  refine ev_s 5 (M' := (in_mI44, in_mL44, in_mR45, 187, 187, 3686)) (pc' := 27) (lv' := [(1, .int 10), (0, .ref 55)]) (st' := [.ref 55, .int 10]) (fun n => rfl) ?_
  rw [← in_eI45, ← in_eL45]
  refine ev_s 1 (M' := (in_mI45, in_mL45, in_mR45, 187, 187, 3686)) (pc' := 30) (lv' := [(1, .int 10), (0, .ref 55)]) (st' := va_rf (in_mR45 55 0) :: [.int 10]) (fun n => rfl) ?_
  rw [in_h45_55_0]
  show Ev XL xs _ 38 (in_mI45, in_mL45, in_mR45, 187, 187, 3686) 30 [(1, .int 10), (0, .ref 55)] (.ref 56 :: [.int 10]) _
  refine ev_s 3 (M' := (in_mI45, in_mL45, in_mR45, 187, 187, 3686)) (pc' := 35) (lv' := [(1, .int 10), (0, .ref 55)]) (st' := [.ref 55]) (fun n => rfl) ?_
  refine ev_s 1 (M' := (in_mI45, in_mL45, in_mR45, 187, 187, 3686)) (pc' := 38) (lv' := [(1, .int 10), (0, .ref 55)]) (st' := va_rf (in_mR45 55 0) :: []) (fun n => rfl) ?_
  rw [in_h45_55_0]
  show Ev XL xs _ 38 (in_mI45, in_mL45, in_mR45, 187, 187, 3686) 38 [(1, .int 10), (0, .ref 55)] (.ref 56 :: []) _
  refine ev_s 3 (M' := (in_mI46, in_mL46, in_mR46, 188, 188, 3694)) (pc' := 43) (lv' := [(1, .int 10), (0, .ref 55)]) (st' := [.ref 187, .ref 187, .int 10, .ref 56]) (fun n => rfl) ?_
  refine ev_c 1 (y' := 67) (M1 := (in_mI46, in_mL46, in_mR46, 188, 188, 3694)) (la := [(0, .ref 187)]) (rest := [.ref 187, .int 10, .ref 56]) (pc' := 46) (lv' := [(1, .int 10), (0, .ref 55)]) (fun n => rfl) (ev_r 300 (fun n => in_c47 n _)) ?_
  show Ev XL xs _ 38 (in_mI47, in_mL47, in_mR47, 200, 200, 3930) 46 [(1, .int 10), (0, .ref 55)] [.ref 187, .int 10, .ref 56] _
  exact h
theorem in_past_s11 {d : Nat} {q : mm_R} (h : Ev XL xs (d + 8) 38 (in_mI50, in_mL50, in_mR50, 213, 213, 4174) 46 [(1, .int 11), (0, .ref 55)] [.ref 200, .int 11, .ref 56] q) : Ev XL xs (d + 8) 38 (in_mI47, in_mL47, in_mR47, 200, 200, 3930) 46 [(1, .int 10), (0, .ref 55)] [.ref 187, .int 10, .ref 56] q := by
  refine ev_s 5 (M' := (in_mI47, in_mL47, in_mR48, 200, 200, 3930)) (pc' := 27) (lv' := [(1, .int 11), (0, .ref 55)]) (st' := [.ref 55, .int 11]) (fun n => rfl) ?_
  rw [← in_eI48, ← in_eL48]
  refine ev_s 1 (M' := (in_mI48, in_mL48, in_mR48, 200, 200, 3930)) (pc' := 30) (lv' := [(1, .int 11), (0, .ref 55)]) (st' := va_rf (in_mR48 55 0) :: [.int 11]) (fun n => rfl) ?_
  rw [in_h48_55_0]
  show Ev XL xs _ 38 (in_mI48, in_mL48, in_mR48, 200, 200, 3930) 30 [(1, .int 11), (0, .ref 55)] (.ref 56 :: [.int 11]) _
  refine ev_s 3 (M' := (in_mI48, in_mL48, in_mR48, 200, 200, 3930)) (pc' := 35) (lv' := [(1, .int 11), (0, .ref 55)]) (st' := [.ref 55]) (fun n => rfl) ?_
  refine ev_s 1 (M' := (in_mI48, in_mL48, in_mR48, 200, 200, 3930)) (pc' := 38) (lv' := [(1, .int 11), (0, .ref 55)]) (st' := va_rf (in_mR48 55 0) :: []) (fun n => rfl) ?_
  rw [in_h48_55_0]
  show Ev XL xs _ 38 (in_mI48, in_mL48, in_mR48, 200, 200, 3930) 38 [(1, .int 11), (0, .ref 55)] (.ref 56 :: []) _
  refine ev_s 3 (M' := (in_mI49, in_mL49, in_mR49, 201, 201, 3938)) (pc' := 43) (lv' := [(1, .int 11), (0, .ref 55)]) (st' := [.ref 200, .ref 200, .int 11, .ref 56]) (fun n => rfl) ?_
  refine ev_c 1 (y' := 67) (M1 := (in_mI49, in_mL49, in_mR49, 201, 201, 3938)) (la := [(0, .ref 200)]) (rest := [.ref 200, .int 11, .ref 56]) (pc' := 46) (lv' := [(1, .int 11), (0, .ref 55)]) (fun n => rfl) (ev_r 300 (fun n => in_c50 n _)) ?_
  show Ev XL xs _ 38 (in_mI50, in_mL50, in_mR50, 213, 213, 4174) 46 [(1, .int 11), (0, .ref 55)] [.ref 200, .int 11, .ref 56] _
  exact h
theorem in_past_s12 {d : Nat} {q : mm_R} (h : Ev XL xs (d + 8) 38 (in_mI53, in_mL53, in_mR53, 226, 226, 4418) 46 [(1, .int 12), (0, .ref 55)] [.ref 213, .int 12, .ref 56] q) : Ev XL xs (d + 8) 38 (in_mI50, in_mL50, in_mR50, 213, 213, 4174) 46 [(1, .int 11), (0, .ref 55)] [.ref 200, .int 11, .ref 56] q := by
  refine ev_s 5 (M' := (in_mI50, in_mL50, in_mR51, 213, 213, 4174)) (pc' := 27) (lv' := [(1, .int 12), (0, .ref 55)]) (st' := [.ref 55, .int 12]) (fun n => rfl) ?_
  rw [← in_eI51, ← in_eL51]
  refine ev_s 1 (M' := (in_mI51, in_mL51, in_mR51, 213, 213, 4174)) (pc' := 30) (lv' := [(1, .int 12), (0, .ref 55)]) (st' := va_rf (in_mR51 55 0) :: [.int 12]) (fun n => rfl) ?_
  rw [in_h51_55_0]
  show Ev XL xs _ 38 (in_mI51, in_mL51, in_mR51, 213, 213, 4174) 30 [(1, .int 12), (0, .ref 55)] (.ref 56 :: [.int 12]) _
  refine ev_s 3 (M' := (in_mI51, in_mL51, in_mR51, 213, 213, 4174)) (pc' := 35) (lv' := [(1, .int 12), (0, .ref 55)]) (st' := [.ref 55]) (fun n => rfl) ?_
  refine ev_s 1 (M' := (in_mI51, in_mL51, in_mR51, 213, 213, 4174)) (pc' := 38) (lv' := [(1, .int 12), (0, .ref 55)]) (st' := va_rf (in_mR51 55 0) :: []) (fun n => rfl) ?_
  rw [in_h51_55_0]
  show Ev XL xs _ 38 (in_mI51, in_mL51, in_mR51, 213, 213, 4174) 38 [(1, .int 12), (0, .ref 55)] (.ref 56 :: []) _
  refine ev_s 3 (M' := (in_mI52, in_mL52, in_mR52, 214, 214, 4182)) (pc' := 43) (lv' := [(1, .int 12), (0, .ref 55)]) (st' := [.ref 213, .ref 213, .int 12, .ref 56]) (fun n => rfl) ?_
  refine ev_c 1 (y' := 67) (M1 := (in_mI52, in_mL52, in_mR52, 214, 214, 4182)) (la := [(0, .ref 213)]) (rest := [.ref 213, .int 12, .ref 56]) (pc' := 46) (lv' := [(1, .int 12), (0, .ref 55)]) (fun n => rfl) (ev_r 300 (fun n => in_c53 n _)) ?_
  show Ev XL xs _ 38 (in_mI53, in_mL53, in_mR53, 226, 226, 4418) 46 [(1, .int 12), (0, .ref 55)] [.ref 213, .int 12, .ref 56] _
  exact h
theorem in_past_s13 {d : Nat} {q : mm_R} (h : Ev XL xs (d + 8) 38 (in_mI56, in_mL56, in_mR56, 239, 239, 4662) 46 [(1, .int 13), (0, .ref 55)] [.ref 226, .int 13, .ref 56] q) : Ev XL xs (d + 8) 38 (in_mI53, in_mL53, in_mR53, 226, 226, 4418) 46 [(1, .int 12), (0, .ref 55)] [.ref 213, .int 12, .ref 56] q := by
  refine ev_s 5 (M' := (in_mI53, in_mL53, in_mR54, 226, 226, 4418)) (pc' := 27) (lv' := [(1, .int 13), (0, .ref 55)]) (st' := [.ref 55, .int 13]) (fun n => rfl) ?_
  rw [← in_eI54, ← in_eL54]
  refine ev_s 1 (M' := (in_mI54, in_mL54, in_mR54, 226, 226, 4418)) (pc' := 30) (lv' := [(1, .int 13), (0, .ref 55)]) (st' := va_rf (in_mR54 55 0) :: [.int 13]) (fun n => rfl) ?_
  rw [in_h54_55_0]
  show Ev XL xs _ 38 (in_mI54, in_mL54, in_mR54, 226, 226, 4418) 30 [(1, .int 13), (0, .ref 55)] (.ref 56 :: [.int 13]) _
  refine ev_s 3 (M' := (in_mI54, in_mL54, in_mR54, 226, 226, 4418)) (pc' := 35) (lv' := [(1, .int 13), (0, .ref 55)]) (st' := [.ref 55]) (fun n => rfl) ?_
  refine ev_s 1 (M' := (in_mI54, in_mL54, in_mR54, 226, 226, 4418)) (pc' := 38) (lv' := [(1, .int 13), (0, .ref 55)]) (st' := va_rf (in_mR54 55 0) :: []) (fun n => rfl) ?_
  rw [in_h54_55_0]
  show Ev XL xs _ 38 (in_mI54, in_mL54, in_mR54, 226, 226, 4418) 38 [(1, .int 13), (0, .ref 55)] (.ref 56 :: []) _
  refine ev_s 3 (M' := (in_mI55, in_mL55, in_mR55, 227, 227, 4426)) (pc' := 43) (lv' := [(1, .int 13), (0, .ref 55)]) (st' := [.ref 226, .ref 226, .int 13, .ref 56]) (fun n => rfl) ?_
  refine ev_c 1 (y' := 67) (M1 := (in_mI55, in_mL55, in_mR55, 227, 227, 4426)) (la := [(0, .ref 226)]) (rest := [.ref 226, .int 13, .ref 56]) (pc' := 46) (lv' := [(1, .int 13), (0, .ref 55)]) (fun n => rfl) (ev_r 300 (fun n => in_c56 n _)) ?_
  show Ev XL xs _ 38 (in_mI56, in_mL56, in_mR56, 239, 239, 4662) 46 [(1, .int 13), (0, .ref 55)] [.ref 226, .int 13, .ref 56] _
  exact h
theorem in_past_s14 {d : Nat} {q : mm_R} (h : Ev XL xs (d + 8) 38 (in_mI59, in_mL59, in_mR59, 252, 252, 4906) 46 [(1, .int 14), (0, .ref 55)] [.ref 239, .int 14, .ref 56] q) : Ev XL xs (d + 8) 38 (in_mI56, in_mL56, in_mR56, 239, 239, 4662) 46 [(1, .int 13), (0, .ref 55)] [.ref 226, .int 13, .ref 56] q := by
  refine ev_s 5 (M' := (in_mI56, in_mL56, in_mR57, 239, 239, 4662)) (pc' := 27) (lv' := [(1, .int 14), (0, .ref 55)]) (st' := [.ref 55, .int 14]) (fun n => rfl) ?_
  rw [← in_eI57, ← in_eL57]
  refine ev_s 1 (M' := (in_mI57, in_mL57, in_mR57, 239, 239, 4662)) (pc' := 30) (lv' := [(1, .int 14), (0, .ref 55)]) (st' := va_rf (in_mR57 55 0) :: [.int 14]) (fun n => rfl) ?_
  rw [in_h57_55_0]
  show Ev XL xs _ 38 (in_mI57, in_mL57, in_mR57, 239, 239, 4662) 30 [(1, .int 14), (0, .ref 55)] (.ref 56 :: [.int 14]) _
  refine ev_s 3 (M' := (in_mI57, in_mL57, in_mR57, 239, 239, 4662)) (pc' := 35) (lv' := [(1, .int 14), (0, .ref 55)]) (st' := [.ref 55]) (fun n => rfl) ?_
  refine ev_s 1 (M' := (in_mI57, in_mL57, in_mR57, 239, 239, 4662)) (pc' := 38) (lv' := [(1, .int 14), (0, .ref 55)]) (st' := va_rf (in_mR57 55 0) :: []) (fun n => rfl) ?_
  rw [in_h57_55_0]
  show Ev XL xs _ 38 (in_mI57, in_mL57, in_mR57, 239, 239, 4662) 38 [(1, .int 14), (0, .ref 55)] (.ref 56 :: []) _
  refine ev_s 3 (M' := (in_mI58, in_mL58, in_mR58, 240, 240, 4670)) (pc' := 43) (lv' := [(1, .int 14), (0, .ref 55)]) (st' := [.ref 239, .ref 239, .int 14, .ref 56]) (fun n => rfl) ?_
  refine ev_c 1 (y' := 67) (M1 := (in_mI58, in_mL58, in_mR58, 240, 240, 4670)) (la := [(0, .ref 239)]) (rest := [.ref 239, .int 14, .ref 56]) (pc' := 46) (lv' := [(1, .int 14), (0, .ref 55)]) (fun n => rfl) (ev_r 300 (fun n => in_c59 n _)) ?_
  show Ev XL xs _ 38 (in_mI59, in_mL59, in_mR59, 252, 252, 4906) 46 [(1, .int 14), (0, .ref 55)] [.ref 239, .int 14, .ref 56] _
  exact h
theorem in_past_s15 {d : Nat} {q : mm_R} (h : Ev XL xs (d + 8) 38 (in_mI62, in_mL62, in_mR62, 265, 265, 5150) 46 [(1, .int 15), (0, .ref 55)] [.ref 252, .int 15, .ref 56] q) : Ev XL xs (d + 8) 38 (in_mI59, in_mL59, in_mR59, 252, 252, 4906) 46 [(1, .int 14), (0, .ref 55)] [.ref 239, .int 14, .ref 56] q := by
  refine ev_s 5 (M' := (in_mI59, in_mL59, in_mR60, 252, 252, 4906)) (pc' := 27) (lv' := [(1, .int 15), (0, .ref 55)]) (st' := [.ref 55, .int 15]) (fun n => rfl) ?_
  rw [← in_eI60, ← in_eL60]
  refine ev_s 1 (M' := (in_mI60, in_mL60, in_mR60, 252, 252, 4906)) (pc' := 30) (lv' := [(1, .int 15), (0, .ref 55)]) (st' := va_rf (in_mR60 55 0) :: [.int 15]) (fun n => rfl) ?_
  rw [in_h60_55_0]
  show Ev XL xs _ 38 (in_mI60, in_mL60, in_mR60, 252, 252, 4906) 30 [(1, .int 15), (0, .ref 55)] (.ref 56 :: [.int 15]) _
  refine ev_s 3 (M' := (in_mI60, in_mL60, in_mR60, 252, 252, 4906)) (pc' := 35) (lv' := [(1, .int 15), (0, .ref 55)]) (st' := [.ref 55]) (fun n => rfl) ?_
  refine ev_s 1 (M' := (in_mI60, in_mL60, in_mR60, 252, 252, 4906)) (pc' := 38) (lv' := [(1, .int 15), (0, .ref 55)]) (st' := va_rf (in_mR60 55 0) :: []) (fun n => rfl) ?_
  rw [in_h60_55_0]
  show Ev XL xs _ 38 (in_mI60, in_mL60, in_mR60, 252, 252, 4906) 38 [(1, .int 15), (0, .ref 55)] (.ref 56 :: []) _
  refine ev_s 3 (M' := (in_mI61, in_mL61, in_mR61, 253, 253, 4914)) (pc' := 43) (lv' := [(1, .int 15), (0, .ref 55)]) (st' := [.ref 252, .ref 252, .int 15, .ref 56]) (fun n => rfl) ?_
  refine ev_c 1 (y' := 67) (M1 := (in_mI61, in_mL61, in_mR61, 253, 253, 4914)) (la := [(0, .ref 252)]) (rest := [.ref 252, .int 15, .ref 56]) (pc' := 46) (lv' := [(1, .int 15), (0, .ref 55)]) (fun n => rfl) (ev_r 300 (fun n => in_c62 n _)) ?_
  show Ev XL xs _ 38 (in_mI62, in_mL62, in_mR62, 265, 265, 5150) 46 [(1, .int 15), (0, .ref 55)] [.ref 252, .int 15, .ref 56] _
  exact h
theorem in_past_s16 {d : Nat} {q : mm_R} (h : Ev XL xs (d + 8) 38 (in_mI65, in_mL65, in_mR65, 278, 278, 5394) 46 [(1, .int 16), (0, .ref 55)] [.ref 265, .int 16, .ref 56] q) : Ev XL xs (d + 8) 38 (in_mI62, in_mL62, in_mR62, 265, 265, 5150) 46 [(1, .int 15), (0, .ref 55)] [.ref 252, .int 15, .ref 56] q := by
  refine ev_s 5 (M' := (in_mI62, in_mL62, in_mR63, 265, 265, 5150)) (pc' := 27) (lv' := [(1, .int 16), (0, .ref 55)]) (st' := [.ref 55, .int 16]) (fun n => rfl) ?_
  rw [← in_eI63, ← in_eL63]
  refine ev_s 1 (M' := (in_mI63, in_mL63, in_mR63, 265, 265, 5150)) (pc' := 30) (lv' := [(1, .int 16), (0, .ref 55)]) (st' := va_rf (in_mR63 55 0) :: [.int 16]) (fun n => rfl) ?_
  rw [in_h63_55_0]
  show Ev XL xs _ 38 (in_mI63, in_mL63, in_mR63, 265, 265, 5150) 30 [(1, .int 16), (0, .ref 55)] (.ref 56 :: [.int 16]) _
  refine ev_s 3 (M' := (in_mI63, in_mL63, in_mR63, 265, 265, 5150)) (pc' := 35) (lv' := [(1, .int 16), (0, .ref 55)]) (st' := [.ref 55]) (fun n => rfl) ?_
  refine ev_s 1 (M' := (in_mI63, in_mL63, in_mR63, 265, 265, 5150)) (pc' := 38) (lv' := [(1, .int 16), (0, .ref 55)]) (st' := va_rf (in_mR63 55 0) :: []) (fun n => rfl) ?_
  rw [in_h63_55_0]
  show Ev XL xs _ 38 (in_mI63, in_mL63, in_mR63, 265, 265, 5150) 38 [(1, .int 16), (0, .ref 55)] (.ref 56 :: []) _
  refine ev_s 3 (M' := (in_mI64, in_mL64, in_mR64, 266, 266, 5158)) (pc' := 43) (lv' := [(1, .int 16), (0, .ref 55)]) (st' := [.ref 265, .ref 265, .int 16, .ref 56]) (fun n => rfl) ?_
  refine ev_c 1 (y' := 67) (M1 := (in_mI64, in_mL64, in_mR64, 266, 266, 5158)) (la := [(0, .ref 265)]) (rest := [.ref 265, .int 16, .ref 56]) (pc' := 46) (lv' := [(1, .int 16), (0, .ref 55)]) (fun n => rfl) (ev_r 300 (fun n => in_c65 n _)) ?_
  show Ev XL xs _ 38 (in_mI65, in_mL65, in_mR65, 278, 278, 5394) 46 [(1, .int 16), (0, .ref 55)] [.ref 265, .int 16, .ref 56] _
  exact h
theorem in_past_s17 {d : Nat} {q : mm_R} (h : Ev XL xs (d + 8) 38 (in_mI68, in_mL68, in_mR68, 291, 291, 5638) 46 [(1, .int 17), (0, .ref 55)] [.ref 278, .int 17, .ref 56] q) : Ev XL xs (d + 8) 38 (in_mI65, in_mL65, in_mR65, 278, 278, 5394) 46 [(1, .int 16), (0, .ref 55)] [.ref 265, .int 16, .ref 56] q := by
  refine ev_s 5 (M' := (in_mI65, in_mL65, in_mR66, 278, 278, 5394)) (pc' := 27) (lv' := [(1, .int 17), (0, .ref 55)]) (st' := [.ref 55, .int 17]) (fun n => rfl) ?_
  rw [← in_eI66, ← in_eL66]
  refine ev_s 1 (M' := (in_mI66, in_mL66, in_mR66, 278, 278, 5394)) (pc' := 30) (lv' := [(1, .int 17), (0, .ref 55)]) (st' := va_rf (in_mR66 55 0) :: [.int 17]) (fun n => rfl) ?_
  rw [in_h66_55_0]
  show Ev XL xs _ 38 (in_mI66, in_mL66, in_mR66, 278, 278, 5394) 30 [(1, .int 17), (0, .ref 55)] (.ref 56 :: [.int 17]) _
  refine ev_s 3 (M' := (in_mI66, in_mL66, in_mR66, 278, 278, 5394)) (pc' := 35) (lv' := [(1, .int 17), (0, .ref 55)]) (st' := [.ref 55]) (fun n => rfl) ?_
  refine ev_s 1 (M' := (in_mI66, in_mL66, in_mR66, 278, 278, 5394)) (pc' := 38) (lv' := [(1, .int 17), (0, .ref 55)]) (st' := va_rf (in_mR66 55 0) :: []) (fun n => rfl) ?_
  rw [in_h66_55_0]
  show Ev XL xs _ 38 (in_mI66, in_mL66, in_mR66, 278, 278, 5394) 38 [(1, .int 17), (0, .ref 55)] (.ref 56 :: []) _
  refine ev_s 3 (M' := (in_mI67, in_mL67, in_mR67, 279, 279, 5402)) (pc' := 43) (lv' := [(1, .int 17), (0, .ref 55)]) (st' := [.ref 278, .ref 278, .int 17, .ref 56]) (fun n => rfl) ?_
  refine ev_c 1 (y' := 67) (M1 := (in_mI67, in_mL67, in_mR67, 279, 279, 5402)) (la := [(0, .ref 278)]) (rest := [.ref 278, .int 17, .ref 56]) (pc' := 46) (lv' := [(1, .int 17), (0, .ref 55)]) (fun n => rfl) (ev_r 300 (fun n => in_c68 n _)) ?_
  show Ev XL xs _ 38 (in_mI68, in_mL68, in_mR68, 291, 291, 5638) 46 [(1, .int 17), (0, .ref 55)] [.ref 278, .int 17, .ref 56] _
  exact h
theorem in_past_s18 {d : Nat} {q : mm_R} (h : Ev XL xs (d + 8) 38 (in_mI71, in_mL71, in_mR71, 304, 304, 5882) 46 [(1, .int 18), (0, .ref 55)] [.ref 291, .int 18, .ref 56] q) : Ev XL xs (d + 8) 38 (in_mI68, in_mL68, in_mR68, 291, 291, 5638) 46 [(1, .int 17), (0, .ref 55)] [.ref 278, .int 17, .ref 56] q := by
  refine ev_s 5 (M' := (in_mI68, in_mL68, in_mR69, 291, 291, 5638)) (pc' := 27) (lv' := [(1, .int 18), (0, .ref 55)]) (st' := [.ref 55, .int 18]) (fun n => rfl) ?_
  rw [← in_eI69, ← in_eL69]
  refine ev_s 1 (M' := (in_mI69, in_mL69, in_mR69, 291, 291, 5638)) (pc' := 30) (lv' := [(1, .int 18), (0, .ref 55)]) (st' := va_rf (in_mR69 55 0) :: [.int 18]) (fun n => rfl) ?_
  rw [in_h69_55_0]
  show Ev XL xs _ 38 (in_mI69, in_mL69, in_mR69, 291, 291, 5638) 30 [(1, .int 18), (0, .ref 55)] (.ref 56 :: [.int 18]) _
  refine ev_s 3 (M' := (in_mI69, in_mL69, in_mR69, 291, 291, 5638)) (pc' := 35) (lv' := [(1, .int 18), (0, .ref 55)]) (st' := [.ref 55]) (fun n => rfl) ?_
  refine ev_s 1 (M' := (in_mI69, in_mL69, in_mR69, 291, 291, 5638)) (pc' := 38) (lv' := [(1, .int 18), (0, .ref 55)]) (st' := va_rf (in_mR69 55 0) :: []) (fun n => rfl) ?_
  rw [in_h69_55_0]
  show Ev XL xs _ 38 (in_mI69, in_mL69, in_mR69, 291, 291, 5638) 38 [(1, .int 18), (0, .ref 55)] (.ref 56 :: []) _
  refine ev_s 3 (M' := (in_mI70, in_mL70, in_mR70, 292, 292, 5646)) (pc' := 43) (lv' := [(1, .int 18), (0, .ref 55)]) (st' := [.ref 291, .ref 291, .int 18, .ref 56]) (fun n => rfl) ?_
  refine ev_c 1 (y' := 67) (M1 := (in_mI70, in_mL70, in_mR70, 292, 292, 5646)) (la := [(0, .ref 291)]) (rest := [.ref 291, .int 18, .ref 56]) (pc' := 46) (lv' := [(1, .int 18), (0, .ref 55)]) (fun n => rfl) (ev_r 300 (fun n => in_c71 n _)) ?_
  show Ev XL xs _ 38 (in_mI71, in_mL71, in_mR71, 304, 304, 5882) 46 [(1, .int 18), (0, .ref 55)] [.ref 291, .int 18, .ref 56] _
  exact h
theorem in_past_s19 {d : Nat} {q : mm_R} (h : Ev XL xs (d + 8) 38 (in_mI74, in_mL74, in_mR74, 317, 317, 6126) 46 [(1, .int 19), (0, .ref 55)] [.ref 304, .int 19, .ref 56] q) : Ev XL xs (d + 8) 38 (in_mI71, in_mL71, in_mR71, 304, 304, 5882) 46 [(1, .int 18), (0, .ref 55)] [.ref 291, .int 18, .ref 56] q := by
  refine ev_s 5 (M' := (in_mI71, in_mL71, in_mR72, 304, 304, 5882)) (pc' := 27) (lv' := [(1, .int 19), (0, .ref 55)]) (st' := [.ref 55, .int 19]) (fun n => rfl) ?_
  rw [← in_eI72, ← in_eL72]
  refine ev_s 1 (M' := (in_mI72, in_mL72, in_mR72, 304, 304, 5882)) (pc' := 30) (lv' := [(1, .int 19), (0, .ref 55)]) (st' := va_rf (in_mR72 55 0) :: [.int 19]) (fun n => rfl) ?_
  rw [in_h72_55_0]
  show Ev XL xs _ 38 (in_mI72, in_mL72, in_mR72, 304, 304, 5882) 30 [(1, .int 19), (0, .ref 55)] (.ref 56 :: [.int 19]) _
  refine ev_s 3 (M' := (in_mI72, in_mL72, in_mR72, 304, 304, 5882)) (pc' := 35) (lv' := [(1, .int 19), (0, .ref 55)]) (st' := [.ref 55]) (fun n => rfl) ?_
  refine ev_s 1 (M' := (in_mI72, in_mL72, in_mR72, 304, 304, 5882)) (pc' := 38) (lv' := [(1, .int 19), (0, .ref 55)]) (st' := va_rf (in_mR72 55 0) :: []) (fun n => rfl) ?_
  rw [in_h72_55_0]
  show Ev XL xs _ 38 (in_mI72, in_mL72, in_mR72, 304, 304, 5882) 38 [(1, .int 19), (0, .ref 55)] (.ref 56 :: []) _
  refine ev_s 3 (M' := (in_mI73, in_mL73, in_mR73, 305, 305, 5890)) (pc' := 43) (lv' := [(1, .int 19), (0, .ref 55)]) (st' := [.ref 304, .ref 304, .int 19, .ref 56]) (fun n => rfl) ?_
  refine ev_c 1 (y' := 67) (M1 := (in_mI73, in_mL73, in_mR73, 305, 305, 5890)) (la := [(0, .ref 304)]) (rest := [.ref 304, .int 19, .ref 56]) (pc' := 46) (lv' := [(1, .int 19), (0, .ref 55)]) (fun n => rfl) (ev_r 300 (fun n => in_c74 n _)) ?_
  show Ev XL xs _ 38 (in_mI74, in_mL74, in_mR74, 317, 317, 6126) 46 [(1, .int 19), (0, .ref 55)] [.ref 304, .int 19, .ref 56] _
  exact h
end INI
