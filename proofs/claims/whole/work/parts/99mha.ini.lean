section INI
variable {XL : Nat} {xs : Nat → Int32}
set_option maxRecDepth 100000
theorem in_nI {l : List (Nat × Nat × Int32)} {f : Nat → Nat → Int32} (h : l = []) : in_I l f = f := by subst h; rfl
theorem in_nL {l : List (Nat × Nat × Int64)} {f : Nat → Nat → Int64} (h : l = []) : in_L l f = f := by subst h; rfl
theorem in_nR {l : List (Nat × Nat × Nat)} {f : Nat → Nat → Option Nat} (h : l = []) : in_R l f = f := by subst h; rfl
theorem in_eI18 : in_mI18 = in_mI17 := in_nI (l := in_i18) (f := in_mI17) rfl
theorem in_eL18 : in_mL18 = in_mL17 := in_nL (l := in_l18) (f := in_mL17) rfl
theorem in_eI21 : in_mI21 = in_mI20 := in_nI (l := in_i21) (f := in_mI20) rfl
theorem in_eL21 : in_mL21 = in_mL20 := in_nL (l := in_l21) (f := in_mL20) rfl
theorem in_eI24 : in_mI24 = in_mI23 := in_nI (l := in_i24) (f := in_mI23) rfl
theorem in_eL24 : in_mL24 = in_mL23 := in_nL (l := in_l24) (f := in_mL23) rfl
theorem in_eI27 : in_mI27 = in_mI26 := in_nI (l := in_i27) (f := in_mI26) rfl
theorem in_eL27 : in_mL27 = in_mL26 := in_nL (l := in_l27) (f := in_mL26) rfl
theorem in_eI30 : in_mI30 = in_mI29 := in_nI (l := in_i30) (f := in_mI29) rfl
theorem in_eL30 : in_mL30 = in_mL29 := in_nL (l := in_l30) (f := in_mL29) rfl
theorem in_eI33 : in_mI33 = in_mI32 := in_nI (l := in_i33) (f := in_mI32) rfl
theorem in_eL33 : in_mL33 = in_mL32 := in_nL (l := in_l33) (f := in_mL32) rfl
theorem in_eI36 : in_mI36 = in_mI35 := in_nI (l := in_i36) (f := in_mI35) rfl
theorem in_eL36 : in_mL36 = in_mL35 := in_nL (l := in_l36) (f := in_mL35) rfl
theorem in_eI39 : in_mI39 = in_mI38 := in_nI (l := in_i39) (f := in_mI38) rfl
theorem in_eL39 : in_mL39 = in_mL38 := in_nL (l := in_l39) (f := in_mL38) rfl
theorem in_eI42 : in_mI42 = in_mI41 := in_nI (l := in_i42) (f := in_mI41) rfl
theorem in_eL42 : in_mL42 = in_mL41 := in_nL (l := in_l42) (f := in_mL41) rfl
theorem in_eI45 : in_mI45 = in_mI44 := in_nI (l := in_i45) (f := in_mI44) rfl
theorem in_eL45 : in_mL45 = in_mL44 := in_nL (l := in_l45) (f := in_mL44) rfl
theorem in_eI48 : in_mI48 = in_mI47 := in_nI (l := in_i48) (f := in_mI47) rfl
theorem in_eL48 : in_mL48 = in_mL47 := in_nL (l := in_l48) (f := in_mL47) rfl
theorem in_eI51 : in_mI51 = in_mI50 := in_nI (l := in_i51) (f := in_mI50) rfl
theorem in_eL51 : in_mL51 = in_mL50 := in_nL (l := in_l51) (f := in_mL50) rfl
theorem in_eI54 : in_mI54 = in_mI53 := in_nI (l := in_i54) (f := in_mI53) rfl
theorem in_eL54 : in_mL54 = in_mL53 := in_nL (l := in_l54) (f := in_mL53) rfl
theorem in_eI57 : in_mI57 = in_mI56 := in_nI (l := in_i57) (f := in_mI56) rfl
theorem in_eL57 : in_mL57 = in_mL56 := in_nL (l := in_l57) (f := in_mL56) rfl
theorem in_eI60 : in_mI60 = in_mI59 := in_nI (l := in_i60) (f := in_mI59) rfl
theorem in_eL60 : in_mL60 = in_mL59 := in_nL (l := in_l60) (f := in_mL59) rfl
theorem in_eI63 : in_mI63 = in_mI62 := in_nI (l := in_i63) (f := in_mI62) rfl
theorem in_eL63 : in_mL63 = in_mL62 := in_nL (l := in_l63) (f := in_mL62) rfl
theorem in_eI66 : in_mI66 = in_mI65 := in_nI (l := in_i66) (f := in_mI65) rfl
theorem in_eL66 : in_mL66 = in_mL65 := in_nL (l := in_l66) (f := in_mL65) rfl
theorem in_eI69 : in_mI69 = in_mI68 := in_nI (l := in_i69) (f := in_mI68) rfl
theorem in_eL69 : in_mL69 = in_mL68 := in_nL (l := in_l69) (f := in_mL68) rfl
theorem in_eI72 : in_mI72 = in_mI71 := in_nI (l := in_i72) (f := in_mI71) rfl
theorem in_eL72 : in_mL72 = in_mL71 := in_nL (l := in_l72) (f := in_mL71) rfl
theorem in_eI75 : in_mI75 = in_mI74 := in_nI (l := in_i75) (f := in_mI74) rfl
theorem in_eL75 : in_mL75 = in_mL74 := in_nL (l := in_l75) (f := in_mL74) rfl
theorem in_eI78 : in_mI78 = in_mI77 := in_nI (l := in_i78) (f := in_mI77) rfl
theorem in_eL78 : in_mL78 = in_mL77 := in_nL (l := in_l78) (f := in_mL77) rfl
theorem in_eI81 : in_mI81 = in_mI80 := in_nI (l := in_i81) (f := in_mI80) rfl
theorem in_eL81 : in_mL81 = in_mL80 := in_nL (l := in_l81) (f := in_mL80) rfl
theorem in_eI84 : in_mI84 = in_mI83 := in_nI (l := in_i84) (f := in_mI83) rfl
theorem in_eL84 : in_mL84 = in_mL83 := in_nL (l := in_l84) (f := in_mL83) rfl
theorem in_eI87 : in_mI87 = in_mI86 := in_nI (l := in_i87) (f := in_mI86) rfl
theorem in_eL87 : in_mL87 = in_mL86 := in_nL (l := in_l87) (f := in_mL86) rfl
theorem in_eI90 : in_mI90 = in_mI89 := in_nI (l := in_i90) (f := in_mI89) rfl
theorem in_eL90 : in_mL90 = in_mL89 := in_nL (l := in_l90) (f := in_mL89) rfl
theorem in_eI93 : in_mI93 = in_mI92 := in_nI (l := in_i93) (f := in_mI92) rfl
theorem in_eL93 : in_mL93 = in_mL92 := in_nL (l := in_l93) (f := in_mL92) rfl
theorem in_eI96 : in_mI96 = in_mI95 := in_nI (l := in_i96) (f := in_mI95) rfl
theorem in_eL96 : in_mL96 = in_mL95 := in_nL (l := in_l96) (f := in_mL95) rfl
theorem in_eI99 : in_mI99 = in_mI98 := in_nI (l := in_i99) (f := in_mI98) rfl
theorem in_eL99 : in_mL99 = in_mL98 := in_nL (l := in_l99) (f := in_mL98) rfl
theorem in_eI102 : in_mI102 = in_mI101 := in_nI (l := in_i102) (f := in_mI101) rfl
theorem in_eL102 : in_mL102 = in_mL101 := in_nL (l := in_l102) (f := in_mL101) rfl
theorem in_eI105 : in_mI105 = in_mI104 := in_nI (l := in_i105) (f := in_mI104) rfl
theorem in_eL105 : in_mL105 = in_mL104 := in_nL (l := in_l105) (f := in_mL104) rfl
theorem in_eI108 : in_mI108 = in_mI107 := in_nI (l := in_i108) (f := in_mI107) rfl
theorem in_eL108 : in_mL108 = in_mL107 := in_nL (l := in_l108) (f := in_mL107) rfl
theorem in_eI111 : in_mI111 = in_mI110 := in_nI (l := in_i111) (f := in_mI110) rfl
theorem in_eL111 : in_mL111 = in_mL110 := in_nL (l := in_l111) (f := in_mL110) rfl
theorem in_eI114 : in_mI114 = in_mI113 := in_nI (l := in_i114) (f := in_mI113) rfl
theorem in_eL114 : in_mL114 = in_mL113 := in_nL (l := in_l114) (f := in_mL113) rfl
theorem in_eI117 : in_mI117 = in_mI116 := in_nI (l := in_i117) (f := in_mI116) rfl
theorem in_eL117 : in_mL117 = in_mL116 := in_nL (l := in_l117) (f := in_mL116) rfl
theorem in_eI120 : in_mI120 = in_mI119 := in_nI (l := in_i120) (f := in_mI119) rfl
theorem in_eL120 : in_mL120 = in_mL119 := in_nL (l := in_l120) (f := in_mL119) rfl
theorem in_eI123 : in_mI123 = in_mI122 := in_nI (l := in_i123) (f := in_mI122) rfl
theorem in_eL123 : in_mL123 = in_mL122 := in_nL (l := in_l123) (f := in_mL122) rfl
theorem in_eI126 : in_mI126 = in_mI125 := in_nI (l := in_i126) (f := in_mI125) rfl
theorem in_eL126 : in_mL126 = in_mL125 := in_nL (l := in_l126) (f := in_mL125) rfl
theorem in_eI129 : in_mI129 = in_mI128 := in_nI (l := in_i129) (f := in_mI128) rfl
theorem in_eL129 : in_mL129 = in_mL128 := in_nL (l := in_l129) (f := in_mL128) rfl
theorem in_eI132 : in_mI132 = in_mI131 := in_nI (l := in_i132) (f := in_mI131) rfl
theorem in_eL132 : in_mL132 = in_mL131 := in_nL (l := in_l132) (f := in_mL131) rfl
theorem in_eI135 : in_mI135 = in_mI134 := in_nI (l := in_i135) (f := in_mI134) rfl
theorem in_eL135 : in_mL135 = in_mL134 := in_nL (l := in_l135) (f := in_mL134) rfl
theorem in_past_s0 {d : Nat} {q : mm_R} (h : Ev XL xs (d + 8) 38 (in_mI17, in_mL17, in_mR17, 70, 70, 1490) 46 [(1, .int 0), (0, .ref 55)] [.ref 57, .int 0, .ref 56] q) : Ev XL xs (d + 8) 38 (in_mI14, in_mL14, in_mR14, 56, 56, 1206) 0 [(0, .ref 55)] [] q := by
  refine ev_s 16 (M' := (in_mI15, in_mL15, in_mR15, 57, 57, 1246)) (pc' := 27) (lv' := [(1, .int 0), (0, .ref 55)]) (st' := [.ref 55, .int 0]) (fun n => rfl) ?_
  refine ev_s 1 (M' := (in_mI15, in_mL15, in_mR15, 57, 57, 1246)) (pc' := 30) (lv' := [(1, .int 0), (0, .ref 55)]) (st' := va_rf (in_mR15 55 0) :: [.int 0]) (fun n => rfl) ?_
  rw [in_h15_55_0]
  show Ev XL xs _ 38 (in_mI15, in_mL15, in_mR15, 57, 57, 1246) 30 [(1, .int 0), (0, .ref 55)] (.ref 56 :: [.int 0]) _
  refine ev_s 3 (M' := (in_mI15, in_mL15, in_mR15, 57, 57, 1246)) (pc' := 35) (lv' := [(1, .int 0), (0, .ref 55)]) (st' := [.ref 55]) (fun n => rfl) ?_
  refine ev_s 1 (M' := (in_mI15, in_mL15, in_mR15, 57, 57, 1246)) (pc' := 38) (lv' := [(1, .int 0), (0, .ref 55)]) (st' := va_rf (in_mR15 55 0) :: []) (fun n => rfl) ?_
  rw [in_h15_55_0]
  show Ev XL xs _ 38 (in_mI15, in_mL15, in_mR15, 57, 57, 1246) 38 [(1, .int 0), (0, .ref 55)] (.ref 56 :: []) _
  refine ev_s 3 (M' := (in_mI16, in_mL16, in_mR16, 58, 58, 1254)) (pc' := 43) (lv' := [(1, .int 0), (0, .ref 55)]) (st' := [.ref 57, .ref 57, .int 0, .ref 56]) (fun n => rfl) ?_
  refine ev_c 1 (y' := 67) (M1 := (in_mI16, in_mL16, in_mR16, 58, 58, 1254)) (la := [(0, .ref 57)]) (rest := [.ref 57, .int 0, .ref 56]) (pc' := 46) (lv' := [(1, .int 0), (0, .ref 55)]) (fun n => rfl) (ev_r 300 (fun n => in_c17 n _)) ?_
  show Ev XL xs _ 38 (in_mI17, in_mL17, in_mR17, 70, 70, 1490) 46 [(1, .int 0), (0, .ref 55)] [.ref 57, .int 0, .ref 56] _
  exact h
theorem in_past_s1 {d : Nat} {q : mm_R} (h : Ev XL xs (d + 8) 38 (in_mI20, in_mL20, in_mR20, 83, 83, 1734) 46 [(1, .int 1), (0, .ref 55)] [.ref 70, .int 1, .ref 56] q) : Ev XL xs (d + 8) 38 (in_mI17, in_mL17, in_mR17, 70, 70, 1490) 46 [(1, .int 0), (0, .ref 55)] [.ref 57, .int 0, .ref 56] q := by
  refine ev_s 5 (M' := (in_mI17, in_mL17, in_mR18, 70, 70, 1490)) (pc' := 27) (lv' := [(1, .int 1), (0, .ref 55)]) (st' := [.ref 55, .int 1]) (fun n => rfl) ?_
  rw [← in_eI18, ← in_eL18]
  refine ev_s 1 (M' := (in_mI18, in_mL18, in_mR18, 70, 70, 1490)) (pc' := 30) (lv' := [(1, .int 1), (0, .ref 55)]) (st' := va_rf (in_mR18 55 0) :: [.int 1]) (fun n => rfl) ?_
  rw [in_h18_55_0]
  show Ev XL xs _ 38 (in_mI18, in_mL18, in_mR18, 70, 70, 1490) 30 [(1, .int 1), (0, .ref 55)] (.ref 56 :: [.int 1]) _
  refine ev_s 3 (M' := (in_mI18, in_mL18, in_mR18, 70, 70, 1490)) (pc' := 35) (lv' := [(1, .int 1), (0, .ref 55)]) (st' := [.ref 55]) (fun n => rfl) ?_
  refine ev_s 1 (M' := (in_mI18, in_mL18, in_mR18, 70, 70, 1490)) (pc' := 38) (lv' := [(1, .int 1), (0, .ref 55)]) (st' := va_rf (in_mR18 55 0) :: []) (fun n => rfl) ?_
  rw [in_h18_55_0]
  show Ev XL xs _ 38 (in_mI18, in_mL18, in_mR18, 70, 70, 1490) 38 [(1, .int 1), (0, .ref 55)] (.ref 56 :: []) _
  refine ev_s 3 (M' := (in_mI19, in_mL19, in_mR19, 71, 71, 1498)) (pc' := 43) (lv' := [(1, .int 1), (0, .ref 55)]) (st' := [.ref 70, .ref 70, .int 1, .ref 56]) (fun n => rfl) ?_
  refine ev_c 1 (y' := 67) (M1 := (in_mI19, in_mL19, in_mR19, 71, 71, 1498)) (la := [(0, .ref 70)]) (rest := [.ref 70, .int 1, .ref 56]) (pc' := 46) (lv' := [(1, .int 1), (0, .ref 55)]) (fun n => rfl) (ev_r 300 (fun n => in_c20 n _)) ?_
  show Ev XL xs _ 38 (in_mI20, in_mL20, in_mR20, 83, 83, 1734) 46 [(1, .int 1), (0, .ref 55)] [.ref 70, .int 1, .ref 56] _
  exact h
theorem in_past_s2 {d : Nat} {q : mm_R} (h : Ev XL xs (d + 8) 38 (in_mI23, in_mL23, in_mR23, 96, 96, 1978) 46 [(1, .int 2), (0, .ref 55)] [.ref 83, .int 2, .ref 56] q) : Ev XL xs (d + 8) 38 (in_mI20, in_mL20, in_mR20, 83, 83, 1734) 46 [(1, .int 1), (0, .ref 55)] [.ref 70, .int 1, .ref 56] q := by
  refine ev_s 5 (M' := (in_mI20, in_mL20, in_mR21, 83, 83, 1734)) (pc' := 27) (lv' := [(1, .int 2), (0, .ref 55)]) (st' := [.ref 55, .int 2]) (fun n => rfl) ?_
  rw [← in_eI21, ← in_eL21]
  refine ev_s 1 (M' := (in_mI21, in_mL21, in_mR21, 83, 83, 1734)) (pc' := 30) (lv' := [(1, .int 2), (0, .ref 55)]) (st' := va_rf (in_mR21 55 0) :: [.int 2]) (fun n => rfl) ?_
  rw [in_h21_55_0]
  show Ev XL xs _ 38 (in_mI21, in_mL21, in_mR21, 83, 83, 1734) 30 [(1, .int 2), (0, .ref 55)] (.ref 56 :: [.int 2]) _
  refine ev_s 3 (M' := (in_mI21, in_mL21, in_mR21, 83, 83, 1734)) (pc' := 35) (lv' := [(1, .int 2), (0, .ref 55)]) (st' := [.ref 55]) (fun n => rfl) ?_
  refine ev_s 1 (M' := (in_mI21, in_mL21, in_mR21, 83, 83, 1734)) (pc' := 38) (lv' := [(1, .int 2), (0, .ref 55)]) (st' := va_rf (in_mR21 55 0) :: []) (fun n => rfl) ?_
  rw [in_h21_55_0]
  show Ev XL xs _ 38 (in_mI21, in_mL21, in_mR21, 83, 83, 1734) 38 [(1, .int 2), (0, .ref 55)] (.ref 56 :: []) _
  refine ev_s 3 (M' := (in_mI22, in_mL22, in_mR22, 84, 84, 1742)) (pc' := 43) (lv' := [(1, .int 2), (0, .ref 55)]) (st' := [.ref 83, .ref 83, .int 2, .ref 56]) (fun n => rfl) ?_
  refine ev_c 1 (y' := 67) (M1 := (in_mI22, in_mL22, in_mR22, 84, 84, 1742)) (la := [(0, .ref 83)]) (rest := [.ref 83, .int 2, .ref 56]) (pc' := 46) (lv' := [(1, .int 2), (0, .ref 55)]) (fun n => rfl) (ev_r 300 (fun n => in_c23 n _)) ?_
  show Ev XL xs _ 38 (in_mI23, in_mL23, in_mR23, 96, 96, 1978) 46 [(1, .int 2), (0, .ref 55)] [.ref 83, .int 2, .ref 56] _
  exact h
theorem in_past_s3 {d : Nat} {q : mm_R} (h : Ev XL xs (d + 8) 38 (in_mI26, in_mL26, in_mR26, 109, 109, 2222) 46 [(1, .int 3), (0, .ref 55)] [.ref 96, .int 3, .ref 56] q) : Ev XL xs (d + 8) 38 (in_mI23, in_mL23, in_mR23, 96, 96, 1978) 46 [(1, .int 2), (0, .ref 55)] [.ref 83, .int 2, .ref 56] q := by
  refine ev_s 5 (M' := (in_mI23, in_mL23, in_mR24, 96, 96, 1978)) (pc' := 27) (lv' := [(1, .int 3), (0, .ref 55)]) (st' := [.ref 55, .int 3]) (fun n => rfl) ?_
  rw [← in_eI24, ← in_eL24]
  refine ev_s 1 (M' := (in_mI24, in_mL24, in_mR24, 96, 96, 1978)) (pc' := 30) (lv' := [(1, .int 3), (0, .ref 55)]) (st' := va_rf (in_mR24 55 0) :: [.int 3]) (fun n => rfl) ?_
  rw [in_h24_55_0]
  show Ev XL xs _ 38 (in_mI24, in_mL24, in_mR24, 96, 96, 1978) 30 [(1, .int 3), (0, .ref 55)] (.ref 56 :: [.int 3]) _
  refine ev_s 3 (M' := (in_mI24, in_mL24, in_mR24, 96, 96, 1978)) (pc' := 35) (lv' := [(1, .int 3), (0, .ref 55)]) (st' := [.ref 55]) (fun n => rfl) ?_
  refine ev_s 1 (M' := (in_mI24, in_mL24, in_mR24, 96, 96, 1978)) (pc' := 38) (lv' := [(1, .int 3), (0, .ref 55)]) (st' := va_rf (in_mR24 55 0) :: []) (fun n => rfl) ?_
  rw [in_h24_55_0]
  show Ev XL xs _ 38 (in_mI24, in_mL24, in_mR24, 96, 96, 1978) 38 [(1, .int 3), (0, .ref 55)] (.ref 56 :: []) _
  refine ev_s 3 (M' := (in_mI25, in_mL25, in_mR25, 97, 97, 1986)) (pc' := 43) (lv' := [(1, .int 3), (0, .ref 55)]) (st' := [.ref 96, .ref 96, .int 3, .ref 56]) (fun n => rfl) ?_
  refine ev_c 1 (y' := 67) (M1 := (in_mI25, in_mL25, in_mR25, 97, 97, 1986)) (la := [(0, .ref 96)]) (rest := [.ref 96, .int 3, .ref 56]) (pc' := 46) (lv' := [(1, .int 3), (0, .ref 55)]) (fun n => rfl) (ev_r 300 (fun n => in_c26 n _)) ?_
  show Ev XL xs _ 38 (in_mI26, in_mL26, in_mR26, 109, 109, 2222) 46 [(1, .int 3), (0, .ref 55)] [.ref 96, .int 3, .ref 56] _
  exact h
theorem in_past_s4 {d : Nat} {q : mm_R} (h : Ev XL xs (d + 8) 38 (in_mI29, in_mL29, in_mR29, 122, 122, 2466) 46 [(1, .int 4), (0, .ref 55)] [.ref 109, .int 4, .ref 56] q) : Ev XL xs (d + 8) 38 (in_mI26, in_mL26, in_mR26, 109, 109, 2222) 46 [(1, .int 3), (0, .ref 55)] [.ref 96, .int 3, .ref 56] q := by
  refine ev_s 5 (M' := (in_mI26, in_mL26, in_mR27, 109, 109, 2222)) (pc' := 27) (lv' := [(1, .int 4), (0, .ref 55)]) (st' := [.ref 55, .int 4]) (fun n => rfl) ?_
  rw [← in_eI27, ← in_eL27]
  refine ev_s 1 (M' := (in_mI27, in_mL27, in_mR27, 109, 109, 2222)) (pc' := 30) (lv' := [(1, .int 4), (0, .ref 55)]) (st' := va_rf (in_mR27 55 0) :: [.int 4]) (fun n => rfl) ?_
  rw [in_h27_55_0]
  show Ev XL xs _ 38 (in_mI27, in_mL27, in_mR27, 109, 109, 2222) 30 [(1, .int 4), (0, .ref 55)] (.ref 56 :: [.int 4]) _
  refine ev_s 3 (M' := (in_mI27, in_mL27, in_mR27, 109, 109, 2222)) (pc' := 35) (lv' := [(1, .int 4), (0, .ref 55)]) (st' := [.ref 55]) (fun n => rfl) ?_
  refine ev_s 1 (M' := (in_mI27, in_mL27, in_mR27, 109, 109, 2222)) (pc' := 38) (lv' := [(1, .int 4), (0, .ref 55)]) (st' := va_rf (in_mR27 55 0) :: []) (fun n => rfl) ?_
  rw [in_h27_55_0]
  show Ev XL xs _ 38 (in_mI27, in_mL27, in_mR27, 109, 109, 2222) 38 [(1, .int 4), (0, .ref 55)] (.ref 56 :: []) _
  refine ev_s 3 (M' := (in_mI28, in_mL28, in_mR28, 110, 110, 2230)) (pc' := 43) (lv' := [(1, .int 4), (0, .ref 55)]) (st' := [.ref 109, .ref 109, .int 4, .ref 56]) (fun n => rfl) ?_
  refine ev_c 1 (y' := 67) (M1 := (in_mI28, in_mL28, in_mR28, 110, 110, 2230)) (la := [(0, .ref 109)]) (rest := [.ref 109, .int 4, .ref 56]) (pc' := 46) (lv' := [(1, .int 4), (0, .ref 55)]) (fun n => rfl) (ev_r 300 (fun n => in_c29 n _)) ?_
  show Ev XL xs _ 38 (in_mI29, in_mL29, in_mR29, 122, 122, 2466) 46 [(1, .int 4), (0, .ref 55)] [.ref 109, .int 4, .ref 56] _
  exact h
theorem in_past_s5 {d : Nat} {q : mm_R} (h : Ev XL xs (d + 8) 38 (in_mI32, in_mL32, in_mR32, 135, 135, 2710) 46 [(1, .int 5), (0, .ref 55)] [.ref 122, .int 5, .ref 56] q) : Ev XL xs (d + 8) 38 (in_mI29, in_mL29, in_mR29, 122, 122, 2466) 46 [(1, .int 4), (0, .ref 55)] [.ref 109, .int 4, .ref 56] q := by
  refine ev_s 5 (M' := (in_mI29, in_mL29, in_mR30, 122, 122, 2466)) (pc' := 27) (lv' := [(1, .int 5), (0, .ref 55)]) (st' := [.ref 55, .int 5]) (fun n => rfl) ?_
  rw [← in_eI30, ← in_eL30]
  refine ev_s 1 (M' := (in_mI30, in_mL30, in_mR30, 122, 122, 2466)) (pc' := 30) (lv' := [(1, .int 5), (0, .ref 55)]) (st' := va_rf (in_mR30 55 0) :: [.int 5]) (fun n => rfl) ?_
  rw [in_h30_55_0]
  show Ev XL xs _ 38 (in_mI30, in_mL30, in_mR30, 122, 122, 2466) 30 [(1, .int 5), (0, .ref 55)] (.ref 56 :: [.int 5]) _
  refine ev_s 3 (M' := (in_mI30, in_mL30, in_mR30, 122, 122, 2466)) (pc' := 35) (lv' := [(1, .int 5), (0, .ref 55)]) (st' := [.ref 55]) (fun n => rfl) ?_
  refine ev_s 1 (M' := (in_mI30, in_mL30, in_mR30, 122, 122, 2466)) (pc' := 38) (lv' := [(1, .int 5), (0, .ref 55)]) (st' := va_rf (in_mR30 55 0) :: []) (fun n => rfl) ?_
  rw [in_h30_55_0]
  show Ev XL xs _ 38 (in_mI30, in_mL30, in_mR30, 122, 122, 2466) 38 [(1, .int 5), (0, .ref 55)] (.ref 56 :: []) _
  refine ev_s 3 (M' := (in_mI31, in_mL31, in_mR31, 123, 123, 2474)) (pc' := 43) (lv' := [(1, .int 5), (0, .ref 55)]) (st' := [.ref 122, .ref 122, .int 5, .ref 56]) (fun n => rfl) ?_
  refine ev_c 1 (y' := 67) (M1 := (in_mI31, in_mL31, in_mR31, 123, 123, 2474)) (la := [(0, .ref 122)]) (rest := [.ref 122, .int 5, .ref 56]) (pc' := 46) (lv' := [(1, .int 5), (0, .ref 55)]) (fun n => rfl) (ev_r 300 (fun n => in_c32 n _)) ?_
  show Ev XL xs _ 38 (in_mI32, in_mL32, in_mR32, 135, 135, 2710) 46 [(1, .int 5), (0, .ref 55)] [.ref 122, .int 5, .ref 56] _
  exact h
theorem in_past_s6 {d : Nat} {q : mm_R} (h : Ev XL xs (d + 8) 38 (in_mI35, in_mL35, in_mR35, 148, 148, 2954) 46 [(1, .int 6), (0, .ref 55)] [.ref 135, .int 6, .ref 56] q) : Ev XL xs (d + 8) 38 (in_mI32, in_mL32, in_mR32, 135, 135, 2710) 46 [(1, .int 5), (0, .ref 55)] [.ref 122, .int 5, .ref 56] q := by
  refine ev_s 5 (M' := (in_mI32, in_mL32, in_mR33, 135, 135, 2710)) (pc' := 27) (lv' := [(1, .int 6), (0, .ref 55)]) (st' := [.ref 55, .int 6]) (fun n => rfl) ?_
  rw [← in_eI33, ← in_eL33]
  refine ev_s 1 (M' := (in_mI33, in_mL33, in_mR33, 135, 135, 2710)) (pc' := 30) (lv' := [(1, .int 6), (0, .ref 55)]) (st' := va_rf (in_mR33 55 0) :: [.int 6]) (fun n => rfl) ?_
  rw [in_h33_55_0]
  show Ev XL xs _ 38 (in_mI33, in_mL33, in_mR33, 135, 135, 2710) 30 [(1, .int 6), (0, .ref 55)] (.ref 56 :: [.int 6]) _
  refine ev_s 3 (M' := (in_mI33, in_mL33, in_mR33, 135, 135, 2710)) (pc' := 35) (lv' := [(1, .int 6), (0, .ref 55)]) (st' := [.ref 55]) (fun n => rfl) ?_
  refine ev_s 1 (M' := (in_mI33, in_mL33, in_mR33, 135, 135, 2710)) (pc' := 38) (lv' := [(1, .int 6), (0, .ref 55)]) (st' := va_rf (in_mR33 55 0) :: []) (fun n => rfl) ?_
  rw [in_h33_55_0]
  show Ev XL xs _ 38 (in_mI33, in_mL33, in_mR33, 135, 135, 2710) 38 [(1, .int 6), (0, .ref 55)] (.ref 56 :: []) _
  refine ev_s 3 (M' := (in_mI34, in_mL34, in_mR34, 136, 136, 2718)) (pc' := 43) (lv' := [(1, .int 6), (0, .ref 55)]) (st' := [.ref 135, .ref 135, .int 6, .ref 56]) (fun n => rfl) ?_
  refine ev_c 1 (y' := 67) (M1 := (in_mI34, in_mL34, in_mR34, 136, 136, 2718)) (la := [(0, .ref 135)]) (rest := [.ref 135, .int 6, .ref 56]) (pc' := 46) (lv' := [(1, .int 6), (0, .ref 55)]) (fun n => rfl) (ev_r 300 (fun n => in_c35 n _)) ?_
  show Ev XL xs _ 38 (in_mI35, in_mL35, in_mR35, 148, 148, 2954) 46 [(1, .int 6), (0, .ref 55)] [.ref 135, .int 6, .ref 56] _
  exact h
theorem in_past_s7 {d : Nat} {q : mm_R} (h : Ev XL xs (d + 8) 38 (in_mI38, in_mL38, in_mR38, 161, 161, 3198) 46 [(1, .int 7), (0, .ref 55)] [.ref 148, .int 7, .ref 56] q) : Ev XL xs (d + 8) 38 (in_mI35, in_mL35, in_mR35, 148, 148, 2954) 46 [(1, .int 6), (0, .ref 55)] [.ref 135, .int 6, .ref 56] q := by
  refine ev_s 5 (M' := (in_mI35, in_mL35, in_mR36, 148, 148, 2954)) (pc' := 27) (lv' := [(1, .int 7), (0, .ref 55)]) (st' := [.ref 55, .int 7]) (fun n => rfl) ?_
  rw [← in_eI36, ← in_eL36]
  refine ev_s 1 (M' := (in_mI36, in_mL36, in_mR36, 148, 148, 2954)) (pc' := 30) (lv' := [(1, .int 7), (0, .ref 55)]) (st' := va_rf (in_mR36 55 0) :: [.int 7]) (fun n => rfl) ?_
  rw [in_h36_55_0]
  show Ev XL xs _ 38 (in_mI36, in_mL36, in_mR36, 148, 148, 2954) 30 [(1, .int 7), (0, .ref 55)] (.ref 56 :: [.int 7]) _
  refine ev_s 3 (M' := (in_mI36, in_mL36, in_mR36, 148, 148, 2954)) (pc' := 35) (lv' := [(1, .int 7), (0, .ref 55)]) (st' := [.ref 55]) (fun n => rfl) ?_
  refine ev_s 1 (M' := (in_mI36, in_mL36, in_mR36, 148, 148, 2954)) (pc' := 38) (lv' := [(1, .int 7), (0, .ref 55)]) (st' := va_rf (in_mR36 55 0) :: []) (fun n => rfl) ?_
  rw [in_h36_55_0]
  show Ev XL xs _ 38 (in_mI36, in_mL36, in_mR36, 148, 148, 2954) 38 [(1, .int 7), (0, .ref 55)] (.ref 56 :: []) _
  refine ev_s 3 (M' := (in_mI37, in_mL37, in_mR37, 149, 149, 2962)) (pc' := 43) (lv' := [(1, .int 7), (0, .ref 55)]) (st' := [.ref 148, .ref 148, .int 7, .ref 56]) (fun n => rfl) ?_
  refine ev_c 1 (y' := 67) (M1 := (in_mI37, in_mL37, in_mR37, 149, 149, 2962)) (la := [(0, .ref 148)]) (rest := [.ref 148, .int 7, .ref 56]) (pc' := 46) (lv' := [(1, .int 7), (0, .ref 55)]) (fun n => rfl) (ev_r 300 (fun n => in_c38 n _)) ?_
  show Ev XL xs _ 38 (in_mI38, in_mL38, in_mR38, 161, 161, 3198) 46 [(1, .int 7), (0, .ref 55)] [.ref 148, .int 7, .ref 56] _
  exact h
theorem in_past_s8 {d : Nat} {q : mm_R} (h : Ev XL xs (d + 8) 38 (in_mI41, in_mL41, in_mR41, 174, 174, 3442) 46 [(1, .int 8), (0, .ref 55)] [.ref 161, .int 8, .ref 56] q) : Ev XL xs (d + 8) 38 (in_mI38, in_mL38, in_mR38, 161, 161, 3198) 46 [(1, .int 7), (0, .ref 55)] [.ref 148, .int 7, .ref 56] q := by
  refine ev_s 5 (M' := (in_mI38, in_mL38, in_mR39, 161, 161, 3198)) (pc' := 27) (lv' := [(1, .int 8), (0, .ref 55)]) (st' := [.ref 55, .int 8]) (fun n => rfl) ?_
  rw [← in_eI39, ← in_eL39]
  refine ev_s 1 (M' := (in_mI39, in_mL39, in_mR39, 161, 161, 3198)) (pc' := 30) (lv' := [(1, .int 8), (0, .ref 55)]) (st' := va_rf (in_mR39 55 0) :: [.int 8]) (fun n => rfl) ?_
  rw [in_h39_55_0]
  show Ev XL xs _ 38 (in_mI39, in_mL39, in_mR39, 161, 161, 3198) 30 [(1, .int 8), (0, .ref 55)] (.ref 56 :: [.int 8]) _
  refine ev_s 3 (M' := (in_mI39, in_mL39, in_mR39, 161, 161, 3198)) (pc' := 35) (lv' := [(1, .int 8), (0, .ref 55)]) (st' := [.ref 55]) (fun n => rfl) ?_
  refine ev_s 1 (M' := (in_mI39, in_mL39, in_mR39, 161, 161, 3198)) (pc' := 38) (lv' := [(1, .int 8), (0, .ref 55)]) (st' := va_rf (in_mR39 55 0) :: []) (fun n => rfl) ?_
  rw [in_h39_55_0]
  show Ev XL xs _ 38 (in_mI39, in_mL39, in_mR39, 161, 161, 3198) 38 [(1, .int 8), (0, .ref 55)] (.ref 56 :: []) _
  refine ev_s 3 (M' := (in_mI40, in_mL40, in_mR40, 162, 162, 3206)) (pc' := 43) (lv' := [(1, .int 8), (0, .ref 55)]) (st' := [.ref 161, .ref 161, .int 8, .ref 56]) (fun n => rfl) ?_
  refine ev_c 1 (y' := 67) (M1 := (in_mI40, in_mL40, in_mR40, 162, 162, 3206)) (la := [(0, .ref 161)]) (rest := [.ref 161, .int 8, .ref 56]) (pc' := 46) (lv' := [(1, .int 8), (0, .ref 55)]) (fun n => rfl) (ev_r 300 (fun n => in_c41 n _)) ?_
  show Ev XL xs _ 38 (in_mI41, in_mL41, in_mR41, 174, 174, 3442) 46 [(1, .int 8), (0, .ref 55)] [.ref 161, .int 8, .ref 56] _
  exact h
theorem in_past_s9 {d : Nat} {q : mm_R} (h : Ev XL xs (d + 8) 38 (in_mI44, in_mL44, in_mR44, 187, 187, 3686) 46 [(1, .int 9), (0, .ref 55)] [.ref 174, .int 9, .ref 56] q) : Ev XL xs (d + 8) 38 (in_mI41, in_mL41, in_mR41, 174, 174, 3442) 46 [(1, .int 8), (0, .ref 55)] [.ref 161, .int 8, .ref 56] q := by
  refine ev_s 5 (M' := (in_mI41, in_mL41, in_mR42, 174, 174, 3442)) (pc' := 27) (lv' := [(1, .int 9), (0, .ref 55)]) (st' := [.ref 55, .int 9]) (fun n => rfl) ?_
  rw [← in_eI42, ← in_eL42]
  refine ev_s 1 (M' := (in_mI42, in_mL42, in_mR42, 174, 174, 3442)) (pc' := 30) (lv' := [(1, .int 9), (0, .ref 55)]) (st' := va_rf (in_mR42 55 0) :: [.int 9]) (fun n => rfl) ?_
  rw [in_h42_55_0]
  show Ev XL xs _ 38 (in_mI42, in_mL42, in_mR42, 174, 174, 3442) 30 [(1, .int 9), (0, .ref 55)] (.ref 56 :: [.int 9]) _
  refine ev_s 3 (M' := (in_mI42, in_mL42, in_mR42, 174, 174, 3442)) (pc' := 35) (lv' := [(1, .int 9), (0, .ref 55)]) (st' := [.ref 55]) (fun n => rfl) ?_
  refine ev_s 1 (M' := (in_mI42, in_mL42, in_mR42, 174, 174, 3442)) (pc' := 38) (lv' := [(1, .int 9), (0, .ref 55)]) (st' := va_rf (in_mR42 55 0) :: []) (fun n => rfl) ?_
  rw [in_h42_55_0]
  show Ev XL xs _ 38 (in_mI42, in_mL42, in_mR42, 174, 174, 3442) 38 [(1, .int 9), (0, .ref 55)] (.ref 56 :: []) _
  refine ev_s 3 (M' := (in_mI43, in_mL43, in_mR43, 175, 175, 3450)) (pc' := 43) (lv' := [(1, .int 9), (0, .ref 55)]) (st' := [.ref 174, .ref 174, .int 9, .ref 56]) (fun n => rfl) ?_
  refine ev_c 1 (y' := 67) (M1 := (in_mI43, in_mL43, in_mR43, 175, 175, 3450)) (la := [(0, .ref 174)]) (rest := [.ref 174, .int 9, .ref 56]) (pc' := 46) (lv' := [(1, .int 9), (0, .ref 55)]) (fun n => rfl) (ev_r 300 (fun n => in_c44 n _)) ?_
  show Ev XL xs _ 38 (in_mI44, in_mL44, in_mR44, 187, 187, 3686) 46 [(1, .int 9), (0, .ref 55)] [.ref 174, .int 9, .ref 56] _
  exact h
end INI
