
theorem ck_Y_0 : (List.range 40).all (fun i => ck_Yb (0 + i)) = true := by decide +kernel
theorem ck_Y_1 : (List.range 40).all (fun i => ck_Yb (40 + i)) = true := by decide +kernel
theorem ck_Y_2 : (List.range 40).all (fun i => ck_Yb (80 + i)) = true := by decide +kernel
theorem ck_Y_3 : (List.range 40).all (fun i => ck_Yb (120 + i)) = true := by decide +kernel
theorem ck_Y_4 : (List.range 40).all (fun i => ck_Yb (160 + i)) = true := by decide +kernel
theorem ck_Y_5 : (List.range 40).all (fun i => ck_Yb (200 + i)) = true := by decide +kernel
theorem ck_Y_6 : (List.range 40).all (fun i => ck_Yb (240 + i)) = true := by decide +kernel
theorem ck_Y_7 : (List.range 30).all (fun i => ck_Yb (280 + i)) = true := by decide +kernel
theorem ck_Y_ok (y : Nat) (h : y < 310) : ck_Yb y = true := by
  by_cases h0 : y < 40
  · have := List.all_eq_true.mp ck_Y_0 (y - 0) (List.mem_range.mpr (by omega))
    rwa [show 0 + (y - 0) = y by omega] at this
  by_cases h1 : y < 80
  · have := List.all_eq_true.mp ck_Y_1 (y - 40) (List.mem_range.mpr (by omega))
    rwa [show 40 + (y - 40) = y by omega] at this
  by_cases h2 : y < 120
  · have := List.all_eq_true.mp ck_Y_2 (y - 80) (List.mem_range.mpr (by omega))
    rwa [show 80 + (y - 80) = y by omega] at this
  by_cases h3 : y < 160
  · have := List.all_eq_true.mp ck_Y_3 (y - 120) (List.mem_range.mpr (by omega))
    rwa [show 120 + (y - 120) = y by omega] at this
  by_cases h4 : y < 200
  · have := List.all_eq_true.mp ck_Y_4 (y - 160) (List.mem_range.mpr (by omega))
    rwa [show 160 + (y - 160) = y by omega] at this
  by_cases h5 : y < 240
  · have := List.all_eq_true.mp ck_Y_5 (y - 200) (List.mem_range.mpr (by omega))
    rwa [show 200 + (y - 200) = y by omega] at this
  by_cases h6 : y < 280
  · have := List.all_eq_true.mp ck_Y_6 (y - 240) (List.mem_range.mpr (by omega))
    rwa [show 240 + (y - 240) = y by omega] at this
  by_cases h7 : y < 310
  · have := List.all_eq_true.mp ck_Y_7 (y - 280) (List.mem_range.mpr (by omega))
    rwa [show 280 + (y - 280) = y by omega] at this
  omega
theorem ck_y {y : Nat} (h : y < 310) : sd_Yok y ∧ (mm_st y = true → Cond.static (mm_nm y) ∈ sd_gW) ∧ (mm_st y = false → Cond.instanceMethod (mm_nm y) ∈ sd_gW ∧ mm_oc y < 12 ∧ (mm_in y = true → mm_rt y = none ∧ (mm_nm y).name = "<init>") ∧ (mm_in y = false → Cond.selects (mm_nm y).cls (mm_nm y) (mm_nm y) ∈ sd_gW)) := by
  have h1 := ck_Y_ok y h
  unfold ck_Yb at h1
  split at h1
  · simp only [Bool.and_eq_true, decide_eq_true_eq, Bool.or_eq_true, Bool.not_eq_true'] at h1
    obtain ⟨⟨⟨⟨⟨⟨⟨⟨a2, a3⟩, a4⟩, a5⟩, a6⟩, a7⟩, a8⟩, a9⟩, a10⟩ := h1
    have a9' : mm_in y = true → (mm_nm y).name = "<init>" := fun z => a9.resolve_left (by rw [z]; simp)
    refine ⟨⟨ck_cd h, a3, ck_g a2, ⟨a4, a5, a6⟩, sd_ble a7, a8, a9'⟩, fun z => ?_, fun z => ?_⟩
    · rw [z] at a10
      exact ck_g a10
    · rw [z] at a10
      simp only [cond_false, Bool.and_eq_true] at a10
      refine ⟨ck_g a10.1.1, sd_blt a10.1.2, fun z2 => ?_, fun z2 => ?_⟩
      · have := a10.2
        rw [z2] at this
        simp only [cond_true, decide_eq_true_eq] at this
        exact ⟨this, a9' z2⟩
      · have := a10.2
        rw [z2] at this
        exact ck_g this
  · cases h1
def ck_K : List (Nat × Nat × Int × Nat) := [(10, 255, (-1000000), 4070), (10, 443, 1000000, 5072), (2, 146, 1000000, 4013), (2, 149, (-1000000), 4015), (6, 30, 1000000, 4233), (11, 380, (-1000000), 7212), (11, 419, 1000000, 8051), (11, 457, 1000000000, 8117), (13, 265, 1431655765, 5125), (13, 266, 858993459, 5126), (13, 267, 252645135, 5127)]
theorem ck_K_ok : ck_K.all (fun q => ck_w q.2.2.2 (.constant (mm_Rn q.1) q.2.1 (Int32.ofInt q.2.2.1)) true) = true := by decide +kernel
def ck_Kc (oc ix : Nat) (v : Int) : Bool := ck_K.any fun q => Nat.beq q.1 oc && Nat.beq q.2.1 ix && decide (q.2.2.1 = v)
theorem ck_Kk {oc ix : Nat} {v : Int} (h : ck_Kc oc ix v = true) : Cond.constant (mm_Rn oc) ix (Int32.ofInt v) ∈ sd_gW := by
  obtain ⟨q, hq, h⟩ := List.any_eq_true.mp h
  have hb := List.all_eq_true.mp ck_K_ok q hq
  simp only [Bool.and_eq_true, decide_eq_true_eq] at h
  obtain ⟨⟨h1, h2⟩, h3⟩ := h
  obtain ⟨oc', ix', v', p⟩ := q
  have e1 : oc' = oc := sd_beq h1
  have e2 : ix' = ix := sd_beq h2
  subst e1; subst e2
  dsimp only at h3
  subst h3
  exact ck_g hb
def ck_L : List (Nat × Nat × Int × Nat) := [(10, 321, 6364136223846793005, 4087), (10, 323, 1442695040888963407, 4088), (10, 458, 1000000000, 5084), (10, 460, 100, 5085), (2, 144, 1000000, 4012), (2, 147, (-1000000), 4014), (4, 46, (-1000000000000000), 4156), (4, 59, 9, 4173), (4, 61, 100000000, 4186), (4, 80, 10, 4168), (12, 100, 4294967295, 8159), (11, 204, (-1000000), 7167), (11, 206, 1000000, 7168), (11, 385, 6364136223846793005, 7229), (11, 387, 1442695040888963407, 7230), (11, 452, 100, 8122)]
theorem ck_L_ok : ck_L.all (fun q => ck_w q.2.2.2 (.constantLong (mm_Rn q.1) q.2.1 (Int64.ofInt q.2.2.1)) true) = true := by decide +kernel
def ck_Lc (oc ix : Nat) (v : Int) : Bool := ck_L.any fun q => Nat.beq q.1 oc && Nat.beq q.2.1 ix && decide (q.2.2.1 = v)
theorem ck_Lk {oc ix : Nat} {v : Int} (h : ck_Lc oc ix v = true) : Cond.constantLong (mm_Rn oc) ix (Int64.ofInt v) ∈ sd_gW := by
  obtain ⟨q, hq, h⟩ := List.any_eq_true.mp h
  have hb := List.all_eq_true.mp ck_L_ok q hq
  simp only [Bool.and_eq_true, decide_eq_true_eq] at h
  obtain ⟨⟨h1, h2⟩, h3⟩ := h
  obtain ⟨oc', ix', v', p⟩ := q
  have e1 : oc' = oc := sd_beq h1
  have e2 : ix' = ix := sd_beq h2
  subst e1; subst e2
  dsimp only at h3
  subst h3
  exact ck_g hb
def ck_C : List (Nat × Nat × Nat × Nat) := [(10, 7, 8, 1027), (10, 16, 1, 1044), (10, 26, 2, 1131), (10, 37, 7, 1151), (10, 47, 3, 1191), (10, 54, 5, 1210), (10, 61, 0, 2000), (10, 68, 4, 2037), (10, 75, 6, 2060), (1, 15, 9, 1050), (3, 9, 7, 1197), (7, 9, 9, 1157), (12, 8, 10, 1019), (12, 16, 11, 5218)]
theorem ck_C_ok : ck_C.all (fun q => Nat.blt q.2.2.1 12 && ck_w q.2.2.2 (.classLink (mm_Rn q.1) q.2.1 (mm_Rn q.2.2.1)) true) = true := by decide +kernel
def ck_c (oc ix ci : Nat) : Bool := ck_C.any fun q => Nat.beq q.1 oc && Nat.beq q.2.1 ix && Nat.beq q.2.2.1 ci
theorem ck_ck {oc ix ci : Nat} (h : ck_c oc ix ci = true) : ci < 12 ∧ Cond.classLink (mm_Rn oc) ix (mm_Rn ci) ∈ sd_gW := by
  obtain ⟨q, hq, h⟩ := List.any_eq_true.mp h
  have hb := List.all_eq_true.mp ck_C_ok q hq
  simp only [Bool.and_eq_true] at h hb
  obtain ⟨⟨h1, h2⟩, h3⟩ := h
  obtain ⟨oc', ix', ci', p⟩ := q
  have e1 : oc' = oc := sd_beq h1
  have e2 : ix' = ix := sd_beq h2
  have e3 : ci' = ci := sd_beq h3
  subst e1; subst e2; subst e3
  exact ⟨sd_blt hb.1, ck_g hb.2⟩
def ck_N : List (Nat × Nat) := [(2001, 1009), (1045, 1003), (1132, 1005), (1192, 1007), (2038, 1010), (1211, 1008), (2061, 1011), (1152, 1006), (1028, 1002), (1052, 1004), (1020, 1001), (5219, 1012)]
theorem ck_N_ok : (List.range 12).all (fun i => match mm_nth ck_N i with | some q => ck_w q.1 (.instantiable (mm_Rn i) (mm_N i)) true && ck_w q.2 (.initialized (mm_Rn i)) true | none => false) = true := by decide +kernel
theorem ck_nn {ci : Nat} (h : ci < 12) : Cond.instantiable (mm_Rn ci) (mm_N ci) ∈ sd_gW ∧ Cond.initialized (mm_Rn ci) ∈ sd_gW := by
  have hb := List.all_eq_true.mp ck_N_ok ci (List.mem_range.mpr h)
  split at hb
  · simp only [Bool.and_eq_true] at hb
    exact ⟨ck_g hb.1, ck_g hb.2⟩
  · cases hb
theorem ck_ar_int : Cond.arrayClass .int ∈ sd_gW := ck_g (p := 1043) (by decide +kernel)
theorem ck_ar_long : Cond.arrayClass .long ∈ sd_gW := ck_g (p := 2059) (by decide +kernel)
theorem ck_ar_boolean : Cond.arrayClass .boolean ∈ sd_gW := ck_g (p := 6141) (by decide +kernel)
def ck_S : List (Nat × Nat × Nat × Nat) := [(1, 113, 1, 2215), (1, 123, 3, 2231), (1, 130, 4, 2233), (1, 137, 2, 2220)]
theorem ck_S_ok : ck_S.all (fun q => Nat.ble 1 q.2.2.1 && Nat.blt q.2.2.1 5 && ck_w q.2.2.2 (.fieldLink (mm_Rn q.1) q.2.1 "BuriedGoods$Land" (sd_xn q.2.2.1) "[I") true) = true := by decide +kernel
def ck_s (oc ix e : Nat) : Bool := ck_S.any fun q => Nat.beq q.1 oc && Nat.beq q.2.1 ix && Nat.beq q.2.2.1 e
theorem ck_sk {oc ix e : Nat} (h : ck_s oc ix e = true) : 1 ≤ e ∧ e < 5 ∧ Cond.fieldLink (mm_Rn oc) ix "BuriedGoods$Land" (sd_xn e) "[I" ∈ sd_gW := by
  obtain ⟨q, hq, h⟩ := List.any_eq_true.mp h
  have hb := List.all_eq_true.mp ck_S_ok q hq
  simp only [Bool.and_eq_true] at h hb
  obtain ⟨⟨h1, h2⟩, h3⟩ := h
  obtain ⟨oc', ix', e', p⟩ := q
  have e1 : oc' = oc := sd_beq h1
  have e2 : ix' = ix := sd_beq h2
  have e3 : e' = e := sd_beq h3
  subst e1; subst e2; subst e3
  exact ⟨sd_ble hb.1.1, sd_blt hb.1.2, ck_g hb.2⟩
def ck_O : List (Nat × Nat × Nat) := [(10, 1, 1024), (0, 1, 2005), (1, 3, 1049), (2, 3, 1136), (3, 3, 1196), (4, 3, 2042), (5, 3, 1215), (6, 3, 2065), (7, 3, 1156), (8, 3, 1032), (9, 3, 1056), (11, 3, 5223)]
theorem ck_O_ok : ck_O.all (fun q => ck_w q.2.2 (.methodLink (mm_Rn q.1) q.2.1 objectInit) true) = true := by decide +kernel
theorem ck_O1 : Cond.instanceMethod objectInit ∈ sd_gW := ck_g (p := 1025) (by decide +kernel)
theorem ck_O2 : Cond.code objectInit ⟨#[0xb1]⟩ 1 none ∈ sd_gW := ck_g (p := 1026) (by decide +kernel)
def ck_o (oc ix : Nat) : Bool := ck_O.any fun q => Nat.beq q.1 oc && Nat.beq q.2.1 ix
theorem ck_ok {oc ix : Nat} (h : ck_o oc ix = true) : Cond.methodLink (mm_Rn oc) ix objectInit ∈ sd_gW := by
  obtain ⟨q, hq, h⟩ := List.any_eq_true.mp h
  have hb := List.all_eq_true.mp ck_O_ok q hq
  simp only [Bool.and_eq_true] at h
  obtain ⟨h1, h2⟩ := h
  obtain ⟨oc', ix', p⟩ := q
  have e1 : oc' = oc := sd_beq h1
  have e2 : ix' = ix := sd_beq h2
  subst e1; subst e2
  exact ck_g hb
