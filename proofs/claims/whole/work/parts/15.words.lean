/-! THE TABLES OF THE SMALL MACHINE AGREE WITH THE CODE AND WITH THE TABLES' WORDS -/
def ck_t : Nat → List Cond := fun c => (bif Nat.blt c 4 then (bif Nat.blt c 2 then (bif Nat.blt c 1 then k2_sels lw_privs else tables_1_1) else (bif Nat.blt c 3 then tables_1_2 else tables_1_3)) else (bif Nat.blt c 6 then (bif Nat.blt c 5 then tables_1_4 else tables_1_5) else (bif Nat.blt c 7 then tables_1_6 else (bif Nat.blt c 8 then tables_1_7 else tables_1_8))))
theorem ck_tm (c : Nat) : ∀ w ∈ ck_t c, w ∈ lw_tbl := by
  intro w hw
  have h0 : ∀ w ∈ tables_1, w ∈ lw_tbl := fun w h => List.mem_append_right _ h
  have h1 : ∀ w ∈ tables_1_1, w ∈ lw_tbl := fun w h => h0 w (List.mem_append_left _ h)
  have h2 : ∀ w ∈ tables_1_2, w ∈ lw_tbl := fun w h => h0 w (List.mem_append_right _ (List.mem_append_left _ h))
  have h3 : ∀ w ∈ tables_1_3, w ∈ lw_tbl := fun w h => h0 w (List.mem_append_right _ (List.mem_append_right _ (List.mem_append_left _ h)))
  have h4 : ∀ w ∈ tables_1_4, w ∈ lw_tbl := fun w h => h0 w (List.mem_append_right _ (List.mem_append_right _ (List.mem_append_right _ (List.mem_append_left _ h))))
  have h5 : ∀ w ∈ tables_1_5, w ∈ lw_tbl := fun w h => h0 w (List.mem_append_right _ (List.mem_append_right _ (List.mem_append_right _ (List.mem_append_right _ (List.mem_append_left _ h)))))
  have h6 : ∀ w ∈ tables_1_6, w ∈ lw_tbl := fun w h => h0 w (List.mem_append_right _ (List.mem_append_right _ (List.mem_append_right _ (List.mem_append_right _ (List.mem_append_right _ (List.mem_append_left _ h))))))
  have h7 : ∀ w ∈ tables_1_7, w ∈ lw_tbl := fun w h => h0 w (List.mem_append_right _ (List.mem_append_right _ (List.mem_append_right _ (List.mem_append_right _ (List.mem_append_right _ (List.mem_append_right _ (List.mem_append_left _ h)))))))
  have h8 : ∀ w ∈ tables_1_8, w ∈ lw_tbl := fun w h => h0 w (List.mem_append_right _ (List.mem_append_right _ (List.mem_append_right _ (List.mem_append_right _ (List.mem_append_right _ (List.mem_append_right _ (List.mem_append_right _ (h))))))))
  have hs : ∀ w ∈ k2_sels lw_privs, w ∈ lw_tbl := fun w h => List.mem_append_left _ h
  unfold ck_t at hw
  cases hb4 : Nat.blt c 4 with
  | true =>
    rw [hb4] at hw
    simp only [cond_true] at hw
    cases hb2 : Nat.blt c 2 with
    | true =>
      rw [hb2] at hw
      simp only [cond_true] at hw
      cases hb1 : Nat.blt c 1 with
      | true =>
        rw [hb1] at hw
        simp only [cond_true] at hw
        exact hs w hw
      | false =>
        rw [hb1] at hw
        simp only [cond_false] at hw
        exact h1 w hw
    | false =>
      rw [hb2] at hw
      simp only [cond_false] at hw
      cases hb3 : Nat.blt c 3 with
      | true =>
        rw [hb3] at hw
        simp only [cond_true] at hw
        exact h2 w hw
      | false =>
        rw [hb3] at hw
        simp only [cond_false] at hw
        exact h3 w hw
  | false =>
    rw [hb4] at hw
    simp only [cond_false] at hw
    cases hb6 : Nat.blt c 6 with
    | true =>
      rw [hb6] at hw
      simp only [cond_true] at hw
      cases hb5 : Nat.blt c 5 with
      | true =>
        rw [hb5] at hw
        simp only [cond_true] at hw
        exact h4 w hw
      | false =>
        rw [hb5] at hw
        simp only [cond_false] at hw
        exact h5 w hw
    | false =>
      rw [hb6] at hw
      simp only [cond_false] at hw
      cases hb7 : Nat.blt c 7 with
      | true =>
        rw [hb7] at hw
        simp only [cond_true] at hw
        exact h6 w hw
      | false =>
        rw [hb7] at hw
        simp only [cond_false] at hw
        cases hb8 : Nat.blt c 8 with
        | true =>
          rw [hb8] at hw
          simp only [cond_true] at hw
          exact h7 w hw
        | false =>
          rw [hb8] at hw
          simp only [cond_false] at hw
          exact h8 w hw
theorem ck_nm {α : Type} : ∀ {l : List α} {i : Nat} {x : α}, mm_nth l i = some x → x ∈ l
  | [], _, _, h => by cases h
  | y :: l, 0, x, h => by cases h; exact List.mem_cons_self
  | y :: l, i + 1, x, h => List.mem_cons_of_mem _ (ck_nm (l := l) h)
def ck_w (p : Nat) (w : Cond) (g : Bool) : Bool := match mm_nth (ck_t (p / 1000)) (p % 1000) with
  | some v => decide (v = w) && (bif g then goodWord v else sd_nst v)
  | none => false
theorem ck_g {p : Nat} {w : Cond} (h : ck_w p w true = true) : w ∈ sd_gW := by
  unfold ck_w at h
  split at h
  · rename_i v hv
    simp only [Bool.and_eq_true, decide_eq_true_eq, cond_true] at h
    obtain ⟨rfl, h2⟩ := h
    exact sd_gin (ck_tm _ _ (ck_nm hv)) h2
  · cases h
theorem ck_n {p : Nat} {w : Cond} (h : ck_w p w false = true) : w ∈ sd_nW := by
  unfold ck_w at h
  split at h
  · rename_i v hv
    simp only [Bool.and_eq_true, decide_eq_true_eq, cond_false] at h
    obtain ⟨rfl, h2⟩ := h
    exact sd_nin (ck_tm _ _ (ck_nm hv)) h2
  · cases h
def ck_F : List (Nat × Nat × Nat × Nat × Nat × Bool) := [(0, 7, 0, 0, 2006, false), (0, 13, 0, 1, 2009, false), (0, 16, 0, 2, 2012, false), (0, 19, 0, 3, 2015, false), (0, 22, 0, 4, 2018, false), (0, 25, 0, 5, 2021, false), (0, 28, 9, 1, 1062, true), (0, 31, 9, 2, 1066, true), (0, 32, 9, 4, 1074, true), (1, 9, 1, 0, 1093, false), (1, 17, 1, 1, 1095, false), (1, 21, 1, 2, 1096, false), (1, 25, 1, 3, 1097, false), (1, 29, 1, 4, 1099, false), (1, 32, 1, 5, 1101, false), (1, 35, 1, 6, 1103, false), (1, 38, 1, 7, 1105, false), (1, 41, 1, 8, 1107, false), (1, 44, 1, 9, 1108, false), (1, 107, 9, 0, 1059, true), (1, 110, 9, 1, 1063, true), (1, 144, 9, 2, 1068, true), (1, 147, 9, 3, 1072, true), (1, 150, 9, 5, 1079, true), (1, 153, 9, 4, 1076, true), (2, 9, 2, 0, 1137, false), (2, 15, 2, 1, 1138, false), (2, 18, 2, 2, 1139, false), (2, 22, 2, 3, 1140, false), (2, 120, 0, 0, 2007, true), (2, 125, 0, 1, 2010, true), (2, 128, 0, 3, 2016, true), (2, 131, 0, 2, 2013, true), (2, 134, 0, 4, 2019, true), (2, 137, 0, 5, 2022, true), (3, 11, 3, 0, 1200, false), (3, 17, 3, 1, 1201, false), (3, 21, 3, 2, 1202, false), (4, 11, 4, 0, 2043, false), (4, 15, 4, 1, 2044, false), (4, 19, 4, 2, 2045, false), (4, 22, 4, 3, 2046, false), (4, 25, 4, 4, 2047, false), (5, 9, 5, 0, 1216, false), (5, 15, 5, 1, 1218, false), (5, 18, 5, 2, 1220, false), (5, 21, 5, 3, 1222, false), (5, 24, 5, 4, 1224, false), (5, 27, 5, 5, 1226, false), (6, 9, 6, 0, 2066, false), (6, 15, 6, 1, 2067, false), (6, 18, 6, 2, 2068, false), (7, 11, 7, 0, 1159, false), (7, 17, 7, 1, 1160, false), (7, 21, 7, 2, 1162, false), (7, 24, 7, 3, 1164, false), (7, 27, 7, 4, 1166, false), (7, 31, 7, 5, 1168, false), (7, 34, 7, 6, 1170, false), (7, 37, 7, 7, 1172, false), (7, 45, 9, 0, 1058, true), (7, 52, 9, 3, 1070, true), (7, 67, 1, 7, 1106, true), (8, 9, 8, 0, 1033, false), (8, 15, 8, 1, 1034, false), (8, 19, 8, 2, 1035, false), (9, 9, 9, 0, 1057, false), (9, 15, 9, 1, 1061, false), (9, 19, 9, 2, 1065, false), (9, 22, 9, 3, 1069, false), (9, 25, 9, 4, 1073, false), (9, 28, 9, 5, 1077, false), (10, 10, 10, 0, 2076, false), (10, 19, 10, 1, 2077, false), (10, 23, 10, 2, 2078, false), (10, 29, 10, 3, 2079, false), (10, 33, 10, 4, 2080, false), (10, 40, 10, 5, 2081, false), (10, 44, 10, 6, 2082, false), (10, 50, 10, 7, 2083, false), (10, 57, 10, 8, 2084, false), (10, 64, 10, 9, 2085, false), (10, 71, 10, 10, 2086, false), (10, 78, 10, 11, 2087, false), (10, 82, 10, 12, 2088, false), (10, 86, 10, 13, 2089, false), (10, 89, 10, 14, 2090, false), (10, 93, 10, 15, 2091, false), (10, 96, 10, 16, 2092, false), (10, 100, 10, 17, 2093, false), (10, 103, 10, 18, 2094, false), (10, 106, 10, 19, 2095, false), (10, 133, 1, 9, 1109, true), (10, 157, 1, 3, 1098, true), (10, 160, 1, 4, 1100, true), (10, 163, 1, 5, 1102, true), (10, 166, 1, 6, 1104, true), (10, 169, 7, 6, 1171, true), (10, 176, 1, 0, 1094, true), (10, 190, 9, 1, 1064, true), (10, 195, 9, 2, 1067, true), (10, 198, 9, 3, 1071, true), (10, 201, 9, 4, 1075, true), (10, 204, 9, 5, 1078, true), (10, 219, 7, 7, 1173, true), (10, 252, 9, 0, 1060, true), (10, 270, 0, 0, 2008, true), (10, 271, 0, 2, 2014, true), (10, 285, 0, 4, 2020, true), (10, 294, 0, 5, 2023, true), (10, 305, 0, 3, 2017, true), (10, 308, 0, 1, 2011, true), (10, 330, 7, 4, 1167, true), (10, 333, 7, 5, 1169, true), (10, 339, 7, 1, 1161, true), (10, 342, 7, 2, 1163, true), (10, 345, 7, 3, 1165, true), (10, 409, 5, 0, 1217, true), (10, 412, 5, 1, 1219, true), (10, 415, 5, 2, 1221, true), (10, 418, 5, 3, 1223, true), (10, 420, 5, 4, 1225, true), (11, 9, 11, 1, 5225, false), (11, 13, 11, 6, 5230, false), (11, 16, 11, 7, 5231, false), (11, 19, 11, 8, 5232, false), (11, 22, 11, 9, 5233, false), (11, 25, 11, 10, 5234, false), (11, 28, 11, 11, 5235, false), (11, 31, 11, 12, 5236, false), (11, 34, 11, 15, 5239, false), (11, 37, 11, 16, 6000, false), (11, 40, 11, 17, 6001, false), (11, 43, 11, 18, 6002, false), (11, 46, 11, 19, 6003, false), (11, 49, 11, 22, 6006, false), (11, 52, 11, 23, 6007, false), (11, 55, 11, 24, 6008, false), (11, 58, 11, 27, 6011, false), (11, 61, 11, 28, 6012, false), (11, 64, 11, 29, 6013, false), (11, 68, 11, 30, 6014, false), (11, 71, 11, 31, 6015, false), (11, 74, 11, 33, 6017, false), (11, 77, 11, 36, 6020, false), (11, 80, 11, 37, 6021, false), (11, 83, 11, 38, 6022, false), (11, 86, 11, 41, 6025, false), (11, 89, 11, 42, 6026, false), (11, 92, 11, 43, 6027, false), (11, 95, 11, 44, 6028, false), (11, 98, 11, 45, 6029, false), (11, 101, 11, 46, 6030, false), (11, 105, 11, 48, 6032, false), (11, 108, 11, 49, 6033, false), (11, 111, 11, 50, 6034, false), (11, 114, 11, 0, 5224, false), (11, 121, 11, 2, 5226, false), (11, 124, 11, 3, 5227, false), (11, 131, 11, 4, 5228, false), (11, 134, 11, 14, 5238, false), (11, 137, 11, 5, 5229, false), (11, 253, 11, 20, 6004, false), (11, 256, 11, 21, 6005, false), (11, 280, 11, 26, 6010, false), (11, 284, 11, 25, 6009, false), (11, 290, 11, 47, 6031, false), (11, 293, 11, 34, 6018, false), (11, 296, 11, 51, 6035, false), (11, 302, 11, 13, 5237, false), (11, 339, 11, 32, 6016, false), (11, 381, 11, 35, 6019, false), (11, 407, 11, 40, 6024, false), (11, 410, 11, 39, 6023, false)]
def ck_Fb (q : Nat × Nat × Nat × Nat × Nat × Bool) : Bool := Nat.blt q.2.2.1 12 && Nat.blt q.2.2.2.1 (mm_N q.2.2.1) && (bif q.2.2.2.2.2 then ck_w q.2.2.2.2.1 (.fieldLinkNest (mm_Rn q.1) q.2.1 (mm_Rn q.2.2.1) (mm_T q.2.2.1 q.2.2.2.1).2.1 (mm_T q.2.2.1 q.2.2.2.1).2.2.1 "BuriedGoods") false else ck_w q.2.2.2.2.1 (.fieldLink (mm_Rn q.1) q.2.1 (mm_Rn q.2.2.1) (mm_T q.2.2.1 q.2.2.2.1).2.1 (mm_T q.2.2.1 q.2.2.2.1).2.2.1) true)
theorem ck_F_ok : ck_F.all ck_Fb = true := by decide +kernel
def ck_f (oc ix ci k : Nat) : Bool := ck_F.any fun q => Nat.beq q.1 oc && Nat.beq q.2.1 ix && Nat.beq q.2.2.1 ci && Nat.beq q.2.2.2.1 k
theorem ck_fk {oc ix ci k : Nat} (h : ck_f oc ix ci k = true) : sd_fk oc ix ci k := by
  obtain ⟨q, hq, h⟩ := List.any_eq_true.mp h
  have hb := List.all_eq_true.mp ck_F_ok q hq
  simp only [Bool.and_eq_true] at h
  obtain ⟨⟨⟨h1, h2⟩, h3⟩, h4⟩ := h
  obtain ⟨oc', ix', ci', k', p, nst⟩ := q
  have e1 : oc' = oc := sd_beq h1
  have e2 : ix' = ix := sd_beq h2
  have e3 : ci' = ci := sd_beq h3
  have e4 : k' = k := sd_beq h4
  subst e1; subst e2; subst e3; subst e4
  simp only [ck_Fb, Bool.and_eq_true] at hb
  obtain ⟨⟨b1, b2⟩, b3⟩ := hb
  refine ⟨sd_blt b1, sd_blt b2, ?_⟩
  cases nst with
  | true =>
    exact Or.inr (ck_n b3)
  | false => exact Or.inl (ck_g b3)
def ck_M : List (Nat × Nat × Nat × Nat × Bool) := [(1, 47, 89, 1053, true), (1, 48, 5, 3218, false), (1, 52, 305, 3219, false), (1, 57, 177, 3087, true), (1, 61, 3, 2199, false), (1, 65, 91, 3090, false), (1, 69, 176, 2175, true), (1, 73, 90, 2176, false), (1, 76, 8, 2171, false), (1, 77, 81, 2180, false), (1, 82, 83, 2184, false), (1, 86, 10, 2195, false), (1, 90, 82, 2203, false), (1, 93, 85, 2207, false), (1, 96, 11, 2211, false), (1, 100, 15, 3002, false), (1, 104, 79, 3010, false), (1, 116, 12, 2217, false), (1, 120, 87, 2223, false), (1, 126, 175, 2222, true), (1, 133, 13, 2235, false), (1, 140, 14, 2239, false), (1, 156, 4, 3006, false), (2, 25, 177, 3124, true), (2, 29, 81, 3015, false), (2, 34, 20, 3016, false), (2, 38, 82, 3073, false), (2, 42, 19, 3044, false), (2, 46, 83, 3024, false), (2, 49, 86, 3020, false), (2, 53, 79, 3074, false), (2, 56, 176, 3048, true), (2, 60, 29, 3025, false), (2, 63, 26, 3028, false), (2, 67, 30, 3050, false), (2, 70, 22, 3053, false), (2, 74, 21, 3069, false), (2, 77, 23, 3057, false), (2, 80, 25, 3061, false), (2, 83, 24, 3065, false), (2, 86, 85, 3040, false), (2, 89, 27, 3032, false), (2, 92, 28, 3036, false), (2, 95, 31, 3041, false), (2, 98, 87, 3049, false), (2, 102, 175, 3234, true), (2, 106, 34, 3235, false), (2, 109, 33, 3239, false), (2, 112, 35, 4003, false), (2, 116, 36, 4006, false), (2, 140, 37, 4009, false), (3, 24, 67, 1199, false), (3, 25, 43, 3180, false), (3, 29, 74, 3184, false), (4, 29, 176, 4140, true), (4, 33, 308, 4149, false), (4, 39, 306, 4150, false), (4, 42, 175, 4155, true), (4, 48, 57, 4157, false), (4, 52, 55, 4165, false), (4, 56, 56, 4169, false), (4, 63, 54, 4187, false), (4, 66, 307, 4191, false), (4, 69, 53, 4198, false), (4, 73, 303, 4202, false), (4, 76, 51, 4209, false), (5, 31, 176, 5016, true), (6, 22, 176, 4222, true), (6, 26, 66, 4227, false), (6, 31, 175, 4231, true), (6, 35, 6, 4232, false), (6, 41, 308, 4234, false), (7, 40, 89, 1158, true), (7, 41, 68, 3098, false), (7, 49, 69, 3155, false), (7, 55, 70, 3151, false), (7, 58, 3, 3102, false), (7, 63, 91, 3103, false), (7, 68, 177, 3188, true), (7, 72, 176, 4034, true), (7, 76, 308, 4035, false), (8, 22, 176, 2152, true), (8, 26, 175, 2188, true), (8, 30, 84, 2191, false), (8, 34, 83, 2227, false), (8, 37, 88, 2228, false), (10, 9, 76, 1029, true), (10, 18, 2, 1046, false), (10, 28, 16, 1133, true), (10, 39, 67, 1153, false), (10, 49, 38, 1193, false), (10, 56, 58, 1212, true), (10, 63, 0, 2002, true), (10, 70, 44, 2039, true), (10, 77, 62, 2062, true), (10, 110, 77, 2141, false), (10, 114, 79, 2144, false), (10, 118, 78, 2148, false), (10, 122, 80, 2159, false), (10, 125, 9, 2167, false), (10, 129, 18, 3011, false), (10, 130, 97, 3079, false), (10, 136, 98, 3112, false), (10, 139, 7, 3083, false), (10, 143, 73, 3094, false), (10, 146, 40, 3104, false), (10, 149, 60, 3108, false), (10, 150, 99, 3116, false), (10, 154, 17, 3120, false), (10, 172, 104, 3133, false), (10, 179, 175, 3137, false), (10, 183, 69, 4040, false), (10, 207, 105, 3142, false), (10, 210, 71, 3147, false), (10, 213, 4, 3146, false), (10, 216, 117, 3171, false), (10, 222, 41, 3176, false), (10, 226, 119, 3189, false), (10, 229, 118, 4045, false), (10, 233, 106, 3194, false), (10, 237, 308, 4020, false), (10, 243, 90, 4052, false), (10, 246, 72, 4057, false), (10, 249, 68, 4061, false), (10, 256, 176, 3175, false), (10, 260, 70, 3193, false), (10, 263, 120, 3198, false), (10, 267, 121, 3222, false), (10, 272, 75, 4030, false), (10, 276, 5, 3202, false), (10, 279, 1, 3206, false), (10, 282, 126, 3210, false), (10, 288, 122, 3226, false), (10, 291, 306, 4023, false), (10, 295, 124, 4026, false), (10, 298, 32, 3230, false), (10, 302, 123, 4016, false), (10, 309, 6, 3214, false), (10, 312, 128, 4079, false), (10, 315, 129, 4089, false), (10, 318, 130, 4083, false), (10, 325, 42, 4101, false), (10, 329, 39, 4105, false), (10, 336, 304, 4113, false), (10, 348, 136, 4124, false), (10, 351, 45, 4136, false), (10, 353, 139, 4141, false), (10, 356, 46, 4145, false), (10, 360, 48, 4151, false), (10, 363, 49, 4161, false), (10, 366, 125, 4174, false), (10, 370, 47, 4178, false), (10, 373, 50, 4182, false), (10, 376, 51, 4194, false), (10, 379, 52, 4205, false), (10, 382, 63, 4214, false), (10, 383, 64, 4218, false), (10, 386, 65, 4223, false), (10, 390, 148, 5003, false), (10, 393, 59, 5008, false), (10, 394, 61, 5012, false), (10, 398, 147, 5021, false), (10, 402, 145, 5029, false), (10, 406, 146, 5033, false), (10, 423, 3, 5007, false), (10, 426, 158, 5041, false), (10, 429, 154, 5044, false), (10, 432, 155, 5048, false), (10, 436, 156, 5056, false), (10, 439, 153, 5064, false), (10, 444, 152, 5073, false), (10, 447, 157, 5052, false), (10, 450, 160, 5081, false), (10, 454, 161, 5086, false), (10, 462, 163, 5094, false), (10, 465, 165, 5102, false), (10, 469, 166, 5106, false), (10, 472, 167, 5110, false), (10, 475, 168, 5114, false), (10, 478, 302, 5122, false), (10, 483, 170, 5128, false), (10, 486, 171, 5132, false), (10, 489, 169, 5118, false), (10, 493, 74, 5140, false), (11, 117, 182, 6150, false), (11, 127, 185, 6172, false), (11, 140, 187, 6199, false), (11, 143, 186, 6168, false), (11, 146, 188, 6196, false), (11, 150, 193, 7014, false), (11, 153, 189, 6234, false), (11, 157, 190, 7018, false), (11, 161, 191, 6230, false), (11, 164, 196, 7002, false), (11, 167, 192, 6238, false), (11, 171, 194, 7010, false), (11, 174, 195, 7006, false), (11, 177, 197, 7025, false), (11, 180, 199, 6226, false), (11, 183, 202, 6222, false), (11, 186, 198, 7021, false), (11, 189, 200, 7028, false), (11, 192, 201, 7032, false), (11, 195, 204, 6214, false), (11, 198, 203, 6218, false), (11, 201, 205, 7036, false), (11, 208, 309, 7169, false), (11, 214, 307, 7172, false), (11, 217, 207, 7164, false), (11, 221, 208, 7161, false), (11, 225, 209, 7157, false), (11, 229, 178, 6203, false), (11, 233, 215, 6165, false), (11, 237, 212, 6180, false), (11, 240, 179, 6183, false), (11, 244, 213, 6186, false), (11, 247, 214, 6189, false), (11, 250, 211, 6192, false), (11, 259, 216, 6176, false), (11, 263, 217, 6206, false), (11, 267, 218, 6161, false), (11, 270, 206, 6210, false), (11, 273, 221, 7052, false), (11, 277, 220, 7056, false), (11, 287, 222, 7048, false), (11, 299, 223, 7044, false), (11, 305, 225, 7076, false), (11, 308, 227, 7088, false), (11, 311, 226, 7096, false), (11, 314, 305, 7152, false), (11, 317, 233, 7148, false), (11, 320, 231, 7140, false), (11, 323, 234, 7144, false), (11, 326, 210, 7153, false), (11, 329, 308, 7173, false), (11, 331, 306, 7174, false), (11, 333, 230, 7132, false), (11, 336, 235, 7136, false), (11, 342, 236, 7128, false), (11, 345, 238, 7175, false), (11, 348, 237, 7179, false), (11, 351, 302, 7183, false), (11, 356, 229, 7068, false), (11, 359, 228, 7084, false), (11, 362, 232, 7092, false), (11, 365, 248, 7112, false), (11, 368, 247, 7116, false), (11, 371, 246, 7120, false), (11, 374, 239, 7124, false), (11, 377, 253, 7200, false), (11, 389, 258, 7225, false), (11, 392, 259, 7221, false), (11, 395, 264, 8007, false), (11, 398, 265, 8011, false), (11, 401, 267, 8019, false), (11, 404, 271, 8039, false), (11, 413, 273, 8043, false), (11, 416, 272, 8035, false), (11, 420, 276, 8056, false), (11, 423, 278, 8068, false), (11, 427, 279, 8064, false), (11, 430, 280, 8076, false), (11, 433, 281, 8077, false), (11, 436, 283, 8093, false), (11, 439, 285, 8085, false), (11, 442, 284, 8089, false), (11, 445, 287, 8101, false), (11, 449, 289, 8109, false), (11, 454, 291, 8118, false), (11, 458, 295, 8139, false), (11, 461, 294, 8131, false), (11, 464, 296, 8135, false), (11, 468, 297, 8143, false), (12, 7, 102, 5153, false), (12, 15, 92, 1021, false), (12, 18, 180, 5220, false), (12, 19, 93, 2137, false), (12, 23, 183, 6146, false), (12, 24, 94, 2155, false), (12, 28, 184, 6153, false), (12, 29, 95, 2163, false), (12, 33, 219, 6157, false), (12, 34, 96, 3075, false), (12, 37, 224, 7040, false), (12, 38, 100, 3125, false), (12, 41, 240, 7060, false), (12, 42, 101, 3129, false), (12, 45, 241, 7064, false), (12, 46, 310, 5149, false), (12, 51, 242, 7072, false), (12, 52, 181, 6142, false), (12, 56, 103, 3138, false), (12, 59, 243, 7080, false), (12, 60, 107, 3159, false), (12, 63, 244, 7100, false), (12, 64, 108, 3163, false), (12, 67, 245, 7104, false), (12, 68, 109, 3167, false), (12, 71, 249, 7108, false), (12, 72, 110, 4036, false), (12, 75, 250, 7184, false), (12, 76, 111, 4041, false), (12, 79, 251, 7188, false), (12, 80, 112, 4048, false), (12, 83, 252, 7192, false), (12, 84, 113, 4053, false), (12, 87, 254, 7196, false), (12, 88, 114, 4062, false), (12, 91, 255, 7204, false), (12, 92, 115, 4066, false), (12, 95, 256, 7208, false), (12, 96, 116, 4071, false), (12, 99, 257, 7213, false), (12, 102, 127, 4075, false), (12, 106, 260, 7217, false), (12, 107, 131, 4093, false), (12, 110, 261, 7231, false), (12, 111, 132, 4097, false), (12, 114, 262, 7235, false), (12, 115, 133, 4109, false), (12, 118, 263, 7239, false), (12, 119, 134, 4116, false), (12, 122, 266, 8003, false), (12, 123, 135, 4120, false), (12, 126, 268, 8015, false), (12, 127, 137, 4128, false), (12, 130, 270, 8027, false), (12, 131, 138, 4132, false), (12, 134, 274, 8031, false), (12, 135, 140, 4210, false), (12, 138, 275, 8047, false), (12, 139, 141, 4235, false), (12, 142, 269, 8023, false), (12, 143, 142, 4239, false), (12, 147, 277, 8052, false), (12, 148, 143, 5017, false), (12, 151, 280, 8060, false), (12, 152, 144, 5025, false), (12, 155, 282, 8072, false), (12, 156, 149, 5037, false), (12, 159, 286, 8081, false), (12, 160, 150, 5060, false), (12, 164, 288, 8097, false), (12, 165, 151, 5068, false), (12, 168, 290, 8105, false), (12, 169, 159, 5077, false), (12, 173, 292, 8113, false), (12, 174, 162, 5090, false), (12, 177, 293, 8123, false), (12, 178, 164, 5098, false), (12, 181, 298, 8127, false), (12, 182, 172, 5136, false), (12, 185, 299, 8147, false), (12, 186, 173, 5141, false), (12, 189, 300, 8151, false), (12, 190, 174, 5145, false), (12, 193, 301, 8155, false)]
def ck_Mb (q : Nat × Nat × Nat × Nat × Bool) : Bool := bif q.2.2.2.2 then ck_w q.2.2.2.1 (.methodLinkNest (mm_Rn q.1) q.2.1 (mm_nm q.2.2.1) "BuriedGoods") false else ck_w q.2.2.2.1 (.methodLink (mm_Rn q.1) q.2.1 (mm_nm q.2.2.1)) true
theorem ck_M_ok : ck_M.all ck_Mb = true := by decide +kernel
def ck_m (oc ix y : Nat) : Bool := ck_M.any fun q => Nat.beq q.1 oc && Nat.beq q.2.1 ix && Nat.beq q.2.2.1 y
theorem ck_mk {oc ix y : Nat} (h : ck_m oc ix y = true) : sd_Mk oc ix y := by
  obtain ⟨q, hq, h⟩ := List.any_eq_true.mp h
  have hb := List.all_eq_true.mp ck_M_ok q hq
  simp only [Bool.and_eq_true] at h
  obtain ⟨⟨h1, h2⟩, h3⟩ := h
  obtain ⟨oc', ix', y', p, nst⟩ := q
  have e1 : oc' = oc := sd_beq h1
  have e2 : ix' = ix := sd_beq h2
  have e3 : y' = y := sd_beq h3
  subst e1; subst e2; subst e3
  cases nst with
  | true => exact Or.inr (ck_n hb)
  | false => exact Or.inl (ck_g hb)
def ck_Y : List (Nat × Nat × Nat × Nat) := [(2004, 1009, 2003, 0), (3209, 1009, 3207, 3208), (1048, 1003, 1047, 0), (2202, 1003, 2200, 2201), (3009, 1003, 3007, 3008), (3205, 1003, 3203, 3204), (3217, 1003, 3215, 3216), (3086, 1003, 3084, 3085), (2174, 1003, 2173, 0), (2170, 1003, 2168, 2169), (2198, 1003, 2197, 2), (2214, 1003, 2213, 3), (2219, 1003, 2218, 0), (2238, 1003, 2237, 4), (3001, 1003, 3000, 0), (3005, 1003, 3004, 5), (1135, 1005, 1134, 0), (3123, 1005, 3121, 3122), (3014, 1005, 3012, 3013), (3047, 1005, 3046, 10), (3019, 1005, 3018, 6), (3072, 1005, 3071, 15), (3056, 1005, 3055, 11), (3060, 1005, 3059, 12), (3068, 1005, 3067, 14), (3064, 1005, 3063, 13), (3031, 1005, 3030, 7), (3035, 1005, 3034, 8), (3039, 1005, 3038, 9), (3027, 1005, 3026, 0), (3052, 1005, 3051, 0), (3043, 1005, 3042, 0), (3233, 1005, 3231, 3232), (4002, 1005, 4001, 30), (3238, 1005, 3237, 29), (4005, 1005, 4004, 0), (4008, 1005, 4007, 0), (4011, 1005, 4010, 0), (1195, 1007, 1194, 0), (4108, 1007, 4106, 4107), (3107, 1007, 3105, 3106), (3179, 1007, 3177, 3178), (4104, 1007, 4102, 4103), (3183, 1007, 3182, 22), (2041, 1010, 2040, 0), (4139, 1010, 4137, 4138), (4148, 1010, 4146, 4147), (4181, 1010, 4179, 4180), (4154, 1010, 4152, 4153), (4164, 1010, 4162, 4163), (4185, 1010, 4183, 4184), (4197, 1010, 4195, 4196), (4208, 1010, 4206, 4207), (4201, 1010, 4200, 42), (4190, 1010, 4189, 41), (4167, 1010, 4166, 0), (4172, 1010, 4171, 39), (4160, 1010, 4159, 38), (1214, 1008, 1213, 0), (5011, 1008, 5009, 5010), (3111, 1008, 3109, 3110), (5015, 1008, 5013, 5014), (2064, 1011, 2063, 0), (4217, 1011, 4215, 4216), (4221, 1011, 4219, 4220), (4226, 1011, 4224, 4225), (4230, 1011, 4229, 43), (1155, 1006, 1154, 0), (3101, 1006, 3099, 3100), (3158, 1006, 3156, 3157), (3154, 1006, 3152, 3153), (3150, 1006, 3148, 3149), (4060, 1006, 4058, 4059), (3097, 1006, 3095, 3096), (3187, 1006, 3185, 3186), (4033, 1006, 4031, 4032), (1031, 1002, 1030, 0), (2143, 1002, 2142, 0), (2151, 1002, 2149, 2150), (2147, 1002, 2145, 2146), (2162, 1002, 2160, 2161), (2183, 1002, 2181, 2182), (2206, 1002, 2204, 2205), (2187, 1002, 2185, 2186), (2194, 1002, 2193, 1), (2210, 1002, 2208, 2209), (3023, 1002, 3021, 3022), (2226, 1002, 2224, 2225), (2230, 1002, 2229, 0), (1055, 1004, 1054, 0), (2179, 1004, 2177, 2178), (3093, 1004, 3091, 3092), (1023, 1001, 1022, 0), (2140, 1001, 2138, 2139), (2158, 1001, 2156, 2157), (2166, 1001, 2164, 2165), (3078, 1001, 3076, 3077), (3082, 1001, 3081, 16), (3115, 1001, 3114, 17), (3119, 1001, 3118, 18), (3128, 1001, 3126, 3127), (3132, 1001, 3130, 3131), (5156, 1001, 5154, 5155), (3141, 1001, 3139, 3140), (3136, 1001, 3135, 19), (3145, 1001, 3144, 20), (3197, 1001, 3196, 24), (3162, 1001, 3160, 3161), (3166, 1001, 3164, 3165), (3170, 1001, 3168, 3169), (4039, 1001, 4037, 4038), (4044, 1001, 4042, 4043), (4051, 1001, 4049, 4050), (4056, 1001, 4054, 4055), (4065, 1001, 4063, 4064), (4069, 1001, 4067, 4068), (4074, 1001, 4072, 4073), (3174, 1001, 3173, 21), (4047, 1001, 4046, 0), (3192, 1001, 3191, 23), (3201, 1001, 3200, 25), (3225, 1001, 3224, 27), (3229, 1001, 3228, 28), (4019, 1001, 4018, 31), (4029, 1001, 4028, 32), (4177, 1001, 4176, 40), (3213, 1001, 3212, 26), (4078, 1001, 4076, 4077), (4082, 1001, 4081, 33), (4092, 1001, 4091, 35), (4086, 1001, 4085, 34), (4096, 1001, 4094, 4095), (4100, 1001, 4098, 4099), (4112, 1001, 4110, 4111), (4119, 1001, 4117, 4118), (4123, 1001, 4121, 4122), (4127, 1001, 4126, 36), (4131, 1001, 4129, 4130), (4135, 1001, 4133, 4134), (4144, 1001, 4143, 37), (4213, 1001, 4211, 4212), (4238, 1001, 4236, 4237), (5002, 1001, 5000, 5001), (5020, 1001, 5018, 5019), (5028, 1001, 5026, 5027), (5032, 1001, 5031, 46), (5036, 1001, 5035, 47), (5024, 1001, 5023, 45), (5006, 1001, 5005, 44), (5040, 1001, 5038, 5039), (5063, 1001, 5061, 5062), (5071, 1001, 5069, 5070), (5076, 1001, 5075, 53), (5067, 1001, 5066, 52), (5047, 1001, 5046, 48), (5051, 1001, 5050, 49), (5059, 1001, 5058, 51), (5055, 1001, 5054, 50), (5043, 1001, 5042, 0), (5080, 1001, 5078, 5079), (5083, 1001, 5082, 0), (5089, 1001, 5088, 54), (5093, 1001, 5091, 5092), (5097, 1001, 5096, 55), (5101, 1001, 5099, 5100), (5105, 1001, 5104, 56), (5109, 1001, 5108, 57), (5113, 1001, 5112, 58), (5117, 1001, 5116, 59), (5121, 1001, 5120, 60), (5131, 1001, 5130, 61), (5135, 1001, 5134, 62), (5139, 1001, 5137, 5138), (5144, 1001, 5142, 5143), (5148, 1001, 5146, 5147), (2190, 1001, 2189, 0), (2154, 1001, 2153, 0), (3089, 1001, 3088, 0), (6205, 1012, 6204, 0), (6185, 1012, 6184, 0), (5222, 1012, 5221, 0), (6145, 1012, 6143, 6144), (6152, 1012, 6151, 0), (6149, 1012, 6147, 6148), (6156, 1012, 6154, 6155), (6175, 1012, 6174, 66), (6171, 1012, 6170, 65), (6202, 1012, 6201, 69), (6198, 1012, 6197, 0), (6237, 1012, 6236, 77), (7020, 1012, 7019, 0), (6233, 1012, 6232, 76), (7001, 1012, 7000, 78), (7017, 1012, 7016, 82), (7013, 1012, 7012, 81), (7009, 1012, 7008, 80), (7005, 1012, 7004, 79), (7027, 1012, 7026, 0), (7024, 1012, 7023, 83), (6229, 1012, 6228, 75), (7031, 1012, 7030, 84), (7035, 1012, 7034, 85), (6225, 1012, 6224, 74), (6221, 1012, 6220, 73), (6217, 1012, 6216, 72), (7039, 1012, 7038, 86), (6213, 1012, 6212, 71), (7166, 1012, 7165, 0), (7163, 1012, 7162, 0), (7160, 1012, 7159, 108), (7156, 1012, 7155, 107), (6195, 1012, 6194, 68), (6182, 1012, 6181, 0), (6188, 1012, 6187, 0), (6191, 1012, 6190, 0), (6167, 1012, 6166, 0), (6179, 1012, 6178, 67), (6209, 1012, 6208, 70), (6164, 1012, 6163, 64), (6160, 1012, 6158, 6159), (7059, 1012, 7058, 90), (7055, 1012, 7054, 89), (7051, 1012, 7050, 88), (7047, 1012, 7046, 87), (7043, 1012, 7041, 7042), (7079, 1012, 7078, 92), (7099, 1012, 7098, 96), (7091, 1012, 7090, 94), (7087, 1012, 7086, 93), (7071, 1012, 7070, 91), (7135, 1012, 7134, 102), (7143, 1012, 7142, 104), (7095, 1012, 7094, 95), (7151, 1012, 7150, 106), (7147, 1012, 7146, 105), (7139, 1012, 7138, 103), (7131, 1012, 7130, 101), (7182, 1012, 7181, 110), (7178, 1012, 7177, 109), (7127, 1012, 7126, 100), (7063, 1012, 7061, 7062), (7067, 1012, 7065, 7066), (7075, 1012, 7073, 7074), (7083, 1012, 7081, 7082), (7103, 1012, 7101, 7102), (7107, 1012, 7105, 7106), (7123, 1012, 7122, 99), (7119, 1012, 7118, 98), (7115, 1012, 7114, 97), (7111, 1012, 7109, 7110), (7187, 1012, 7185, 7186), (7191, 1012, 7189, 7190), (7195, 1012, 7193, 7194), (7203, 1012, 7202, 111), (7199, 1012, 7197, 7198), (7207, 1012, 7205, 7206), (7211, 1012, 7209, 7210), (7216, 1012, 7214, 7215), (7228, 1012, 7227, 113), (7224, 1012, 7223, 112), (7220, 1012, 7218, 7219), (7234, 1012, 7232, 7233), (7238, 1012, 7236, 7237), (8002, 1012, 8000, 8001), (8010, 1012, 8009, 114), (8014, 1012, 8013, 115), (8006, 1012, 8004, 8005), (8022, 1012, 8021, 116), (8018, 1012, 8016, 8017), (8026, 1012, 8024, 8025), (8030, 1012, 8028, 8029), (8042, 1012, 8041, 118), (8038, 1012, 8037, 117), (8046, 1012, 8045, 119), (8034, 1012, 8032, 8033), (8050, 1012, 8048, 8049), (8059, 1012, 8058, 120), (8055, 1012, 8053, 8054), (8071, 1012, 8070, 122), (8067, 1012, 8066, 121), (8063, 1012, 8061, 8062), (8080, 1012, 8079, 123), (8075, 1012, 8073, 8074), (8096, 1012, 8095, 126), (8092, 1012, 8091, 125), (8088, 1012, 8087, 124), (8084, 1012, 8082, 8083), (8104, 1012, 8103, 127), (8100, 1012, 8098, 8099), (8112, 1012, 8111, 128), (8108, 1012, 8106, 8107), (8121, 1012, 8120, 129), (8116, 1012, 8114, 8115), (8126, 1012, 8124, 8125), (8134, 1012, 8133, 130), (8142, 1012, 8141, 132), (8138, 1012, 8137, 131), (8146, 1012, 8145, 133), (8130, 1012, 8128, 8129), (8150, 1012, 8148, 8149), (8154, 1012, 8152, 8153), (8158, 1012, 8156, 8157), (5124, 1018, 5123, 0), (4204, 1017, 4203, 0), (4115, 1017, 4114, 0), (3221, 1017, 3220, 0), (4025, 1017, 4024, 0), (4193, 1017, 4192, 0), (4022, 1017, 4021, 0), (7171, 1017, 7170, 0)]
def ck_Yb (y : Nat) : Bool := match mm_nth ck_Y y with
  | some q => ck_w q.2.1 (.initialized (mm_nm y).cls) true && plainFor (mm_nm y) && decide ((mm_nm y).cls ≠ "java/lang/invoke/MethodHandle") && decide ((mm_nm y).cls ≠ "java/lang/invoke/VarHandle") && decide ((parseMethodDescriptor (mm_nm y).desc).map (fun d => d.parameters.length) = some (mm_na y)) && Nat.ble (mm_nl y) 40 && decide ((mm_nm y).cls = mm_Rn (mm_oc y)) && (!mm_in y || decide ((mm_nm y).name = "<init>")) &&
    (bif mm_st y then ck_w q.2.2.1 (.static (mm_nm y)) true else ck_w q.2.2.1 (.instanceMethod (mm_nm y)) true && Nat.blt (mm_oc y) 12 && (bif mm_in y then decide (mm_rt y = none) else ck_w q.2.2.2 (.selects (mm_nm y).cls (mm_nm y) (mm_nm y)) true))
  | none => false
theorem ck_cd_0 : Cond.code (mm_nm 0) (mm_by 0) (mm_nl 0) (mm_rt 0) ∈ sd_gW := sd_gin (ck_tm 2 _ (ck_nm (i := 4) rfl)) rfl
theorem ck_cd_1 : Cond.code (mm_nm 1) (mm_by 1) (mm_nl 1) (mm_rt 1) ∈ sd_gW := sd_gin (ck_tm 3 _ (ck_nm (i := 209) rfl)) rfl
theorem ck_cd_2 : Cond.code (mm_nm 2) (mm_by 2) (mm_nl 2) (mm_rt 2) ∈ sd_gW := sd_gin (ck_tm 1 _ (ck_nm (i := 48) rfl)) rfl
theorem ck_cd_3 : Cond.code (mm_nm 3) (mm_by 3) (mm_nl 3) (mm_rt 3) ∈ sd_gW := sd_gin (ck_tm 2 _ (ck_nm (i := 202) rfl)) rfl
theorem ck_cd_4 : Cond.code (mm_nm 4) (mm_by 4) (mm_nl 4) (mm_rt 4) ∈ sd_gW := sd_gin (ck_tm 3 _ (ck_nm (i := 9) rfl)) rfl
theorem ck_cd_5 : Cond.code (mm_nm 5) (mm_by 5) (mm_nl 5) (mm_rt 5) ∈ sd_gW := sd_gin (ck_tm 3 _ (ck_nm (i := 205) rfl)) rfl
theorem ck_cd_6 : Cond.code (mm_nm 6) (mm_by 6) (mm_nl 6) (mm_rt 6) ∈ sd_gW := sd_gin (ck_tm 3 _ (ck_nm (i := 217) rfl)) rfl
theorem ck_cd_7 : Cond.code (mm_nm 7) (mm_by 7) (mm_nl 7) (mm_rt 7) ∈ sd_gW := sd_gin (ck_tm 3 _ (ck_nm (i := 86) rfl)) rfl
theorem ck_cd_8 : Cond.code (mm_nm 8) (mm_by 8) (mm_nl 8) (mm_rt 8) ∈ sd_gW := sd_gin (ck_tm 2 _ (ck_nm (i := 174) rfl)) rfl
theorem ck_cd_9 : Cond.code (mm_nm 9) (mm_by 9) (mm_nl 9) (mm_rt 9) ∈ sd_gW := sd_gin (ck_tm 2 _ (ck_nm (i := 170) rfl)) rfl
theorem ck_cd_10 : Cond.code (mm_nm 10) (mm_by 10) (mm_nl 10) (mm_rt 10) ∈ sd_gW := sd_gin (ck_tm 2 _ (ck_nm (i := 198) rfl)) rfl
theorem ck_cd_11 : Cond.code (mm_nm 11) (mm_by 11) (mm_nl 11) (mm_rt 11) ∈ sd_gW := sd_gin (ck_tm 2 _ (ck_nm (i := 214) rfl)) rfl
theorem ck_cd_12 : Cond.code (mm_nm 12) (mm_by 12) (mm_nl 12) (mm_rt 12) ∈ sd_gW := sd_gin (ck_tm 2 _ (ck_nm (i := 219) rfl)) rfl
theorem ck_cd_13 : Cond.code (mm_nm 13) (mm_by 13) (mm_nl 13) (mm_rt 13) ∈ sd_gW := sd_gin (ck_tm 2 _ (ck_nm (i := 238) rfl)) rfl
theorem ck_cd_14 : Cond.code (mm_nm 14) (mm_by 14) (mm_nl 14) (mm_rt 14) ∈ sd_gW := sd_gin (ck_tm 3 _ (ck_nm (i := 1) rfl)) rfl
theorem ck_cd_15 : Cond.code (mm_nm 15) (mm_by 15) (mm_nl 15) (mm_rt 15) ∈ sd_gW := sd_gin (ck_tm 3 _ (ck_nm (i := 5) rfl)) rfl
theorem ck_cd_16 : Cond.code (mm_nm 16) (mm_by 16) (mm_nl 16) (mm_rt 16) ∈ sd_gW := sd_gin (ck_tm 1 _ (ck_nm (i := 135) rfl)) rfl
theorem ck_cd_17 : Cond.code (mm_nm 17) (mm_by 17) (mm_nl 17) (mm_rt 17) ∈ sd_gW := sd_gin (ck_tm 3 _ (ck_nm (i := 123) rfl)) rfl
theorem ck_cd_18 : Cond.code (mm_nm 18) (mm_by 18) (mm_nl 18) (mm_rt 18) ∈ sd_gW := sd_gin (ck_tm 3 _ (ck_nm (i := 14) rfl)) rfl
theorem ck_cd_19 : Cond.code (mm_nm 19) (mm_by 19) (mm_nl 19) (mm_rt 19) ∈ sd_gW := sd_gin (ck_tm 3 _ (ck_nm (i := 47) rfl)) rfl
theorem ck_cd_20 : Cond.code (mm_nm 20) (mm_by 20) (mm_nl 20) (mm_rt 20) ∈ sd_gW := sd_gin (ck_tm 3 _ (ck_nm (i := 19) rfl)) rfl
theorem ck_cd_21 : Cond.code (mm_nm 21) (mm_by 21) (mm_nl 21) (mm_rt 21) ∈ sd_gW := sd_gin (ck_tm 3 _ (ck_nm (i := 72) rfl)) rfl
theorem ck_cd_22 : Cond.code (mm_nm 22) (mm_by 22) (mm_nl 22) (mm_rt 22) ∈ sd_gW := sd_gin (ck_tm 3 _ (ck_nm (i := 56) rfl)) rfl
theorem ck_cd_23 : Cond.code (mm_nm 23) (mm_by 23) (mm_nl 23) (mm_rt 23) ∈ sd_gW := sd_gin (ck_tm 3 _ (ck_nm (i := 60) rfl)) rfl
theorem ck_cd_24 : Cond.code (mm_nm 24) (mm_by 24) (mm_nl 24) (mm_rt 24) ∈ sd_gW := sd_gin (ck_tm 3 _ (ck_nm (i := 68) rfl)) rfl
theorem ck_cd_25 : Cond.code (mm_nm 25) (mm_by 25) (mm_nl 25) (mm_rt 25) ∈ sd_gW := sd_gin (ck_tm 3 _ (ck_nm (i := 64) rfl)) rfl
theorem ck_cd_26 : Cond.code (mm_nm 26) (mm_by 26) (mm_nl 26) (mm_rt 26) ∈ sd_gW := sd_gin (ck_tm 3 _ (ck_nm (i := 31) rfl)) rfl
theorem ck_cd_27 : Cond.code (mm_nm 27) (mm_by 27) (mm_nl 27) (mm_rt 27) ∈ sd_gW := sd_gin (ck_tm 3 _ (ck_nm (i := 35) rfl)) rfl
theorem ck_cd_28 : Cond.code (mm_nm 28) (mm_by 28) (mm_nl 28) (mm_rt 28) ∈ sd_gW := sd_gin (ck_tm 3 _ (ck_nm (i := 39) rfl)) rfl
theorem ck_cd_29 : Cond.code (mm_nm 29) (mm_by 29) (mm_nl 29) (mm_rt 29) ∈ sd_gW := sd_gin (ck_tm 3 _ (ck_nm (i := 27) rfl)) rfl
theorem ck_cd_30 : Cond.code (mm_nm 30) (mm_by 30) (mm_nl 30) (mm_rt 30) ∈ sd_gW := sd_gin (ck_tm 3 _ (ck_nm (i := 52) rfl)) rfl
theorem ck_cd_31 : Cond.code (mm_nm 31) (mm_by 31) (mm_nl 31) (mm_rt 31) ∈ sd_gW := sd_gin (ck_tm 3 _ (ck_nm (i := 43) rfl)) rfl
theorem ck_cd_32 : Cond.code (mm_nm 32) (mm_by 32) (mm_nl 32) (mm_rt 32) ∈ sd_gW := sd_gin (ck_tm 3 _ (ck_nm (i := 233) rfl)) rfl
theorem ck_cd_33 : Cond.code (mm_nm 33) (mm_by 33) (mm_nl 33) (mm_rt 33) ∈ sd_gW := sd_gin (ck_tm 4 _ (ck_nm (i := 2) rfl)) rfl
theorem ck_cd_34 : Cond.code (mm_nm 34) (mm_by 34) (mm_nl 34) (mm_rt 34) ∈ sd_gW := sd_gin (ck_tm 3 _ (ck_nm (i := 238) rfl)) rfl
theorem ck_cd_35 : Cond.code (mm_nm 35) (mm_by 35) (mm_nl 35) (mm_rt 35) ∈ sd_gW := sd_gin (ck_tm 4 _ (ck_nm (i := 5) rfl)) rfl
theorem ck_cd_36 : Cond.code (mm_nm 36) (mm_by 36) (mm_nl 36) (mm_rt 36) ∈ sd_gW := sd_gin (ck_tm 4 _ (ck_nm (i := 8) rfl)) rfl
theorem ck_cd_37 : Cond.code (mm_nm 37) (mm_by 37) (mm_nl 37) (mm_rt 37) ∈ sd_gW := sd_gin (ck_tm 4 _ (ck_nm (i := 11) rfl)) rfl
theorem ck_cd_38 : Cond.code (mm_nm 38) (mm_by 38) (mm_nl 38) (mm_rt 38) ∈ sd_gW := sd_gin (ck_tm 1 _ (ck_nm (i := 195) rfl)) rfl
theorem ck_cd_39 : Cond.code (mm_nm 39) (mm_by 39) (mm_nl 39) (mm_rt 39) ∈ sd_gW := sd_gin (ck_tm 4 _ (ck_nm (i := 108) rfl)) rfl
theorem ck_cd_40 : Cond.code (mm_nm 40) (mm_by 40) (mm_nl 40) (mm_rt 40) ∈ sd_gW := sd_gin (ck_tm 3 _ (ck_nm (i := 107) rfl)) rfl
theorem ck_cd_41 : Cond.code (mm_nm 41) (mm_by 41) (mm_nl 41) (mm_rt 41) ∈ sd_gW := sd_gin (ck_tm 3 _ (ck_nm (i := 179) rfl)) rfl
theorem ck_cd_42 : Cond.code (mm_nm 42) (mm_by 42) (mm_nl 42) (mm_rt 42) ∈ sd_gW := sd_gin (ck_tm 4 _ (ck_nm (i := 104) rfl)) rfl
theorem ck_cd_43 : Cond.code (mm_nm 43) (mm_by 43) (mm_nl 43) (mm_rt 43) ∈ sd_gW := sd_gin (ck_tm 3 _ (ck_nm (i := 183) rfl)) rfl
theorem ck_cd_44 : Cond.code (mm_nm 44) (mm_by 44) (mm_nl 44) (mm_rt 44) ∈ sd_gW := sd_gin (ck_tm 2 _ (ck_nm (i := 41) rfl)) rfl
theorem ck_cd_45 : Cond.code (mm_nm 45) (mm_by 45) (mm_nl 45) (mm_rt 45) ∈ sd_gW := sd_gin (ck_tm 4 _ (ck_nm (i := 139) rfl)) rfl
theorem ck_cd_46 : Cond.code (mm_nm 46) (mm_by 46) (mm_nl 46) (mm_rt 46) ∈ sd_gW := sd_gin (ck_tm 4 _ (ck_nm (i := 148) rfl)) rfl
theorem ck_cd_47 : Cond.code (mm_nm 47) (mm_by 47) (mm_nl 47) (mm_rt 47) ∈ sd_gW := sd_gin (ck_tm 4 _ (ck_nm (i := 181) rfl)) rfl
theorem ck_cd_48 : Cond.code (mm_nm 48) (mm_by 48) (mm_nl 48) (mm_rt 48) ∈ sd_gW := sd_gin (ck_tm 4 _ (ck_nm (i := 154) rfl)) rfl
theorem ck_cd_49 : Cond.code (mm_nm 49) (mm_by 49) (mm_nl 49) (mm_rt 49) ∈ sd_gW := sd_gin (ck_tm 4 _ (ck_nm (i := 164) rfl)) rfl
theorem ck_cd_50 : Cond.code (mm_nm 50) (mm_by 50) (mm_nl 50) (mm_rt 50) ∈ sd_gW := sd_gin (ck_tm 4 _ (ck_nm (i := 185) rfl)) rfl
theorem ck_cd_51 : Cond.code (mm_nm 51) (mm_by 51) (mm_nl 51) (mm_rt 51) ∈ sd_gW := sd_gin (ck_tm 4 _ (ck_nm (i := 197) rfl)) rfl
theorem ck_cd_52 : Cond.code (mm_nm 52) (mm_by 52) (mm_nl 52) (mm_rt 52) ∈ sd_gW := sd_gin (ck_tm 4 _ (ck_nm (i := 208) rfl)) rfl
theorem ck_cd_53 : Cond.code (mm_nm 53) (mm_by 53) (mm_nl 53) (mm_rt 53) ∈ sd_gW := sd_gin (ck_tm 4 _ (ck_nm (i := 201) rfl)) rfl
theorem ck_cd_54 : Cond.code (mm_nm 54) (mm_by 54) (mm_nl 54) (mm_rt 54) ∈ sd_gW := sd_gin (ck_tm 4 _ (ck_nm (i := 190) rfl)) rfl
theorem ck_cd_55 : Cond.code (mm_nm 55) (mm_by 55) (mm_nl 55) (mm_rt 55) ∈ sd_gW := sd_gin (ck_tm 4 _ (ck_nm (i := 167) rfl)) rfl
theorem ck_cd_56 : Cond.code (mm_nm 56) (mm_by 56) (mm_nl 56) (mm_rt 56) ∈ sd_gW := sd_gin (ck_tm 4 _ (ck_nm (i := 172) rfl)) rfl
theorem ck_cd_57 : Cond.code (mm_nm 57) (mm_by 57) (mm_nl 57) (mm_rt 57) ∈ sd_gW := sd_gin (ck_tm 4 _ (ck_nm (i := 160) rfl)) rfl
theorem ck_cd_58 : Cond.code (mm_nm 58) (mm_by 58) (mm_nl 58) (mm_rt 58) ∈ sd_gW := sd_gin (ck_tm 1 _ (ck_nm (i := 214) rfl)) rfl
theorem ck_cd_59 : Cond.code (mm_nm 59) (mm_by 59) (mm_nl 59) (mm_rt 59) ∈ sd_gW := sd_gin (ck_tm 5 _ (ck_nm (i := 11) rfl)) rfl
theorem ck_cd_60 : Cond.code (mm_nm 60) (mm_by 60) (mm_nl 60) (mm_rt 60) ∈ sd_gW := sd_gin (ck_tm 3 _ (ck_nm (i := 111) rfl)) rfl
theorem ck_cd_61 : Cond.code (mm_nm 61) (mm_by 61) (mm_nl 61) (mm_rt 61) ∈ sd_gW := sd_gin (ck_tm 5 _ (ck_nm (i := 15) rfl)) rfl
theorem ck_cd_62 : Cond.code (mm_nm 62) (mm_by 62) (mm_nl 62) (mm_rt 62) ∈ sd_gW := sd_gin (ck_tm 2 _ (ck_nm (i := 64) rfl)) rfl
theorem ck_cd_63 : Cond.code (mm_nm 63) (mm_by 63) (mm_nl 63) (mm_rt 63) ∈ sd_gW := sd_gin (ck_tm 4 _ (ck_nm (i := 217) rfl)) rfl
theorem ck_cd_64 : Cond.code (mm_nm 64) (mm_by 64) (mm_nl 64) (mm_rt 64) ∈ sd_gW := sd_gin (ck_tm 4 _ (ck_nm (i := 221) rfl)) rfl
theorem ck_cd_65 : Cond.code (mm_nm 65) (mm_by 65) (mm_nl 65) (mm_rt 65) ∈ sd_gW := sd_gin (ck_tm 4 _ (ck_nm (i := 226) rfl)) rfl
theorem ck_cd_66 : Cond.code (mm_nm 66) (mm_by 66) (mm_nl 66) (mm_rt 66) ∈ sd_gW := sd_gin (ck_tm 4 _ (ck_nm (i := 230) rfl)) rfl
theorem ck_cd_67 : Cond.code (mm_nm 67) (mm_by 67) (mm_nl 67) (mm_rt 67) ∈ sd_gW := sd_gin (ck_tm 1 _ (ck_nm (i := 155) rfl)) rfl
theorem ck_cd_68 : Cond.code (mm_nm 68) (mm_by 68) (mm_nl 68) (mm_rt 68) ∈ sd_gW := sd_gin (ck_tm 3 _ (ck_nm (i := 101) rfl)) rfl
theorem ck_cd_69 : Cond.code (mm_nm 69) (mm_by 69) (mm_nl 69) (mm_rt 69) ∈ sd_gW := sd_gin (ck_tm 3 _ (ck_nm (i := 158) rfl)) rfl
theorem ck_cd_70 : Cond.code (mm_nm 70) (mm_by 70) (mm_nl 70) (mm_rt 70) ∈ sd_gW := sd_gin (ck_tm 3 _ (ck_nm (i := 154) rfl)) rfl
theorem ck_cd_71 : Cond.code (mm_nm 71) (mm_by 71) (mm_nl 71) (mm_rt 71) ∈ sd_gW := sd_gin (ck_tm 3 _ (ck_nm (i := 150) rfl)) rfl
theorem ck_cd_72 : Cond.code (mm_nm 72) (mm_by 72) (mm_nl 72) (mm_rt 72) ∈ sd_gW := sd_gin (ck_tm 4 _ (ck_nm (i := 60) rfl)) rfl
theorem ck_cd_73 : Cond.code (mm_nm 73) (mm_by 73) (mm_nl 73) (mm_rt 73) ∈ sd_gW := sd_gin (ck_tm 3 _ (ck_nm (i := 97) rfl)) rfl
theorem ck_cd_74 : Cond.code (mm_nm 74) (mm_by 74) (mm_nl 74) (mm_rt 74) ∈ sd_gW := sd_gin (ck_tm 3 _ (ck_nm (i := 187) rfl)) rfl
theorem ck_cd_75 : Cond.code (mm_nm 75) (mm_by 75) (mm_nl 75) (mm_rt 75) ∈ sd_gW := sd_gin (ck_tm 4 _ (ck_nm (i := 33) rfl)) rfl
theorem ck_cd_76 : Cond.code (mm_nm 76) (mm_by 76) (mm_nl 76) (mm_rt 76) ∈ sd_gW := sd_gin (ck_tm 1 _ (ck_nm (i := 31) rfl)) rfl
theorem ck_cd_77 : Cond.code (mm_nm 77) (mm_by 77) (mm_nl 77) (mm_rt 77) ∈ sd_gW := sd_gin (ck_tm 2 _ (ck_nm (i := 143) rfl)) rfl
theorem ck_cd_78 : Cond.code (mm_nm 78) (mm_by 78) (mm_nl 78) (mm_rt 78) ∈ sd_gW := sd_gin (ck_tm 2 _ (ck_nm (i := 151) rfl)) rfl
theorem ck_cd_79 : Cond.code (mm_nm 79) (mm_by 79) (mm_nl 79) (mm_rt 79) ∈ sd_gW := sd_gin (ck_tm 2 _ (ck_nm (i := 147) rfl)) rfl
theorem ck_cd_80 : Cond.code (mm_nm 80) (mm_by 80) (mm_nl 80) (mm_rt 80) ∈ sd_gW := sd_gin (ck_tm 2 _ (ck_nm (i := 162) rfl)) rfl
theorem ck_cd_81 : Cond.code (mm_nm 81) (mm_by 81) (mm_nl 81) (mm_rt 81) ∈ sd_gW := sd_gin (ck_tm 2 _ (ck_nm (i := 183) rfl)) rfl
theorem ck_cd_82 : Cond.code (mm_nm 82) (mm_by 82) (mm_nl 82) (mm_rt 82) ∈ sd_gW := sd_gin (ck_tm 2 _ (ck_nm (i := 206) rfl)) rfl
theorem ck_cd_83 : Cond.code (mm_nm 83) (mm_by 83) (mm_nl 83) (mm_rt 83) ∈ sd_gW := sd_gin (ck_tm 2 _ (ck_nm (i := 187) rfl)) rfl
theorem ck_cd_84 : Cond.code (mm_nm 84) (mm_by 84) (mm_nl 84) (mm_rt 84) ∈ sd_gW := sd_gin (ck_tm 2 _ (ck_nm (i := 194) rfl)) rfl
theorem ck_cd_85 : Cond.code (mm_nm 85) (mm_by 85) (mm_nl 85) (mm_rt 85) ∈ sd_gW := sd_gin (ck_tm 2 _ (ck_nm (i := 210) rfl)) rfl
theorem ck_cd_86 : Cond.code (mm_nm 86) (mm_by 86) (mm_nl 86) (mm_rt 86) ∈ sd_gW := sd_gin (ck_tm 3 _ (ck_nm (i := 23) rfl)) rfl
theorem ck_cd_87 : Cond.code (mm_nm 87) (mm_by 87) (mm_nl 87) (mm_rt 87) ∈ sd_gW := sd_gin (ck_tm 2 _ (ck_nm (i := 226) rfl)) rfl
theorem ck_cd_88 : Cond.code (mm_nm 88) (mm_by 88) (mm_nl 88) (mm_rt 88) ∈ sd_gW := sd_gin (ck_tm 2 _ (ck_nm (i := 230) rfl)) rfl
theorem ck_cd_89 : Cond.code (mm_nm 89) (mm_by 89) (mm_nl 89) (mm_rt 89) ∈ sd_gW := sd_gin (ck_tm 1 _ (ck_nm (i := 55) rfl)) rfl
theorem ck_cd_90 : Cond.code (mm_nm 90) (mm_by 90) (mm_nl 90) (mm_rt 90) ∈ sd_gW := sd_gin (ck_tm 2 _ (ck_nm (i := 179) rfl)) rfl
theorem ck_cd_91 : Cond.code (mm_nm 91) (mm_by 91) (mm_nl 91) (mm_rt 91) ∈ sd_gW := sd_gin (ck_tm 3 _ (ck_nm (i := 93) rfl)) rfl
theorem ck_cd_92 : Cond.code (mm_nm 92) (mm_by 92) (mm_nl 92) (mm_rt 92) ∈ sd_gW := sd_gin (ck_tm 1 _ (ck_nm (i := 23) rfl)) rfl
theorem ck_cd_93 : Cond.code (mm_nm 93) (mm_by 93) (mm_nl 93) (mm_rt 93) ∈ sd_gW := sd_gin (ck_tm 2 _ (ck_nm (i := 140) rfl)) rfl
theorem ck_cd_94 : Cond.code (mm_nm 94) (mm_by 94) (mm_nl 94) (mm_rt 94) ∈ sd_gW := sd_gin (ck_tm 2 _ (ck_nm (i := 158) rfl)) rfl
theorem ck_cd_95 : Cond.code (mm_nm 95) (mm_by 95) (mm_nl 95) (mm_rt 95) ∈ sd_gW := sd_gin (ck_tm 2 _ (ck_nm (i := 166) rfl)) rfl
theorem ck_cd_96 : Cond.code (mm_nm 96) (mm_by 96) (mm_nl 96) (mm_rt 96) ∈ sd_gW := sd_gin (ck_tm 3 _ (ck_nm (i := 78) rfl)) rfl
theorem ck_cd_97 : Cond.code (mm_nm 97) (mm_by 97) (mm_nl 97) (mm_rt 97) ∈ sd_gW := sd_gin (ck_tm 3 _ (ck_nm (i := 82) rfl)) rfl
theorem ck_cd_98 : Cond.code (mm_nm 98) (mm_by 98) (mm_nl 98) (mm_rt 98) ∈ sd_gW := sd_gin (ck_tm 3 _ (ck_nm (i := 115) rfl)) rfl
theorem ck_cd_99 : Cond.code (mm_nm 99) (mm_by 99) (mm_nl 99) (mm_rt 99) ∈ sd_gW := sd_gin (ck_tm 3 _ (ck_nm (i := 119) rfl)) rfl
theorem ck_cd_100 : Cond.code (mm_nm 100) (mm_by 100) (mm_nl 100) (mm_rt 100) ∈ sd_gW := sd_gin (ck_tm 3 _ (ck_nm (i := 128) rfl)) rfl
theorem ck_cd_101 : Cond.code (mm_nm 101) (mm_by 101) (mm_nl 101) (mm_rt 101) ∈ sd_gW := sd_gin (ck_tm 3 _ (ck_nm (i := 132) rfl)) rfl
theorem ck_cd_102 : Cond.code (mm_nm 102) (mm_by 102) (mm_nl 102) (mm_rt 102) ∈ sd_gW := sd_gin (ck_tm 5 _ (ck_nm (i := 156) rfl)) rfl
theorem ck_cd_103 : Cond.code (mm_nm 103) (mm_by 103) (mm_nl 103) (mm_rt 103) ∈ sd_gW := sd_gin (ck_tm 3 _ (ck_nm (i := 141) rfl)) rfl
theorem ck_cd_104 : Cond.code (mm_nm 104) (mm_by 104) (mm_nl 104) (mm_rt 104) ∈ sd_gW := sd_gin (ck_tm 3 _ (ck_nm (i := 136) rfl)) rfl
theorem ck_cd_105 : Cond.code (mm_nm 105) (mm_by 105) (mm_nl 105) (mm_rt 105) ∈ sd_gW := sd_gin (ck_tm 3 _ (ck_nm (i := 145) rfl)) rfl
theorem ck_cd_106 : Cond.code (mm_nm 106) (mm_by 106) (mm_nl 106) (mm_rt 106) ∈ sd_gW := sd_gin (ck_tm 3 _ (ck_nm (i := 197) rfl)) rfl
theorem ck_cd_107 : Cond.code (mm_nm 107) (mm_by 107) (mm_nl 107) (mm_rt 107) ∈ sd_gW := sd_gin (ck_tm 3 _ (ck_nm (i := 162) rfl)) rfl
theorem ck_cd_108 : Cond.code (mm_nm 108) (mm_by 108) (mm_nl 108) (mm_rt 108) ∈ sd_gW := sd_gin (ck_tm 3 _ (ck_nm (i := 166) rfl)) rfl
theorem ck_cd_109 : Cond.code (mm_nm 109) (mm_by 109) (mm_nl 109) (mm_rt 109) ∈ sd_gW := sd_gin (ck_tm 3 _ (ck_nm (i := 170) rfl)) rfl
theorem ck_cd_110 : Cond.code (mm_nm 110) (mm_by 110) (mm_nl 110) (mm_rt 110) ∈ sd_gW := sd_gin (ck_tm 4 _ (ck_nm (i := 39) rfl)) rfl
theorem ck_cd_111 : Cond.code (mm_nm 111) (mm_by 111) (mm_nl 111) (mm_rt 111) ∈ sd_gW := sd_gin (ck_tm 4 _ (ck_nm (i := 44) rfl)) rfl
theorem ck_cd_112 : Cond.code (mm_nm 112) (mm_by 112) (mm_nl 112) (mm_rt 112) ∈ sd_gW := sd_gin (ck_tm 4 _ (ck_nm (i := 51) rfl)) rfl
theorem ck_cd_113 : Cond.code (mm_nm 113) (mm_by 113) (mm_nl 113) (mm_rt 113) ∈ sd_gW := sd_gin (ck_tm 4 _ (ck_nm (i := 56) rfl)) rfl
theorem ck_cd_114 : Cond.code (mm_nm 114) (mm_by 114) (mm_nl 114) (mm_rt 114) ∈ sd_gW := sd_gin (ck_tm 4 _ (ck_nm (i := 65) rfl)) rfl
theorem ck_cd_115 : Cond.code (mm_nm 115) (mm_by 115) (mm_nl 115) (mm_rt 115) ∈ sd_gW := sd_gin (ck_tm 4 _ (ck_nm (i := 69) rfl)) rfl
theorem ck_cd_116 : Cond.code (mm_nm 116) (mm_by 116) (mm_nl 116) (mm_rt 116) ∈ sd_gW := sd_gin (ck_tm 4 _ (ck_nm (i := 74) rfl)) rfl
theorem ck_cd_117 : Cond.code (mm_nm 117) (mm_by 117) (mm_nl 117) (mm_rt 117) ∈ sd_gW := sd_gin (ck_tm 3 _ (ck_nm (i := 174) rfl)) rfl
theorem ck_cd_118 : Cond.code (mm_nm 118) (mm_by 118) (mm_nl 118) (mm_rt 118) ∈ sd_gW := sd_gin (ck_tm 4 _ (ck_nm (i := 47) rfl)) rfl
theorem ck_cd_119 : Cond.code (mm_nm 119) (mm_by 119) (mm_nl 119) (mm_rt 119) ∈ sd_gW := sd_gin (ck_tm 3 _ (ck_nm (i := 192) rfl)) rfl
theorem ck_cd_120 : Cond.code (mm_nm 120) (mm_by 120) (mm_nl 120) (mm_rt 120) ∈ sd_gW := sd_gin (ck_tm 3 _ (ck_nm (i := 201) rfl)) rfl
theorem ck_cd_121 : Cond.code (mm_nm 121) (mm_by 121) (mm_nl 121) (mm_rt 121) ∈ sd_gW := sd_gin (ck_tm 3 _ (ck_nm (i := 225) rfl)) rfl
theorem ck_cd_122 : Cond.code (mm_nm 122) (mm_by 122) (mm_nl 122) (mm_rt 122) ∈ sd_gW := sd_gin (ck_tm 3 _ (ck_nm (i := 229) rfl)) rfl
theorem ck_cd_123 : Cond.code (mm_nm 123) (mm_by 123) (mm_nl 123) (mm_rt 123) ∈ sd_gW := sd_gin (ck_tm 4 _ (ck_nm (i := 19) rfl)) rfl
theorem ck_cd_124 : Cond.code (mm_nm 124) (mm_by 124) (mm_nl 124) (mm_rt 124) ∈ sd_gW := sd_gin (ck_tm 4 _ (ck_nm (i := 29) rfl)) rfl
theorem ck_cd_125 : Cond.code (mm_nm 125) (mm_by 125) (mm_nl 125) (mm_rt 125) ∈ sd_gW := sd_gin (ck_tm 4 _ (ck_nm (i := 177) rfl)) rfl
theorem ck_cd_126 : Cond.code (mm_nm 126) (mm_by 126) (mm_nl 126) (mm_rt 126) ∈ sd_gW := sd_gin (ck_tm 3 _ (ck_nm (i := 213) rfl)) rfl
theorem ck_cd_127 : Cond.code (mm_nm 127) (mm_by 127) (mm_nl 127) (mm_rt 127) ∈ sd_gW := sd_gin (ck_tm 4 _ (ck_nm (i := 78) rfl)) rfl
theorem ck_cd_128 : Cond.code (mm_nm 128) (mm_by 128) (mm_nl 128) (mm_rt 128) ∈ sd_gW := sd_gin (ck_tm 4 _ (ck_nm (i := 82) rfl)) rfl
theorem ck_cd_129 : Cond.code (mm_nm 129) (mm_by 129) (mm_nl 129) (mm_rt 129) ∈ sd_gW := sd_gin (ck_tm 4 _ (ck_nm (i := 92) rfl)) rfl
theorem ck_cd_130 : Cond.code (mm_nm 130) (mm_by 130) (mm_nl 130) (mm_rt 130) ∈ sd_gW := sd_gin (ck_tm 4 _ (ck_nm (i := 86) rfl)) rfl
theorem ck_cd_131 : Cond.code (mm_nm 131) (mm_by 131) (mm_nl 131) (mm_rt 131) ∈ sd_gW := sd_gin (ck_tm 4 _ (ck_nm (i := 96) rfl)) rfl
theorem ck_cd_132 : Cond.code (mm_nm 132) (mm_by 132) (mm_nl 132) (mm_rt 132) ∈ sd_gW := sd_gin (ck_tm 4 _ (ck_nm (i := 100) rfl)) rfl
theorem ck_cd_133 : Cond.code (mm_nm 133) (mm_by 133) (mm_nl 133) (mm_rt 133) ∈ sd_gW := sd_gin (ck_tm 4 _ (ck_nm (i := 112) rfl)) rfl
theorem ck_cd_134 : Cond.code (mm_nm 134) (mm_by 134) (mm_nl 134) (mm_rt 134) ∈ sd_gW := sd_gin (ck_tm 4 _ (ck_nm (i := 119) rfl)) rfl
theorem ck_cd_135 : Cond.code (mm_nm 135) (mm_by 135) (mm_nl 135) (mm_rt 135) ∈ sd_gW := sd_gin (ck_tm 4 _ (ck_nm (i := 123) rfl)) rfl
theorem ck_cd_136 : Cond.code (mm_nm 136) (mm_by 136) (mm_nl 136) (mm_rt 136) ∈ sd_gW := sd_gin (ck_tm 4 _ (ck_nm (i := 127) rfl)) rfl
theorem ck_cd_137 : Cond.code (mm_nm 137) (mm_by 137) (mm_nl 137) (mm_rt 137) ∈ sd_gW := sd_gin (ck_tm 4 _ (ck_nm (i := 131) rfl)) rfl
theorem ck_cd_138 : Cond.code (mm_nm 138) (mm_by 138) (mm_nl 138) (mm_rt 138) ∈ sd_gW := sd_gin (ck_tm 4 _ (ck_nm (i := 135) rfl)) rfl
theorem ck_cd_139 : Cond.code (mm_nm 139) (mm_by 139) (mm_nl 139) (mm_rt 139) ∈ sd_gW := sd_gin (ck_tm 4 _ (ck_nm (i := 144) rfl)) rfl
theorem ck_cd_140 : Cond.code (mm_nm 140) (mm_by 140) (mm_nl 140) (mm_rt 140) ∈ sd_gW := sd_gin (ck_tm 4 _ (ck_nm (i := 213) rfl)) rfl
theorem ck_cd_141 : Cond.code (mm_nm 141) (mm_by 141) (mm_nl 141) (mm_rt 141) ∈ sd_gW := sd_gin (ck_tm 4 _ (ck_nm (i := 238) rfl)) rfl
theorem ck_cd_142 : Cond.code (mm_nm 142) (mm_by 142) (mm_nl 142) (mm_rt 142) ∈ sd_gW := sd_gin (ck_tm 5 _ (ck_nm (i := 2) rfl)) rfl
theorem ck_cd_143 : Cond.code (mm_nm 143) (mm_by 143) (mm_nl 143) (mm_rt 143) ∈ sd_gW := sd_gin (ck_tm 5 _ (ck_nm (i := 20) rfl)) rfl
theorem ck_cd_144 : Cond.code (mm_nm 144) (mm_by 144) (mm_nl 144) (mm_rt 144) ∈ sd_gW := sd_gin (ck_tm 5 _ (ck_nm (i := 28) rfl)) rfl
theorem ck_cd_145 : Cond.code (mm_nm 145) (mm_by 145) (mm_nl 145) (mm_rt 145) ∈ sd_gW := sd_gin (ck_tm 5 _ (ck_nm (i := 32) rfl)) rfl
theorem ck_cd_146 : Cond.code (mm_nm 146) (mm_by 146) (mm_nl 146) (mm_rt 146) ∈ sd_gW := sd_gin (ck_tm 5 _ (ck_nm (i := 36) rfl)) rfl
theorem ck_cd_147 : Cond.code (mm_nm 147) (mm_by 147) (mm_nl 147) (mm_rt 147) ∈ sd_gW := sd_gin (ck_tm 5 _ (ck_nm (i := 24) rfl)) rfl
theorem ck_cd_148 : Cond.code (mm_nm 148) (mm_by 148) (mm_nl 148) (mm_rt 148) ∈ sd_gW := sd_gin (ck_tm 5 _ (ck_nm (i := 6) rfl)) rfl
theorem ck_cd_149 : Cond.code (mm_nm 149) (mm_by 149) (mm_nl 149) (mm_rt 149) ∈ sd_gW := sd_gin (ck_tm 5 _ (ck_nm (i := 40) rfl)) rfl
theorem ck_cd_150 : Cond.code (mm_nm 150) (mm_by 150) (mm_nl 150) (mm_rt 150) ∈ sd_gW := sd_gin (ck_tm 5 _ (ck_nm (i := 63) rfl)) rfl
theorem ck_cd_151 : Cond.code (mm_nm 151) (mm_by 151) (mm_nl 151) (mm_rt 151) ∈ sd_gW := sd_gin (ck_tm 5 _ (ck_nm (i := 71) rfl)) rfl
theorem ck_cd_152 : Cond.code (mm_nm 152) (mm_by 152) (mm_nl 152) (mm_rt 152) ∈ sd_gW := sd_gin (ck_tm 5 _ (ck_nm (i := 76) rfl)) rfl
theorem ck_cd_153 : Cond.code (mm_nm 153) (mm_by 153) (mm_nl 153) (mm_rt 153) ∈ sd_gW := sd_gin (ck_tm 5 _ (ck_nm (i := 67) rfl)) rfl
theorem ck_cd_154 : Cond.code (mm_nm 154) (mm_by 154) (mm_nl 154) (mm_rt 154) ∈ sd_gW := sd_gin (ck_tm 5 _ (ck_nm (i := 47) rfl)) rfl
theorem ck_cd_155 : Cond.code (mm_nm 155) (mm_by 155) (mm_nl 155) (mm_rt 155) ∈ sd_gW := sd_gin (ck_tm 5 _ (ck_nm (i := 51) rfl)) rfl
theorem ck_cd_156 : Cond.code (mm_nm 156) (mm_by 156) (mm_nl 156) (mm_rt 156) ∈ sd_gW := sd_gin (ck_tm 5 _ (ck_nm (i := 59) rfl)) rfl
theorem ck_cd_157 : Cond.code (mm_nm 157) (mm_by 157) (mm_nl 157) (mm_rt 157) ∈ sd_gW := sd_gin (ck_tm 5 _ (ck_nm (i := 55) rfl)) rfl
theorem ck_cd_158 : Cond.code (mm_nm 158) (mm_by 158) (mm_nl 158) (mm_rt 158) ∈ sd_gW := sd_gin (ck_tm 5 _ (ck_nm (i := 43) rfl)) rfl
theorem ck_cd_159 : Cond.code (mm_nm 159) (mm_by 159) (mm_nl 159) (mm_rt 159) ∈ sd_gW := sd_gin (ck_tm 5 _ (ck_nm (i := 80) rfl)) rfl
theorem ck_cd_160 : Cond.code (mm_nm 160) (mm_by 160) (mm_nl 160) (mm_rt 160) ∈ sd_gW := sd_gin (ck_tm 5 _ (ck_nm (i := 83) rfl)) rfl
theorem ck_cd_161 : Cond.code (mm_nm 161) (mm_by 161) (mm_nl 161) (mm_rt 161) ∈ sd_gW := sd_gin (ck_tm 5 _ (ck_nm (i := 89) rfl)) rfl
theorem ck_cd_162 : Cond.code (mm_nm 162) (mm_by 162) (mm_nl 162) (mm_rt 162) ∈ sd_gW := sd_gin (ck_tm 5 _ (ck_nm (i := 93) rfl)) rfl
theorem ck_cd_163 : Cond.code (mm_nm 163) (mm_by 163) (mm_nl 163) (mm_rt 163) ∈ sd_gW := sd_gin (ck_tm 5 _ (ck_nm (i := 97) rfl)) rfl
theorem ck_cd_164 : Cond.code (mm_nm 164) (mm_by 164) (mm_nl 164) (mm_rt 164) ∈ sd_gW := sd_gin (ck_tm 5 _ (ck_nm (i := 101) rfl)) rfl
theorem ck_cd_165 : Cond.code (mm_nm 165) (mm_by 165) (mm_nl 165) (mm_rt 165) ∈ sd_gW := sd_gin (ck_tm 5 _ (ck_nm (i := 105) rfl)) rfl
theorem ck_cd_166 : Cond.code (mm_nm 166) (mm_by 166) (mm_nl 166) (mm_rt 166) ∈ sd_gW := sd_gin (ck_tm 5 _ (ck_nm (i := 109) rfl)) rfl
theorem ck_cd_167 : Cond.code (mm_nm 167) (mm_by 167) (mm_nl 167) (mm_rt 167) ∈ sd_gW := sd_gin (ck_tm 5 _ (ck_nm (i := 113) rfl)) rfl
theorem ck_cd_168 : Cond.code (mm_nm 168) (mm_by 168) (mm_nl 168) (mm_rt 168) ∈ sd_gW := sd_gin (ck_tm 5 _ (ck_nm (i := 117) rfl)) rfl
theorem ck_cd_169 : Cond.code (mm_nm 169) (mm_by 169) (mm_nl 169) (mm_rt 169) ∈ sd_gW := sd_gin (ck_tm 5 _ (ck_nm (i := 121) rfl)) rfl
theorem ck_cd_170 : Cond.code (mm_nm 170) (mm_by 170) (mm_nl 170) (mm_rt 170) ∈ sd_gW := sd_gin (ck_tm 5 _ (ck_nm (i := 131) rfl)) rfl
theorem ck_cd_171 : Cond.code (mm_nm 171) (mm_by 171) (mm_nl 171) (mm_rt 171) ∈ sd_gW := sd_gin (ck_tm 5 _ (ck_nm (i := 135) rfl)) rfl
theorem ck_cd_172 : Cond.code (mm_nm 172) (mm_by 172) (mm_nl 172) (mm_rt 172) ∈ sd_gW := sd_gin (ck_tm 5 _ (ck_nm (i := 139) rfl)) rfl
theorem ck_cd_173 : Cond.code (mm_nm 173) (mm_by 173) (mm_nl 173) (mm_rt 173) ∈ sd_gW := sd_gin (ck_tm 5 _ (ck_nm (i := 144) rfl)) rfl
theorem ck_cd_174 : Cond.code (mm_nm 174) (mm_by 174) (mm_nl 174) (mm_rt 174) ∈ sd_gW := sd_gin (ck_tm 5 _ (ck_nm (i := 148) rfl)) rfl
theorem ck_cd_175 : Cond.code (mm_nm 175) (mm_by 175) (mm_nl 175) (mm_rt 175) ∈ sd_gW := sd_gin (ck_tm 2 _ (ck_nm (i := 190) rfl)) rfl
theorem ck_cd_176 : Cond.code (mm_nm 176) (mm_by 176) (mm_nl 176) (mm_rt 176) ∈ sd_gW := sd_gin (ck_tm 2 _ (ck_nm (i := 154) rfl)) rfl
theorem ck_cd_177 : Cond.code (mm_nm 177) (mm_by 177) (mm_nl 177) (mm_rt 177) ∈ sd_gW := sd_gin (ck_tm 3 _ (ck_nm (i := 89) rfl)) rfl
theorem ck_cd_178 : Cond.code (mm_nm 178) (mm_by 178) (mm_nl 178) (mm_rt 178) ∈ sd_gW := sd_gin (ck_tm 6 _ (ck_nm (i := 205) rfl)) rfl
theorem ck_cd_179 : Cond.code (mm_nm 179) (mm_by 179) (mm_nl 179) (mm_rt 179) ∈ sd_gW := sd_gin (ck_tm 6 _ (ck_nm (i := 185) rfl)) rfl
theorem ck_cd_180 : Cond.code (mm_nm 180) (mm_by 180) (mm_nl 180) (mm_rt 180) ∈ sd_gW := sd_gin (ck_tm 5 _ (ck_nm (i := 222) rfl)) rfl
theorem ck_cd_181 : Cond.code (mm_nm 181) (mm_by 181) (mm_nl 181) (mm_rt 181) ∈ sd_gW := sd_gin (ck_tm 6 _ (ck_nm (i := 145) rfl)) rfl
theorem ck_cd_182 : Cond.code (mm_nm 182) (mm_by 182) (mm_nl 182) (mm_rt 182) ∈ sd_gW := sd_gin (ck_tm 6 _ (ck_nm (i := 152) rfl)) rfl
theorem ck_cd_183 : Cond.code (mm_nm 183) (mm_by 183) (mm_nl 183) (mm_rt 183) ∈ sd_gW := sd_gin (ck_tm 6 _ (ck_nm (i := 149) rfl)) rfl
theorem ck_cd_184 : Cond.code (mm_nm 184) (mm_by 184) (mm_nl 184) (mm_rt 184) ∈ sd_gW := sd_gin (ck_tm 6 _ (ck_nm (i := 156) rfl)) rfl
theorem ck_cd_185 : Cond.code (mm_nm 185) (mm_by 185) (mm_nl 185) (mm_rt 185) ∈ sd_gW := sd_gin (ck_tm 6 _ (ck_nm (i := 175) rfl)) rfl
theorem ck_cd_186 : Cond.code (mm_nm 186) (mm_by 186) (mm_nl 186) (mm_rt 186) ∈ sd_gW := sd_gin (ck_tm 6 _ (ck_nm (i := 171) rfl)) rfl
theorem ck_cd_187 : Cond.code (mm_nm 187) (mm_by 187) (mm_nl 187) (mm_rt 187) ∈ sd_gW := sd_gin (ck_tm 6 _ (ck_nm (i := 202) rfl)) rfl
theorem ck_cd_188 : Cond.code (mm_nm 188) (mm_by 188) (mm_nl 188) (mm_rt 188) ∈ sd_gW := sd_gin (ck_tm 6 _ (ck_nm (i := 198) rfl)) rfl
theorem ck_cd_189 : Cond.code (mm_nm 189) (mm_by 189) (mm_nl 189) (mm_rt 189) ∈ sd_gW := sd_gin (ck_tm 6 _ (ck_nm (i := 237) rfl)) rfl
theorem ck_cd_190 : Cond.code (mm_nm 190) (mm_by 190) (mm_nl 190) (mm_rt 190) ∈ sd_gW := sd_gin (ck_tm 7 _ (ck_nm (i := 20) rfl)) rfl
theorem ck_cd_191 : Cond.code (mm_nm 191) (mm_by 191) (mm_nl 191) (mm_rt 191) ∈ sd_gW := sd_gin (ck_tm 6 _ (ck_nm (i := 233) rfl)) rfl
theorem ck_cd_192 : Cond.code (mm_nm 192) (mm_by 192) (mm_nl 192) (mm_rt 192) ∈ sd_gW := sd_gin (ck_tm 7 _ (ck_nm (i := 1) rfl)) rfl
theorem ck_cd_193 : Cond.code (mm_nm 193) (mm_by 193) (mm_nl 193) (mm_rt 193) ∈ sd_gW := sd_gin (ck_tm 7 _ (ck_nm (i := 17) rfl)) rfl
theorem ck_cd_194 : Cond.code (mm_nm 194) (mm_by 194) (mm_nl 194) (mm_rt 194) ∈ sd_gW := sd_gin (ck_tm 7 _ (ck_nm (i := 13) rfl)) rfl
theorem ck_cd_195 : Cond.code (mm_nm 195) (mm_by 195) (mm_nl 195) (mm_rt 195) ∈ sd_gW := sd_gin (ck_tm 7 _ (ck_nm (i := 9) rfl)) rfl
theorem ck_cd_196 : Cond.code (mm_nm 196) (mm_by 196) (mm_nl 196) (mm_rt 196) ∈ sd_gW := sd_gin (ck_tm 7 _ (ck_nm (i := 5) rfl)) rfl
theorem ck_cd_197 : Cond.code (mm_nm 197) (mm_by 197) (mm_nl 197) (mm_rt 197) ∈ sd_gW := sd_gin (ck_tm 7 _ (ck_nm (i := 27) rfl)) rfl
theorem ck_cd_198 : Cond.code (mm_nm 198) (mm_by 198) (mm_nl 198) (mm_rt 198) ∈ sd_gW := sd_gin (ck_tm 7 _ (ck_nm (i := 24) rfl)) rfl
theorem ck_cd_199 : Cond.code (mm_nm 199) (mm_by 199) (mm_nl 199) (mm_rt 199) ∈ sd_gW := sd_gin (ck_tm 6 _ (ck_nm (i := 229) rfl)) rfl
theorem ck_cd_200 : Cond.code (mm_nm 200) (mm_by 200) (mm_nl 200) (mm_rt 200) ∈ sd_gW := sd_gin (ck_tm 7 _ (ck_nm (i := 31) rfl)) rfl
theorem ck_cd_201 : Cond.code (mm_nm 201) (mm_by 201) (mm_nl 201) (mm_rt 201) ∈ sd_gW := sd_gin (ck_tm 7 _ (ck_nm (i := 35) rfl)) rfl
theorem ck_cd_202 : Cond.code (mm_nm 202) (mm_by 202) (mm_nl 202) (mm_rt 202) ∈ sd_gW := sd_gin (ck_tm 6 _ (ck_nm (i := 225) rfl)) rfl
theorem ck_cd_203 : Cond.code (mm_nm 203) (mm_by 203) (mm_nl 203) (mm_rt 203) ∈ sd_gW := sd_gin (ck_tm 6 _ (ck_nm (i := 221) rfl)) rfl
theorem ck_cd_204 : Cond.code (mm_nm 204) (mm_by 204) (mm_nl 204) (mm_rt 204) ∈ sd_gW := sd_gin (ck_tm 6 _ (ck_nm (i := 217) rfl)) rfl
theorem ck_cd_205 : Cond.code (mm_nm 205) (mm_by 205) (mm_nl 205) (mm_rt 205) ∈ sd_gW := sd_gin (ck_tm 7 _ (ck_nm (i := 39) rfl)) rfl
theorem ck_cd_206 : Cond.code (mm_nm 206) (mm_by 206) (mm_nl 206) (mm_rt 206) ∈ sd_gW := sd_gin (ck_tm 6 _ (ck_nm (i := 213) rfl)) rfl
theorem ck_cd_207 : Cond.code (mm_nm 207) (mm_by 207) (mm_nl 207) (mm_rt 207) ∈ sd_gW := sd_gin (ck_tm 7 _ (ck_nm (i := 166) rfl)) rfl
theorem ck_cd_208 : Cond.code (mm_nm 208) (mm_by 208) (mm_nl 208) (mm_rt 208) ∈ sd_gW := sd_gin (ck_tm 7 _ (ck_nm (i := 163) rfl)) rfl
theorem ck_cd_209 : Cond.code (mm_nm 209) (mm_by 209) (mm_nl 209) (mm_rt 209) ∈ sd_gW := sd_gin (ck_tm 7 _ (ck_nm (i := 160) rfl)) rfl
theorem ck_cd_210 : Cond.code (mm_nm 210) (mm_by 210) (mm_nl 210) (mm_rt 210) ∈ sd_gW := sd_gin (ck_tm 7 _ (ck_nm (i := 156) rfl)) rfl
theorem ck_cd_211 : Cond.code (mm_nm 211) (mm_by 211) (mm_nl 211) (mm_rt 211) ∈ sd_gW := sd_gin (ck_tm 6 _ (ck_nm (i := 195) rfl)) rfl
theorem ck_cd_212 : Cond.code (mm_nm 212) (mm_by 212) (mm_nl 212) (mm_rt 212) ∈ sd_gW := sd_gin (ck_tm 6 _ (ck_nm (i := 182) rfl)) rfl
theorem ck_cd_213 : Cond.code (mm_nm 213) (mm_by 213) (mm_nl 213) (mm_rt 213) ∈ sd_gW := sd_gin (ck_tm 6 _ (ck_nm (i := 188) rfl)) rfl
theorem ck_cd_214 : Cond.code (mm_nm 214) (mm_by 214) (mm_nl 214) (mm_rt 214) ∈ sd_gW := sd_gin (ck_tm 6 _ (ck_nm (i := 191) rfl)) rfl
theorem ck_cd_215 : Cond.code (mm_nm 215) (mm_by 215) (mm_nl 215) (mm_rt 215) ∈ sd_gW := sd_gin (ck_tm 6 _ (ck_nm (i := 167) rfl)) rfl
theorem ck_cd_216 : Cond.code (mm_nm 216) (mm_by 216) (mm_nl 216) (mm_rt 216) ∈ sd_gW := sd_gin (ck_tm 6 _ (ck_nm (i := 179) rfl)) rfl
theorem ck_cd_217 : Cond.code (mm_nm 217) (mm_by 217) (mm_nl 217) (mm_rt 217) ∈ sd_gW := sd_gin (ck_tm 6 _ (ck_nm (i := 209) rfl)) rfl
theorem ck_cd_218 : Cond.code (mm_nm 218) (mm_by 218) (mm_nl 218) (mm_rt 218) ∈ sd_gW := sd_gin (ck_tm 6 _ (ck_nm (i := 164) rfl)) rfl
theorem ck_cd_219 : Cond.code (mm_nm 219) (mm_by 219) (mm_nl 219) (mm_rt 219) ∈ sd_gW := sd_gin (ck_tm 6 _ (ck_nm (i := 160) rfl)) rfl
theorem ck_cd_220 : Cond.code (mm_nm 220) (mm_by 220) (mm_nl 220) (mm_rt 220) ∈ sd_gW := sd_gin (ck_tm 7 _ (ck_nm (i := 59) rfl)) rfl
theorem ck_cd_221 : Cond.code (mm_nm 221) (mm_by 221) (mm_nl 221) (mm_rt 221) ∈ sd_gW := sd_gin (ck_tm 7 _ (ck_nm (i := 55) rfl)) rfl
theorem ck_cd_222 : Cond.code (mm_nm 222) (mm_by 222) (mm_nl 222) (mm_rt 222) ∈ sd_gW := sd_gin (ck_tm 7 _ (ck_nm (i := 51) rfl)) rfl
theorem ck_cd_223 : Cond.code (mm_nm 223) (mm_by 223) (mm_nl 223) (mm_rt 223) ∈ sd_gW := sd_gin (ck_tm 7 _ (ck_nm (i := 47) rfl)) rfl
theorem ck_cd_224 : Cond.code (mm_nm 224) (mm_by 224) (mm_nl 224) (mm_rt 224) ∈ sd_gW := sd_gin (ck_tm 7 _ (ck_nm (i := 43) rfl)) rfl
theorem ck_cd_225 : Cond.code (mm_nm 225) (mm_by 225) (mm_nl 225) (mm_rt 225) ∈ sd_gW := sd_gin (ck_tm 7 _ (ck_nm (i := 79) rfl)) rfl
theorem ck_cd_226 : Cond.code (mm_nm 226) (mm_by 226) (mm_nl 226) (mm_rt 226) ∈ sd_gW := sd_gin (ck_tm 7 _ (ck_nm (i := 99) rfl)) rfl
theorem ck_cd_227 : Cond.code (mm_nm 227) (mm_by 227) (mm_nl 227) (mm_rt 227) ∈ sd_gW := sd_gin (ck_tm 7 _ (ck_nm (i := 91) rfl)) rfl
theorem ck_cd_228 : Cond.code (mm_nm 228) (mm_by 228) (mm_nl 228) (mm_rt 228) ∈ sd_gW := sd_gin (ck_tm 7 _ (ck_nm (i := 87) rfl)) rfl
theorem ck_cd_229 : Cond.code (mm_nm 229) (mm_by 229) (mm_nl 229) (mm_rt 229) ∈ sd_gW := sd_gin (ck_tm 7 _ (ck_nm (i := 71) rfl)) rfl
theorem ck_cd_230 : Cond.code (mm_nm 230) (mm_by 230) (mm_nl 230) (mm_rt 230) ∈ sd_gW := sd_gin (ck_tm 7 _ (ck_nm (i := 135) rfl)) rfl
theorem ck_cd_231 : Cond.code (mm_nm 231) (mm_by 231) (mm_nl 231) (mm_rt 231) ∈ sd_gW := sd_gin (ck_tm 7 _ (ck_nm (i := 143) rfl)) rfl
theorem ck_cd_232 : Cond.code (mm_nm 232) (mm_by 232) (mm_nl 232) (mm_rt 232) ∈ sd_gW := sd_gin (ck_tm 7 _ (ck_nm (i := 95) rfl)) rfl
theorem ck_cd_233 : Cond.code (mm_nm 233) (mm_by 233) (mm_nl 233) (mm_rt 233) ∈ sd_gW := sd_gin (ck_tm 7 _ (ck_nm (i := 151) rfl)) rfl
theorem ck_cd_234 : Cond.code (mm_nm 234) (mm_by 234) (mm_nl 234) (mm_rt 234) ∈ sd_gW := sd_gin (ck_tm 7 _ (ck_nm (i := 147) rfl)) rfl
theorem ck_cd_235 : Cond.code (mm_nm 235) (mm_by 235) (mm_nl 235) (mm_rt 235) ∈ sd_gW := sd_gin (ck_tm 7 _ (ck_nm (i := 139) rfl)) rfl
theorem ck_cd_236 : Cond.code (mm_nm 236) (mm_by 236) (mm_nl 236) (mm_rt 236) ∈ sd_gW := sd_gin (ck_tm 7 _ (ck_nm (i := 131) rfl)) rfl
theorem ck_cd_237 : Cond.code (mm_nm 237) (mm_by 237) (mm_nl 237) (mm_rt 237) ∈ sd_gW := sd_gin (ck_tm 7 _ (ck_nm (i := 182) rfl)) rfl
theorem ck_cd_238 : Cond.code (mm_nm 238) (mm_by 238) (mm_nl 238) (mm_rt 238) ∈ sd_gW := sd_gin (ck_tm 7 _ (ck_nm (i := 178) rfl)) rfl
theorem ck_cd_239 : Cond.code (mm_nm 239) (mm_by 239) (mm_nl 239) (mm_rt 239) ∈ sd_gW := sd_gin (ck_tm 7 _ (ck_nm (i := 127) rfl)) rfl
theorem ck_cd_240 : Cond.code (mm_nm 240) (mm_by 240) (mm_nl 240) (mm_rt 240) ∈ sd_gW := sd_gin (ck_tm 7 _ (ck_nm (i := 63) rfl)) rfl
theorem ck_cd_241 : Cond.code (mm_nm 241) (mm_by 241) (mm_nl 241) (mm_rt 241) ∈ sd_gW := sd_gin (ck_tm 7 _ (ck_nm (i := 67) rfl)) rfl
theorem ck_cd_242 : Cond.code (mm_nm 242) (mm_by 242) (mm_nl 242) (mm_rt 242) ∈ sd_gW := sd_gin (ck_tm 7 _ (ck_nm (i := 75) rfl)) rfl
theorem ck_cd_243 : Cond.code (mm_nm 243) (mm_by 243) (mm_nl 243) (mm_rt 243) ∈ sd_gW := sd_gin (ck_tm 7 _ (ck_nm (i := 83) rfl)) rfl
theorem ck_cd_244 : Cond.code (mm_nm 244) (mm_by 244) (mm_nl 244) (mm_rt 244) ∈ sd_gW := sd_gin (ck_tm 7 _ (ck_nm (i := 103) rfl)) rfl
theorem ck_cd_245 : Cond.code (mm_nm 245) (mm_by 245) (mm_nl 245) (mm_rt 245) ∈ sd_gW := sd_gin (ck_tm 7 _ (ck_nm (i := 107) rfl)) rfl
theorem ck_cd_246 : Cond.code (mm_nm 246) (mm_by 246) (mm_nl 246) (mm_rt 246) ∈ sd_gW := sd_gin (ck_tm 7 _ (ck_nm (i := 123) rfl)) rfl
theorem ck_cd_247 : Cond.code (mm_nm 247) (mm_by 247) (mm_nl 247) (mm_rt 247) ∈ sd_gW := sd_gin (ck_tm 7 _ (ck_nm (i := 119) rfl)) rfl
theorem ck_cd_248 : Cond.code (mm_nm 248) (mm_by 248) (mm_nl 248) (mm_rt 248) ∈ sd_gW := sd_gin (ck_tm 7 _ (ck_nm (i := 115) rfl)) rfl
theorem ck_cd_249 : Cond.code (mm_nm 249) (mm_by 249) (mm_nl 249) (mm_rt 249) ∈ sd_gW := sd_gin (ck_tm 7 _ (ck_nm (i := 111) rfl)) rfl
theorem ck_cd_250 : Cond.code (mm_nm 250) (mm_by 250) (mm_nl 250) (mm_rt 250) ∈ sd_gW := sd_gin (ck_tm 7 _ (ck_nm (i := 187) rfl)) rfl
theorem ck_cd_251 : Cond.code (mm_nm 251) (mm_by 251) (mm_nl 251) (mm_rt 251) ∈ sd_gW := sd_gin (ck_tm 7 _ (ck_nm (i := 191) rfl)) rfl
theorem ck_cd_252 : Cond.code (mm_nm 252) (mm_by 252) (mm_nl 252) (mm_rt 252) ∈ sd_gW := sd_gin (ck_tm 7 _ (ck_nm (i := 195) rfl)) rfl
theorem ck_cd_253 : Cond.code (mm_nm 253) (mm_by 253) (mm_nl 253) (mm_rt 253) ∈ sd_gW := sd_gin (ck_tm 7 _ (ck_nm (i := 203) rfl)) rfl
theorem ck_cd_254 : Cond.code (mm_nm 254) (mm_by 254) (mm_nl 254) (mm_rt 254) ∈ sd_gW := sd_gin (ck_tm 7 _ (ck_nm (i := 199) rfl)) rfl
theorem ck_cd_255 : Cond.code (mm_nm 255) (mm_by 255) (mm_nl 255) (mm_rt 255) ∈ sd_gW := sd_gin (ck_tm 7 _ (ck_nm (i := 207) rfl)) rfl
theorem ck_cd_256 : Cond.code (mm_nm 256) (mm_by 256) (mm_nl 256) (mm_rt 256) ∈ sd_gW := sd_gin (ck_tm 7 _ (ck_nm (i := 211) rfl)) rfl
theorem ck_cd_257 : Cond.code (mm_nm 257) (mm_by 257) (mm_nl 257) (mm_rt 257) ∈ sd_gW := sd_gin (ck_tm 7 _ (ck_nm (i := 216) rfl)) rfl
theorem ck_cd_258 : Cond.code (mm_nm 258) (mm_by 258) (mm_nl 258) (mm_rt 258) ∈ sd_gW := sd_gin (ck_tm 7 _ (ck_nm (i := 228) rfl)) rfl
theorem ck_cd_259 : Cond.code (mm_nm 259) (mm_by 259) (mm_nl 259) (mm_rt 259) ∈ sd_gW := sd_gin (ck_tm 7 _ (ck_nm (i := 224) rfl)) rfl
theorem ck_cd_260 : Cond.code (mm_nm 260) (mm_by 260) (mm_nl 260) (mm_rt 260) ∈ sd_gW := sd_gin (ck_tm 7 _ (ck_nm (i := 220) rfl)) rfl
theorem ck_cd_261 : Cond.code (mm_nm 261) (mm_by 261) (mm_nl 261) (mm_rt 261) ∈ sd_gW := sd_gin (ck_tm 7 _ (ck_nm (i := 234) rfl)) rfl
theorem ck_cd_262 : Cond.code (mm_nm 262) (mm_by 262) (mm_nl 262) (mm_rt 262) ∈ sd_gW := sd_gin (ck_tm 7 _ (ck_nm (i := 238) rfl)) rfl
theorem ck_cd_263 : Cond.code (mm_nm 263) (mm_by 263) (mm_nl 263) (mm_rt 263) ∈ sd_gW := sd_gin (ck_tm 8 _ (ck_nm (i := 2) rfl)) rfl
theorem ck_cd_264 : Cond.code (mm_nm 264) (mm_by 264) (mm_nl 264) (mm_rt 264) ∈ sd_gW := sd_gin (ck_tm 8 _ (ck_nm (i := 10) rfl)) rfl
theorem ck_cd_265 : Cond.code (mm_nm 265) (mm_by 265) (mm_nl 265) (mm_rt 265) ∈ sd_gW := sd_gin (ck_tm 8 _ (ck_nm (i := 14) rfl)) rfl
theorem ck_cd_266 : Cond.code (mm_nm 266) (mm_by 266) (mm_nl 266) (mm_rt 266) ∈ sd_gW := sd_gin (ck_tm 8 _ (ck_nm (i := 6) rfl)) rfl
theorem ck_cd_267 : Cond.code (mm_nm 267) (mm_by 267) (mm_nl 267) (mm_rt 267) ∈ sd_gW := sd_gin (ck_tm 8 _ (ck_nm (i := 22) rfl)) rfl
theorem ck_cd_268 : Cond.code (mm_nm 268) (mm_by 268) (mm_nl 268) (mm_rt 268) ∈ sd_gW := sd_gin (ck_tm 8 _ (ck_nm (i := 18) rfl)) rfl
theorem ck_cd_269 : Cond.code (mm_nm 269) (mm_by 269) (mm_nl 269) (mm_rt 269) ∈ sd_gW := sd_gin (ck_tm 8 _ (ck_nm (i := 26) rfl)) rfl
theorem ck_cd_270 : Cond.code (mm_nm 270) (mm_by 270) (mm_nl 270) (mm_rt 270) ∈ sd_gW := sd_gin (ck_tm 8 _ (ck_nm (i := 30) rfl)) rfl
theorem ck_cd_271 : Cond.code (mm_nm 271) (mm_by 271) (mm_nl 271) (mm_rt 271) ∈ sd_gW := sd_gin (ck_tm 8 _ (ck_nm (i := 42) rfl)) rfl
theorem ck_cd_272 : Cond.code (mm_nm 272) (mm_by 272) (mm_nl 272) (mm_rt 272) ∈ sd_gW := sd_gin (ck_tm 8 _ (ck_nm (i := 38) rfl)) rfl
theorem ck_cd_273 : Cond.code (mm_nm 273) (mm_by 273) (mm_nl 273) (mm_rt 273) ∈ sd_gW := sd_gin (ck_tm 8 _ (ck_nm (i := 46) rfl)) rfl
theorem ck_cd_274 : Cond.code (mm_nm 274) (mm_by 274) (mm_nl 274) (mm_rt 274) ∈ sd_gW := sd_gin (ck_tm 8 _ (ck_nm (i := 34) rfl)) rfl
theorem ck_cd_275 : Cond.code (mm_nm 275) (mm_by 275) (mm_nl 275) (mm_rt 275) ∈ sd_gW := sd_gin (ck_tm 8 _ (ck_nm (i := 50) rfl)) rfl
theorem ck_cd_276 : Cond.code (mm_nm 276) (mm_by 276) (mm_nl 276) (mm_rt 276) ∈ sd_gW := sd_gin (ck_tm 8 _ (ck_nm (i := 59) rfl)) rfl
theorem ck_cd_277 : Cond.code (mm_nm 277) (mm_by 277) (mm_nl 277) (mm_rt 277) ∈ sd_gW := sd_gin (ck_tm 8 _ (ck_nm (i := 55) rfl)) rfl
theorem ck_cd_278 : Cond.code (mm_nm 278) (mm_by 278) (mm_nl 278) (mm_rt 278) ∈ sd_gW := sd_gin (ck_tm 8 _ (ck_nm (i := 71) rfl)) rfl
theorem ck_cd_279 : Cond.code (mm_nm 279) (mm_by 279) (mm_nl 279) (mm_rt 279) ∈ sd_gW := sd_gin (ck_tm 8 _ (ck_nm (i := 67) rfl)) rfl
theorem ck_cd_280 : Cond.code (mm_nm 280) (mm_by 280) (mm_nl 280) (mm_rt 280) ∈ sd_gW := sd_gin (ck_tm 8 _ (ck_nm (i := 63) rfl)) rfl
theorem ck_cd_281 : Cond.code (mm_nm 281) (mm_by 281) (mm_nl 281) (mm_rt 281) ∈ sd_gW := sd_gin (ck_tm 8 _ (ck_nm (i := 80) rfl)) rfl
theorem ck_cd_282 : Cond.code (mm_nm 282) (mm_by 282) (mm_nl 282) (mm_rt 282) ∈ sd_gW := sd_gin (ck_tm 8 _ (ck_nm (i := 75) rfl)) rfl
theorem ck_cd_283 : Cond.code (mm_nm 283) (mm_by 283) (mm_nl 283) (mm_rt 283) ∈ sd_gW := sd_gin (ck_tm 8 _ (ck_nm (i := 96) rfl)) rfl
theorem ck_cd_284 : Cond.code (mm_nm 284) (mm_by 284) (mm_nl 284) (mm_rt 284) ∈ sd_gW := sd_gin (ck_tm 8 _ (ck_nm (i := 92) rfl)) rfl
theorem ck_cd_285 : Cond.code (mm_nm 285) (mm_by 285) (mm_nl 285) (mm_rt 285) ∈ sd_gW := sd_gin (ck_tm 8 _ (ck_nm (i := 88) rfl)) rfl
theorem ck_cd_286 : Cond.code (mm_nm 286) (mm_by 286) (mm_nl 286) (mm_rt 286) ∈ sd_gW := sd_gin (ck_tm 8 _ (ck_nm (i := 84) rfl)) rfl
theorem ck_cd_287 : Cond.code (mm_nm 287) (mm_by 287) (mm_nl 287) (mm_rt 287) ∈ sd_gW := sd_gin (ck_tm 8 _ (ck_nm (i := 104) rfl)) rfl
theorem ck_cd_288 : Cond.code (mm_nm 288) (mm_by 288) (mm_nl 288) (mm_rt 288) ∈ sd_gW := sd_gin (ck_tm 8 _ (ck_nm (i := 100) rfl)) rfl
theorem ck_cd_289 : Cond.code (mm_nm 289) (mm_by 289) (mm_nl 289) (mm_rt 289) ∈ sd_gW := sd_gin (ck_tm 8 _ (ck_nm (i := 112) rfl)) rfl
theorem ck_cd_290 : Cond.code (mm_nm 290) (mm_by 290) (mm_nl 290) (mm_rt 290) ∈ sd_gW := sd_gin (ck_tm 8 _ (ck_nm (i := 108) rfl)) rfl
theorem ck_cd_291 : Cond.code (mm_nm 291) (mm_by 291) (mm_nl 291) (mm_rt 291) ∈ sd_gW := sd_gin (ck_tm 8 _ (ck_nm (i := 121) rfl)) rfl
theorem ck_cd_292 : Cond.code (mm_nm 292) (mm_by 292) (mm_nl 292) (mm_rt 292) ∈ sd_gW := sd_gin (ck_tm 8 _ (ck_nm (i := 116) rfl)) rfl
theorem ck_cd_293 : Cond.code (mm_nm 293) (mm_by 293) (mm_nl 293) (mm_rt 293) ∈ sd_gW := sd_gin (ck_tm 8 _ (ck_nm (i := 126) rfl)) rfl
theorem ck_cd_294 : Cond.code (mm_nm 294) (mm_by 294) (mm_nl 294) (mm_rt 294) ∈ sd_gW := sd_gin (ck_tm 8 _ (ck_nm (i := 134) rfl)) rfl
theorem ck_cd_295 : Cond.code (mm_nm 295) (mm_by 295) (mm_nl 295) (mm_rt 295) ∈ sd_gW := sd_gin (ck_tm 8 _ (ck_nm (i := 142) rfl)) rfl
theorem ck_cd_296 : Cond.code (mm_nm 296) (mm_by 296) (mm_nl 296) (mm_rt 296) ∈ sd_gW := sd_gin (ck_tm 8 _ (ck_nm (i := 138) rfl)) rfl
theorem ck_cd_297 : Cond.code (mm_nm 297) (mm_by 297) (mm_nl 297) (mm_rt 297) ∈ sd_gW := sd_gin (ck_tm 8 _ (ck_nm (i := 146) rfl)) rfl
theorem ck_cd_298 : Cond.code (mm_nm 298) (mm_by 298) (mm_nl 298) (mm_rt 298) ∈ sd_gW := sd_gin (ck_tm 8 _ (ck_nm (i := 130) rfl)) rfl
theorem ck_cd_299 : Cond.code (mm_nm 299) (mm_by 299) (mm_nl 299) (mm_rt 299) ∈ sd_gW := sd_gin (ck_tm 8 _ (ck_nm (i := 150) rfl)) rfl
theorem ck_cd_300 : Cond.code (mm_nm 300) (mm_by 300) (mm_nl 300) (mm_rt 300) ∈ sd_gW := sd_gin (ck_tm 8 _ (ck_nm (i := 154) rfl)) rfl
theorem ck_cd_301 : Cond.code (mm_nm 301) (mm_by 301) (mm_nl 301) (mm_rt 301) ∈ sd_gW := sd_gin (ck_tm 8 _ (ck_nm (i := 158) rfl)) rfl
theorem ck_cd_302 : Cond.code (mm_nm 302) (mm_by 302) (mm_nl 302) (mm_rt 302) ∈ sd_gW := sd_gin (ck_tm 5 _ (ck_nm (i := 124) rfl)) rfl
theorem ck_cd_303 : Cond.code (mm_nm 303) (mm_by 303) (mm_nl 303) (mm_rt 303) ∈ sd_gW := sd_gin (ck_tm 4 _ (ck_nm (i := 204) rfl)) rfl
theorem ck_cd_304 : Cond.code (mm_nm 304) (mm_by 304) (mm_nl 304) (mm_rt 304) ∈ sd_gW := sd_gin (ck_tm 4 _ (ck_nm (i := 115) rfl)) rfl
theorem ck_cd_305 : Cond.code (mm_nm 305) (mm_by 305) (mm_nl 305) (mm_rt 305) ∈ sd_gW := sd_gin (ck_tm 3 _ (ck_nm (i := 221) rfl)) rfl
theorem ck_cd_306 : Cond.code (mm_nm 306) (mm_by 306) (mm_nl 306) (mm_rt 306) ∈ sd_gW := sd_gin (ck_tm 4 _ (ck_nm (i := 25) rfl)) rfl
theorem ck_cd_307 : Cond.code (mm_nm 307) (mm_by 307) (mm_nl 307) (mm_rt 307) ∈ sd_gW := sd_gin (ck_tm 4 _ (ck_nm (i := 193) rfl)) rfl
theorem ck_cd_308 : Cond.code (mm_nm 308) (mm_by 308) (mm_nl 308) (mm_rt 308) ∈ sd_gW := sd_gin (ck_tm 4 _ (ck_nm (i := 22) rfl)) rfl
theorem ck_cd_309 : Cond.code (mm_nm 309) (mm_by 309) (mm_nl 309) (mm_rt 309) ∈ sd_gW := sd_gin (ck_tm 7 _ (ck_nm (i := 171) rfl)) rfl
theorem ck_cd {y : Nat} (h : y < 310) : Cond.code (mm_nm y) (mm_by y) (mm_nl y) (mm_rt y) ∈ sd_gW := by
  rcases Nat.lt_or_ge y 155 with h155 | h155
  · rcases Nat.lt_or_ge y 77 with h77 | h77
    · rcases Nat.lt_or_ge y 38 with h38 | h38
      · rcases Nat.lt_or_ge y 19 with h19 | h19
        · rcases Nat.lt_or_ge y 9 with h9 | h9
          · rcases Nat.lt_or_ge y 4 with h4 | h4
            · rcases Nat.lt_or_ge y 2 with h2 | h2
              · rcases Nat.lt_or_ge y 1 with h1 | h1
                · rw [show y = 0 by omega]; exact ck_cd_0
                · rw [show y = 1 by omega]; exact ck_cd_1
              · rcases Nat.lt_or_ge y 3 with h3 | h3
                · rw [show y = 2 by omega]; exact ck_cd_2
                · rw [show y = 3 by omega]; exact ck_cd_3
            · rcases Nat.lt_or_ge y 6 with h6 | h6
              · rcases Nat.lt_or_ge y 5 with h5 | h5
                · rw [show y = 4 by omega]; exact ck_cd_4
                · rw [show y = 5 by omega]; exact ck_cd_5
              · rcases Nat.lt_or_ge y 7 with h7 | h7
                · rw [show y = 6 by omega]; exact ck_cd_6
                · rcases Nat.lt_or_ge y 8 with h8 | h8
                  · rw [show y = 7 by omega]; exact ck_cd_7
                  · rw [show y = 8 by omega]; exact ck_cd_8
          · rcases Nat.lt_or_ge y 14 with h14 | h14
            · rcases Nat.lt_or_ge y 11 with h11 | h11
              · rcases Nat.lt_or_ge y 10 with h10 | h10
                · rw [show y = 9 by omega]; exact ck_cd_9
                · rw [show y = 10 by omega]; exact ck_cd_10
              · rcases Nat.lt_or_ge y 12 with h12 | h12
                · rw [show y = 11 by omega]; exact ck_cd_11
                · rcases Nat.lt_or_ge y 13 with h13 | h13
                  · rw [show y = 12 by omega]; exact ck_cd_12
                  · rw [show y = 13 by omega]; exact ck_cd_13
            · rcases Nat.lt_or_ge y 16 with h16 | h16
              · rcases Nat.lt_or_ge y 15 with h15 | h15
                · rw [show y = 14 by omega]; exact ck_cd_14
                · rw [show y = 15 by omega]; exact ck_cd_15
              · rcases Nat.lt_or_ge y 17 with h17 | h17
                · rw [show y = 16 by omega]; exact ck_cd_16
                · rcases Nat.lt_or_ge y 18 with h18 | h18
                  · rw [show y = 17 by omega]; exact ck_cd_17
                  · rw [show y = 18 by omega]; exact ck_cd_18
        · rcases Nat.lt_or_ge y 28 with h28 | h28
          · rcases Nat.lt_or_ge y 23 with h23 | h23
            · rcases Nat.lt_or_ge y 21 with h21 | h21
              · rcases Nat.lt_or_ge y 20 with h20 | h20
                · rw [show y = 19 by omega]; exact ck_cd_19
                · rw [show y = 20 by omega]; exact ck_cd_20
              · rcases Nat.lt_or_ge y 22 with h22 | h22
                · rw [show y = 21 by omega]; exact ck_cd_21
                · rw [show y = 22 by omega]; exact ck_cd_22
            · rcases Nat.lt_or_ge y 25 with h25 | h25
              · rcases Nat.lt_or_ge y 24 with h24 | h24
                · rw [show y = 23 by omega]; exact ck_cd_23
                · rw [show y = 24 by omega]; exact ck_cd_24
              · rcases Nat.lt_or_ge y 26 with h26 | h26
                · rw [show y = 25 by omega]; exact ck_cd_25
                · rcases Nat.lt_or_ge y 27 with h27 | h27
                  · rw [show y = 26 by omega]; exact ck_cd_26
                  · rw [show y = 27 by omega]; exact ck_cd_27
          · rcases Nat.lt_or_ge y 33 with h33 | h33
            · rcases Nat.lt_or_ge y 30 with h30 | h30
              · rcases Nat.lt_or_ge y 29 with h29 | h29
                · rw [show y = 28 by omega]; exact ck_cd_28
                · rw [show y = 29 by omega]; exact ck_cd_29
              · rcases Nat.lt_or_ge y 31 with h31 | h31
                · rw [show y = 30 by omega]; exact ck_cd_30
                · rcases Nat.lt_or_ge y 32 with h32 | h32
                  · rw [show y = 31 by omega]; exact ck_cd_31
                  · rw [show y = 32 by omega]; exact ck_cd_32
            · rcases Nat.lt_or_ge y 35 with h35 | h35
              · rcases Nat.lt_or_ge y 34 with h34 | h34
                · rw [show y = 33 by omega]; exact ck_cd_33
                · rw [show y = 34 by omega]; exact ck_cd_34
              · rcases Nat.lt_or_ge y 36 with h36 | h36
                · rw [show y = 35 by omega]; exact ck_cd_35
                · rcases Nat.lt_or_ge y 37 with h37 | h37
                  · rw [show y = 36 by omega]; exact ck_cd_36
                  · rw [show y = 37 by omega]; exact ck_cd_37
      · rcases Nat.lt_or_ge y 57 with h57 | h57
        · rcases Nat.lt_or_ge y 47 with h47 | h47
          · rcases Nat.lt_or_ge y 42 with h42 | h42
            · rcases Nat.lt_or_ge y 40 with h40 | h40
              · rcases Nat.lt_or_ge y 39 with h39 | h39
                · rw [show y = 38 by omega]; exact ck_cd_38
                · rw [show y = 39 by omega]; exact ck_cd_39
              · rcases Nat.lt_or_ge y 41 with h41 | h41
                · rw [show y = 40 by omega]; exact ck_cd_40
                · rw [show y = 41 by omega]; exact ck_cd_41
            · rcases Nat.lt_or_ge y 44 with h44 | h44
              · rcases Nat.lt_or_ge y 43 with h43 | h43
                · rw [show y = 42 by omega]; exact ck_cd_42
                · rw [show y = 43 by omega]; exact ck_cd_43
              · rcases Nat.lt_or_ge y 45 with h45 | h45
                · rw [show y = 44 by omega]; exact ck_cd_44
                · rcases Nat.lt_or_ge y 46 with h46 | h46
                  · rw [show y = 45 by omega]; exact ck_cd_45
                  · rw [show y = 46 by omega]; exact ck_cd_46
          · rcases Nat.lt_or_ge y 52 with h52 | h52
            · rcases Nat.lt_or_ge y 49 with h49 | h49
              · rcases Nat.lt_or_ge y 48 with h48 | h48
                · rw [show y = 47 by omega]; exact ck_cd_47
                · rw [show y = 48 by omega]; exact ck_cd_48
              · rcases Nat.lt_or_ge y 50 with h50 | h50
                · rw [show y = 49 by omega]; exact ck_cd_49
                · rcases Nat.lt_or_ge y 51 with h51 | h51
                  · rw [show y = 50 by omega]; exact ck_cd_50
                  · rw [show y = 51 by omega]; exact ck_cd_51
            · rcases Nat.lt_or_ge y 54 with h54 | h54
              · rcases Nat.lt_or_ge y 53 with h53 | h53
                · rw [show y = 52 by omega]; exact ck_cd_52
                · rw [show y = 53 by omega]; exact ck_cd_53
              · rcases Nat.lt_or_ge y 55 with h55 | h55
                · rw [show y = 54 by omega]; exact ck_cd_54
                · rcases Nat.lt_or_ge y 56 with h56 | h56
                  · rw [show y = 55 by omega]; exact ck_cd_55
                  · rw [show y = 56 by omega]; exact ck_cd_56
        · rcases Nat.lt_or_ge y 67 with h67 | h67
          · rcases Nat.lt_or_ge y 62 with h62 | h62
            · rcases Nat.lt_or_ge y 59 with h59 | h59
              · rcases Nat.lt_or_ge y 58 with h58 | h58
                · rw [show y = 57 by omega]; exact ck_cd_57
                · rw [show y = 58 by omega]; exact ck_cd_58
              · rcases Nat.lt_or_ge y 60 with h60 | h60
                · rw [show y = 59 by omega]; exact ck_cd_59
                · rcases Nat.lt_or_ge y 61 with h61 | h61
                  · rw [show y = 60 by omega]; exact ck_cd_60
                  · rw [show y = 61 by omega]; exact ck_cd_61
            · rcases Nat.lt_or_ge y 64 with h64 | h64
              · rcases Nat.lt_or_ge y 63 with h63 | h63
                · rw [show y = 62 by omega]; exact ck_cd_62
                · rw [show y = 63 by omega]; exact ck_cd_63
              · rcases Nat.lt_or_ge y 65 with h65 | h65
                · rw [show y = 64 by omega]; exact ck_cd_64
                · rcases Nat.lt_or_ge y 66 with h66 | h66
                  · rw [show y = 65 by omega]; exact ck_cd_65
                  · rw [show y = 66 by omega]; exact ck_cd_66
          · rcases Nat.lt_or_ge y 72 with h72 | h72
            · rcases Nat.lt_or_ge y 69 with h69 | h69
              · rcases Nat.lt_or_ge y 68 with h68 | h68
                · rw [show y = 67 by omega]; exact ck_cd_67
                · rw [show y = 68 by omega]; exact ck_cd_68
              · rcases Nat.lt_or_ge y 70 with h70 | h70
                · rw [show y = 69 by omega]; exact ck_cd_69
                · rcases Nat.lt_or_ge y 71 with h71 | h71
                  · rw [show y = 70 by omega]; exact ck_cd_70
                  · rw [show y = 71 by omega]; exact ck_cd_71
            · rcases Nat.lt_or_ge y 74 with h74 | h74
              · rcases Nat.lt_or_ge y 73 with h73 | h73
                · rw [show y = 72 by omega]; exact ck_cd_72
                · rw [show y = 73 by omega]; exact ck_cd_73
              · rcases Nat.lt_or_ge y 75 with h75 | h75
                · rw [show y = 74 by omega]; exact ck_cd_74
                · rcases Nat.lt_or_ge y 76 with h76 | h76
                  · rw [show y = 75 by omega]; exact ck_cd_75
                  · rw [show y = 76 by omega]; exact ck_cd_76
    · rcases Nat.lt_or_ge y 116 with h116 | h116
      · rcases Nat.lt_or_ge y 96 with h96 | h96
        · rcases Nat.lt_or_ge y 86 with h86 | h86
          · rcases Nat.lt_or_ge y 81 with h81 | h81
            · rcases Nat.lt_or_ge y 79 with h79 | h79
              · rcases Nat.lt_or_ge y 78 with h78 | h78
                · rw [show y = 77 by omega]; exact ck_cd_77
                · rw [show y = 78 by omega]; exact ck_cd_78
              · rcases Nat.lt_or_ge y 80 with h80 | h80
                · rw [show y = 79 by omega]; exact ck_cd_79
                · rw [show y = 80 by omega]; exact ck_cd_80
            · rcases Nat.lt_or_ge y 83 with h83 | h83
              · rcases Nat.lt_or_ge y 82 with h82 | h82
                · rw [show y = 81 by omega]; exact ck_cd_81
                · rw [show y = 82 by omega]; exact ck_cd_82
              · rcases Nat.lt_or_ge y 84 with h84 | h84
                · rw [show y = 83 by omega]; exact ck_cd_83
                · rcases Nat.lt_or_ge y 85 with h85 | h85
                  · rw [show y = 84 by omega]; exact ck_cd_84
                  · rw [show y = 85 by omega]; exact ck_cd_85
          · rcases Nat.lt_or_ge y 91 with h91 | h91
            · rcases Nat.lt_or_ge y 88 with h88 | h88
              · rcases Nat.lt_or_ge y 87 with h87 | h87
                · rw [show y = 86 by omega]; exact ck_cd_86
                · rw [show y = 87 by omega]; exact ck_cd_87
              · rcases Nat.lt_or_ge y 89 with h89 | h89
                · rw [show y = 88 by omega]; exact ck_cd_88
                · rcases Nat.lt_or_ge y 90 with h90 | h90
                  · rw [show y = 89 by omega]; exact ck_cd_89
                  · rw [show y = 90 by omega]; exact ck_cd_90
            · rcases Nat.lt_or_ge y 93 with h93 | h93
              · rcases Nat.lt_or_ge y 92 with h92 | h92
                · rw [show y = 91 by omega]; exact ck_cd_91
                · rw [show y = 92 by omega]; exact ck_cd_92
              · rcases Nat.lt_or_ge y 94 with h94 | h94
                · rw [show y = 93 by omega]; exact ck_cd_93
                · rcases Nat.lt_or_ge y 95 with h95 | h95
                  · rw [show y = 94 by omega]; exact ck_cd_94
                  · rw [show y = 95 by omega]; exact ck_cd_95
        · rcases Nat.lt_or_ge y 106 with h106 | h106
          · rcases Nat.lt_or_ge y 101 with h101 | h101
            · rcases Nat.lt_or_ge y 98 with h98 | h98
              · rcases Nat.lt_or_ge y 97 with h97 | h97
                · rw [show y = 96 by omega]; exact ck_cd_96
                · rw [show y = 97 by omega]; exact ck_cd_97
              · rcases Nat.lt_or_ge y 99 with h99 | h99
                · rw [show y = 98 by omega]; exact ck_cd_98
                · rcases Nat.lt_or_ge y 100 with h100 | h100
                  · rw [show y = 99 by omega]; exact ck_cd_99
                  · rw [show y = 100 by omega]; exact ck_cd_100
            · rcases Nat.lt_or_ge y 103 with h103 | h103
              · rcases Nat.lt_or_ge y 102 with h102 | h102
                · rw [show y = 101 by omega]; exact ck_cd_101
                · rw [show y = 102 by omega]; exact ck_cd_102
              · rcases Nat.lt_or_ge y 104 with h104 | h104
                · rw [show y = 103 by omega]; exact ck_cd_103
                · rcases Nat.lt_or_ge y 105 with h105 | h105
                  · rw [show y = 104 by omega]; exact ck_cd_104
                  · rw [show y = 105 by omega]; exact ck_cd_105
          · rcases Nat.lt_or_ge y 111 with h111 | h111
            · rcases Nat.lt_or_ge y 108 with h108 | h108
              · rcases Nat.lt_or_ge y 107 with h107 | h107
                · rw [show y = 106 by omega]; exact ck_cd_106
                · rw [show y = 107 by omega]; exact ck_cd_107
              · rcases Nat.lt_or_ge y 109 with h109 | h109
                · rw [show y = 108 by omega]; exact ck_cd_108
                · rcases Nat.lt_or_ge y 110 with h110 | h110
                  · rw [show y = 109 by omega]; exact ck_cd_109
                  · rw [show y = 110 by omega]; exact ck_cd_110
            · rcases Nat.lt_or_ge y 113 with h113 | h113
              · rcases Nat.lt_or_ge y 112 with h112 | h112
                · rw [show y = 111 by omega]; exact ck_cd_111
                · rw [show y = 112 by omega]; exact ck_cd_112
              · rcases Nat.lt_or_ge y 114 with h114 | h114
                · rw [show y = 113 by omega]; exact ck_cd_113
                · rcases Nat.lt_or_ge y 115 with h115 | h115
                  · rw [show y = 114 by omega]; exact ck_cd_114
                  · rw [show y = 115 by omega]; exact ck_cd_115
      · rcases Nat.lt_or_ge y 135 with h135 | h135
        · rcases Nat.lt_or_ge y 125 with h125 | h125
          · rcases Nat.lt_or_ge y 120 with h120 | h120
            · rcases Nat.lt_or_ge y 118 with h118 | h118
              · rcases Nat.lt_or_ge y 117 with h117 | h117
                · rw [show y = 116 by omega]; exact ck_cd_116
                · rw [show y = 117 by omega]; exact ck_cd_117
              · rcases Nat.lt_or_ge y 119 with h119 | h119
                · rw [show y = 118 by omega]; exact ck_cd_118
                · rw [show y = 119 by omega]; exact ck_cd_119
            · rcases Nat.lt_or_ge y 122 with h122 | h122
              · rcases Nat.lt_or_ge y 121 with h121 | h121
                · rw [show y = 120 by omega]; exact ck_cd_120
                · rw [show y = 121 by omega]; exact ck_cd_121
              · rcases Nat.lt_or_ge y 123 with h123 | h123
                · rw [show y = 122 by omega]; exact ck_cd_122
                · rcases Nat.lt_or_ge y 124 with h124 | h124
                  · rw [show y = 123 by omega]; exact ck_cd_123
                  · rw [show y = 124 by omega]; exact ck_cd_124
          · rcases Nat.lt_or_ge y 130 with h130 | h130
            · rcases Nat.lt_or_ge y 127 with h127 | h127
              · rcases Nat.lt_or_ge y 126 with h126 | h126
                · rw [show y = 125 by omega]; exact ck_cd_125
                · rw [show y = 126 by omega]; exact ck_cd_126
              · rcases Nat.lt_or_ge y 128 with h128 | h128
                · rw [show y = 127 by omega]; exact ck_cd_127
                · rcases Nat.lt_or_ge y 129 with h129 | h129
                  · rw [show y = 128 by omega]; exact ck_cd_128
                  · rw [show y = 129 by omega]; exact ck_cd_129
            · rcases Nat.lt_or_ge y 132 with h132 | h132
              · rcases Nat.lt_or_ge y 131 with h131 | h131
                · rw [show y = 130 by omega]; exact ck_cd_130
                · rw [show y = 131 by omega]; exact ck_cd_131
              · rcases Nat.lt_or_ge y 133 with h133 | h133
                · rw [show y = 132 by omega]; exact ck_cd_132
                · rcases Nat.lt_or_ge y 134 with h134 | h134
                  · rw [show y = 133 by omega]; exact ck_cd_133
                  · rw [show y = 134 by omega]; exact ck_cd_134
        · rcases Nat.lt_or_ge y 145 with h145 | h145
          · rcases Nat.lt_or_ge y 140 with h140 | h140
            · rcases Nat.lt_or_ge y 137 with h137 | h137
              · rcases Nat.lt_or_ge y 136 with h136 | h136
                · rw [show y = 135 by omega]; exact ck_cd_135
                · rw [show y = 136 by omega]; exact ck_cd_136
              · rcases Nat.lt_or_ge y 138 with h138 | h138
                · rw [show y = 137 by omega]; exact ck_cd_137
                · rcases Nat.lt_or_ge y 139 with h139 | h139
                  · rw [show y = 138 by omega]; exact ck_cd_138
                  · rw [show y = 139 by omega]; exact ck_cd_139
            · rcases Nat.lt_or_ge y 142 with h142 | h142
              · rcases Nat.lt_or_ge y 141 with h141 | h141
                · rw [show y = 140 by omega]; exact ck_cd_140
                · rw [show y = 141 by omega]; exact ck_cd_141
              · rcases Nat.lt_or_ge y 143 with h143 | h143
                · rw [show y = 142 by omega]; exact ck_cd_142
                · rcases Nat.lt_or_ge y 144 with h144 | h144
                  · rw [show y = 143 by omega]; exact ck_cd_143
                  · rw [show y = 144 by omega]; exact ck_cd_144
          · rcases Nat.lt_or_ge y 150 with h150 | h150
            · rcases Nat.lt_or_ge y 147 with h147 | h147
              · rcases Nat.lt_or_ge y 146 with h146 | h146
                · rw [show y = 145 by omega]; exact ck_cd_145
                · rw [show y = 146 by omega]; exact ck_cd_146
              · rcases Nat.lt_or_ge y 148 with h148 | h148
                · rw [show y = 147 by omega]; exact ck_cd_147
                · rcases Nat.lt_or_ge y 149 with h149 | h149
                  · rw [show y = 148 by omega]; exact ck_cd_148
                  · rw [show y = 149 by omega]; exact ck_cd_149
            · rcases Nat.lt_or_ge y 152 with h152 | h152
              · rcases Nat.lt_or_ge y 151 with h151 | h151
                · rw [show y = 150 by omega]; exact ck_cd_150
                · rw [show y = 151 by omega]; exact ck_cd_151
              · rcases Nat.lt_or_ge y 153 with h153 | h153
                · rw [show y = 152 by omega]; exact ck_cd_152
                · rcases Nat.lt_or_ge y 154 with h154 | h154
                  · rw [show y = 153 by omega]; exact ck_cd_153
                  · rw [show y = 154 by omega]; exact ck_cd_154
  · rcases Nat.lt_or_ge y 232 with h232 | h232
    · rcases Nat.lt_or_ge y 193 with h193 | h193
      · rcases Nat.lt_or_ge y 174 with h174 | h174
        · rcases Nat.lt_or_ge y 164 with h164 | h164
          · rcases Nat.lt_or_ge y 159 with h159 | h159
            · rcases Nat.lt_or_ge y 157 with h157 | h157
              · rcases Nat.lt_or_ge y 156 with h156 | h156
                · rw [show y = 155 by omega]; exact ck_cd_155
                · rw [show y = 156 by omega]; exact ck_cd_156
              · rcases Nat.lt_or_ge y 158 with h158 | h158
                · rw [show y = 157 by omega]; exact ck_cd_157
                · rw [show y = 158 by omega]; exact ck_cd_158
            · rcases Nat.lt_or_ge y 161 with h161 | h161
              · rcases Nat.lt_or_ge y 160 with h160 | h160
                · rw [show y = 159 by omega]; exact ck_cd_159
                · rw [show y = 160 by omega]; exact ck_cd_160
              · rcases Nat.lt_or_ge y 162 with h162 | h162
                · rw [show y = 161 by omega]; exact ck_cd_161
                · rcases Nat.lt_or_ge y 163 with h163 | h163
                  · rw [show y = 162 by omega]; exact ck_cd_162
                  · rw [show y = 163 by omega]; exact ck_cd_163
          · rcases Nat.lt_or_ge y 169 with h169 | h169
            · rcases Nat.lt_or_ge y 166 with h166 | h166
              · rcases Nat.lt_or_ge y 165 with h165 | h165
                · rw [show y = 164 by omega]; exact ck_cd_164
                · rw [show y = 165 by omega]; exact ck_cd_165
              · rcases Nat.lt_or_ge y 167 with h167 | h167
                · rw [show y = 166 by omega]; exact ck_cd_166
                · rcases Nat.lt_or_ge y 168 with h168 | h168
                  · rw [show y = 167 by omega]; exact ck_cd_167
                  · rw [show y = 168 by omega]; exact ck_cd_168
            · rcases Nat.lt_or_ge y 171 with h171 | h171
              · rcases Nat.lt_or_ge y 170 with h170 | h170
                · rw [show y = 169 by omega]; exact ck_cd_169
                · rw [show y = 170 by omega]; exact ck_cd_170
              · rcases Nat.lt_or_ge y 172 with h172 | h172
                · rw [show y = 171 by omega]; exact ck_cd_171
                · rcases Nat.lt_or_ge y 173 with h173 | h173
                  · rw [show y = 172 by omega]; exact ck_cd_172
                  · rw [show y = 173 by omega]; exact ck_cd_173
        · rcases Nat.lt_or_ge y 183 with h183 | h183
          · rcases Nat.lt_or_ge y 178 with h178 | h178
            · rcases Nat.lt_or_ge y 176 with h176 | h176
              · rcases Nat.lt_or_ge y 175 with h175 | h175
                · rw [show y = 174 by omega]; exact ck_cd_174
                · rw [show y = 175 by omega]; exact ck_cd_175
              · rcases Nat.lt_or_ge y 177 with h177 | h177
                · rw [show y = 176 by omega]; exact ck_cd_176
                · rw [show y = 177 by omega]; exact ck_cd_177
            · rcases Nat.lt_or_ge y 180 with h180 | h180
              · rcases Nat.lt_or_ge y 179 with h179 | h179
                · rw [show y = 178 by omega]; exact ck_cd_178
                · rw [show y = 179 by omega]; exact ck_cd_179
              · rcases Nat.lt_or_ge y 181 with h181 | h181
                · rw [show y = 180 by omega]; exact ck_cd_180
                · rcases Nat.lt_or_ge y 182 with h182 | h182
                  · rw [show y = 181 by omega]; exact ck_cd_181
                  · rw [show y = 182 by omega]; exact ck_cd_182
          · rcases Nat.lt_or_ge y 188 with h188 | h188
            · rcases Nat.lt_or_ge y 185 with h185 | h185
              · rcases Nat.lt_or_ge y 184 with h184 | h184
                · rw [show y = 183 by omega]; exact ck_cd_183
                · rw [show y = 184 by omega]; exact ck_cd_184
              · rcases Nat.lt_or_ge y 186 with h186 | h186
                · rw [show y = 185 by omega]; exact ck_cd_185
                · rcases Nat.lt_or_ge y 187 with h187 | h187
                  · rw [show y = 186 by omega]; exact ck_cd_186
                  · rw [show y = 187 by omega]; exact ck_cd_187
            · rcases Nat.lt_or_ge y 190 with h190 | h190
              · rcases Nat.lt_or_ge y 189 with h189 | h189
                · rw [show y = 188 by omega]; exact ck_cd_188
                · rw [show y = 189 by omega]; exact ck_cd_189
              · rcases Nat.lt_or_ge y 191 with h191 | h191
                · rw [show y = 190 by omega]; exact ck_cd_190
                · rcases Nat.lt_or_ge y 192 with h192 | h192
                  · rw [show y = 191 by omega]; exact ck_cd_191
                  · rw [show y = 192 by omega]; exact ck_cd_192
      · rcases Nat.lt_or_ge y 212 with h212 | h212
        · rcases Nat.lt_or_ge y 202 with h202 | h202
          · rcases Nat.lt_or_ge y 197 with h197 | h197
            · rcases Nat.lt_or_ge y 195 with h195 | h195
              · rcases Nat.lt_or_ge y 194 with h194 | h194
                · rw [show y = 193 by omega]; exact ck_cd_193
                · rw [show y = 194 by omega]; exact ck_cd_194
              · rcases Nat.lt_or_ge y 196 with h196 | h196
                · rw [show y = 195 by omega]; exact ck_cd_195
                · rw [show y = 196 by omega]; exact ck_cd_196
            · rcases Nat.lt_or_ge y 199 with h199 | h199
              · rcases Nat.lt_or_ge y 198 with h198 | h198
                · rw [show y = 197 by omega]; exact ck_cd_197
                · rw [show y = 198 by omega]; exact ck_cd_198
              · rcases Nat.lt_or_ge y 200 with h200 | h200
                · rw [show y = 199 by omega]; exact ck_cd_199
                · rcases Nat.lt_or_ge y 201 with h201 | h201
                  · rw [show y = 200 by omega]; exact ck_cd_200
                  · rw [show y = 201 by omega]; exact ck_cd_201
          · rcases Nat.lt_or_ge y 207 with h207 | h207
            · rcases Nat.lt_or_ge y 204 with h204 | h204
              · rcases Nat.lt_or_ge y 203 with h203 | h203
                · rw [show y = 202 by omega]; exact ck_cd_202
                · rw [show y = 203 by omega]; exact ck_cd_203
              · rcases Nat.lt_or_ge y 205 with h205 | h205
                · rw [show y = 204 by omega]; exact ck_cd_204
                · rcases Nat.lt_or_ge y 206 with h206 | h206
                  · rw [show y = 205 by omega]; exact ck_cd_205
                  · rw [show y = 206 by omega]; exact ck_cd_206
            · rcases Nat.lt_or_ge y 209 with h209 | h209
              · rcases Nat.lt_or_ge y 208 with h208 | h208
                · rw [show y = 207 by omega]; exact ck_cd_207
                · rw [show y = 208 by omega]; exact ck_cd_208
              · rcases Nat.lt_or_ge y 210 with h210 | h210
                · rw [show y = 209 by omega]; exact ck_cd_209
                · rcases Nat.lt_or_ge y 211 with h211 | h211
                  · rw [show y = 210 by omega]; exact ck_cd_210
                  · rw [show y = 211 by omega]; exact ck_cd_211
        · rcases Nat.lt_or_ge y 222 with h222 | h222
          · rcases Nat.lt_or_ge y 217 with h217 | h217
            · rcases Nat.lt_or_ge y 214 with h214 | h214
              · rcases Nat.lt_or_ge y 213 with h213 | h213
                · rw [show y = 212 by omega]; exact ck_cd_212
                · rw [show y = 213 by omega]; exact ck_cd_213
              · rcases Nat.lt_or_ge y 215 with h215 | h215
                · rw [show y = 214 by omega]; exact ck_cd_214
                · rcases Nat.lt_or_ge y 216 with h216 | h216
                  · rw [show y = 215 by omega]; exact ck_cd_215
                  · rw [show y = 216 by omega]; exact ck_cd_216
            · rcases Nat.lt_or_ge y 219 with h219 | h219
              · rcases Nat.lt_or_ge y 218 with h218 | h218
                · rw [show y = 217 by omega]; exact ck_cd_217
                · rw [show y = 218 by omega]; exact ck_cd_218
              · rcases Nat.lt_or_ge y 220 with h220 | h220
                · rw [show y = 219 by omega]; exact ck_cd_219
                · rcases Nat.lt_or_ge y 221 with h221 | h221
                  · rw [show y = 220 by omega]; exact ck_cd_220
                  · rw [show y = 221 by omega]; exact ck_cd_221
          · rcases Nat.lt_or_ge y 227 with h227 | h227
            · rcases Nat.lt_or_ge y 224 with h224 | h224
              · rcases Nat.lt_or_ge y 223 with h223 | h223
                · rw [show y = 222 by omega]; exact ck_cd_222
                · rw [show y = 223 by omega]; exact ck_cd_223
              · rcases Nat.lt_or_ge y 225 with h225 | h225
                · rw [show y = 224 by omega]; exact ck_cd_224
                · rcases Nat.lt_or_ge y 226 with h226 | h226
                  · rw [show y = 225 by omega]; exact ck_cd_225
                  · rw [show y = 226 by omega]; exact ck_cd_226
            · rcases Nat.lt_or_ge y 229 with h229 | h229
              · rcases Nat.lt_or_ge y 228 with h228 | h228
                · rw [show y = 227 by omega]; exact ck_cd_227
                · rw [show y = 228 by omega]; exact ck_cd_228
              · rcases Nat.lt_or_ge y 230 with h230 | h230
                · rw [show y = 229 by omega]; exact ck_cd_229
                · rcases Nat.lt_or_ge y 231 with h231 | h231
                  · rw [show y = 230 by omega]; exact ck_cd_230
                  · rw [show y = 231 by omega]; exact ck_cd_231
    · rcases Nat.lt_or_ge y 271 with h271 | h271
      · rcases Nat.lt_or_ge y 251 with h251 | h251
        · rcases Nat.lt_or_ge y 241 with h241 | h241
          · rcases Nat.lt_or_ge y 236 with h236 | h236
            · rcases Nat.lt_or_ge y 234 with h234 | h234
              · rcases Nat.lt_or_ge y 233 with h233 | h233
                · rw [show y = 232 by omega]; exact ck_cd_232
                · rw [show y = 233 by omega]; exact ck_cd_233
              · rcases Nat.lt_or_ge y 235 with h235 | h235
                · rw [show y = 234 by omega]; exact ck_cd_234
                · rw [show y = 235 by omega]; exact ck_cd_235
            · rcases Nat.lt_or_ge y 238 with h238 | h238
              · rcases Nat.lt_or_ge y 237 with h237 | h237
                · rw [show y = 236 by omega]; exact ck_cd_236
                · rw [show y = 237 by omega]; exact ck_cd_237
              · rcases Nat.lt_or_ge y 239 with h239 | h239
                · rw [show y = 238 by omega]; exact ck_cd_238
                · rcases Nat.lt_or_ge y 240 with h240 | h240
                  · rw [show y = 239 by omega]; exact ck_cd_239
                  · rw [show y = 240 by omega]; exact ck_cd_240
          · rcases Nat.lt_or_ge y 246 with h246 | h246
            · rcases Nat.lt_or_ge y 243 with h243 | h243
              · rcases Nat.lt_or_ge y 242 with h242 | h242
                · rw [show y = 241 by omega]; exact ck_cd_241
                · rw [show y = 242 by omega]; exact ck_cd_242
              · rcases Nat.lt_or_ge y 244 with h244 | h244
                · rw [show y = 243 by omega]; exact ck_cd_243
                · rcases Nat.lt_or_ge y 245 with h245 | h245
                  · rw [show y = 244 by omega]; exact ck_cd_244
                  · rw [show y = 245 by omega]; exact ck_cd_245
            · rcases Nat.lt_or_ge y 248 with h248 | h248
              · rcases Nat.lt_or_ge y 247 with h247 | h247
                · rw [show y = 246 by omega]; exact ck_cd_246
                · rw [show y = 247 by omega]; exact ck_cd_247
              · rcases Nat.lt_or_ge y 249 with h249 | h249
                · rw [show y = 248 by omega]; exact ck_cd_248
                · rcases Nat.lt_or_ge y 250 with h250 | h250
                  · rw [show y = 249 by omega]; exact ck_cd_249
                  · rw [show y = 250 by omega]; exact ck_cd_250
        · rcases Nat.lt_or_ge y 261 with h261 | h261
          · rcases Nat.lt_or_ge y 256 with h256 | h256
            · rcases Nat.lt_or_ge y 253 with h253 | h253
              · rcases Nat.lt_or_ge y 252 with h252 | h252
                · rw [show y = 251 by omega]; exact ck_cd_251
                · rw [show y = 252 by omega]; exact ck_cd_252
              · rcases Nat.lt_or_ge y 254 with h254 | h254
                · rw [show y = 253 by omega]; exact ck_cd_253
                · rcases Nat.lt_or_ge y 255 with h255 | h255
                  · rw [show y = 254 by omega]; exact ck_cd_254
                  · rw [show y = 255 by omega]; exact ck_cd_255
            · rcases Nat.lt_or_ge y 258 with h258 | h258
              · rcases Nat.lt_or_ge y 257 with h257 | h257
                · rw [show y = 256 by omega]; exact ck_cd_256
                · rw [show y = 257 by omega]; exact ck_cd_257
              · rcases Nat.lt_or_ge y 259 with h259 | h259
                · rw [show y = 258 by omega]; exact ck_cd_258
                · rcases Nat.lt_or_ge y 260 with h260 | h260
                  · rw [show y = 259 by omega]; exact ck_cd_259
                  · rw [show y = 260 by omega]; exact ck_cd_260
          · rcases Nat.lt_or_ge y 266 with h266 | h266
            · rcases Nat.lt_or_ge y 263 with h263 | h263
              · rcases Nat.lt_or_ge y 262 with h262 | h262
                · rw [show y = 261 by omega]; exact ck_cd_261
                · rw [show y = 262 by omega]; exact ck_cd_262
              · rcases Nat.lt_or_ge y 264 with h264 | h264
                · rw [show y = 263 by omega]; exact ck_cd_263
                · rcases Nat.lt_or_ge y 265 with h265 | h265
                  · rw [show y = 264 by omega]; exact ck_cd_264
                  · rw [show y = 265 by omega]; exact ck_cd_265
            · rcases Nat.lt_or_ge y 268 with h268 | h268
              · rcases Nat.lt_or_ge y 267 with h267 | h267
                · rw [show y = 266 by omega]; exact ck_cd_266
                · rw [show y = 267 by omega]; exact ck_cd_267
              · rcases Nat.lt_or_ge y 269 with h269 | h269
                · rw [show y = 268 by omega]; exact ck_cd_268
                · rcases Nat.lt_or_ge y 270 with h270 | h270
                  · rw [show y = 269 by omega]; exact ck_cd_269
                  · rw [show y = 270 by omega]; exact ck_cd_270
      · rcases Nat.lt_or_ge y 290 with h290 | h290
        · rcases Nat.lt_or_ge y 280 with h280 | h280
          · rcases Nat.lt_or_ge y 275 with h275 | h275
            · rcases Nat.lt_or_ge y 273 with h273 | h273
              · rcases Nat.lt_or_ge y 272 with h272 | h272
                · rw [show y = 271 by omega]; exact ck_cd_271
                · rw [show y = 272 by omega]; exact ck_cd_272
              · rcases Nat.lt_or_ge y 274 with h274 | h274
                · rw [show y = 273 by omega]; exact ck_cd_273
                · rw [show y = 274 by omega]; exact ck_cd_274
            · rcases Nat.lt_or_ge y 277 with h277 | h277
              · rcases Nat.lt_or_ge y 276 with h276 | h276
                · rw [show y = 275 by omega]; exact ck_cd_275
                · rw [show y = 276 by omega]; exact ck_cd_276
              · rcases Nat.lt_or_ge y 278 with h278 | h278
                · rw [show y = 277 by omega]; exact ck_cd_277
                · rcases Nat.lt_or_ge y 279 with h279 | h279
                  · rw [show y = 278 by omega]; exact ck_cd_278
                  · rw [show y = 279 by omega]; exact ck_cd_279
          · rcases Nat.lt_or_ge y 285 with h285 | h285
            · rcases Nat.lt_or_ge y 282 with h282 | h282
              · rcases Nat.lt_or_ge y 281 with h281 | h281
                · rw [show y = 280 by omega]; exact ck_cd_280
                · rw [show y = 281 by omega]; exact ck_cd_281
              · rcases Nat.lt_or_ge y 283 with h283 | h283
                · rw [show y = 282 by omega]; exact ck_cd_282
                · rcases Nat.lt_or_ge y 284 with h284 | h284
                  · rw [show y = 283 by omega]; exact ck_cd_283
                  · rw [show y = 284 by omega]; exact ck_cd_284
            · rcases Nat.lt_or_ge y 287 with h287 | h287
              · rcases Nat.lt_or_ge y 286 with h286 | h286
                · rw [show y = 285 by omega]; exact ck_cd_285
                · rw [show y = 286 by omega]; exact ck_cd_286
              · rcases Nat.lt_or_ge y 288 with h288 | h288
                · rw [show y = 287 by omega]; exact ck_cd_287
                · rcases Nat.lt_or_ge y 289 with h289 | h289
                  · rw [show y = 288 by omega]; exact ck_cd_288
                  · rw [show y = 289 by omega]; exact ck_cd_289
        · rcases Nat.lt_or_ge y 300 with h300 | h300
          · rcases Nat.lt_or_ge y 295 with h295 | h295
            · rcases Nat.lt_or_ge y 292 with h292 | h292
              · rcases Nat.lt_or_ge y 291 with h291 | h291
                · rw [show y = 290 by omega]; exact ck_cd_290
                · rw [show y = 291 by omega]; exact ck_cd_291
              · rcases Nat.lt_or_ge y 293 with h293 | h293
                · rw [show y = 292 by omega]; exact ck_cd_292
                · rcases Nat.lt_or_ge y 294 with h294 | h294
                  · rw [show y = 293 by omega]; exact ck_cd_293
                  · rw [show y = 294 by omega]; exact ck_cd_294
            · rcases Nat.lt_or_ge y 297 with h297 | h297
              · rcases Nat.lt_or_ge y 296 with h296 | h296
                · rw [show y = 295 by omega]; exact ck_cd_295
                · rw [show y = 296 by omega]; exact ck_cd_296
              · rcases Nat.lt_or_ge y 298 with h298 | h298
                · rw [show y = 297 by omega]; exact ck_cd_297
                · rcases Nat.lt_or_ge y 299 with h299 | h299
                  · rw [show y = 298 by omega]; exact ck_cd_298
                  · rw [show y = 299 by omega]; exact ck_cd_299
          · rcases Nat.lt_or_ge y 305 with h305 | h305
            · rcases Nat.lt_or_ge y 302 with h302 | h302
              · rcases Nat.lt_or_ge y 301 with h301 | h301
                · rw [show y = 300 by omega]; exact ck_cd_300
                · rw [show y = 301 by omega]; exact ck_cd_301
              · rcases Nat.lt_or_ge y 303 with h303 | h303
                · rw [show y = 302 by omega]; exact ck_cd_302
                · rcases Nat.lt_or_ge y 304 with h304 | h304
                  · rw [show y = 303 by omega]; exact ck_cd_303
                  · rw [show y = 304 by omega]; exact ck_cd_304
            · rcases Nat.lt_or_ge y 307 with h307 | h307
              · rcases Nat.lt_or_ge y 306 with h306 | h306
                · rw [show y = 305 by omega]; exact ck_cd_305
                · rw [show y = 306 by omega]; exact ck_cd_306
              · rcases Nat.lt_or_ge y 308 with h308 | h308
                · rw [show y = 307 by omega]; exact ck_cd_307
                · rcases Nat.lt_or_ge y 309 with h309 | h309
                  · rw [show y = 308 by omega]; exact ck_cd_308
                  · rw [show y = 309 by omega]; exact ck_cd_309

