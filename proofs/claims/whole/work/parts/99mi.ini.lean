section INI
variable {XL : Nat} {xs : Nat → Int32}
set_option maxRecDepth 100000
def in_nk (a k : Nat) (l : List (Nat × Nat × Nat)) : Bool := l.all fun o => !Nat.beq o.1 a || (!Nat.beq o.2.1 k && !Nat.beq o.2.1 9999)
theorem in_rnk {a k : Nat} : ∀ {l : List (Nat × Nat × Nat)} {f : Nat → Nat → Option Nat}, in_nk a k l = true → in_R l f a k = f a k
  | [], _, _ => rfl
  | (b, j, v) :: l, f, h => by
    have h : ((!Nat.beq b a || (!Nat.beq j k && !Nat.beq j 9999)) && in_nk a k l) = true := h
    simp only [Bool.and_eq_true, Bool.or_eq_true, Bool.not_eq_true'] at h
    obtain ⟨h1, h2⟩ := h
    unfold in_R
    rw [in_rnk h2]
    rcases h1 with h1 | ⟨h1, h3⟩
    · have hne : ¬ a = b := fun z => by
        rw [z, Nat.beq_refl] at h1
        cases h1
      cases Nat.beq j 9999 with
      | true => exact if_neg hne
      | false => exact if_neg fun z => hne z.1
    · have hne : ¬ k = j := fun z => by
        rw [z, Nat.beq_refl] at h1
        cases h1
      rw [h3]
      exact if_neg fun z => hne z.2
theorem in_sk2 {a k : Nat} {l : List (Nat × Nat × Nat)} {f : Nat → Nat → Option Nat} {v : Option Nat} (h : f a k = v) (hl : in_nk a k l = true) : in_R l f a k = v := (in_rnk hl).trans h
theorem in_c137 (n d : Nat) : mm_run XL xs (n + 300) (d + 2) 58 (in_mI136, in_mL136, in_mR136, 578, 578, 11012) 0 [(0, .ref 577)] [] = some (none, (in_mI137, in_mL137, in_mR137, 583, 583, 11062)) := rfl
theorem in_eL139 : in_mL139 = in_mL138 := in_nL (l := in_l139) (f := in_mL138) rfl
theorem in_eR139 : in_mR139 = in_mR138 := in_nR (l := in_r139) (f := in_mR138) rfl
theorem in_c139 (n d : Nat) : mm_run XL xs (n + 300) (d + 2) 0 (in_mI138, in_mL138, in_mR138, 584, 584, 11068) 0 [(0, .ref 583)] [] = some (none, (in_mI139, in_mL139, in_mR139, 584, 584, 11068)) := by
  rw [in_eL139, in_eR139]
  rfl
theorem in_c141 (n d : Nat) : mm_run XL xs (n + 300) (d + 2) 44 (in_mI140, in_mL140, in_mR140, 585, 585, 11073) 0 [(0, .ref 584)] [] = some (none, (in_mI141, in_mL141, in_mR141, 589, 589, 13486)) := rfl
theorem in_c143 (n d : Nat) : mm_run XL xs (n + 300) (d + 2) 62 (in_mI142, in_mL142, in_mR142, 590, 590, 13489) 0 [(0, .ref 589)] [] = some (none, (in_mI143, in_mL143, in_mR143, 592, 592, 15545)) := rfl
theorem in_h10_0_4 : in_mR10 0 4 = some 28 := rfl
theorem in_h11_0_4 : in_mR11 0 4 = some 28 := in_sk2 (l := in_r11) in_h10_0_4 (by decide)
theorem in_h12_0_4 : in_mR12 0 4 = some 28 := in_sk2 (l := in_r12) in_h11_0_4 (by decide)
theorem in_h13_0_4 : in_mR13 0 4 = some 28 := in_sk2 (l := in_r13) in_h12_0_4 (by decide)
theorem in_h14_0_4 : in_mR14 0 4 = some 28 := in_sk2 (l := in_r14) in_h13_0_4 (by decide)
theorem in_h15_0_4 : in_mR15 0 4 = some 28 := in_sk2 (l := in_r15) in_h14_0_4 (by decide)
theorem in_h16_0_4 : in_mR16 0 4 = some 28 := in_sk2 (l := in_r16) in_h15_0_4 (by decide)
theorem in_h17_0_4 : in_mR17 0 4 = some 28 := in_sk2 (l := in_r17) in_h16_0_4 (by decide)
theorem in_h18_0_4 : in_mR18 0 4 = some 28 := in_sk2 (l := in_r18) in_h17_0_4 (by decide)
theorem in_h19_0_4 : in_mR19 0 4 = some 28 := in_sk2 (l := in_r19) in_h18_0_4 (by decide)
theorem in_h20_0_4 : in_mR20 0 4 = some 28 := in_sk2 (l := in_r20) in_h19_0_4 (by decide)
theorem in_h21_0_4 : in_mR21 0 4 = some 28 := in_sk2 (l := in_r21) in_h20_0_4 (by decide)
theorem in_h22_0_4 : in_mR22 0 4 = some 28 := in_sk2 (l := in_r22) in_h21_0_4 (by decide)
theorem in_h23_0_4 : in_mR23 0 4 = some 28 := in_sk2 (l := in_r23) in_h22_0_4 (by decide)
theorem in_h24_0_4 : in_mR24 0 4 = some 28 := in_sk2 (l := in_r24) in_h23_0_4 (by decide)
theorem in_h25_0_4 : in_mR25 0 4 = some 28 := in_sk2 (l := in_r25) in_h24_0_4 (by decide)
theorem in_h26_0_4 : in_mR26 0 4 = some 28 := in_sk2 (l := in_r26) in_h25_0_4 (by decide)
theorem in_h27_0_4 : in_mR27 0 4 = some 28 := in_sk2 (l := in_r27) in_h26_0_4 (by decide)
theorem in_h28_0_4 : in_mR28 0 4 = some 28 := in_sk2 (l := in_r28) in_h27_0_4 (by decide)
theorem in_h29_0_4 : in_mR29 0 4 = some 28 := in_sk2 (l := in_r29) in_h28_0_4 (by decide)
theorem in_h30_0_4 : in_mR30 0 4 = some 28 := in_sk2 (l := in_r30) in_h29_0_4 (by decide)
theorem in_h31_0_4 : in_mR31 0 4 = some 28 := in_sk2 (l := in_r31) in_h30_0_4 (by decide)
theorem in_h32_0_4 : in_mR32 0 4 = some 28 := in_sk2 (l := in_r32) in_h31_0_4 (by decide)
theorem in_h33_0_4 : in_mR33 0 4 = some 28 := in_sk2 (l := in_r33) in_h32_0_4 (by decide)
theorem in_h34_0_4 : in_mR34 0 4 = some 28 := in_sk2 (l := in_r34) in_h33_0_4 (by decide)
theorem in_h35_0_4 : in_mR35 0 4 = some 28 := in_sk2 (l := in_r35) in_h34_0_4 (by decide)
theorem in_h36_0_4 : in_mR36 0 4 = some 28 := in_sk2 (l := in_r36) in_h35_0_4 (by decide)
theorem in_h37_0_4 : in_mR37 0 4 = some 28 := in_sk2 (l := in_r37) in_h36_0_4 (by decide)
theorem in_h38_0_4 : in_mR38 0 4 = some 28 := in_sk2 (l := in_r38) in_h37_0_4 (by decide)
theorem in_h39_0_4 : in_mR39 0 4 = some 28 := in_sk2 (l := in_r39) in_h38_0_4 (by decide)
theorem in_h40_0_4 : in_mR40 0 4 = some 28 := in_sk2 (l := in_r40) in_h39_0_4 (by decide)
theorem in_h41_0_4 : in_mR41 0 4 = some 28 := in_sk2 (l := in_r41) in_h40_0_4 (by decide)
theorem in_h42_0_4 : in_mR42 0 4 = some 28 := in_sk2 (l := in_r42) in_h41_0_4 (by decide)
theorem in_h43_0_4 : in_mR43 0 4 = some 28 := in_sk2 (l := in_r43) in_h42_0_4 (by decide)
theorem in_h44_0_4 : in_mR44 0 4 = some 28 := in_sk2 (l := in_r44) in_h43_0_4 (by decide)
theorem in_h45_0_4 : in_mR45 0 4 = some 28 := in_sk2 (l := in_r45) in_h44_0_4 (by decide)
theorem in_h46_0_4 : in_mR46 0 4 = some 28 := in_sk2 (l := in_r46) in_h45_0_4 (by decide)
theorem in_h47_0_4 : in_mR47 0 4 = some 28 := in_sk2 (l := in_r47) in_h46_0_4 (by decide)
theorem in_h48_0_4 : in_mR48 0 4 = some 28 := in_sk2 (l := in_r48) in_h47_0_4 (by decide)
theorem in_h49_0_4 : in_mR49 0 4 = some 28 := in_sk2 (l := in_r49) in_h48_0_4 (by decide)
theorem in_h50_0_4 : in_mR50 0 4 = some 28 := in_sk2 (l := in_r50) in_h49_0_4 (by decide)
theorem in_h51_0_4 : in_mR51 0 4 = some 28 := in_sk2 (l := in_r51) in_h50_0_4 (by decide)
theorem in_h52_0_4 : in_mR52 0 4 = some 28 := in_sk2 (l := in_r52) in_h51_0_4 (by decide)
theorem in_h53_0_4 : in_mR53 0 4 = some 28 := in_sk2 (l := in_r53) in_h52_0_4 (by decide)
theorem in_h54_0_4 : in_mR54 0 4 = some 28 := in_sk2 (l := in_r54) in_h53_0_4 (by decide)
theorem in_h55_0_4 : in_mR55 0 4 = some 28 := in_sk2 (l := in_r55) in_h54_0_4 (by decide)
theorem in_h56_0_4 : in_mR56 0 4 = some 28 := in_sk2 (l := in_r56) in_h55_0_4 (by decide)
theorem in_h57_0_4 : in_mR57 0 4 = some 28 := in_sk2 (l := in_r57) in_h56_0_4 (by decide)
theorem in_h58_0_4 : in_mR58 0 4 = some 28 := in_sk2 (l := in_r58) in_h57_0_4 (by decide)
theorem in_h59_0_4 : in_mR59 0 4 = some 28 := in_sk2 (l := in_r59) in_h58_0_4 (by decide)
theorem in_h60_0_4 : in_mR60 0 4 = some 28 := in_sk2 (l := in_r60) in_h59_0_4 (by decide)
theorem in_h61_0_4 : in_mR61 0 4 = some 28 := in_sk2 (l := in_r61) in_h60_0_4 (by decide)
theorem in_h62_0_4 : in_mR62 0 4 = some 28 := in_sk2 (l := in_r62) in_h61_0_4 (by decide)
theorem in_h63_0_4 : in_mR63 0 4 = some 28 := in_sk2 (l := in_r63) in_h62_0_4 (by decide)
theorem in_h64_0_4 : in_mR64 0 4 = some 28 := in_sk2 (l := in_r64) in_h63_0_4 (by decide)
theorem in_h65_0_4 : in_mR65 0 4 = some 28 := in_sk2 (l := in_r65) in_h64_0_4 (by decide)
theorem in_h66_0_4 : in_mR66 0 4 = some 28 := in_sk2 (l := in_r66) in_h65_0_4 (by decide)
theorem in_h67_0_4 : in_mR67 0 4 = some 28 := in_sk2 (l := in_r67) in_h66_0_4 (by decide)
theorem in_h68_0_4 : in_mR68 0 4 = some 28 := in_sk2 (l := in_r68) in_h67_0_4 (by decide)
theorem in_h69_0_4 : in_mR69 0 4 = some 28 := in_sk2 (l := in_r69) in_h68_0_4 (by decide)
theorem in_h70_0_4 : in_mR70 0 4 = some 28 := in_sk2 (l := in_r70) in_h69_0_4 (by decide)
theorem in_h71_0_4 : in_mR71 0 4 = some 28 := in_sk2 (l := in_r71) in_h70_0_4 (by decide)
theorem in_h72_0_4 : in_mR72 0 4 = some 28 := in_sk2 (l := in_r72) in_h71_0_4 (by decide)
theorem in_h73_0_4 : in_mR73 0 4 = some 28 := in_sk2 (l := in_r73) in_h72_0_4 (by decide)
theorem in_h74_0_4 : in_mR74 0 4 = some 28 := in_sk2 (l := in_r74) in_h73_0_4 (by decide)
theorem in_h75_0_4 : in_mR75 0 4 = some 28 := in_sk2 (l := in_r75) in_h74_0_4 (by decide)
theorem in_h76_0_4 : in_mR76 0 4 = some 28 := in_sk2 (l := in_r76) in_h75_0_4 (by decide)
theorem in_h77_0_4 : in_mR77 0 4 = some 28 := in_sk2 (l := in_r77) in_h76_0_4 (by decide)
theorem in_h78_0_4 : in_mR78 0 4 = some 28 := in_sk2 (l := in_r78) in_h77_0_4 (by decide)
theorem in_h79_0_4 : in_mR79 0 4 = some 28 := in_sk2 (l := in_r79) in_h78_0_4 (by decide)
theorem in_h80_0_4 : in_mR80 0 4 = some 28 := in_sk2 (l := in_r80) in_h79_0_4 (by decide)
theorem in_h81_0_4 : in_mR81 0 4 = some 28 := in_sk2 (l := in_r81) in_h80_0_4 (by decide)
theorem in_h82_0_4 : in_mR82 0 4 = some 28 := in_sk2 (l := in_r82) in_h81_0_4 (by decide)
theorem in_h83_0_4 : in_mR83 0 4 = some 28 := in_sk2 (l := in_r83) in_h82_0_4 (by decide)
theorem in_h84_0_4 : in_mR84 0 4 = some 28 := in_sk2 (l := in_r84) in_h83_0_4 (by decide)
theorem in_h85_0_4 : in_mR85 0 4 = some 28 := in_sk2 (l := in_r85) in_h84_0_4 (by decide)
theorem in_h86_0_4 : in_mR86 0 4 = some 28 := in_sk2 (l := in_r86) in_h85_0_4 (by decide)
theorem in_h87_0_4 : in_mR87 0 4 = some 28 := in_sk2 (l := in_r87) in_h86_0_4 (by decide)
theorem in_h88_0_4 : in_mR88 0 4 = some 28 := in_sk2 (l := in_r88) in_h87_0_4 (by decide)
theorem in_h89_0_4 : in_mR89 0 4 = some 28 := in_sk2 (l := in_r89) in_h88_0_4 (by decide)
theorem in_h90_0_4 : in_mR90 0 4 = some 28 := in_sk2 (l := in_r90) in_h89_0_4 (by decide)
theorem in_h91_0_4 : in_mR91 0 4 = some 28 := in_sk2 (l := in_r91) in_h90_0_4 (by decide)
theorem in_h92_0_4 : in_mR92 0 4 = some 28 := in_sk2 (l := in_r92) in_h91_0_4 (by decide)
theorem in_h93_0_4 : in_mR93 0 4 = some 28 := in_sk2 (l := in_r93) in_h92_0_4 (by decide)
theorem in_h94_0_4 : in_mR94 0 4 = some 28 := in_sk2 (l := in_r94) in_h93_0_4 (by decide)
theorem in_h95_0_4 : in_mR95 0 4 = some 28 := in_sk2 (l := in_r95) in_h94_0_4 (by decide)
theorem in_h96_0_4 : in_mR96 0 4 = some 28 := in_sk2 (l := in_r96) in_h95_0_4 (by decide)
theorem in_h97_0_4 : in_mR97 0 4 = some 28 := in_sk2 (l := in_r97) in_h96_0_4 (by decide)
theorem in_h98_0_4 : in_mR98 0 4 = some 28 := in_sk2 (l := in_r98) in_h97_0_4 (by decide)
theorem in_h99_0_4 : in_mR99 0 4 = some 28 := in_sk2 (l := in_r99) in_h98_0_4 (by decide)
theorem in_h100_0_4 : in_mR100 0 4 = some 28 := in_sk2 (l := in_r100) in_h99_0_4 (by decide)
theorem in_h101_0_4 : in_mR101 0 4 = some 28 := in_sk2 (l := in_r101) in_h100_0_4 (by decide)
theorem in_h102_0_4 : in_mR102 0 4 = some 28 := in_sk2 (l := in_r102) in_h101_0_4 (by decide)
theorem in_h103_0_4 : in_mR103 0 4 = some 28 := in_sk2 (l := in_r103) in_h102_0_4 (by decide)
theorem in_h104_0_4 : in_mR104 0 4 = some 28 := in_sk2 (l := in_r104) in_h103_0_4 (by decide)
theorem in_h105_0_4 : in_mR105 0 4 = some 28 := in_sk2 (l := in_r105) in_h104_0_4 (by decide)
theorem in_h106_0_4 : in_mR106 0 4 = some 28 := in_sk2 (l := in_r106) in_h105_0_4 (by decide)
theorem in_h107_0_4 : in_mR107 0 4 = some 28 := in_sk2 (l := in_r107) in_h106_0_4 (by decide)
theorem in_h108_0_4 : in_mR108 0 4 = some 28 := in_sk2 (l := in_r108) in_h107_0_4 (by decide)
theorem in_h109_0_4 : in_mR109 0 4 = some 28 := in_sk2 (l := in_r109) in_h108_0_4 (by decide)
theorem in_h110_0_4 : in_mR110 0 4 = some 28 := in_sk2 (l := in_r110) in_h109_0_4 (by decide)
theorem in_h111_0_4 : in_mR111 0 4 = some 28 := in_sk2 (l := in_r111) in_h110_0_4 (by decide)
theorem in_h112_0_4 : in_mR112 0 4 = some 28 := in_sk2 (l := in_r112) in_h111_0_4 (by decide)
theorem in_h113_0_4 : in_mR113 0 4 = some 28 := in_sk2 (l := in_r113) in_h112_0_4 (by decide)
theorem in_h114_0_4 : in_mR114 0 4 = some 28 := in_sk2 (l := in_r114) in_h113_0_4 (by decide)
theorem in_h115_0_4 : in_mR115 0 4 = some 28 := in_sk2 (l := in_r115) in_h114_0_4 (by decide)
theorem in_h116_0_4 : in_mR116 0 4 = some 28 := in_sk2 (l := in_r116) in_h115_0_4 (by decide)
theorem in_h117_0_4 : in_mR117 0 4 = some 28 := in_sk2 (l := in_r117) in_h116_0_4 (by decide)
theorem in_h118_0_4 : in_mR118 0 4 = some 28 := in_sk2 (l := in_r118) in_h117_0_4 (by decide)
theorem in_h119_0_4 : in_mR119 0 4 = some 28 := in_sk2 (l := in_r119) in_h118_0_4 (by decide)
theorem in_h120_0_4 : in_mR120 0 4 = some 28 := in_sk2 (l := in_r120) in_h119_0_4 (by decide)
theorem in_h121_0_4 : in_mR121 0 4 = some 28 := in_sk2 (l := in_r121) in_h120_0_4 (by decide)
theorem in_h122_0_4 : in_mR122 0 4 = some 28 := in_sk2 (l := in_r122) in_h121_0_4 (by decide)
theorem in_h123_0_4 : in_mR123 0 4 = some 28 := in_sk2 (l := in_r123) in_h122_0_4 (by decide)
theorem in_h124_0_4 : in_mR124 0 4 = some 28 := in_sk2 (l := in_r124) in_h123_0_4 (by decide)
theorem in_h125_0_4 : in_mR125 0 4 = some 28 := in_sk2 (l := in_r125) in_h124_0_4 (by decide)
theorem in_h126_0_4 : in_mR126 0 4 = some 28 := in_sk2 (l := in_r126) in_h125_0_4 (by decide)
theorem in_h127_0_4 : in_mR127 0 4 = some 28 := in_sk2 (l := in_r127) in_h126_0_4 (by decide)
theorem in_h128_0_4 : in_mR128 0 4 = some 28 := in_sk2 (l := in_r128) in_h127_0_4 (by decide)
theorem in_h129_0_4 : in_mR129 0 4 = some 28 := in_sk2 (l := in_r129) in_h128_0_4 (by decide)
theorem in_h130_0_4 : in_mR130 0 4 = some 28 := in_sk2 (l := in_r130) in_h129_0_4 (by decide)
theorem in_h131_0_4 : in_mR131 0 4 = some 28 := in_sk2 (l := in_r131) in_h130_0_4 (by decide)
theorem in_h132_0_4 : in_mR132 0 4 = some 28 := in_sk2 (l := in_r132) in_h131_0_4 (by decide)
theorem in_h133_0_4 : in_mR133 0 4 = some 28 := in_sk2 (l := in_r133) in_h132_0_4 (by decide)
theorem in_h134_0_4 : in_mR134 0 4 = some 28 := in_sk2 (l := in_r134) in_h133_0_4 (by decide)
theorem in_h135_0_4 : in_mR135 0 4 = some 28 := in_sk2 (l := in_r135) in_h134_0_4 (by decide)
theorem in_h136_0_4 : in_mR136 0 4 = some 28 := in_sk2 (l := in_r136) in_h135_0_4 (by decide)
theorem in_h137_0_4 : in_mR137 0 4 = some 28 := in_sk2 (l := in_r137) in_h136_0_4 (by decide)
theorem in_h138_0_4 : in_mR138 0 4 = some 28 := in_sk2 (l := in_r138) in_h137_0_4 (by decide)
theorem in_h139_0_4 : in_mR139 0 4 = some 28 := in_sk2 (l := in_r139) in_h138_0_4 (by decide)
theorem in_h140_0_4 : in_mR140 0 4 = some 28 := in_sk2 (l := in_r140) in_h139_0_4 (by decide)
theorem in_h141_0_4 : in_mR141 0 4 = some 28 := in_sk2 (l := in_r141) in_h140_0_4 (by decide)
theorem in_h142_0_4 : in_mR142 0 4 = some 28 := in_sk2 (l := in_r142) in_h141_0_4 (by decide)
theorem in_h143_0_4 : in_mR143 0 4 = some 28 := in_sk2 (l := in_r143) in_h142_0_4 (by decide)
theorem in_h144_0_4 : in_mR144 0 4 = some 28 := in_sk2 (l := in_r144) in_h143_0_4 (by decide)
theorem in_c146 (n d : Nat) : mm_run XL xs (n + 300) (d + 2) 16 (in_mI145, in_mL145, in_mR145, 595, 595, 15564) 0 [(0, .ref 594)] [] = some (none, (in_mI146, in_mL146, in_mR146, 597, 597, 15868)) := rfl
theorem in_h145_0_4 : in_mR145 0 4 = some 28 := in_sk2 (l := in_r145) in_h144_0_4 (by decide)
theorem in_h146_0_4 : in_mR146 0 4 = some 28 := in_sk2 (l := in_r146) in_h145_0_4 (by decide)
theorem in_h147_0_4 : in_mR147 0 4 = some 28 := in_sk2 (l := in_r147) in_h146_0_4 (by decide)
theorem in_c149 (n d : Nat) : mm_run XL xs (n + 300) (d + 2) 16 (in_mI148, in_mL148, in_mR148, 598, 598, 15872) 0 [(0, .ref 597)] [] = some (none, (in_mI149, in_mL149, in_mR149, 600, 600, 16176)) := rfl
theorem in_h148_0_4 : in_mR148 0 4 = some 28 := in_sk2 (l := in_r148) in_h147_0_4 (by decide)
theorem in_h149_0_4 : in_mR149 0 4 = some 28 := in_sk2 (l := in_r149) in_h148_0_4 (by decide)
theorem in_h150_0_4 : in_mR150 0 4 = some 28 := in_sk2 (l := in_r150) in_h149_0_4 (by decide)
theorem in_c152 (n d : Nat) : mm_run XL xs (n + 300) (d + 2) 16 (in_mI151, in_mL151, in_mR151, 601, 601, 16180) 0 [(0, .ref 600)] [] = some (none, (in_mI152, in_mL152, in_mR152, 603, 603, 16484)) := rfl
theorem in_h151_0_4 : in_mR151 0 4 = some 28 := in_sk2 (l := in_r151) in_h150_0_4 (by decide)
theorem in_h152_0_4 : in_mR152 0 4 = some 28 := in_sk2 (l := in_r152) in_h151_0_4 (by decide)
theorem in_h153_0_4 : in_mR153 0 4 = some 28 := in_sk2 (l := in_r153) in_h152_0_4 (by decide)
end INI
