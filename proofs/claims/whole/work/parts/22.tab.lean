theorem ck_len {α : Type} : ∀ {l : List α} {i : Nat} {x : α}, mm_nth l i = some x → i < l.length
  | [], _, _, h => by cases h
  | _ :: _, 0, _, _ => Nat.succ_pos _
  | _ :: l, i + 1, _, h => Nat.succ_lt_succ (ck_len (l := l) h)
theorem ck_all {y pc : Nat} (hy : y < 312) (hl : pc < (mm_cd y).length) : ck_at y pc = true := by
  rcases Nat.lt_or_ge y 156 with h156 | h156
  · rcases Nat.lt_or_ge y 78 with h78 | h78
    · rcases Nat.lt_or_ge y 39 with h39 | h39
      · rcases Nat.lt_or_ge y 19 with h19 | h19
        · rcases Nat.lt_or_ge y 9 with h9 | h9
          · rcases Nat.lt_or_ge y 4 with h4 | h4
            · rcases Nat.lt_or_ge y 2 with h2 | h2
              · rcases Nat.lt_or_ge y 1 with h1 | h1
                · rw [show y = 0 by omega] at hl ⊢; exact ck_a_0 pc hl
                · rw [show y = 1 by omega] at hl ⊢; exact ck_a_1 pc hl
              · rcases Nat.lt_or_ge y 3 with h3 | h3
                · rw [show y = 2 by omega] at hl ⊢; exact ck_a_2 pc hl
                · rw [show y = 3 by omega] at hl ⊢; exact ck_a_3 pc hl
            · rcases Nat.lt_or_ge y 6 with h6 | h6
              · rcases Nat.lt_or_ge y 5 with h5 | h5
                · rw [show y = 4 by omega] at hl ⊢; exact ck_a_4 pc hl
                · rw [show y = 5 by omega] at hl ⊢; exact ck_a_5 pc hl
              · rcases Nat.lt_or_ge y 7 with h7 | h7
                · rw [show y = 6 by omega] at hl ⊢; exact ck_a_6 pc hl
                · rcases Nat.lt_or_ge y 8 with h8 | h8
                  · rw [show y = 7 by omega] at hl ⊢; exact ck_a_7 pc hl
                  · rw [show y = 8 by omega] at hl ⊢; exact ck_a_8 pc hl
          · rcases Nat.lt_or_ge y 14 with h14 | h14
            · rcases Nat.lt_or_ge y 11 with h11 | h11
              · rcases Nat.lt_or_ge y 10 with h10 | h10
                · rw [show y = 9 by omega] at hl ⊢; exact ck_a_9 pc hl
                · rw [show y = 10 by omega] at hl ⊢; exact ck_a_10 pc hl
              · rcases Nat.lt_or_ge y 12 with h12 | h12
                · rw [show y = 11 by omega] at hl ⊢; exact ck_a_11 pc hl
                · rcases Nat.lt_or_ge y 13 with h13 | h13
                  · rw [show y = 12 by omega] at hl ⊢; exact ck_a_12 pc hl
                  · rw [show y = 13 by omega] at hl ⊢; exact ck_a_13 pc hl
            · rcases Nat.lt_or_ge y 16 with h16 | h16
              · rcases Nat.lt_or_ge y 15 with h15 | h15
                · rw [show y = 14 by omega] at hl ⊢; exact ck_a_14 pc hl
                · rw [show y = 15 by omega] at hl ⊢; exact ck_a_15 pc hl
              · rcases Nat.lt_or_ge y 17 with h17 | h17
                · rw [show y = 16 by omega] at hl ⊢; exact ck_a_16 pc hl
                · rcases Nat.lt_or_ge y 18 with h18 | h18
                  · rw [show y = 17 by omega] at hl ⊢; exact ck_a_17 pc hl
                  · rw [show y = 18 by omega] at hl ⊢; exact ck_a_18 pc hl
        · rcases Nat.lt_or_ge y 29 with h29 | h29
          · rcases Nat.lt_or_ge y 24 with h24 | h24
            · rcases Nat.lt_or_ge y 21 with h21 | h21
              · rcases Nat.lt_or_ge y 20 with h20 | h20
                · rw [show y = 19 by omega] at hl ⊢; exact ck_a_19 pc hl
                · rw [show y = 20 by omega] at hl ⊢; exact ck_a_20 pc hl
              · rcases Nat.lt_or_ge y 22 with h22 | h22
                · rw [show y = 21 by omega] at hl ⊢; exact ck_a_21 pc hl
                · rcases Nat.lt_or_ge y 23 with h23 | h23
                  · rw [show y = 22 by omega] at hl ⊢; exact ck_a_22 pc hl
                  · rw [show y = 23 by omega] at hl ⊢; exact ck_a_23 pc hl
            · rcases Nat.lt_or_ge y 26 with h26 | h26
              · rcases Nat.lt_or_ge y 25 with h25 | h25
                · rw [show y = 24 by omega] at hl ⊢; exact ck_a_24 pc hl
                · rw [show y = 25 by omega] at hl ⊢; exact ck_a_25 pc hl
              · rcases Nat.lt_or_ge y 27 with h27 | h27
                · rw [show y = 26 by omega] at hl ⊢; exact ck_a_26 pc hl
                · rcases Nat.lt_or_ge y 28 with h28 | h28
                  · rw [show y = 27 by omega] at hl ⊢; exact ck_a_27 pc hl
                  · rw [show y = 28 by omega] at hl ⊢; exact ck_a_28 pc hl
          · rcases Nat.lt_or_ge y 34 with h34 | h34
            · rcases Nat.lt_or_ge y 31 with h31 | h31
              · rcases Nat.lt_or_ge y 30 with h30 | h30
                · rw [show y = 29 by omega] at hl ⊢; exact ck_a_29 pc hl
                · rw [show y = 30 by omega] at hl ⊢; exact ck_a_30 pc hl
              · rcases Nat.lt_or_ge y 32 with h32 | h32
                · rw [show y = 31 by omega] at hl ⊢; exact ck_a_31 pc hl
                · rcases Nat.lt_or_ge y 33 with h33 | h33
                  · rw [show y = 32 by omega] at hl ⊢; exact ck_a_32 pc hl
                  · rw [show y = 33 by omega] at hl ⊢; exact ck_a_33 pc hl
            · rcases Nat.lt_or_ge y 36 with h36 | h36
              · rcases Nat.lt_or_ge y 35 with h35 | h35
                · rw [show y = 34 by omega] at hl ⊢; exact ck_a_34 pc hl
                · rw [show y = 35 by omega] at hl ⊢; exact ck_a_35 pc hl
              · rcases Nat.lt_or_ge y 37 with h37 | h37
                · rw [show y = 36 by omega] at hl ⊢; exact ck_a_36 pc hl
                · rcases Nat.lt_or_ge y 38 with h38 | h38
                  · rw [show y = 37 by omega] at hl ⊢; exact ck_a_37 pc hl
                  · rw [show y = 38 by omega] at hl ⊢; exact ck_a_38 pc hl
      · rcases Nat.lt_or_ge y 58 with h58 | h58
        · rcases Nat.lt_or_ge y 48 with h48 | h48
          · rcases Nat.lt_or_ge y 43 with h43 | h43
            · rcases Nat.lt_or_ge y 41 with h41 | h41
              · rcases Nat.lt_or_ge y 40 with h40 | h40
                · rw [show y = 39 by omega] at hl ⊢; exact ck_a_39 pc hl
                · rw [show y = 40 by omega] at hl ⊢; exact ck_a_40 pc hl
              · rcases Nat.lt_or_ge y 42 with h42 | h42
                · rw [show y = 41 by omega] at hl ⊢; exact ck_a_41 pc hl
                · rw [show y = 42 by omega] at hl ⊢; exact ck_a_42 pc hl
            · rcases Nat.lt_or_ge y 45 with h45 | h45
              · rcases Nat.lt_or_ge y 44 with h44 | h44
                · rw [show y = 43 by omega] at hl ⊢; exact ck_a_43 pc hl
                · rw [show y = 44 by omega] at hl ⊢; exact ck_a_44 pc hl
              · rcases Nat.lt_or_ge y 46 with h46 | h46
                · rw [show y = 45 by omega] at hl ⊢; exact ck_a_45 pc hl
                · rcases Nat.lt_or_ge y 47 with h47 | h47
                  · rw [show y = 46 by omega] at hl ⊢; exact ck_a_46 pc hl
                  · rw [show y = 47 by omega] at hl ⊢; exact ck_a_47 pc hl
          · rcases Nat.lt_or_ge y 53 with h53 | h53
            · rcases Nat.lt_or_ge y 50 with h50 | h50
              · rcases Nat.lt_or_ge y 49 with h49 | h49
                · rw [show y = 48 by omega] at hl ⊢; exact ck_a_48 pc hl
                · rw [show y = 49 by omega] at hl ⊢; exact ck_a_49 pc hl
              · rcases Nat.lt_or_ge y 51 with h51 | h51
                · rw [show y = 50 by omega] at hl ⊢; exact ck_a_50 pc hl
                · rcases Nat.lt_or_ge y 52 with h52 | h52
                  · rw [show y = 51 by omega] at hl ⊢; exact ck_a_51 pc hl
                  · rw [show y = 52 by omega] at hl ⊢; exact ck_a_52 pc hl
            · rcases Nat.lt_or_ge y 55 with h55 | h55
              · rcases Nat.lt_or_ge y 54 with h54 | h54
                · rw [show y = 53 by omega] at hl ⊢; exact ck_a_53 pc hl
                · rw [show y = 54 by omega] at hl ⊢; exact ck_a_54 pc hl
              · rcases Nat.lt_or_ge y 56 with h56 | h56
                · rw [show y = 55 by omega] at hl ⊢; exact ck_a_55 pc hl
                · rcases Nat.lt_or_ge y 57 with h57 | h57
                  · rw [show y = 56 by omega] at hl ⊢; exact ck_a_56 pc hl
                  · rw [show y = 57 by omega] at hl ⊢; exact ck_a_57 pc hl
        · rcases Nat.lt_or_ge y 68 with h68 | h68
          · rcases Nat.lt_or_ge y 63 with h63 | h63
            · rcases Nat.lt_or_ge y 60 with h60 | h60
              · rcases Nat.lt_or_ge y 59 with h59 | h59
                · rw [show y = 58 by omega] at hl ⊢; exact ck_a_58 pc hl
                · rw [show y = 59 by omega] at hl ⊢; exact ck_a_59 pc hl
              · rcases Nat.lt_or_ge y 61 with h61 | h61
                · rw [show y = 60 by omega] at hl ⊢; exact ck_a_60 pc hl
                · rcases Nat.lt_or_ge y 62 with h62 | h62
                  · rw [show y = 61 by omega] at hl ⊢; exact ck_a_61 pc hl
                  · rw [show y = 62 by omega] at hl ⊢; exact ck_a_62 pc hl
            · rcases Nat.lt_or_ge y 65 with h65 | h65
              · rcases Nat.lt_or_ge y 64 with h64 | h64
                · rw [show y = 63 by omega] at hl ⊢; exact ck_a_63 pc hl
                · rw [show y = 64 by omega] at hl ⊢; exact ck_a_64 pc hl
              · rcases Nat.lt_or_ge y 66 with h66 | h66
                · rw [show y = 65 by omega] at hl ⊢; exact ck_a_65 pc hl
                · rcases Nat.lt_or_ge y 67 with h67 | h67
                  · rw [show y = 66 by omega] at hl ⊢; exact ck_a_66 pc hl
                  · rw [show y = 67 by omega] at hl ⊢; exact ck_a_67 pc hl
          · rcases Nat.lt_or_ge y 73 with h73 | h73
            · rcases Nat.lt_or_ge y 70 with h70 | h70
              · rcases Nat.lt_or_ge y 69 with h69 | h69
                · rw [show y = 68 by omega] at hl ⊢; exact ck_a_68 pc hl
                · rw [show y = 69 by omega] at hl ⊢; exact ck_a_69 pc hl
              · rcases Nat.lt_or_ge y 71 with h71 | h71
                · rw [show y = 70 by omega] at hl ⊢; exact ck_a_70 pc hl
                · rcases Nat.lt_or_ge y 72 with h72 | h72
                  · rw [show y = 71 by omega] at hl ⊢; exact ck_a_71 pc hl
                  · rw [show y = 72 by omega] at hl ⊢; exact ck_a_72 pc hl
            · rcases Nat.lt_or_ge y 75 with h75 | h75
              · rcases Nat.lt_or_ge y 74 with h74 | h74
                · rw [show y = 73 by omega] at hl ⊢; exact ck_a_73 pc hl
                · rw [show y = 74 by omega] at hl ⊢; exact ck_a_74 pc hl
              · rcases Nat.lt_or_ge y 76 with h76 | h76
                · rw [show y = 75 by omega] at hl ⊢; exact ck_a_75 pc hl
                · rcases Nat.lt_or_ge y 77 with h77 | h77
                  · rw [show y = 76 by omega] at hl ⊢; exact ck_a_76 pc hl
                  · rw [show y = 77 by omega] at hl ⊢; exact ck_a_77 pc hl
    · rcases Nat.lt_or_ge y 117 with h117 | h117
      · rcases Nat.lt_or_ge y 97 with h97 | h97
        · rcases Nat.lt_or_ge y 87 with h87 | h87
          · rcases Nat.lt_or_ge y 82 with h82 | h82
            · rcases Nat.lt_or_ge y 80 with h80 | h80
              · rcases Nat.lt_or_ge y 79 with h79 | h79
                · rw [show y = 78 by omega] at hl ⊢; exact ck_a_78 pc hl
                · rw [show y = 79 by omega] at hl ⊢; exact ck_a_79 pc hl
              · rcases Nat.lt_or_ge y 81 with h81 | h81
                · rw [show y = 80 by omega] at hl ⊢; exact ck_a_80 pc hl
                · rw [show y = 81 by omega] at hl ⊢; exact ck_a_81 pc hl
            · rcases Nat.lt_or_ge y 84 with h84 | h84
              · rcases Nat.lt_or_ge y 83 with h83 | h83
                · rw [show y = 82 by omega] at hl ⊢; exact ck_a_82 pc hl
                · rw [show y = 83 by omega] at hl ⊢; exact ck_a_83 pc hl
              · rcases Nat.lt_or_ge y 85 with h85 | h85
                · rw [show y = 84 by omega] at hl ⊢; exact ck_a_84 pc hl
                · rcases Nat.lt_or_ge y 86 with h86 | h86
                  · rw [show y = 85 by omega] at hl ⊢; exact ck_a_85 pc hl
                  · rw [show y = 86 by omega] at hl ⊢; exact ck_a_86 pc hl
          · rcases Nat.lt_or_ge y 92 with h92 | h92
            · rcases Nat.lt_or_ge y 89 with h89 | h89
              · rcases Nat.lt_or_ge y 88 with h88 | h88
                · rw [show y = 87 by omega] at hl ⊢; exact ck_a_87 pc hl
                · rw [show y = 88 by omega] at hl ⊢; exact ck_a_88 pc hl
              · rcases Nat.lt_or_ge y 90 with h90 | h90
                · rw [show y = 89 by omega] at hl ⊢; exact ck_a_89 pc hl
                · rcases Nat.lt_or_ge y 91 with h91 | h91
                  · rw [show y = 90 by omega] at hl ⊢; exact ck_a_90 pc hl
                  · rw [show y = 91 by omega] at hl ⊢; exact ck_a_91 pc hl
            · rcases Nat.lt_or_ge y 94 with h94 | h94
              · rcases Nat.lt_or_ge y 93 with h93 | h93
                · rw [show y = 92 by omega] at hl ⊢; exact ck_a_92 pc hl
                · rw [show y = 93 by omega] at hl ⊢; exact ck_a_93 pc hl
              · rcases Nat.lt_or_ge y 95 with h95 | h95
                · rw [show y = 94 by omega] at hl ⊢; exact ck_a_94 pc hl
                · rcases Nat.lt_or_ge y 96 with h96 | h96
                  · rw [show y = 95 by omega] at hl ⊢; exact ck_a_95 pc hl
                  · rw [show y = 96 by omega] at hl ⊢; exact ck_a_96 pc hl
        · rcases Nat.lt_or_ge y 107 with h107 | h107
          · rcases Nat.lt_or_ge y 102 with h102 | h102
            · rcases Nat.lt_or_ge y 99 with h99 | h99
              · rcases Nat.lt_or_ge y 98 with h98 | h98
                · rw [show y = 97 by omega] at hl ⊢; exact ck_a_97 pc hl
                · rw [show y = 98 by omega] at hl ⊢; exact ck_a_98 pc hl
              · rcases Nat.lt_or_ge y 100 with h100 | h100
                · rw [show y = 99 by omega] at hl ⊢; exact ck_a_99 pc hl
                · rcases Nat.lt_or_ge y 101 with h101 | h101
                  · rw [show y = 100 by omega] at hl ⊢; exact ck_a_100 pc hl
                  · rw [show y = 101 by omega] at hl ⊢; exact ck_a_101 pc hl
            · rcases Nat.lt_or_ge y 104 with h104 | h104
              · rcases Nat.lt_or_ge y 103 with h103 | h103
                · rw [show y = 102 by omega] at hl ⊢; exact ck_a_102 pc hl
                · rw [show y = 103 by omega] at hl ⊢; exact ck_a_103 pc hl
              · rcases Nat.lt_or_ge y 105 with h105 | h105
                · rw [show y = 104 by omega] at hl ⊢; exact ck_a_104 pc hl
                · rcases Nat.lt_or_ge y 106 with h106 | h106
                  · rw [show y = 105 by omega] at hl ⊢; exact ck_a_105 pc hl
                  · rw [show y = 106 by omega] at hl ⊢; exact ck_a_106 pc hl
          · rcases Nat.lt_or_ge y 112 with h112 | h112
            · rcases Nat.lt_or_ge y 109 with h109 | h109
              · rcases Nat.lt_or_ge y 108 with h108 | h108
                · rw [show y = 107 by omega] at hl ⊢; exact ck_a_107 pc hl
                · rw [show y = 108 by omega] at hl ⊢; exact ck_a_108 pc hl
              · rcases Nat.lt_or_ge y 110 with h110 | h110
                · rw [show y = 109 by omega] at hl ⊢; exact ck_a_109 pc hl
                · rcases Nat.lt_or_ge y 111 with h111 | h111
                  · rw [show y = 110 by omega] at hl ⊢; exact ck_a_110 pc hl
                  · rw [show y = 111 by omega] at hl ⊢; exact ck_a_111 pc hl
            · rcases Nat.lt_or_ge y 114 with h114 | h114
              · rcases Nat.lt_or_ge y 113 with h113 | h113
                · rw [show y = 112 by omega] at hl ⊢; exact ck_a_112 pc hl
                · rw [show y = 113 by omega] at hl ⊢; exact ck_a_113 pc hl
              · rcases Nat.lt_or_ge y 115 with h115 | h115
                · rw [show y = 114 by omega] at hl ⊢; exact ck_a_114 pc hl
                · rcases Nat.lt_or_ge y 116 with h116 | h116
                  · rw [show y = 115 by omega] at hl ⊢; exact ck_a_115 pc hl
                  · rw [show y = 116 by omega] at hl ⊢; exact ck_a_116 pc hl
      · rcases Nat.lt_or_ge y 136 with h136 | h136
        · rcases Nat.lt_or_ge y 126 with h126 | h126
          · rcases Nat.lt_or_ge y 121 with h121 | h121
            · rcases Nat.lt_or_ge y 119 with h119 | h119
              · rcases Nat.lt_or_ge y 118 with h118 | h118
                · rw [show y = 117 by omega] at hl ⊢; exact ck_a_117 pc hl
                · rw [show y = 118 by omega] at hl ⊢; exact ck_a_118 pc hl
              · rcases Nat.lt_or_ge y 120 with h120 | h120
                · rw [show y = 119 by omega] at hl ⊢; exact ck_a_119 pc hl
                · rw [show y = 120 by omega] at hl ⊢; exact ck_a_120 pc hl
            · rcases Nat.lt_or_ge y 123 with h123 | h123
              · rcases Nat.lt_or_ge y 122 with h122 | h122
                · rw [show y = 121 by omega] at hl ⊢; exact ck_a_121 pc hl
                · rw [show y = 122 by omega] at hl ⊢; exact ck_a_122 pc hl
              · rcases Nat.lt_or_ge y 124 with h124 | h124
                · rw [show y = 123 by omega] at hl ⊢; exact ck_a_123 pc hl
                · rcases Nat.lt_or_ge y 125 with h125 | h125
                  · rw [show y = 124 by omega] at hl ⊢; exact ck_a_124 pc hl
                  · rw [show y = 125 by omega] at hl ⊢; exact ck_a_125 pc hl
          · rcases Nat.lt_or_ge y 131 with h131 | h131
            · rcases Nat.lt_or_ge y 128 with h128 | h128
              · rcases Nat.lt_or_ge y 127 with h127 | h127
                · rw [show y = 126 by omega] at hl ⊢; exact ck_a_126 pc hl
                · rw [show y = 127 by omega] at hl ⊢; exact ck_a_127 pc hl
              · rcases Nat.lt_or_ge y 129 with h129 | h129
                · rw [show y = 128 by omega] at hl ⊢; exact ck_a_128 pc hl
                · rcases Nat.lt_or_ge y 130 with h130 | h130
                  · rw [show y = 129 by omega] at hl ⊢; exact ck_a_129 pc hl
                  · rw [show y = 130 by omega] at hl ⊢; exact ck_a_130 pc hl
            · rcases Nat.lt_or_ge y 133 with h133 | h133
              · rcases Nat.lt_or_ge y 132 with h132 | h132
                · rw [show y = 131 by omega] at hl ⊢; exact ck_a_131 pc hl
                · rw [show y = 132 by omega] at hl ⊢; exact ck_a_132 pc hl
              · rcases Nat.lt_or_ge y 134 with h134 | h134
                · rw [show y = 133 by omega] at hl ⊢; exact ck_a_133 pc hl
                · rcases Nat.lt_or_ge y 135 with h135 | h135
                  · rw [show y = 134 by omega] at hl ⊢; exact ck_a_134 pc hl
                  · rw [show y = 135 by omega] at hl ⊢; exact ck_a_135 pc hl
        · rcases Nat.lt_or_ge y 146 with h146 | h146
          · rcases Nat.lt_or_ge y 141 with h141 | h141
            · rcases Nat.lt_or_ge y 138 with h138 | h138
              · rcases Nat.lt_or_ge y 137 with h137 | h137
                · rw [show y = 136 by omega] at hl ⊢; exact ck_a_136 pc hl
                · rw [show y = 137 by omega] at hl ⊢; exact ck_a_137 pc hl
              · rcases Nat.lt_or_ge y 139 with h139 | h139
                · rw [show y = 138 by omega] at hl ⊢; exact ck_a_138 pc hl
                · rcases Nat.lt_or_ge y 140 with h140 | h140
                  · rw [show y = 139 by omega] at hl ⊢; exact ck_a_139 pc hl
                  · rw [show y = 140 by omega] at hl ⊢; exact ck_a_140 pc hl
            · rcases Nat.lt_or_ge y 143 with h143 | h143
              · rcases Nat.lt_or_ge y 142 with h142 | h142
                · rw [show y = 141 by omega] at hl ⊢; exact ck_a_141 pc hl
                · rw [show y = 142 by omega] at hl ⊢; exact ck_a_142 pc hl
              · rcases Nat.lt_or_ge y 144 with h144 | h144
                · rw [show y = 143 by omega] at hl ⊢; exact ck_a_143 pc hl
                · rcases Nat.lt_or_ge y 145 with h145 | h145
                  · rw [show y = 144 by omega] at hl ⊢; exact ck_a_144 pc hl
                  · rw [show y = 145 by omega] at hl ⊢; exact ck_a_145 pc hl
          · rcases Nat.lt_or_ge y 151 with h151 | h151
            · rcases Nat.lt_or_ge y 148 with h148 | h148
              · rcases Nat.lt_or_ge y 147 with h147 | h147
                · rw [show y = 146 by omega] at hl ⊢; exact ck_a_146 pc hl
                · rw [show y = 147 by omega] at hl ⊢; exact ck_a_147 pc hl
              · rcases Nat.lt_or_ge y 149 with h149 | h149
                · rw [show y = 148 by omega] at hl ⊢; exact ck_a_148 pc hl
                · rcases Nat.lt_or_ge y 150 with h150 | h150
                  · rw [show y = 149 by omega] at hl ⊢; exact ck_a_149 pc hl
                  · rw [show y = 150 by omega] at hl ⊢; exact ck_a_150 pc hl
            · rcases Nat.lt_or_ge y 153 with h153 | h153
              · rcases Nat.lt_or_ge y 152 with h152 | h152
                · rw [show y = 151 by omega] at hl ⊢; exact ck_a_151 pc hl
                · rw [show y = 152 by omega] at hl ⊢; exact ck_a_152 pc hl
              · rcases Nat.lt_or_ge y 154 with h154 | h154
                · rw [show y = 153 by omega] at hl ⊢; exact ck_a_153 pc hl
                · rcases Nat.lt_or_ge y 155 with h155 | h155
                  · rw [show y = 154 by omega] at hl ⊢; exact ck_a_154 pc hl
                  · rw [show y = 155 by omega] at hl ⊢; exact ck_a_155 pc hl
  · rcases Nat.lt_or_ge y 234 with h234 | h234
    · rcases Nat.lt_or_ge y 195 with h195 | h195
      · rcases Nat.lt_or_ge y 175 with h175 | h175
        · rcases Nat.lt_or_ge y 165 with h165 | h165
          · rcases Nat.lt_or_ge y 160 with h160 | h160
            · rcases Nat.lt_or_ge y 158 with h158 | h158
              · rcases Nat.lt_or_ge y 157 with h157 | h157
                · rw [show y = 156 by omega] at hl ⊢; exact ck_a_156 pc hl
                · rw [show y = 157 by omega] at hl ⊢; exact ck_a_157 pc hl
              · rcases Nat.lt_or_ge y 159 with h159 | h159
                · rw [show y = 158 by omega] at hl ⊢; exact ck_a_158 pc hl
                · rw [show y = 159 by omega] at hl ⊢; exact ck_a_159 pc hl
            · rcases Nat.lt_or_ge y 162 with h162 | h162
              · rcases Nat.lt_or_ge y 161 with h161 | h161
                · rw [show y = 160 by omega] at hl ⊢; exact ck_a_160 pc hl
                · rw [show y = 161 by omega] at hl ⊢; exact ck_a_161 pc hl
              · rcases Nat.lt_or_ge y 163 with h163 | h163
                · rw [show y = 162 by omega] at hl ⊢; exact ck_a_162 pc hl
                · rcases Nat.lt_or_ge y 164 with h164 | h164
                  · rw [show y = 163 by omega] at hl ⊢; exact ck_a_163 pc hl
                  · rw [show y = 164 by omega] at hl ⊢; exact ck_a_164 pc hl
          · rcases Nat.lt_or_ge y 170 with h170 | h170
            · rcases Nat.lt_or_ge y 167 with h167 | h167
              · rcases Nat.lt_or_ge y 166 with h166 | h166
                · rw [show y = 165 by omega] at hl ⊢; exact ck_a_165 pc hl
                · rw [show y = 166 by omega] at hl ⊢; exact ck_a_166 pc hl
              · rcases Nat.lt_or_ge y 168 with h168 | h168
                · rw [show y = 167 by omega] at hl ⊢; exact ck_a_167 pc hl
                · rcases Nat.lt_or_ge y 169 with h169 | h169
                  · rw [show y = 168 by omega] at hl ⊢; exact ck_a_168 pc hl
                  · rw [show y = 169 by omega] at hl ⊢; exact ck_a_169 pc hl
            · rcases Nat.lt_or_ge y 172 with h172 | h172
              · rcases Nat.lt_or_ge y 171 with h171 | h171
                · rw [show y = 170 by omega] at hl ⊢; exact ck_a_170 pc hl
                · rw [show y = 171 by omega] at hl ⊢; exact ck_a_171 pc hl
              · rcases Nat.lt_or_ge y 173 with h173 | h173
                · rw [show y = 172 by omega] at hl ⊢; exact ck_a_172 pc hl
                · rcases Nat.lt_or_ge y 174 with h174 | h174
                  · rw [show y = 173 by omega] at hl ⊢; exact ck_a_173 pc hl
                  · rw [show y = 174 by omega] at hl ⊢; exact ck_a_174 pc hl
        · rcases Nat.lt_or_ge y 185 with h185 | h185
          · rcases Nat.lt_or_ge y 180 with h180 | h180
            · rcases Nat.lt_or_ge y 177 with h177 | h177
              · rcases Nat.lt_or_ge y 176 with h176 | h176
                · rw [show y = 175 by omega] at hl ⊢; exact ck_a_175 pc hl
                · rw [show y = 176 by omega] at hl ⊢; exact ck_a_176 pc hl
              · rcases Nat.lt_or_ge y 178 with h178 | h178
                · rw [show y = 177 by omega] at hl ⊢; exact ck_a_177 pc hl
                · rcases Nat.lt_or_ge y 179 with h179 | h179
                  · rw [show y = 178 by omega] at hl ⊢; exact ck_a_178 pc hl
                  · rw [show y = 179 by omega] at hl ⊢; exact ck_a_179 pc hl
            · rcases Nat.lt_or_ge y 182 with h182 | h182
              · rcases Nat.lt_or_ge y 181 with h181 | h181
                · rw [show y = 180 by omega] at hl ⊢; exact ck_a_180 pc hl
                · rw [show y = 181 by omega] at hl ⊢; exact ck_a_181 pc hl
              · rcases Nat.lt_or_ge y 183 with h183 | h183
                · rw [show y = 182 by omega] at hl ⊢; exact ck_a_182 pc hl
                · rcases Nat.lt_or_ge y 184 with h184 | h184
                  · rw [show y = 183 by omega] at hl ⊢; exact ck_a_183 pc hl
                  · rw [show y = 184 by omega] at hl ⊢; exact ck_a_184 pc hl
          · rcases Nat.lt_or_ge y 190 with h190 | h190
            · rcases Nat.lt_or_ge y 187 with h187 | h187
              · rcases Nat.lt_or_ge y 186 with h186 | h186
                · rw [show y = 185 by omega] at hl ⊢; exact ck_a_185 pc hl
                · rw [show y = 186 by omega] at hl ⊢; exact ck_a_186 pc hl
              · rcases Nat.lt_or_ge y 188 with h188 | h188
                · rw [show y = 187 by omega] at hl ⊢; exact ck_a_187 pc hl
                · rcases Nat.lt_or_ge y 189 with h189 | h189
                  · rw [show y = 188 by omega] at hl ⊢; exact ck_a_188 pc hl
                  · rw [show y = 189 by omega] at hl ⊢; exact ck_a_189 pc hl
            · rcases Nat.lt_or_ge y 192 with h192 | h192
              · rcases Nat.lt_or_ge y 191 with h191 | h191
                · rw [show y = 190 by omega] at hl ⊢; exact ck_a_190 pc hl
                · rw [show y = 191 by omega] at hl ⊢; exact ck_a_191 pc hl
              · rcases Nat.lt_or_ge y 193 with h193 | h193
                · rw [show y = 192 by omega] at hl ⊢; exact ck_a_192 pc hl
                · rcases Nat.lt_or_ge y 194 with h194 | h194
                  · rw [show y = 193 by omega] at hl ⊢; exact ck_a_193 pc hl
                  · rw [show y = 194 by omega] at hl ⊢; exact ck_a_194 pc hl
      · rcases Nat.lt_or_ge y 214 with h214 | h214
        · rcases Nat.lt_or_ge y 204 with h204 | h204
          · rcases Nat.lt_or_ge y 199 with h199 | h199
            · rcases Nat.lt_or_ge y 197 with h197 | h197
              · rcases Nat.lt_or_ge y 196 with h196 | h196
                · rw [show y = 195 by omega] at hl ⊢; exact ck_a_195 pc hl
                · rw [show y = 196 by omega] at hl ⊢; exact ck_a_196 pc hl
              · rcases Nat.lt_or_ge y 198 with h198 | h198
                · rw [show y = 197 by omega] at hl ⊢; exact ck_a_197 pc hl
                · rw [show y = 198 by omega] at hl ⊢; exact ck_a_198 pc hl
            · rcases Nat.lt_or_ge y 201 with h201 | h201
              · rcases Nat.lt_or_ge y 200 with h200 | h200
                · rw [show y = 199 by omega] at hl ⊢; exact ck_a_199 pc hl
                · rw [show y = 200 by omega] at hl ⊢; exact ck_a_200 pc hl
              · rcases Nat.lt_or_ge y 202 with h202 | h202
                · rw [show y = 201 by omega] at hl ⊢; exact ck_a_201 pc hl
                · rcases Nat.lt_or_ge y 203 with h203 | h203
                  · rw [show y = 202 by omega] at hl ⊢; exact ck_a_202 pc hl
                  · rw [show y = 203 by omega] at hl ⊢; exact ck_a_203 pc hl
          · rcases Nat.lt_or_ge y 209 with h209 | h209
            · rcases Nat.lt_or_ge y 206 with h206 | h206
              · rcases Nat.lt_or_ge y 205 with h205 | h205
                · rw [show y = 204 by omega] at hl ⊢; exact ck_a_204 pc hl
                · rw [show y = 205 by omega] at hl ⊢; exact ck_a_205 pc hl
              · rcases Nat.lt_or_ge y 207 with h207 | h207
                · rw [show y = 206 by omega] at hl ⊢; exact ck_a_206 pc hl
                · rcases Nat.lt_or_ge y 208 with h208 | h208
                  · rw [show y = 207 by omega] at hl ⊢; exact ck_a_207 pc hl
                  · rw [show y = 208 by omega] at hl ⊢; exact ck_a_208 pc hl
            · rcases Nat.lt_or_ge y 211 with h211 | h211
              · rcases Nat.lt_or_ge y 210 with h210 | h210
                · rw [show y = 209 by omega] at hl ⊢; exact ck_a_209 pc hl
                · rw [show y = 210 by omega] at hl ⊢; exact ck_a_210 pc hl
              · rcases Nat.lt_or_ge y 212 with h212 | h212
                · rw [show y = 211 by omega] at hl ⊢; exact ck_a_211 pc hl
                · rcases Nat.lt_or_ge y 213 with h213 | h213
                  · rw [show y = 212 by omega] at hl ⊢; exact ck_a_212 pc hl
                  · rw [show y = 213 by omega] at hl ⊢; exact ck_a_213 pc hl
        · rcases Nat.lt_or_ge y 224 with h224 | h224
          · rcases Nat.lt_or_ge y 219 with h219 | h219
            · rcases Nat.lt_or_ge y 216 with h216 | h216
              · rcases Nat.lt_or_ge y 215 with h215 | h215
                · rw [show y = 214 by omega] at hl ⊢; exact ck_a_214 pc hl
                · rw [show y = 215 by omega] at hl ⊢; exact ck_a_215 pc hl
              · rcases Nat.lt_or_ge y 217 with h217 | h217
                · rw [show y = 216 by omega] at hl ⊢; exact ck_a_216 pc hl
                · rcases Nat.lt_or_ge y 218 with h218 | h218
                  · rw [show y = 217 by omega] at hl ⊢; exact ck_a_217 pc hl
                  · rw [show y = 218 by omega] at hl ⊢; exact ck_a_218 pc hl
            · rcases Nat.lt_or_ge y 221 with h221 | h221
              · rcases Nat.lt_or_ge y 220 with h220 | h220
                · rw [show y = 219 by omega] at hl ⊢; exact ck_a_219 pc hl
                · rw [show y = 220 by omega] at hl ⊢; exact ck_a_220 pc hl
              · rcases Nat.lt_or_ge y 222 with h222 | h222
                · rw [show y = 221 by omega] at hl ⊢; exact ck_a_221 pc hl
                · rcases Nat.lt_or_ge y 223 with h223 | h223
                  · rw [show y = 222 by omega] at hl ⊢; exact ck_a_222 pc hl
                  · rw [show y = 223 by omega] at hl ⊢; exact ck_a_223 pc hl
          · rcases Nat.lt_or_ge y 229 with h229 | h229
            · rcases Nat.lt_or_ge y 226 with h226 | h226
              · rcases Nat.lt_or_ge y 225 with h225 | h225
                · rw [show y = 224 by omega] at hl ⊢; exact ck_a_224 pc hl
                · rw [show y = 225 by omega] at hl ⊢; exact ck_a_225 pc hl
              · rcases Nat.lt_or_ge y 227 with h227 | h227
                · rw [show y = 226 by omega] at hl ⊢; exact ck_a_226 pc hl
                · rcases Nat.lt_or_ge y 228 with h228 | h228
                  · rw [show y = 227 by omega] at hl ⊢; exact ck_a_227 pc hl
                  · rw [show y = 228 by omega] at hl ⊢; exact ck_a_228 pc hl
            · rcases Nat.lt_or_ge y 231 with h231 | h231
              · rcases Nat.lt_or_ge y 230 with h230 | h230
                · rw [show y = 229 by omega] at hl ⊢; exact ck_a_229 pc hl
                · rw [show y = 230 by omega] at hl ⊢; exact ck_a_230 pc hl
              · rcases Nat.lt_or_ge y 232 with h232 | h232
                · rw [show y = 231 by omega] at hl ⊢; exact ck_a_231 pc hl
                · rcases Nat.lt_or_ge y 233 with h233 | h233
                  · rw [show y = 232 by omega] at hl ⊢; exact ck_a_232 pc hl
                  · rw [show y = 233 by omega] at hl ⊢; exact ck_a_233 pc hl
    · rcases Nat.lt_or_ge y 273 with h273 | h273
      · rcases Nat.lt_or_ge y 253 with h253 | h253
        · rcases Nat.lt_or_ge y 243 with h243 | h243
          · rcases Nat.lt_or_ge y 238 with h238 | h238
            · rcases Nat.lt_or_ge y 236 with h236 | h236
              · rcases Nat.lt_or_ge y 235 with h235 | h235
                · rw [show y = 234 by omega] at hl ⊢; exact ck_a_234 pc hl
                · rw [show y = 235 by omega] at hl ⊢; exact ck_a_235 pc hl
              · rcases Nat.lt_or_ge y 237 with h237 | h237
                · rw [show y = 236 by omega] at hl ⊢; exact ck_a_236 pc hl
                · rw [show y = 237 by omega] at hl ⊢; exact ck_a_237 pc hl
            · rcases Nat.lt_or_ge y 240 with h240 | h240
              · rcases Nat.lt_or_ge y 239 with h239 | h239
                · rw [show y = 238 by omega] at hl ⊢; exact ck_a_238 pc hl
                · rw [show y = 239 by omega] at hl ⊢; exact ck_a_239 pc hl
              · rcases Nat.lt_or_ge y 241 with h241 | h241
                · rw [show y = 240 by omega] at hl ⊢; exact ck_a_240 pc hl
                · rcases Nat.lt_or_ge y 242 with h242 | h242
                  · rw [show y = 241 by omega] at hl ⊢; exact ck_a_241 pc hl
                  · rw [show y = 242 by omega] at hl ⊢; exact ck_a_242 pc hl
          · rcases Nat.lt_or_ge y 248 with h248 | h248
            · rcases Nat.lt_or_ge y 245 with h245 | h245
              · rcases Nat.lt_or_ge y 244 with h244 | h244
                · rw [show y = 243 by omega] at hl ⊢; exact ck_a_243 pc hl
                · rw [show y = 244 by omega] at hl ⊢; exact ck_a_244 pc hl
              · rcases Nat.lt_or_ge y 246 with h246 | h246
                · rw [show y = 245 by omega] at hl ⊢; exact ck_a_245 pc hl
                · rcases Nat.lt_or_ge y 247 with h247 | h247
                  · rw [show y = 246 by omega] at hl ⊢; exact ck_a_246 pc hl
                  · rw [show y = 247 by omega] at hl ⊢; exact ck_a_247 pc hl
            · rcases Nat.lt_or_ge y 250 with h250 | h250
              · rcases Nat.lt_or_ge y 249 with h249 | h249
                · rw [show y = 248 by omega] at hl ⊢; exact ck_a_248 pc hl
                · rw [show y = 249 by omega] at hl ⊢; exact ck_a_249 pc hl
              · rcases Nat.lt_or_ge y 251 with h251 | h251
                · rw [show y = 250 by omega] at hl ⊢; exact ck_a_250 pc hl
                · rcases Nat.lt_or_ge y 252 with h252 | h252
                  · rw [show y = 251 by omega] at hl ⊢; exact ck_a_251 pc hl
                  · rw [show y = 252 by omega] at hl ⊢; exact ck_a_252 pc hl
        · rcases Nat.lt_or_ge y 263 with h263 | h263
          · rcases Nat.lt_or_ge y 258 with h258 | h258
            · rcases Nat.lt_or_ge y 255 with h255 | h255
              · rcases Nat.lt_or_ge y 254 with h254 | h254
                · rw [show y = 253 by omega] at hl ⊢; exact ck_a_253 pc hl
                · rw [show y = 254 by omega] at hl ⊢; exact ck_a_254 pc hl
              · rcases Nat.lt_or_ge y 256 with h256 | h256
                · rw [show y = 255 by omega] at hl ⊢; exact ck_a_255 pc hl
                · rcases Nat.lt_or_ge y 257 with h257 | h257
                  · rw [show y = 256 by omega] at hl ⊢; exact ck_a_256 pc hl
                  · rw [show y = 257 by omega] at hl ⊢; exact ck_a_257 pc hl
            · rcases Nat.lt_or_ge y 260 with h260 | h260
              · rcases Nat.lt_or_ge y 259 with h259 | h259
                · rw [show y = 258 by omega] at hl ⊢; exact ck_a_258 pc hl
                · rw [show y = 259 by omega] at hl ⊢; exact ck_a_259 pc hl
              · rcases Nat.lt_or_ge y 261 with h261 | h261
                · rw [show y = 260 by omega] at hl ⊢; exact ck_a_260 pc hl
                · rcases Nat.lt_or_ge y 262 with h262 | h262
                  · rw [show y = 261 by omega] at hl ⊢; exact ck_a_261 pc hl
                  · rw [show y = 262 by omega] at hl ⊢; exact ck_a_262 pc hl
          · rcases Nat.lt_or_ge y 268 with h268 | h268
            · rcases Nat.lt_or_ge y 265 with h265 | h265
              · rcases Nat.lt_or_ge y 264 with h264 | h264
                · rw [show y = 263 by omega] at hl ⊢; exact ck_a_263 pc hl
                · rw [show y = 264 by omega] at hl ⊢; exact ck_a_264 pc hl
              · rcases Nat.lt_or_ge y 266 with h266 | h266
                · rw [show y = 265 by omega] at hl ⊢; exact ck_a_265 pc hl
                · rcases Nat.lt_or_ge y 267 with h267 | h267
                  · rw [show y = 266 by omega] at hl ⊢; exact ck_a_266 pc hl
                  · rw [show y = 267 by omega] at hl ⊢; exact ck_a_267 pc hl
            · rcases Nat.lt_or_ge y 270 with h270 | h270
              · rcases Nat.lt_or_ge y 269 with h269 | h269
                · rw [show y = 268 by omega] at hl ⊢; exact ck_a_268 pc hl
                · rw [show y = 269 by omega] at hl ⊢; exact ck_a_269 pc hl
              · rcases Nat.lt_or_ge y 271 with h271 | h271
                · rw [show y = 270 by omega] at hl ⊢; exact ck_a_270 pc hl
                · rcases Nat.lt_or_ge y 272 with h272 | h272
                  · rw [show y = 271 by omega] at hl ⊢; exact ck_a_271 pc hl
                  · rw [show y = 272 by omega] at hl ⊢; exact ck_a_272 pc hl
      · rcases Nat.lt_or_ge y 292 with h292 | h292
        · rcases Nat.lt_or_ge y 282 with h282 | h282
          · rcases Nat.lt_or_ge y 277 with h277 | h277
            · rcases Nat.lt_or_ge y 275 with h275 | h275
              · rcases Nat.lt_or_ge y 274 with h274 | h274
                · rw [show y = 273 by omega] at hl ⊢; exact ck_a_273 pc hl
                · rw [show y = 274 by omega] at hl ⊢; exact ck_a_274 pc hl
              · rcases Nat.lt_or_ge y 276 with h276 | h276
                · rw [show y = 275 by omega] at hl ⊢; exact ck_a_275 pc hl
                · rw [show y = 276 by omega] at hl ⊢; exact ck_a_276 pc hl
            · rcases Nat.lt_or_ge y 279 with h279 | h279
              · rcases Nat.lt_or_ge y 278 with h278 | h278
                · rw [show y = 277 by omega] at hl ⊢; exact ck_a_277 pc hl
                · rw [show y = 278 by omega] at hl ⊢; exact ck_a_278 pc hl
              · rcases Nat.lt_or_ge y 280 with h280 | h280
                · rw [show y = 279 by omega] at hl ⊢; exact ck_a_279 pc hl
                · rcases Nat.lt_or_ge y 281 with h281 | h281
                  · rw [show y = 280 by omega] at hl ⊢; exact ck_a_280 pc hl
                  · rw [show y = 281 by omega] at hl ⊢; exact ck_a_281 pc hl
          · rcases Nat.lt_or_ge y 287 with h287 | h287
            · rcases Nat.lt_or_ge y 284 with h284 | h284
              · rcases Nat.lt_or_ge y 283 with h283 | h283
                · rw [show y = 282 by omega] at hl ⊢; exact ck_a_282 pc hl
                · rw [show y = 283 by omega] at hl ⊢; exact ck_a_283 pc hl
              · rcases Nat.lt_or_ge y 285 with h285 | h285
                · rw [show y = 284 by omega] at hl ⊢; exact ck_a_284 pc hl
                · rcases Nat.lt_or_ge y 286 with h286 | h286
                  · rw [show y = 285 by omega] at hl ⊢; exact ck_a_285 pc hl
                  · rw [show y = 286 by omega] at hl ⊢; exact ck_a_286 pc hl
            · rcases Nat.lt_or_ge y 289 with h289 | h289
              · rcases Nat.lt_or_ge y 288 with h288 | h288
                · rw [show y = 287 by omega] at hl ⊢; exact ck_a_287 pc hl
                · rw [show y = 288 by omega] at hl ⊢; exact ck_a_288 pc hl
              · rcases Nat.lt_or_ge y 290 with h290 | h290
                · rw [show y = 289 by omega] at hl ⊢; exact ck_a_289 pc hl
                · rcases Nat.lt_or_ge y 291 with h291 | h291
                  · rw [show y = 290 by omega] at hl ⊢; exact ck_a_290 pc hl
                  · rw [show y = 291 by omega] at hl ⊢; exact ck_a_291 pc hl
        · rcases Nat.lt_or_ge y 302 with h302 | h302
          · rcases Nat.lt_or_ge y 297 with h297 | h297
            · rcases Nat.lt_or_ge y 294 with h294 | h294
              · rcases Nat.lt_or_ge y 293 with h293 | h293
                · rw [show y = 292 by omega] at hl ⊢; exact ck_a_292 pc hl
                · rw [show y = 293 by omega] at hl ⊢; exact ck_a_293 pc hl
              · rcases Nat.lt_or_ge y 295 with h295 | h295
                · rw [show y = 294 by omega] at hl ⊢; exact ck_a_294 pc hl
                · rcases Nat.lt_or_ge y 296 with h296 | h296
                  · rw [show y = 295 by omega] at hl ⊢; exact ck_a_295 pc hl
                  · rw [show y = 296 by omega] at hl ⊢; exact ck_a_296 pc hl
            · rcases Nat.lt_or_ge y 299 with h299 | h299
              · rcases Nat.lt_or_ge y 298 with h298 | h298
                · rw [show y = 297 by omega] at hl ⊢; exact ck_a_297 pc hl
                · rw [show y = 298 by omega] at hl ⊢; exact ck_a_298 pc hl
              · rcases Nat.lt_or_ge y 300 with h300 | h300
                · rw [show y = 299 by omega] at hl ⊢; exact ck_a_299 pc hl
                · rcases Nat.lt_or_ge y 301 with h301 | h301
                  · rw [show y = 300 by omega] at hl ⊢; exact ck_a_300 pc hl
                  · rw [show y = 301 by omega] at hl ⊢; exact ck_a_301 pc hl
          · rcases Nat.lt_or_ge y 307 with h307 | h307
            · rcases Nat.lt_or_ge y 304 with h304 | h304
              · rcases Nat.lt_or_ge y 303 with h303 | h303
                · rw [show y = 302 by omega] at hl ⊢; exact ck_a_302 pc hl
                · rw [show y = 303 by omega] at hl ⊢; exact ck_a_303 pc hl
              · rcases Nat.lt_or_ge y 305 with h305 | h305
                · rw [show y = 304 by omega] at hl ⊢; exact ck_a_304 pc hl
                · rcases Nat.lt_or_ge y 306 with h306 | h306
                  · rw [show y = 305 by omega] at hl ⊢; exact ck_a_305 pc hl
                  · rw [show y = 306 by omega] at hl ⊢; exact ck_a_306 pc hl
            · rcases Nat.lt_or_ge y 309 with h309 | h309
              · rcases Nat.lt_or_ge y 308 with h308 | h308
                · rw [show y = 307 by omega] at hl ⊢; exact ck_a_307 pc hl
                · rw [show y = 308 by omega] at hl ⊢; exact ck_a_308 pc hl
              · rcases Nat.lt_or_ge y 310 with h310 | h310
                · rw [show y = 309 by omega] at hl ⊢; exact ck_a_309 pc hl
                · rcases Nat.lt_or_ge y 311 with h311 | h311
                  · rw [show y = 310 by omega] at hl ⊢; exact ck_a_310 pc hl
                  · rw [show y = 311 by omega] at hl ⊢; exact ck_a_311 pc hl

theorem ck_Tab : ∀ y pc en, mm_nth (mm_cd y) pc = some (some en) → decode (mm_by y) pc = .ok (en.1, mm_ln en) ∧ sd_En y pc en := by
  intro y pc en h
  have hy : y < 312 := by
    rcases Nat.lt_or_ge y 312 with h1 | h1
    · exact h1
    · have hb : Nat.blt y 312 = false := by
        cases hc : Nat.blt y 312 with
        | false => rfl
        | true => have := Nat.le_of_ble_eq_true hc; omega
      have e : mm_cd y = [] := by unfold mm_cd; rw [hb]; rfl
      rw [e] at h
      cases h
  have h1 := ck_all hy (ck_len h)
  unfold ck_at at h1
  rw [h] at h1
  simp only [Bool.and_eq_true, decide_eq_true_eq] at h1
  exact ⟨h1.1, ck_En h1.2⟩
