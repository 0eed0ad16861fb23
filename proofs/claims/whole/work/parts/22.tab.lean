theorem ck_len {α : Type} : ∀ {l : List α} {i : Nat} {x : α}, mm_nth l i = some x → i < l.length
  | [], _, _, h => by cases h
  | _ :: _, 0, _, _ => Nat.succ_pos _
  | _ :: l, i + 1, _, h => Nat.succ_lt_succ (ck_len (l := l) h)
theorem ck_l_0 : (mm_cd 0).length = 35 := by decide +kernel
theorem ck_l_1 : (mm_cd 1).length = 40 := by decide +kernel
theorem ck_l_2 : (mm_cd 2).length = 91 := by decide +kernel
theorem ck_l_3 : (mm_cd 3).length = 24 := by decide +kernel
theorem ck_l_4 : (mm_cd 4).length = 10 := by decide +kernel
theorem ck_l_5 : (mm_cd 5).length = 18 := by decide +kernel
theorem ck_l_6 : (mm_cd 6).length = 45 := by decide +kernel
theorem ck_l_7 : (mm_cd 7).length = 122 := by decide +kernel
theorem ck_l_8 : (mm_cd 8).length = 97 := by decide +kernel
theorem ck_l_9 : (mm_cd 9).length = 95 := by decide +kernel
theorem ck_l_10 : (mm_cd 10).length = 99 := by decide +kernel
theorem ck_l_11 : (mm_cd 11).length = 145 := by decide +kernel
theorem ck_l_12 : (mm_cd 12).length = 42 := by decide +kernel
theorem ck_l_13 : (mm_cd 13).length = 113 := by decide +kernel
theorem ck_l_14 : (mm_cd 14).length = 67 := by decide +kernel
theorem ck_l_15 : (mm_cd 15).length = 87 := by decide +kernel
theorem ck_l_16 : (mm_cd 16).length = 32 := by decide +kernel
theorem ck_l_17 : (mm_cd 17).length = 20 := by decide +kernel
theorem ck_l_18 : (mm_cd 18).length = 72 := by decide +kernel
theorem ck_l_19 : (mm_cd 19).length = 33 := by decide +kernel
theorem ck_l_20 : (mm_cd 20).length = 101 := by decide +kernel
theorem ck_l_21 : (mm_cd 21).length = 24 := by decide +kernel
theorem ck_l_22 : (mm_cd 22).length = 58 := by decide +kernel
theorem ck_l_23 : (mm_cd 23).length = 72 := by decide +kernel
theorem ck_l_24 : (mm_cd 24).length = 102 := by decide +kernel
theorem ck_l_25 : (mm_cd 25).length = 37 := by decide +kernel
theorem ck_l_26 : (mm_cd 26).length = 72 := by decide +kernel
theorem ck_l_27 : (mm_cd 27).length = 72 := by decide +kernel
theorem ck_l_28 : (mm_cd 28).length = 91 := by decide +kernel
theorem ck_l_29 : (mm_cd 29).length = 18 := by decide +kernel
theorem ck_l_30 : (mm_cd 30).length = 24 := by decide +kernel
theorem ck_l_31 : (mm_cd 31).length = 96 := by decide +kernel
theorem ck_l_32 : (mm_cd 32).length = 175 := by decide +kernel
theorem ck_l_33 : (mm_cd 33).length = 23 := by decide +kernel
theorem ck_l_34 : (mm_cd 34).length = 22 := by decide +kernel
theorem ck_l_35 : (mm_cd 35).length = 85 := by decide +kernel
theorem ck_l_36 : (mm_cd 36).length = 196 := by decide +kernel
theorem ck_l_37 : (mm_cd 37).length = 29 := by decide +kernel
theorem ck_l_38 : (mm_cd 38).length = 54 := by decide +kernel
theorem ck_l_39 : (mm_cd 39).length = 5 := by decide +kernel
theorem ck_l_40 : (mm_cd 40).length = 6 := by decide +kernel
theorem ck_l_41 : (mm_cd 41).length = 54 := by decide +kernel
theorem ck_l_42 : (mm_cd 42).length = 45 := by decide +kernel
theorem ck_l_43 : (mm_cd 43).length = 34 := by decide +kernel
theorem ck_l_44 : (mm_cd 44).length = 40 := by decide +kernel
theorem ck_l_45 : (mm_cd 45).length = 23 := by decide +kernel
theorem ck_l_46 : (mm_cd 46).length = 19 := by decide +kernel
theorem ck_l_47 : (mm_cd 47).length = 10 := by decide +kernel
theorem ck_l_48 : (mm_cd 48).length = 82 := by decide +kernel
theorem ck_l_49 : (mm_cd 49).length = 42 := by decide +kernel
theorem ck_l_50 : (mm_cd 50).length = 128 := by decide +kernel
theorem ck_l_51 : (mm_cd 51).length = 18 := by decide +kernel
theorem ck_l_52 : (mm_cd 52).length = 16 := by decide +kernel
theorem ck_l_53 : (mm_cd 53).length = 32 := by decide +kernel
theorem ck_l_54 : (mm_cd 54).length = 41 := by decide +kernel
theorem ck_l_55 : (mm_cd 55).length = 24 := by decide +kernel
theorem ck_l_56 : (mm_cd 56).length = 26 := by decide +kernel
theorem ck_l_57 : (mm_cd 57).length = 21 := by decide +kernel
theorem ck_l_58 : (mm_cd 58).length = 50 := by decide +kernel
theorem ck_l_59 : (mm_cd 59).length = 5 := by decide +kernel
theorem ck_l_60 : (mm_cd 60).length = 6 := by decide +kernel
theorem ck_l_61 : (mm_cd 61).length = 81 := by decide +kernel
theorem ck_l_62 : (mm_cd 62).length = 27 := by decide +kernel
theorem ck_l_63 : (mm_cd 63).length = 6 := by decide +kernel
theorem ck_l_64 : (mm_cd 64).length = 32 := by decide +kernel
theorem ck_l_65 : (mm_cd 65).length = 142 := by decide +kernel
theorem ck_l_66 : (mm_cd 66).length = 110 := by decide +kernel
theorem ck_l_67 : (mm_cd 67).length = 88 := by decide +kernel
theorem ck_l_68 : (mm_cd 68).length = 24 := by decide +kernel
theorem ck_l_69 : (mm_cd 69).length = 23 := by decide +kernel
theorem ck_l_70 : (mm_cd 70).length = 24 := by decide +kernel
theorem ck_l_71 : (mm_cd 71).length = 36 := by decide +kernel
theorem ck_l_72 : (mm_cd 72).length = 26 := by decide +kernel
theorem ck_l_73 : (mm_cd 73).length = 66 := by decide +kernel
theorem ck_l_74 : (mm_cd 74).length = 108 := by decide +kernel
theorem ck_l_75 : (mm_cd 75).length = 65 := by decide +kernel
theorem ck_l_76 : (mm_cd 76).length = 24 := by decide +kernel
theorem ck_l_77 : (mm_cd 77).length = 35 := by decide +kernel
theorem ck_l_78 : (mm_cd 78).length = 58 := by decide +kernel
theorem ck_l_79 : (mm_cd 79).length = 5 := by decide +kernel
theorem ck_l_80 : (mm_cd 80).length = 6 := by decide +kernel
theorem ck_l_81 : (mm_cd 81).length = 6 := by decide +kernel
theorem ck_l_82 : (mm_cd 82).length = 5 := by decide +kernel
theorem ck_l_83 : (mm_cd 83).length = 45 := by decide +kernel
theorem ck_l_84 : (mm_cd 84).length = 27 := by decide +kernel
theorem ck_l_85 : (mm_cd 85).length = 11 := by decide +kernel
theorem ck_l_86 : (mm_cd 86).length = 22 := by decide +kernel
theorem ck_l_87 : (mm_cd 87).length = 76 := by decide +kernel
theorem ck_l_88 : (mm_cd 88).length = 18 := by decide +kernel
theorem ck_l_89 : (mm_cd 89).length = 35 := by decide +kernel
theorem ck_l_90 : (mm_cd 90).length = 31 := by decide +kernel
theorem ck_l_91 : (mm_cd 91).length = 49 := by decide +kernel
theorem ck_l_92 : (mm_cd 92).length = 209 := by decide +kernel
theorem ck_l_93 : (mm_cd 93).length = 96 := by decide +kernel
theorem ck_l_94 : (mm_cd 94).length = 27 := by decide +kernel
theorem ck_l_95 : (mm_cd 95).length = 38 := by decide +kernel
theorem ck_l_96 : (mm_cd 96).length = 82 := by decide +kernel
theorem ck_l_97 : (mm_cd 97).length = 47 := by decide +kernel
theorem ck_l_98 : (mm_cd 98).length = 40 := by decide +kernel
theorem ck_l_99 : (mm_cd 99).length = 24 := by decide +kernel
theorem ck_l_100 : (mm_cd 100).length = 86 := by decide +kernel
theorem ck_l_101 : (mm_cd 101).length = 24 := by decide +kernel
theorem ck_l_102 : (mm_cd 102).length = 101 := by decide +kernel
theorem ck_l_103 : (mm_cd 103).length = 21 := by decide +kernel
theorem ck_l_104 : (mm_cd 104).length = 28 := by decide +kernel
theorem ck_l_105 : (mm_cd 105).length = 28 := by decide +kernel
theorem ck_l_106 : (mm_cd 106).length = 20 := by decide +kernel
theorem ck_l_107 : (mm_cd 107).length = 22 := by decide +kernel
theorem ck_l_108 : (mm_cd 108).length = 27 := by decide +kernel
theorem ck_l_109 : (mm_cd 109).length = 87 := by decide +kernel
theorem ck_l_110 : (mm_cd 110).length = 118 := by decide +kernel
theorem ck_l_111 : (mm_cd 111).length = 59 := by decide +kernel
theorem ck_l_112 : (mm_cd 112).length = 91 := by decide +kernel
theorem ck_l_113 : (mm_cd 113).length = 137 := by decide +kernel
theorem ck_l_114 : (mm_cd 114).length = 50 := by decide +kernel
theorem ck_l_115 : (mm_cd 115).length = 120 := by decide +kernel
theorem ck_l_116 : (mm_cd 116).length = 83 := by decide +kernel
theorem ck_l_117 : (mm_cd 117).length = 20 := by decide +kernel
theorem ck_l_118 : (mm_cd 118).length = 29 := by decide +kernel
theorem ck_l_119 : (mm_cd 119).length = 149 := by decide +kernel
theorem ck_l_120 : (mm_cd 120).length = 52 := by decide +kernel
theorem ck_l_121 : (mm_cd 121).length = 81 := by decide +kernel
theorem ck_l_122 : (mm_cd 122).length = 41 := by decide +kernel
theorem ck_l_123 : (mm_cd 123).length = 71 := by decide +kernel
theorem ck_l_124 : (mm_cd 124).length = 37 := by decide +kernel
theorem ck_l_125 : (mm_cd 125).length = 24 := by decide +kernel
theorem ck_l_126 : (mm_cd 126).length = 53 := by decide +kernel
theorem ck_l_127 : (mm_cd 127).length = 86 := by decide +kernel
theorem ck_l_128 : (mm_cd 128).length = 54 := by decide +kernel
theorem ck_l_129 : (mm_cd 129).length = 34 := by decide +kernel
theorem ck_l_130 : (mm_cd 130).length = 36 := by decide +kernel
theorem ck_l_131 : (mm_cd 131).length = 22 := by decide +kernel
theorem ck_l_132 : (mm_cd 132).length = 26 := by decide +kernel
theorem ck_l_133 : (mm_cd 133).length = 98 := by decide +kernel
theorem ck_l_134 : (mm_cd 134).length = 56 := by decide +kernel
theorem ck_l_135 : (mm_cd 135).length = 23 := by decide +kernel
theorem ck_l_136 : (mm_cd 136).length = 49 := by decide +kernel
theorem ck_l_137 : (mm_cd 137).length = 110 := by decide +kernel
theorem ck_l_138 : (mm_cd 138).length = 223 := by decide +kernel
theorem ck_l_139 : (mm_cd 139).length = 52 := by decide +kernel
theorem ck_l_140 : (mm_cd 140).length = 81 := by decide +kernel
theorem ck_l_141 : (mm_cd 141).length = 53 := by decide +kernel
theorem ck_l_142 : (mm_cd 142).length = 88 := by decide +kernel
theorem ck_l_143 : (mm_cd 143).length = 65 := by decide +kernel
theorem ck_l_144 : (mm_cd 144).length = 92 := by decide +kernel
theorem ck_l_145 : (mm_cd 145).length = 136 := by decide +kernel
theorem ck_l_146 : (mm_cd 146).length = 93 := by decide +kernel
theorem ck_l_147 : (mm_cd 147).length = 125 := by decide +kernel
theorem ck_l_148 : (mm_cd 148).length = 35 := by decide +kernel
theorem ck_l_149 : (mm_cd 149).length = 74 := by decide +kernel
theorem ck_l_150 : (mm_cd 150).length = 89 := by decide +kernel
theorem ck_l_151 : (mm_cd 151).length = 93 := by decide +kernel
theorem ck_l_152 : (mm_cd 152).length = 27 := by decide +kernel
theorem ck_l_153 : (mm_cd 153).length = 52 := by decide +kernel
theorem ck_l_154 : (mm_cd 154).length = 33 := by decide +kernel
theorem ck_l_155 : (mm_cd 155).length = 28 := by decide +kernel
theorem ck_l_156 : (mm_cd 156).length = 26 := by decide +kernel
theorem ck_l_157 : (mm_cd 157).length = 22 := by decide +kernel
theorem ck_l_158 : (mm_cd 158).length = 15 := by decide +kernel
theorem ck_l_159 : (mm_cd 159).length = 123 := by decide +kernel
theorem ck_l_160 : (mm_cd 160).length = 51 := by decide +kernel
theorem ck_l_161 : (mm_cd 161).length = 56 := by decide +kernel
theorem ck_l_162 : (mm_cd 162).length = 51 := by decide +kernel
theorem ck_l_163 : (mm_cd 163).length = 26 := by decide +kernel
theorem ck_l_164 : (mm_cd 164).length = 134 := by decide +kernel
theorem ck_l_165 : (mm_cd 165).length = 80 := by decide +kernel
theorem ck_l_166 : (mm_cd 166).length = 101 := by decide +kernel
theorem ck_l_167 : (mm_cd 167).length = 50 := by decide +kernel
theorem ck_l_168 : (mm_cd 168).length = 49 := by decide +kernel
theorem ck_l_169 : (mm_cd 169).length = 71 := by decide +kernel
theorem ck_l_170 : (mm_cd 170).length = 70 := by decide +kernel
theorem ck_l_171 : (mm_cd 171).length = 48 := by decide +kernel
theorem ck_l_172 : (mm_cd 172).length = 33 := by decide +kernel
theorem ck_l_173 : (mm_cd 173).length = 35 := by decide +kernel
theorem ck_l_174 : (mm_cd 174).length = 142 := by decide +kernel
theorem ck_l_175 : (mm_cd 175).length = 18 := by decide +kernel
theorem ck_l_176 : (mm_cd 176).length = 15 := by decide +kernel
theorem ck_l_177 : (mm_cd 177).length = 27 := by decide +kernel
theorem ck_l_178 : (mm_cd 178).length = 16 := by decide +kernel
theorem ck_l_179 : (mm_cd 179).length = 15 := by decide +kernel
theorem ck_l_180 : (mm_cd 180).length = 274 := by decide +kernel
theorem ck_l_181 : (mm_cd 181).length = 5 := by decide +kernel
theorem ck_l_182 : (mm_cd 182).length = 65 := by decide +kernel
theorem ck_l_183 : (mm_cd 183).length = 120 := by decide +kernel
theorem ck_l_184 : (mm_cd 184).length = 21 := by decide +kernel
theorem ck_l_185 : (mm_cd 185).length = 25 := by decide +kernel
theorem ck_l_186 : (mm_cd 186).length = 27 := by decide +kernel
theorem ck_l_187 : (mm_cd 187).length = 24 := by decide +kernel
theorem ck_l_188 : (mm_cd 188).length = 18 := by decide +kernel
theorem ck_l_189 : (mm_cd 189).length = 62 := by decide +kernel
theorem ck_l_190 : (mm_cd 190).length = 62 := by decide +kernel
theorem ck_l_191 : (mm_cd 191).length = 34 := by decide +kernel
theorem ck_l_192 : (mm_cd 192).length = 41 := by decide +kernel
theorem ck_l_193 : (mm_cd 193).length = 64 := by decide +kernel
theorem ck_l_194 : (mm_cd 194).length = 90 := by decide +kernel
theorem ck_l_195 : (mm_cd 195).length = 84 := by decide +kernel
theorem ck_l_196 : (mm_cd 196).length = 84 := by decide +kernel
theorem ck_l_197 : (mm_cd 197).length = 24 := by decide +kernel
theorem ck_l_198 : (mm_cd 198).length = 73 := by decide +kernel
theorem ck_l_199 : (mm_cd 199).length = 95 := by decide +kernel
theorem ck_l_200 : (mm_cd 200).length = 42 := by decide +kernel
theorem ck_l_201 : (mm_cd 201).length = 46 := by decide +kernel
theorem ck_l_202 : (mm_cd 202).length = 13 := by decide +kernel
theorem ck_l_203 : (mm_cd 203).length = 280 := by decide +kernel
theorem ck_l_204 : (mm_cd 204).length = 35 := by decide +kernel
theorem ck_l_205 : (mm_cd 205).length = 25 := by decide +kernel
theorem ck_l_206 : (mm_cd 206).length = 48 := by decide +kernel
theorem ck_l_207 : (mm_cd 207).length = 15 := by decide +kernel
theorem ck_l_208 : (mm_cd 208).length = 162 := by decide +kernel
theorem ck_l_209 : (mm_cd 209).length = 178 := by decide +kernel
theorem ck_l_210 : (mm_cd 210).length = 83 := by decide +kernel
theorem ck_l_211 : (mm_cd 211).length = 109 := by decide +kernel
theorem ck_l_212 : (mm_cd 212).length = 134 := by decide +kernel
theorem ck_l_213 : (mm_cd 213).length = 27 := by decide +kernel
theorem ck_l_214 : (mm_cd 214).length = 94 := by decide +kernel
theorem ck_l_215 : (mm_cd 215).length = 89 := by decide +kernel
theorem ck_l_216 : (mm_cd 216).length = 132 := by decide +kernel
theorem ck_l_217 : (mm_cd 217).length = 120 := by decide +kernel
theorem ck_l_218 : (mm_cd 218).length = 307 := by decide +kernel
theorem ck_l_219 : (mm_cd 219).length = 27 := by decide +kernel
theorem ck_l_220 : (mm_cd 220).length = 12 := by decide +kernel
theorem ck_l_221 : (mm_cd 221).length = 13 := by decide +kernel
theorem ck_l_222 : (mm_cd 222).length = 58 := by decide +kernel
theorem ck_l_223 : (mm_cd 223).length = 165 := by decide +kernel
theorem ck_l_224 : (mm_cd 224).length = 71 := by decide +kernel
theorem ck_l_225 : (mm_cd 225).length = 26 := by decide +kernel
theorem ck_l_226 : (mm_cd 226).length = 24 := by decide +kernel
theorem ck_l_227 : (mm_cd 227).length = 14 := by decide +kernel
theorem ck_l_228 : (mm_cd 228).length = 27 := by decide +kernel
theorem ck_l_229 : (mm_cd 229).length = 29 := by decide +kernel
theorem ck_l_230 : (mm_cd 230).length = 14 := by decide +kernel
theorem ck_l_231 : (mm_cd 231).length = 29 := by decide +kernel
theorem ck_l_232 : (mm_cd 232).length = 36 := by decide +kernel
theorem ck_l_233 : (mm_cd 233).length = 42 := by decide +kernel
theorem ck_l_234 : (mm_cd 234).length = 59 := by decide +kernel
theorem ck_l_235 : (mm_cd 235).length = 140 := by decide +kernel
theorem ck_l_236 : (mm_cd 236).length = 193 := by decide +kernel
theorem ck_l_237 : (mm_cd 237).length = 39 := by decide +kernel
theorem ck_l_238 : (mm_cd 238).length = 95 := by decide +kernel
theorem ck_l_239 : (mm_cd 239).length = 130 := by decide +kernel
theorem ck_l_240 : (mm_cd 240).length = 42 := by decide +kernel
theorem ck_l_241 : (mm_cd 241).length = 19 := by decide +kernel
theorem ck_l_242 : (mm_cd 242).length = 45 := by decide +kernel
theorem ck_l_243 : (mm_cd 243).length = 18 := by decide +kernel
theorem ck_l_244 : (mm_cd 244).length = 23 := by decide +kernel
theorem ck_l_245 : (mm_cd 245).length = 27 := by decide +kernel
theorem ck_l_246 : (mm_cd 246).length = 99 := by decide +kernel
theorem ck_l_247 : (mm_cd 247).length = 26 := by decide +kernel
theorem ck_l_248 : (mm_cd 248).length = 31 := by decide +kernel
theorem ck_l_249 : (mm_cd 249).length = 76 := by decide +kernel
theorem ck_l_250 : (mm_cd 250).length = 107 := by decide +kernel
theorem ck_l_251 : (mm_cd 251).length = 74 := by decide +kernel
theorem ck_l_252 : (mm_cd 252).length = 91 := by decide +kernel
theorem ck_l_253 : (mm_cd 253).length = 26 := by decide +kernel
theorem ck_l_254 : (mm_cd 254).length = 139 := by decide +kernel
theorem ck_l_255 : (mm_cd 255).length = 65 := by decide +kernel
theorem ck_l_256 : (mm_cd 256).length = 97 := by decide +kernel
theorem ck_l_257 : (mm_cd 257).length = 77 := by decide +kernel
theorem ck_l_258 : (mm_cd 258).length = 28 := by decide +kernel
theorem ck_l_259 : (mm_cd 259).length = 78 := by decide +kernel
theorem ck_l_260 : (mm_cd 260).length = 57 := by decide +kernel
theorem ck_l_261 : (mm_cd 261).length = 20 := by decide +kernel
theorem ck_l_262 : (mm_cd 262).length = 60 := by decide +kernel
theorem ck_l_263 : (mm_cd 263).length = 54 := by decide +kernel
theorem ck_l_264 : (mm_cd 264).length = 32 := by decide +kernel
theorem ck_l_265 : (mm_cd 265).length = 32 := by decide +kernel
theorem ck_l_266 : (mm_cd 266).length = 56 := by decide +kernel
theorem ck_l_267 : (mm_cd 267).length = 68 := by decide +kernel
theorem ck_l_268 : (mm_cd 268).length = 20 := by decide +kernel
theorem ck_l_269 : (mm_cd 269).length = 29 := by decide +kernel
theorem ck_l_270 : (mm_cd 270).length = 95 := by decide +kernel
theorem ck_l_271 : (mm_cd 271).length = 31 := by decide +kernel
theorem ck_l_272 : (mm_cd 272).length = 187 := by decide +kernel
theorem ck_l_273 : (mm_cd 273).length = 187 := by decide +kernel
theorem ck_l_274 : (mm_cd 274).length = 66 := by decide +kernel
theorem ck_l_275 : (mm_cd 275).length = 269 := by decide +kernel
theorem ck_l_276 : (mm_cd 276).length = 27 := by decide +kernel
theorem ck_l_277 : (mm_cd 277).length = 116 := by decide +kernel
theorem ck_l_278 : (mm_cd 278).length = 96 := by decide +kernel
theorem ck_l_279 : (mm_cd 279).length = 71 := by decide +kernel
theorem ck_l_280 : (mm_cd 280).length = 65 := by decide +kernel
theorem ck_l_281 : (mm_cd 281).length = 85 := by decide +kernel
theorem ck_l_282 : (mm_cd 282).length = 149 := by decide +kernel
theorem ck_l_283 : (mm_cd 283).length = 27 := by decide +kernel
theorem ck_l_284 : (mm_cd 284).length = 13 := by decide +kernel
theorem ck_l_285 : (mm_cd 285).length = 27 := by decide +kernel
theorem ck_l_286 : (mm_cd 286).length = 69 := by decide +kernel
theorem ck_l_287 : (mm_cd 287).length = 52 := by decide +kernel
theorem ck_l_288 : (mm_cd 288).length = 85 := by decide +kernel
theorem ck_l_289 : (mm_cd 289).length = 27 := by decide +kernel
theorem ck_l_290 : (mm_cd 290).length = 100 := by decide +kernel
theorem ck_l_291 : (mm_cd 291).length = 124 := by decide +kernel
theorem ck_l_292 : (mm_cd 292).length = 56 := by decide +kernel
theorem ck_l_293 : (mm_cd 293).length = 50 := by decide +kernel
theorem ck_l_294 : (mm_cd 294).length = 52 := by decide +kernel
theorem ck_l_295 : (mm_cd 295).length = 48 := by decide +kernel
theorem ck_l_296 : (mm_cd 296).length = 66 := by decide +kernel
theorem ck_l_297 : (mm_cd 297).length = 40 := by decide +kernel
theorem ck_l_298 : (mm_cd 298).length = 177 := by decide +kernel
theorem ck_l_299 : (mm_cd 299).length = 49 := by decide +kernel
theorem ck_l_300 : (mm_cd 300).length = 49 := by decide +kernel
theorem ck_l_301 : (mm_cd 301).length = 120 := by decide +kernel
theorem ck_l_302 : (mm_cd 302).length = 53 := by decide +kernel
theorem ck_l_303 : (mm_cd 303).length = 30 := by decide +kernel
theorem ck_l_304 : (mm_cd 304).length = 20 := by decide +kernel
theorem ck_l_305 : (mm_cd 305).length = 11 := by decide +kernel
theorem ck_l_306 : (mm_cd 306).length = 11 := by decide +kernel
theorem ck_l_307 : (mm_cd 307).length = 12 := by decide +kernel
theorem ck_l_308 : (mm_cd 308).length = 11 := by decide +kernel
theorem ck_l_309 : (mm_cd 309).length = 12 := by decide +kernel
theorem ck_l_310 : (mm_cd 310).length = 0 := by decide +kernel
theorem ck_l_311 : (mm_cd 311).length = 1603 := by decide +kernel
theorem ck_all {y pc : Nat} (hy : y < 312) (hl : pc < (mm_cd y).length) : ck_at y pc = true := by
  rcases Nat.lt_or_ge y 156 with h156 | h156
  · rcases Nat.lt_or_ge y 78 with h78 | h78
    · rcases Nat.lt_or_ge y 39 with h39 | h39
      · rcases Nat.lt_or_ge y 19 with h19 | h19
        · rcases Nat.lt_or_ge y 9 with h9 | h9
          · rcases Nat.lt_or_ge y 4 with h4 | h4
            · rcases Nat.lt_or_ge y 2 with h2 | h2
              · rcases Nat.lt_or_ge y 1 with h1 | h1
                · rw [show y = 0 by omega] at hl ⊢; exact ck_a_0 pc (ck_l_0 ▸ hl)
                · rw [show y = 1 by omega] at hl ⊢; exact ck_a_1 pc (ck_l_1 ▸ hl)
              · rcases Nat.lt_or_ge y 3 with h3 | h3
                · rw [show y = 2 by omega] at hl ⊢; exact ck_a_2 pc (ck_l_2 ▸ hl)
                · rw [show y = 3 by omega] at hl ⊢; exact ck_a_3 pc (ck_l_3 ▸ hl)
            · rcases Nat.lt_or_ge y 6 with h6 | h6
              · rcases Nat.lt_or_ge y 5 with h5 | h5
                · rw [show y = 4 by omega] at hl ⊢; exact ck_a_4 pc (ck_l_4 ▸ hl)
                · rw [show y = 5 by omega] at hl ⊢; exact ck_a_5 pc (ck_l_5 ▸ hl)
              · rcases Nat.lt_or_ge y 7 with h7 | h7
                · rw [show y = 6 by omega] at hl ⊢; exact ck_a_6 pc (ck_l_6 ▸ hl)
                · rcases Nat.lt_or_ge y 8 with h8 | h8
                  · rw [show y = 7 by omega] at hl ⊢; exact ck_a_7 pc (ck_l_7 ▸ hl)
                  · rw [show y = 8 by omega] at hl ⊢; exact ck_a_8 pc (ck_l_8 ▸ hl)
          · rcases Nat.lt_or_ge y 14 with h14 | h14
            · rcases Nat.lt_or_ge y 11 with h11 | h11
              · rcases Nat.lt_or_ge y 10 with h10 | h10
                · rw [show y = 9 by omega] at hl ⊢; exact ck_a_9 pc (ck_l_9 ▸ hl)
                · rw [show y = 10 by omega] at hl ⊢; exact ck_a_10 pc (ck_l_10 ▸ hl)
              · rcases Nat.lt_or_ge y 12 with h12 | h12
                · rw [show y = 11 by omega] at hl ⊢; exact ck_a_11 pc (ck_l_11 ▸ hl)
                · rcases Nat.lt_or_ge y 13 with h13 | h13
                  · rw [show y = 12 by omega] at hl ⊢; exact ck_a_12 pc (ck_l_12 ▸ hl)
                  · rw [show y = 13 by omega] at hl ⊢; exact ck_a_13 pc (ck_l_13 ▸ hl)
            · rcases Nat.lt_or_ge y 16 with h16 | h16
              · rcases Nat.lt_or_ge y 15 with h15 | h15
                · rw [show y = 14 by omega] at hl ⊢; exact ck_a_14 pc (ck_l_14 ▸ hl)
                · rw [show y = 15 by omega] at hl ⊢; exact ck_a_15 pc (ck_l_15 ▸ hl)
              · rcases Nat.lt_or_ge y 17 with h17 | h17
                · rw [show y = 16 by omega] at hl ⊢; exact ck_a_16 pc (ck_l_16 ▸ hl)
                · rcases Nat.lt_or_ge y 18 with h18 | h18
                  · rw [show y = 17 by omega] at hl ⊢; exact ck_a_17 pc (ck_l_17 ▸ hl)
                  · rw [show y = 18 by omega] at hl ⊢; exact ck_a_18 pc (ck_l_18 ▸ hl)
        · rcases Nat.lt_or_ge y 29 with h29 | h29
          · rcases Nat.lt_or_ge y 24 with h24 | h24
            · rcases Nat.lt_or_ge y 21 with h21 | h21
              · rcases Nat.lt_or_ge y 20 with h20 | h20
                · rw [show y = 19 by omega] at hl ⊢; exact ck_a_19 pc (ck_l_19 ▸ hl)
                · rw [show y = 20 by omega] at hl ⊢; exact ck_a_20 pc (ck_l_20 ▸ hl)
              · rcases Nat.lt_or_ge y 22 with h22 | h22
                · rw [show y = 21 by omega] at hl ⊢; exact ck_a_21 pc (ck_l_21 ▸ hl)
                · rcases Nat.lt_or_ge y 23 with h23 | h23
                  · rw [show y = 22 by omega] at hl ⊢; exact ck_a_22 pc (ck_l_22 ▸ hl)
                  · rw [show y = 23 by omega] at hl ⊢; exact ck_a_23 pc (ck_l_23 ▸ hl)
            · rcases Nat.lt_or_ge y 26 with h26 | h26
              · rcases Nat.lt_or_ge y 25 with h25 | h25
                · rw [show y = 24 by omega] at hl ⊢; exact ck_a_24 pc (ck_l_24 ▸ hl)
                · rw [show y = 25 by omega] at hl ⊢; exact ck_a_25 pc (ck_l_25 ▸ hl)
              · rcases Nat.lt_or_ge y 27 with h27 | h27
                · rw [show y = 26 by omega] at hl ⊢; exact ck_a_26 pc (ck_l_26 ▸ hl)
                · rcases Nat.lt_or_ge y 28 with h28 | h28
                  · rw [show y = 27 by omega] at hl ⊢; exact ck_a_27 pc (ck_l_27 ▸ hl)
                  · rw [show y = 28 by omega] at hl ⊢; exact ck_a_28 pc (ck_l_28 ▸ hl)
          · rcases Nat.lt_or_ge y 34 with h34 | h34
            · rcases Nat.lt_or_ge y 31 with h31 | h31
              · rcases Nat.lt_or_ge y 30 with h30 | h30
                · rw [show y = 29 by omega] at hl ⊢; exact ck_a_29 pc (ck_l_29 ▸ hl)
                · rw [show y = 30 by omega] at hl ⊢; exact ck_a_30 pc (ck_l_30 ▸ hl)
              · rcases Nat.lt_or_ge y 32 with h32 | h32
                · rw [show y = 31 by omega] at hl ⊢; exact ck_a_31 pc (ck_l_31 ▸ hl)
                · rcases Nat.lt_or_ge y 33 with h33 | h33
                  · rw [show y = 32 by omega] at hl ⊢; exact ck_a_32 pc (ck_l_32 ▸ hl)
                  · rw [show y = 33 by omega] at hl ⊢; exact ck_a_33 pc (ck_l_33 ▸ hl)
            · rcases Nat.lt_or_ge y 36 with h36 | h36
              · rcases Nat.lt_or_ge y 35 with h35 | h35
                · rw [show y = 34 by omega] at hl ⊢; exact ck_a_34 pc (ck_l_34 ▸ hl)
                · rw [show y = 35 by omega] at hl ⊢; exact ck_a_35 pc (ck_l_35 ▸ hl)
              · rcases Nat.lt_or_ge y 37 with h37 | h37
                · rw [show y = 36 by omega] at hl ⊢; exact ck_a_36 pc (ck_l_36 ▸ hl)
                · rcases Nat.lt_or_ge y 38 with h38 | h38
                  · rw [show y = 37 by omega] at hl ⊢; exact ck_a_37 pc (ck_l_37 ▸ hl)
                  · rw [show y = 38 by omega] at hl ⊢; exact ck_a_38 pc (ck_l_38 ▸ hl)
      · rcases Nat.lt_or_ge y 58 with h58 | h58
        · rcases Nat.lt_or_ge y 48 with h48 | h48
          · rcases Nat.lt_or_ge y 43 with h43 | h43
            · rcases Nat.lt_or_ge y 41 with h41 | h41
              · rcases Nat.lt_or_ge y 40 with h40 | h40
                · rw [show y = 39 by omega] at hl ⊢; exact ck_a_39 pc (ck_l_39 ▸ hl)
                · rw [show y = 40 by omega] at hl ⊢; exact ck_a_40 pc (ck_l_40 ▸ hl)
              · rcases Nat.lt_or_ge y 42 with h42 | h42
                · rw [show y = 41 by omega] at hl ⊢; exact ck_a_41 pc (ck_l_41 ▸ hl)
                · rw [show y = 42 by omega] at hl ⊢; exact ck_a_42 pc (ck_l_42 ▸ hl)
            · rcases Nat.lt_or_ge y 45 with h45 | h45
              · rcases Nat.lt_or_ge y 44 with h44 | h44
                · rw [show y = 43 by omega] at hl ⊢; exact ck_a_43 pc (ck_l_43 ▸ hl)
                · rw [show y = 44 by omega] at hl ⊢; exact ck_a_44 pc (ck_l_44 ▸ hl)
              · rcases Nat.lt_or_ge y 46 with h46 | h46
                · rw [show y = 45 by omega] at hl ⊢; exact ck_a_45 pc (ck_l_45 ▸ hl)
                · rcases Nat.lt_or_ge y 47 with h47 | h47
                  · rw [show y = 46 by omega] at hl ⊢; exact ck_a_46 pc (ck_l_46 ▸ hl)
                  · rw [show y = 47 by omega] at hl ⊢; exact ck_a_47 pc (ck_l_47 ▸ hl)
          · rcases Nat.lt_or_ge y 53 with h53 | h53
            · rcases Nat.lt_or_ge y 50 with h50 | h50
              · rcases Nat.lt_or_ge y 49 with h49 | h49
                · rw [show y = 48 by omega] at hl ⊢; exact ck_a_48 pc (ck_l_48 ▸ hl)
                · rw [show y = 49 by omega] at hl ⊢; exact ck_a_49 pc (ck_l_49 ▸ hl)
              · rcases Nat.lt_or_ge y 51 with h51 | h51
                · rw [show y = 50 by omega] at hl ⊢; exact ck_a_50 pc (ck_l_50 ▸ hl)
                · rcases Nat.lt_or_ge y 52 with h52 | h52
                  · rw [show y = 51 by omega] at hl ⊢; exact ck_a_51 pc (ck_l_51 ▸ hl)
                  · rw [show y = 52 by omega] at hl ⊢; exact ck_a_52 pc (ck_l_52 ▸ hl)
            · rcases Nat.lt_or_ge y 55 with h55 | h55
              · rcases Nat.lt_or_ge y 54 with h54 | h54
                · rw [show y = 53 by omega] at hl ⊢; exact ck_a_53 pc (ck_l_53 ▸ hl)
                · rw [show y = 54 by omega] at hl ⊢; exact ck_a_54 pc (ck_l_54 ▸ hl)
              · rcases Nat.lt_or_ge y 56 with h56 | h56
                · rw [show y = 55 by omega] at hl ⊢; exact ck_a_55 pc (ck_l_55 ▸ hl)
                · rcases Nat.lt_or_ge y 57 with h57 | h57
                  · rw [show y = 56 by omega] at hl ⊢; exact ck_a_56 pc (ck_l_56 ▸ hl)
                  · rw [show y = 57 by omega] at hl ⊢; exact ck_a_57 pc (ck_l_57 ▸ hl)
        · rcases Nat.lt_or_ge y 68 with h68 | h68
          · rcases Nat.lt_or_ge y 63 with h63 | h63
            · rcases Nat.lt_or_ge y 60 with h60 | h60
              · rcases Nat.lt_or_ge y 59 with h59 | h59
                · rw [show y = 58 by omega] at hl ⊢; exact ck_a_58 pc (ck_l_58 ▸ hl)
                · rw [show y = 59 by omega] at hl ⊢; exact ck_a_59 pc (ck_l_59 ▸ hl)
              · rcases Nat.lt_or_ge y 61 with h61 | h61
                · rw [show y = 60 by omega] at hl ⊢; exact ck_a_60 pc (ck_l_60 ▸ hl)
                · rcases Nat.lt_or_ge y 62 with h62 | h62
                  · rw [show y = 61 by omega] at hl ⊢; exact ck_a_61 pc (ck_l_61 ▸ hl)
                  · rw [show y = 62 by omega] at hl ⊢; exact ck_a_62 pc (ck_l_62 ▸ hl)
            · rcases Nat.lt_or_ge y 65 with h65 | h65
              · rcases Nat.lt_or_ge y 64 with h64 | h64
                · rw [show y = 63 by omega] at hl ⊢; exact ck_a_63 pc (ck_l_63 ▸ hl)
                · rw [show y = 64 by omega] at hl ⊢; exact ck_a_64 pc (ck_l_64 ▸ hl)
              · rcases Nat.lt_or_ge y 66 with h66 | h66
                · rw [show y = 65 by omega] at hl ⊢; exact ck_a_65 pc (ck_l_65 ▸ hl)
                · rcases Nat.lt_or_ge y 67 with h67 | h67
                  · rw [show y = 66 by omega] at hl ⊢; exact ck_a_66 pc (ck_l_66 ▸ hl)
                  · rw [show y = 67 by omega] at hl ⊢; exact ck_a_67 pc (ck_l_67 ▸ hl)
          · rcases Nat.lt_or_ge y 73 with h73 | h73
            · rcases Nat.lt_or_ge y 70 with h70 | h70
              · rcases Nat.lt_or_ge y 69 with h69 | h69
                · rw [show y = 68 by omega] at hl ⊢; exact ck_a_68 pc (ck_l_68 ▸ hl)
                · rw [show y = 69 by omega] at hl ⊢; exact ck_a_69 pc (ck_l_69 ▸ hl)
              · rcases Nat.lt_or_ge y 71 with h71 | h71
                · rw [show y = 70 by omega] at hl ⊢; exact ck_a_70 pc (ck_l_70 ▸ hl)
                · rcases Nat.lt_or_ge y 72 with h72 | h72
                  · rw [show y = 71 by omega] at hl ⊢; exact ck_a_71 pc (ck_l_71 ▸ hl)
                  · rw [show y = 72 by omega] at hl ⊢; exact ck_a_72 pc (ck_l_72 ▸ hl)
            · rcases Nat.lt_or_ge y 75 with h75 | h75
              · rcases Nat.lt_or_ge y 74 with h74 | h74
                · rw [show y = 73 by omega] at hl ⊢; exact ck_a_73 pc (ck_l_73 ▸ hl)
                · rw [show y = 74 by omega] at hl ⊢; exact ck_a_74 pc (ck_l_74 ▸ hl)
              · rcases Nat.lt_or_ge y 76 with h76 | h76
                · rw [show y = 75 by omega] at hl ⊢; exact ck_a_75 pc (ck_l_75 ▸ hl)
                · rcases Nat.lt_or_ge y 77 with h77 | h77
                  · rw [show y = 76 by omega] at hl ⊢; exact ck_a_76 pc (ck_l_76 ▸ hl)
                  · rw [show y = 77 by omega] at hl ⊢; exact ck_a_77 pc (ck_l_77 ▸ hl)
    · rcases Nat.lt_or_ge y 117 with h117 | h117
      · rcases Nat.lt_or_ge y 97 with h97 | h97
        · rcases Nat.lt_or_ge y 87 with h87 | h87
          · rcases Nat.lt_or_ge y 82 with h82 | h82
            · rcases Nat.lt_or_ge y 80 with h80 | h80
              · rcases Nat.lt_or_ge y 79 with h79 | h79
                · rw [show y = 78 by omega] at hl ⊢; exact ck_a_78 pc (ck_l_78 ▸ hl)
                · rw [show y = 79 by omega] at hl ⊢; exact ck_a_79 pc (ck_l_79 ▸ hl)
              · rcases Nat.lt_or_ge y 81 with h81 | h81
                · rw [show y = 80 by omega] at hl ⊢; exact ck_a_80 pc (ck_l_80 ▸ hl)
                · rw [show y = 81 by omega] at hl ⊢; exact ck_a_81 pc (ck_l_81 ▸ hl)
            · rcases Nat.lt_or_ge y 84 with h84 | h84
              · rcases Nat.lt_or_ge y 83 with h83 | h83
                · rw [show y = 82 by omega] at hl ⊢; exact ck_a_82 pc (ck_l_82 ▸ hl)
                · rw [show y = 83 by omega] at hl ⊢; exact ck_a_83 pc (ck_l_83 ▸ hl)
              · rcases Nat.lt_or_ge y 85 with h85 | h85
                · rw [show y = 84 by omega] at hl ⊢; exact ck_a_84 pc (ck_l_84 ▸ hl)
                · rcases Nat.lt_or_ge y 86 with h86 | h86
                  · rw [show y = 85 by omega] at hl ⊢; exact ck_a_85 pc (ck_l_85 ▸ hl)
                  · rw [show y = 86 by omega] at hl ⊢; exact ck_a_86 pc (ck_l_86 ▸ hl)
          · rcases Nat.lt_or_ge y 92 with h92 | h92
            · rcases Nat.lt_or_ge y 89 with h89 | h89
              · rcases Nat.lt_or_ge y 88 with h88 | h88
                · rw [show y = 87 by omega] at hl ⊢; exact ck_a_87 pc (ck_l_87 ▸ hl)
                · rw [show y = 88 by omega] at hl ⊢; exact ck_a_88 pc (ck_l_88 ▸ hl)
              · rcases Nat.lt_or_ge y 90 with h90 | h90
                · rw [show y = 89 by omega] at hl ⊢; exact ck_a_89 pc (ck_l_89 ▸ hl)
                · rcases Nat.lt_or_ge y 91 with h91 | h91
                  · rw [show y = 90 by omega] at hl ⊢; exact ck_a_90 pc (ck_l_90 ▸ hl)
                  · rw [show y = 91 by omega] at hl ⊢; exact ck_a_91 pc (ck_l_91 ▸ hl)
            · rcases Nat.lt_or_ge y 94 with h94 | h94
              · rcases Nat.lt_or_ge y 93 with h93 | h93
                · rw [show y = 92 by omega] at hl ⊢; exact ck_a_92 pc (ck_l_92 ▸ hl)
                · rw [show y = 93 by omega] at hl ⊢; exact ck_a_93 pc (ck_l_93 ▸ hl)
              · rcases Nat.lt_or_ge y 95 with h95 | h95
                · rw [show y = 94 by omega] at hl ⊢; exact ck_a_94 pc (ck_l_94 ▸ hl)
                · rcases Nat.lt_or_ge y 96 with h96 | h96
                  · rw [show y = 95 by omega] at hl ⊢; exact ck_a_95 pc (ck_l_95 ▸ hl)
                  · rw [show y = 96 by omega] at hl ⊢; exact ck_a_96 pc (ck_l_96 ▸ hl)
        · rcases Nat.lt_or_ge y 107 with h107 | h107
          · rcases Nat.lt_or_ge y 102 with h102 | h102
            · rcases Nat.lt_or_ge y 99 with h99 | h99
              · rcases Nat.lt_or_ge y 98 with h98 | h98
                · rw [show y = 97 by omega] at hl ⊢; exact ck_a_97 pc (ck_l_97 ▸ hl)
                · rw [show y = 98 by omega] at hl ⊢; exact ck_a_98 pc (ck_l_98 ▸ hl)
              · rcases Nat.lt_or_ge y 100 with h100 | h100
                · rw [show y = 99 by omega] at hl ⊢; exact ck_a_99 pc (ck_l_99 ▸ hl)
                · rcases Nat.lt_or_ge y 101 with h101 | h101
                  · rw [show y = 100 by omega] at hl ⊢; exact ck_a_100 pc (ck_l_100 ▸ hl)
                  · rw [show y = 101 by omega] at hl ⊢; exact ck_a_101 pc (ck_l_101 ▸ hl)
            · rcases Nat.lt_or_ge y 104 with h104 | h104
              · rcases Nat.lt_or_ge y 103 with h103 | h103
                · rw [show y = 102 by omega] at hl ⊢; exact ck_a_102 pc (ck_l_102 ▸ hl)
                · rw [show y = 103 by omega] at hl ⊢; exact ck_a_103 pc (ck_l_103 ▸ hl)
              · rcases Nat.lt_or_ge y 105 with h105 | h105
                · rw [show y = 104 by omega] at hl ⊢; exact ck_a_104 pc (ck_l_104 ▸ hl)
                · rcases Nat.lt_or_ge y 106 with h106 | h106
                  · rw [show y = 105 by omega] at hl ⊢; exact ck_a_105 pc (ck_l_105 ▸ hl)
                  · rw [show y = 106 by omega] at hl ⊢; exact ck_a_106 pc (ck_l_106 ▸ hl)
          · rcases Nat.lt_or_ge y 112 with h112 | h112
            · rcases Nat.lt_or_ge y 109 with h109 | h109
              · rcases Nat.lt_or_ge y 108 with h108 | h108
                · rw [show y = 107 by omega] at hl ⊢; exact ck_a_107 pc (ck_l_107 ▸ hl)
                · rw [show y = 108 by omega] at hl ⊢; exact ck_a_108 pc (ck_l_108 ▸ hl)
              · rcases Nat.lt_or_ge y 110 with h110 | h110
                · rw [show y = 109 by omega] at hl ⊢; exact ck_a_109 pc (ck_l_109 ▸ hl)
                · rcases Nat.lt_or_ge y 111 with h111 | h111
                  · rw [show y = 110 by omega] at hl ⊢; exact ck_a_110 pc (ck_l_110 ▸ hl)
                  · rw [show y = 111 by omega] at hl ⊢; exact ck_a_111 pc (ck_l_111 ▸ hl)
            · rcases Nat.lt_or_ge y 114 with h114 | h114
              · rcases Nat.lt_or_ge y 113 with h113 | h113
                · rw [show y = 112 by omega] at hl ⊢; exact ck_a_112 pc (ck_l_112 ▸ hl)
                · rw [show y = 113 by omega] at hl ⊢; exact ck_a_113 pc (ck_l_113 ▸ hl)
              · rcases Nat.lt_or_ge y 115 with h115 | h115
                · rw [show y = 114 by omega] at hl ⊢; exact ck_a_114 pc (ck_l_114 ▸ hl)
                · rcases Nat.lt_or_ge y 116 with h116 | h116
                  · rw [show y = 115 by omega] at hl ⊢; exact ck_a_115 pc (ck_l_115 ▸ hl)
                  · rw [show y = 116 by omega] at hl ⊢; exact ck_a_116 pc (ck_l_116 ▸ hl)
      · rcases Nat.lt_or_ge y 136 with h136 | h136
        · rcases Nat.lt_or_ge y 126 with h126 | h126
          · rcases Nat.lt_or_ge y 121 with h121 | h121
            · rcases Nat.lt_or_ge y 119 with h119 | h119
              · rcases Nat.lt_or_ge y 118 with h118 | h118
                · rw [show y = 117 by omega] at hl ⊢; exact ck_a_117 pc (ck_l_117 ▸ hl)
                · rw [show y = 118 by omega] at hl ⊢; exact ck_a_118 pc (ck_l_118 ▸ hl)
              · rcases Nat.lt_or_ge y 120 with h120 | h120
                · rw [show y = 119 by omega] at hl ⊢; exact ck_a_119 pc (ck_l_119 ▸ hl)
                · rw [show y = 120 by omega] at hl ⊢; exact ck_a_120 pc (ck_l_120 ▸ hl)
            · rcases Nat.lt_or_ge y 123 with h123 | h123
              · rcases Nat.lt_or_ge y 122 with h122 | h122
                · rw [show y = 121 by omega] at hl ⊢; exact ck_a_121 pc (ck_l_121 ▸ hl)
                · rw [show y = 122 by omega] at hl ⊢; exact ck_a_122 pc (ck_l_122 ▸ hl)
              · rcases Nat.lt_or_ge y 124 with h124 | h124
                · rw [show y = 123 by omega] at hl ⊢; exact ck_a_123 pc (ck_l_123 ▸ hl)
                · rcases Nat.lt_or_ge y 125 with h125 | h125
                  · rw [show y = 124 by omega] at hl ⊢; exact ck_a_124 pc (ck_l_124 ▸ hl)
                  · rw [show y = 125 by omega] at hl ⊢; exact ck_a_125 pc (ck_l_125 ▸ hl)
          · rcases Nat.lt_or_ge y 131 with h131 | h131
            · rcases Nat.lt_or_ge y 128 with h128 | h128
              · rcases Nat.lt_or_ge y 127 with h127 | h127
                · rw [show y = 126 by omega] at hl ⊢; exact ck_a_126 pc (ck_l_126 ▸ hl)
                · rw [show y = 127 by omega] at hl ⊢; exact ck_a_127 pc (ck_l_127 ▸ hl)
              · rcases Nat.lt_or_ge y 129 with h129 | h129
                · rw [show y = 128 by omega] at hl ⊢; exact ck_a_128 pc (ck_l_128 ▸ hl)
                · rcases Nat.lt_or_ge y 130 with h130 | h130
                  · rw [show y = 129 by omega] at hl ⊢; exact ck_a_129 pc (ck_l_129 ▸ hl)
                  · rw [show y = 130 by omega] at hl ⊢; exact ck_a_130 pc (ck_l_130 ▸ hl)
            · rcases Nat.lt_or_ge y 133 with h133 | h133
              · rcases Nat.lt_or_ge y 132 with h132 | h132
                · rw [show y = 131 by omega] at hl ⊢; exact ck_a_131 pc (ck_l_131 ▸ hl)
                · rw [show y = 132 by omega] at hl ⊢; exact ck_a_132 pc (ck_l_132 ▸ hl)
              · rcases Nat.lt_or_ge y 134 with h134 | h134
                · rw [show y = 133 by omega] at hl ⊢; exact ck_a_133 pc (ck_l_133 ▸ hl)
                · rcases Nat.lt_or_ge y 135 with h135 | h135
                  · rw [show y = 134 by omega] at hl ⊢; exact ck_a_134 pc (ck_l_134 ▸ hl)
                  · rw [show y = 135 by omega] at hl ⊢; exact ck_a_135 pc (ck_l_135 ▸ hl)
        · rcases Nat.lt_or_ge y 146 with h146 | h146
          · rcases Nat.lt_or_ge y 141 with h141 | h141
            · rcases Nat.lt_or_ge y 138 with h138 | h138
              · rcases Nat.lt_or_ge y 137 with h137 | h137
                · rw [show y = 136 by omega] at hl ⊢; exact ck_a_136 pc (ck_l_136 ▸ hl)
                · rw [show y = 137 by omega] at hl ⊢; exact ck_a_137 pc (ck_l_137 ▸ hl)
              · rcases Nat.lt_or_ge y 139 with h139 | h139
                · rw [show y = 138 by omega] at hl ⊢; exact ck_a_138 pc (ck_l_138 ▸ hl)
                · rcases Nat.lt_or_ge y 140 with h140 | h140
                  · rw [show y = 139 by omega] at hl ⊢; exact ck_a_139 pc (ck_l_139 ▸ hl)
                  · rw [show y = 140 by omega] at hl ⊢; exact ck_a_140 pc (ck_l_140 ▸ hl)
            · rcases Nat.lt_or_ge y 143 with h143 | h143
              · rcases Nat.lt_or_ge y 142 with h142 | h142
                · rw [show y = 141 by omega] at hl ⊢; exact ck_a_141 pc (ck_l_141 ▸ hl)
                · rw [show y = 142 by omega] at hl ⊢; exact ck_a_142 pc (ck_l_142 ▸ hl)
              · rcases Nat.lt_or_ge y 144 with h144 | h144
                · rw [show y = 143 by omega] at hl ⊢; exact ck_a_143 pc (ck_l_143 ▸ hl)
                · rcases Nat.lt_or_ge y 145 with h145 | h145
                  · rw [show y = 144 by omega] at hl ⊢; exact ck_a_144 pc (ck_l_144 ▸ hl)
                  · rw [show y = 145 by omega] at hl ⊢; exact ck_a_145 pc (ck_l_145 ▸ hl)
          · rcases Nat.lt_or_ge y 151 with h151 | h151
            · rcases Nat.lt_or_ge y 148 with h148 | h148
              · rcases Nat.lt_or_ge y 147 with h147 | h147
                · rw [show y = 146 by omega] at hl ⊢; exact ck_a_146 pc (ck_l_146 ▸ hl)
                · rw [show y = 147 by omega] at hl ⊢; exact ck_a_147 pc (ck_l_147 ▸ hl)
              · rcases Nat.lt_or_ge y 149 with h149 | h149
                · rw [show y = 148 by omega] at hl ⊢; exact ck_a_148 pc (ck_l_148 ▸ hl)
                · rcases Nat.lt_or_ge y 150 with h150 | h150
                  · rw [show y = 149 by omega] at hl ⊢; exact ck_a_149 pc (ck_l_149 ▸ hl)
                  · rw [show y = 150 by omega] at hl ⊢; exact ck_a_150 pc (ck_l_150 ▸ hl)
            · rcases Nat.lt_or_ge y 153 with h153 | h153
              · rcases Nat.lt_or_ge y 152 with h152 | h152
                · rw [show y = 151 by omega] at hl ⊢; exact ck_a_151 pc (ck_l_151 ▸ hl)
                · rw [show y = 152 by omega] at hl ⊢; exact ck_a_152 pc (ck_l_152 ▸ hl)
              · rcases Nat.lt_or_ge y 154 with h154 | h154
                · rw [show y = 153 by omega] at hl ⊢; exact ck_a_153 pc (ck_l_153 ▸ hl)
                · rcases Nat.lt_or_ge y 155 with h155 | h155
                  · rw [show y = 154 by omega] at hl ⊢; exact ck_a_154 pc (ck_l_154 ▸ hl)
                  · rw [show y = 155 by omega] at hl ⊢; exact ck_a_155 pc (ck_l_155 ▸ hl)
  · rcases Nat.lt_or_ge y 234 with h234 | h234
    · rcases Nat.lt_or_ge y 195 with h195 | h195
      · rcases Nat.lt_or_ge y 175 with h175 | h175
        · rcases Nat.lt_or_ge y 165 with h165 | h165
          · rcases Nat.lt_or_ge y 160 with h160 | h160
            · rcases Nat.lt_or_ge y 158 with h158 | h158
              · rcases Nat.lt_or_ge y 157 with h157 | h157
                · rw [show y = 156 by omega] at hl ⊢; exact ck_a_156 pc (ck_l_156 ▸ hl)
                · rw [show y = 157 by omega] at hl ⊢; exact ck_a_157 pc (ck_l_157 ▸ hl)
              · rcases Nat.lt_or_ge y 159 with h159 | h159
                · rw [show y = 158 by omega] at hl ⊢; exact ck_a_158 pc (ck_l_158 ▸ hl)
                · rw [show y = 159 by omega] at hl ⊢; exact ck_a_159 pc (ck_l_159 ▸ hl)
            · rcases Nat.lt_or_ge y 162 with h162 | h162
              · rcases Nat.lt_or_ge y 161 with h161 | h161
                · rw [show y = 160 by omega] at hl ⊢; exact ck_a_160 pc (ck_l_160 ▸ hl)
                · rw [show y = 161 by omega] at hl ⊢; exact ck_a_161 pc (ck_l_161 ▸ hl)
              · rcases Nat.lt_or_ge y 163 with h163 | h163
                · rw [show y = 162 by omega] at hl ⊢; exact ck_a_162 pc (ck_l_162 ▸ hl)
                · rcases Nat.lt_or_ge y 164 with h164 | h164
                  · rw [show y = 163 by omega] at hl ⊢; exact ck_a_163 pc (ck_l_163 ▸ hl)
                  · rw [show y = 164 by omega] at hl ⊢; exact ck_a_164 pc (ck_l_164 ▸ hl)
          · rcases Nat.lt_or_ge y 170 with h170 | h170
            · rcases Nat.lt_or_ge y 167 with h167 | h167
              · rcases Nat.lt_or_ge y 166 with h166 | h166
                · rw [show y = 165 by omega] at hl ⊢; exact ck_a_165 pc (ck_l_165 ▸ hl)
                · rw [show y = 166 by omega] at hl ⊢; exact ck_a_166 pc (ck_l_166 ▸ hl)
              · rcases Nat.lt_or_ge y 168 with h168 | h168
                · rw [show y = 167 by omega] at hl ⊢; exact ck_a_167 pc (ck_l_167 ▸ hl)
                · rcases Nat.lt_or_ge y 169 with h169 | h169
                  · rw [show y = 168 by omega] at hl ⊢; exact ck_a_168 pc (ck_l_168 ▸ hl)
                  · rw [show y = 169 by omega] at hl ⊢; exact ck_a_169 pc (ck_l_169 ▸ hl)
            · rcases Nat.lt_or_ge y 172 with h172 | h172
              · rcases Nat.lt_or_ge y 171 with h171 | h171
                · rw [show y = 170 by omega] at hl ⊢; exact ck_a_170 pc (ck_l_170 ▸ hl)
                · rw [show y = 171 by omega] at hl ⊢; exact ck_a_171 pc (ck_l_171 ▸ hl)
              · rcases Nat.lt_or_ge y 173 with h173 | h173
                · rw [show y = 172 by omega] at hl ⊢; exact ck_a_172 pc (ck_l_172 ▸ hl)
                · rcases Nat.lt_or_ge y 174 with h174 | h174
                  · rw [show y = 173 by omega] at hl ⊢; exact ck_a_173 pc (ck_l_173 ▸ hl)
                  · rw [show y = 174 by omega] at hl ⊢; exact ck_a_174 pc (ck_l_174 ▸ hl)
        · rcases Nat.lt_or_ge y 185 with h185 | h185
          · rcases Nat.lt_or_ge y 180 with h180 | h180
            · rcases Nat.lt_or_ge y 177 with h177 | h177
              · rcases Nat.lt_or_ge y 176 with h176 | h176
                · rw [show y = 175 by omega] at hl ⊢; exact ck_a_175 pc (ck_l_175 ▸ hl)
                · rw [show y = 176 by omega] at hl ⊢; exact ck_a_176 pc (ck_l_176 ▸ hl)
              · rcases Nat.lt_or_ge y 178 with h178 | h178
                · rw [show y = 177 by omega] at hl ⊢; exact ck_a_177 pc (ck_l_177 ▸ hl)
                · rcases Nat.lt_or_ge y 179 with h179 | h179
                  · rw [show y = 178 by omega] at hl ⊢; exact ck_a_178 pc (ck_l_178 ▸ hl)
                  · rw [show y = 179 by omega] at hl ⊢; exact ck_a_179 pc (ck_l_179 ▸ hl)
            · rcases Nat.lt_or_ge y 182 with h182 | h182
              · rcases Nat.lt_or_ge y 181 with h181 | h181
                · rw [show y = 180 by omega] at hl ⊢; exact ck_a_180 pc (ck_l_180 ▸ hl)
                · rw [show y = 181 by omega] at hl ⊢; exact ck_a_181 pc (ck_l_181 ▸ hl)
              · rcases Nat.lt_or_ge y 183 with h183 | h183
                · rw [show y = 182 by omega] at hl ⊢; exact ck_a_182 pc (ck_l_182 ▸ hl)
                · rcases Nat.lt_or_ge y 184 with h184 | h184
                  · rw [show y = 183 by omega] at hl ⊢; exact ck_a_183 pc (ck_l_183 ▸ hl)
                  · rw [show y = 184 by omega] at hl ⊢; exact ck_a_184 pc (ck_l_184 ▸ hl)
          · rcases Nat.lt_or_ge y 190 with h190 | h190
            · rcases Nat.lt_or_ge y 187 with h187 | h187
              · rcases Nat.lt_or_ge y 186 with h186 | h186
                · rw [show y = 185 by omega] at hl ⊢; exact ck_a_185 pc (ck_l_185 ▸ hl)
                · rw [show y = 186 by omega] at hl ⊢; exact ck_a_186 pc (ck_l_186 ▸ hl)
              · rcases Nat.lt_or_ge y 188 with h188 | h188
                · rw [show y = 187 by omega] at hl ⊢; exact ck_a_187 pc (ck_l_187 ▸ hl)
                · rcases Nat.lt_or_ge y 189 with h189 | h189
                  · rw [show y = 188 by omega] at hl ⊢; exact ck_a_188 pc (ck_l_188 ▸ hl)
                  · rw [show y = 189 by omega] at hl ⊢; exact ck_a_189 pc (ck_l_189 ▸ hl)
            · rcases Nat.lt_or_ge y 192 with h192 | h192
              · rcases Nat.lt_or_ge y 191 with h191 | h191
                · rw [show y = 190 by omega] at hl ⊢; exact ck_a_190 pc (ck_l_190 ▸ hl)
                · rw [show y = 191 by omega] at hl ⊢; exact ck_a_191 pc (ck_l_191 ▸ hl)
              · rcases Nat.lt_or_ge y 193 with h193 | h193
                · rw [show y = 192 by omega] at hl ⊢; exact ck_a_192 pc (ck_l_192 ▸ hl)
                · rcases Nat.lt_or_ge y 194 with h194 | h194
                  · rw [show y = 193 by omega] at hl ⊢; exact ck_a_193 pc (ck_l_193 ▸ hl)
                  · rw [show y = 194 by omega] at hl ⊢; exact ck_a_194 pc (ck_l_194 ▸ hl)
      · rcases Nat.lt_or_ge y 214 with h214 | h214
        · rcases Nat.lt_or_ge y 204 with h204 | h204
          · rcases Nat.lt_or_ge y 199 with h199 | h199
            · rcases Nat.lt_or_ge y 197 with h197 | h197
              · rcases Nat.lt_or_ge y 196 with h196 | h196
                · rw [show y = 195 by omega] at hl ⊢; exact ck_a_195 pc (ck_l_195 ▸ hl)
                · rw [show y = 196 by omega] at hl ⊢; exact ck_a_196 pc (ck_l_196 ▸ hl)
              · rcases Nat.lt_or_ge y 198 with h198 | h198
                · rw [show y = 197 by omega] at hl ⊢; exact ck_a_197 pc (ck_l_197 ▸ hl)
                · rw [show y = 198 by omega] at hl ⊢; exact ck_a_198 pc (ck_l_198 ▸ hl)
            · rcases Nat.lt_or_ge y 201 with h201 | h201
              · rcases Nat.lt_or_ge y 200 with h200 | h200
                · rw [show y = 199 by omega] at hl ⊢; exact ck_a_199 pc (ck_l_199 ▸ hl)
                · rw [show y = 200 by omega] at hl ⊢; exact ck_a_200 pc (ck_l_200 ▸ hl)
              · rcases Nat.lt_or_ge y 202 with h202 | h202
                · rw [show y = 201 by omega] at hl ⊢; exact ck_a_201 pc (ck_l_201 ▸ hl)
                · rcases Nat.lt_or_ge y 203 with h203 | h203
                  · rw [show y = 202 by omega] at hl ⊢; exact ck_a_202 pc (ck_l_202 ▸ hl)
                  · rw [show y = 203 by omega] at hl ⊢; exact ck_a_203 pc (ck_l_203 ▸ hl)
          · rcases Nat.lt_or_ge y 209 with h209 | h209
            · rcases Nat.lt_or_ge y 206 with h206 | h206
              · rcases Nat.lt_or_ge y 205 with h205 | h205
                · rw [show y = 204 by omega] at hl ⊢; exact ck_a_204 pc (ck_l_204 ▸ hl)
                · rw [show y = 205 by omega] at hl ⊢; exact ck_a_205 pc (ck_l_205 ▸ hl)
              · rcases Nat.lt_or_ge y 207 with h207 | h207
                · rw [show y = 206 by omega] at hl ⊢; exact ck_a_206 pc (ck_l_206 ▸ hl)
                · rcases Nat.lt_or_ge y 208 with h208 | h208
                  · rw [show y = 207 by omega] at hl ⊢; exact ck_a_207 pc (ck_l_207 ▸ hl)
                  · rw [show y = 208 by omega] at hl ⊢; exact ck_a_208 pc (ck_l_208 ▸ hl)
            · rcases Nat.lt_or_ge y 211 with h211 | h211
              · rcases Nat.lt_or_ge y 210 with h210 | h210
                · rw [show y = 209 by omega] at hl ⊢; exact ck_a_209 pc (ck_l_209 ▸ hl)
                · rw [show y = 210 by omega] at hl ⊢; exact ck_a_210 pc (ck_l_210 ▸ hl)
              · rcases Nat.lt_or_ge y 212 with h212 | h212
                · rw [show y = 211 by omega] at hl ⊢; exact ck_a_211 pc (ck_l_211 ▸ hl)
                · rcases Nat.lt_or_ge y 213 with h213 | h213
                  · rw [show y = 212 by omega] at hl ⊢; exact ck_a_212 pc (ck_l_212 ▸ hl)
                  · rw [show y = 213 by omega] at hl ⊢; exact ck_a_213 pc (ck_l_213 ▸ hl)
        · rcases Nat.lt_or_ge y 224 with h224 | h224
          · rcases Nat.lt_or_ge y 219 with h219 | h219
            · rcases Nat.lt_or_ge y 216 with h216 | h216
              · rcases Nat.lt_or_ge y 215 with h215 | h215
                · rw [show y = 214 by omega] at hl ⊢; exact ck_a_214 pc (ck_l_214 ▸ hl)
                · rw [show y = 215 by omega] at hl ⊢; exact ck_a_215 pc (ck_l_215 ▸ hl)
              · rcases Nat.lt_or_ge y 217 with h217 | h217
                · rw [show y = 216 by omega] at hl ⊢; exact ck_a_216 pc (ck_l_216 ▸ hl)
                · rcases Nat.lt_or_ge y 218 with h218 | h218
                  · rw [show y = 217 by omega] at hl ⊢; exact ck_a_217 pc (ck_l_217 ▸ hl)
                  · rw [show y = 218 by omega] at hl ⊢; exact ck_a_218 pc (ck_l_218 ▸ hl)
            · rcases Nat.lt_or_ge y 221 with h221 | h221
              · rcases Nat.lt_or_ge y 220 with h220 | h220
                · rw [show y = 219 by omega] at hl ⊢; exact ck_a_219 pc (ck_l_219 ▸ hl)
                · rw [show y = 220 by omega] at hl ⊢; exact ck_a_220 pc (ck_l_220 ▸ hl)
              · rcases Nat.lt_or_ge y 222 with h222 | h222
                · rw [show y = 221 by omega] at hl ⊢; exact ck_a_221 pc (ck_l_221 ▸ hl)
                · rcases Nat.lt_or_ge y 223 with h223 | h223
                  · rw [show y = 222 by omega] at hl ⊢; exact ck_a_222 pc (ck_l_222 ▸ hl)
                  · rw [show y = 223 by omega] at hl ⊢; exact ck_a_223 pc (ck_l_223 ▸ hl)
          · rcases Nat.lt_or_ge y 229 with h229 | h229
            · rcases Nat.lt_or_ge y 226 with h226 | h226
              · rcases Nat.lt_or_ge y 225 with h225 | h225
                · rw [show y = 224 by omega] at hl ⊢; exact ck_a_224 pc (ck_l_224 ▸ hl)
                · rw [show y = 225 by omega] at hl ⊢; exact ck_a_225 pc (ck_l_225 ▸ hl)
              · rcases Nat.lt_or_ge y 227 with h227 | h227
                · rw [show y = 226 by omega] at hl ⊢; exact ck_a_226 pc (ck_l_226 ▸ hl)
                · rcases Nat.lt_or_ge y 228 with h228 | h228
                  · rw [show y = 227 by omega] at hl ⊢; exact ck_a_227 pc (ck_l_227 ▸ hl)
                  · rw [show y = 228 by omega] at hl ⊢; exact ck_a_228 pc (ck_l_228 ▸ hl)
            · rcases Nat.lt_or_ge y 231 with h231 | h231
              · rcases Nat.lt_or_ge y 230 with h230 | h230
                · rw [show y = 229 by omega] at hl ⊢; exact ck_a_229 pc (ck_l_229 ▸ hl)
                · rw [show y = 230 by omega] at hl ⊢; exact ck_a_230 pc (ck_l_230 ▸ hl)
              · rcases Nat.lt_or_ge y 232 with h232 | h232
                · rw [show y = 231 by omega] at hl ⊢; exact ck_a_231 pc (ck_l_231 ▸ hl)
                · rcases Nat.lt_or_ge y 233 with h233 | h233
                  · rw [show y = 232 by omega] at hl ⊢; exact ck_a_232 pc (ck_l_232 ▸ hl)
                  · rw [show y = 233 by omega] at hl ⊢; exact ck_a_233 pc (ck_l_233 ▸ hl)
    · rcases Nat.lt_or_ge y 273 with h273 | h273
      · rcases Nat.lt_or_ge y 253 with h253 | h253
        · rcases Nat.lt_or_ge y 243 with h243 | h243
          · rcases Nat.lt_or_ge y 238 with h238 | h238
            · rcases Nat.lt_or_ge y 236 with h236 | h236
              · rcases Nat.lt_or_ge y 235 with h235 | h235
                · rw [show y = 234 by omega] at hl ⊢; exact ck_a_234 pc (ck_l_234 ▸ hl)
                · rw [show y = 235 by omega] at hl ⊢; exact ck_a_235 pc (ck_l_235 ▸ hl)
              · rcases Nat.lt_or_ge y 237 with h237 | h237
                · rw [show y = 236 by omega] at hl ⊢; exact ck_a_236 pc (ck_l_236 ▸ hl)
                · rw [show y = 237 by omega] at hl ⊢; exact ck_a_237 pc (ck_l_237 ▸ hl)
            · rcases Nat.lt_or_ge y 240 with h240 | h240
              · rcases Nat.lt_or_ge y 239 with h239 | h239
                · rw [show y = 238 by omega] at hl ⊢; exact ck_a_238 pc (ck_l_238 ▸ hl)
                · rw [show y = 239 by omega] at hl ⊢; exact ck_a_239 pc (ck_l_239 ▸ hl)
              · rcases Nat.lt_or_ge y 241 with h241 | h241
                · rw [show y = 240 by omega] at hl ⊢; exact ck_a_240 pc (ck_l_240 ▸ hl)
                · rcases Nat.lt_or_ge y 242 with h242 | h242
                  · rw [show y = 241 by omega] at hl ⊢; exact ck_a_241 pc (ck_l_241 ▸ hl)
                  · rw [show y = 242 by omega] at hl ⊢; exact ck_a_242 pc (ck_l_242 ▸ hl)
          · rcases Nat.lt_or_ge y 248 with h248 | h248
            · rcases Nat.lt_or_ge y 245 with h245 | h245
              · rcases Nat.lt_or_ge y 244 with h244 | h244
                · rw [show y = 243 by omega] at hl ⊢; exact ck_a_243 pc (ck_l_243 ▸ hl)
                · rw [show y = 244 by omega] at hl ⊢; exact ck_a_244 pc (ck_l_244 ▸ hl)
              · rcases Nat.lt_or_ge y 246 with h246 | h246
                · rw [show y = 245 by omega] at hl ⊢; exact ck_a_245 pc (ck_l_245 ▸ hl)
                · rcases Nat.lt_or_ge y 247 with h247 | h247
                  · rw [show y = 246 by omega] at hl ⊢; exact ck_a_246 pc (ck_l_246 ▸ hl)
                  · rw [show y = 247 by omega] at hl ⊢; exact ck_a_247 pc (ck_l_247 ▸ hl)
            · rcases Nat.lt_or_ge y 250 with h250 | h250
              · rcases Nat.lt_or_ge y 249 with h249 | h249
                · rw [show y = 248 by omega] at hl ⊢; exact ck_a_248 pc (ck_l_248 ▸ hl)
                · rw [show y = 249 by omega] at hl ⊢; exact ck_a_249 pc (ck_l_249 ▸ hl)
              · rcases Nat.lt_or_ge y 251 with h251 | h251
                · rw [show y = 250 by omega] at hl ⊢; exact ck_a_250 pc (ck_l_250 ▸ hl)
                · rcases Nat.lt_or_ge y 252 with h252 | h252
                  · rw [show y = 251 by omega] at hl ⊢; exact ck_a_251 pc (ck_l_251 ▸ hl)
                  · rw [show y = 252 by omega] at hl ⊢; exact ck_a_252 pc (ck_l_252 ▸ hl)
        · rcases Nat.lt_or_ge y 263 with h263 | h263
          · rcases Nat.lt_or_ge y 258 with h258 | h258
            · rcases Nat.lt_or_ge y 255 with h255 | h255
              · rcases Nat.lt_or_ge y 254 with h254 | h254
                · rw [show y = 253 by omega] at hl ⊢; exact ck_a_253 pc (ck_l_253 ▸ hl)
                · rw [show y = 254 by omega] at hl ⊢; exact ck_a_254 pc (ck_l_254 ▸ hl)
              · rcases Nat.lt_or_ge y 256 with h256 | h256
                · rw [show y = 255 by omega] at hl ⊢; exact ck_a_255 pc (ck_l_255 ▸ hl)
                · rcases Nat.lt_or_ge y 257 with h257 | h257
                  · rw [show y = 256 by omega] at hl ⊢; exact ck_a_256 pc (ck_l_256 ▸ hl)
                  · rw [show y = 257 by omega] at hl ⊢; exact ck_a_257 pc (ck_l_257 ▸ hl)
            · rcases Nat.lt_or_ge y 260 with h260 | h260
              · rcases Nat.lt_or_ge y 259 with h259 | h259
                · rw [show y = 258 by omega] at hl ⊢; exact ck_a_258 pc (ck_l_258 ▸ hl)
                · rw [show y = 259 by omega] at hl ⊢; exact ck_a_259 pc (ck_l_259 ▸ hl)
              · rcases Nat.lt_or_ge y 261 with h261 | h261
                · rw [show y = 260 by omega] at hl ⊢; exact ck_a_260 pc (ck_l_260 ▸ hl)
                · rcases Nat.lt_or_ge y 262 with h262 | h262
                  · rw [show y = 261 by omega] at hl ⊢; exact ck_a_261 pc (ck_l_261 ▸ hl)
                  · rw [show y = 262 by omega] at hl ⊢; exact ck_a_262 pc (ck_l_262 ▸ hl)
          · rcases Nat.lt_or_ge y 268 with h268 | h268
            · rcases Nat.lt_or_ge y 265 with h265 | h265
              · rcases Nat.lt_or_ge y 264 with h264 | h264
                · rw [show y = 263 by omega] at hl ⊢; exact ck_a_263 pc (ck_l_263 ▸ hl)
                · rw [show y = 264 by omega] at hl ⊢; exact ck_a_264 pc (ck_l_264 ▸ hl)
              · rcases Nat.lt_or_ge y 266 with h266 | h266
                · rw [show y = 265 by omega] at hl ⊢; exact ck_a_265 pc (ck_l_265 ▸ hl)
                · rcases Nat.lt_or_ge y 267 with h267 | h267
                  · rw [show y = 266 by omega] at hl ⊢; exact ck_a_266 pc (ck_l_266 ▸ hl)
                  · rw [show y = 267 by omega] at hl ⊢; exact ck_a_267 pc (ck_l_267 ▸ hl)
            · rcases Nat.lt_or_ge y 270 with h270 | h270
              · rcases Nat.lt_or_ge y 269 with h269 | h269
                · rw [show y = 268 by omega] at hl ⊢; exact ck_a_268 pc (ck_l_268 ▸ hl)
                · rw [show y = 269 by omega] at hl ⊢; exact ck_a_269 pc (ck_l_269 ▸ hl)
              · rcases Nat.lt_or_ge y 271 with h271 | h271
                · rw [show y = 270 by omega] at hl ⊢; exact ck_a_270 pc (ck_l_270 ▸ hl)
                · rcases Nat.lt_or_ge y 272 with h272 | h272
                  · rw [show y = 271 by omega] at hl ⊢; exact ck_a_271 pc (ck_l_271 ▸ hl)
                  · rw [show y = 272 by omega] at hl ⊢; exact ck_a_272 pc (ck_l_272 ▸ hl)
      · rcases Nat.lt_or_ge y 292 with h292 | h292
        · rcases Nat.lt_or_ge y 282 with h282 | h282
          · rcases Nat.lt_or_ge y 277 with h277 | h277
            · rcases Nat.lt_or_ge y 275 with h275 | h275
              · rcases Nat.lt_or_ge y 274 with h274 | h274
                · rw [show y = 273 by omega] at hl ⊢; exact ck_a_273 pc (ck_l_273 ▸ hl)
                · rw [show y = 274 by omega] at hl ⊢; exact ck_a_274 pc (ck_l_274 ▸ hl)
              · rcases Nat.lt_or_ge y 276 with h276 | h276
                · rw [show y = 275 by omega] at hl ⊢; exact ck_a_275 pc (ck_l_275 ▸ hl)
                · rw [show y = 276 by omega] at hl ⊢; exact ck_a_276 pc (ck_l_276 ▸ hl)
            · rcases Nat.lt_or_ge y 279 with h279 | h279
              · rcases Nat.lt_or_ge y 278 with h278 | h278
                · rw [show y = 277 by omega] at hl ⊢; exact ck_a_277 pc (ck_l_277 ▸ hl)
                · rw [show y = 278 by omega] at hl ⊢; exact ck_a_278 pc (ck_l_278 ▸ hl)
              · rcases Nat.lt_or_ge y 280 with h280 | h280
                · rw [show y = 279 by omega] at hl ⊢; exact ck_a_279 pc (ck_l_279 ▸ hl)
                · rcases Nat.lt_or_ge y 281 with h281 | h281
                  · rw [show y = 280 by omega] at hl ⊢; exact ck_a_280 pc (ck_l_280 ▸ hl)
                  · rw [show y = 281 by omega] at hl ⊢; exact ck_a_281 pc (ck_l_281 ▸ hl)
          · rcases Nat.lt_or_ge y 287 with h287 | h287
            · rcases Nat.lt_or_ge y 284 with h284 | h284
              · rcases Nat.lt_or_ge y 283 with h283 | h283
                · rw [show y = 282 by omega] at hl ⊢; exact ck_a_282 pc (ck_l_282 ▸ hl)
                · rw [show y = 283 by omega] at hl ⊢; exact ck_a_283 pc (ck_l_283 ▸ hl)
              · rcases Nat.lt_or_ge y 285 with h285 | h285
                · rw [show y = 284 by omega] at hl ⊢; exact ck_a_284 pc (ck_l_284 ▸ hl)
                · rcases Nat.lt_or_ge y 286 with h286 | h286
                  · rw [show y = 285 by omega] at hl ⊢; exact ck_a_285 pc (ck_l_285 ▸ hl)
                  · rw [show y = 286 by omega] at hl ⊢; exact ck_a_286 pc (ck_l_286 ▸ hl)
            · rcases Nat.lt_or_ge y 289 with h289 | h289
              · rcases Nat.lt_or_ge y 288 with h288 | h288
                · rw [show y = 287 by omega] at hl ⊢; exact ck_a_287 pc (ck_l_287 ▸ hl)
                · rw [show y = 288 by omega] at hl ⊢; exact ck_a_288 pc (ck_l_288 ▸ hl)
              · rcases Nat.lt_or_ge y 290 with h290 | h290
                · rw [show y = 289 by omega] at hl ⊢; exact ck_a_289 pc (ck_l_289 ▸ hl)
                · rcases Nat.lt_or_ge y 291 with h291 | h291
                  · rw [show y = 290 by omega] at hl ⊢; exact ck_a_290 pc (ck_l_290 ▸ hl)
                  · rw [show y = 291 by omega] at hl ⊢; exact ck_a_291 pc (ck_l_291 ▸ hl)
        · rcases Nat.lt_or_ge y 302 with h302 | h302
          · rcases Nat.lt_or_ge y 297 with h297 | h297
            · rcases Nat.lt_or_ge y 294 with h294 | h294
              · rcases Nat.lt_or_ge y 293 with h293 | h293
                · rw [show y = 292 by omega] at hl ⊢; exact ck_a_292 pc (ck_l_292 ▸ hl)
                · rw [show y = 293 by omega] at hl ⊢; exact ck_a_293 pc (ck_l_293 ▸ hl)
              · rcases Nat.lt_or_ge y 295 with h295 | h295
                · rw [show y = 294 by omega] at hl ⊢; exact ck_a_294 pc (ck_l_294 ▸ hl)
                · rcases Nat.lt_or_ge y 296 with h296 | h296
                  · rw [show y = 295 by omega] at hl ⊢; exact ck_a_295 pc (ck_l_295 ▸ hl)
                  · rw [show y = 296 by omega] at hl ⊢; exact ck_a_296 pc (ck_l_296 ▸ hl)
            · rcases Nat.lt_or_ge y 299 with h299 | h299
              · rcases Nat.lt_or_ge y 298 with h298 | h298
                · rw [show y = 297 by omega] at hl ⊢; exact ck_a_297 pc (ck_l_297 ▸ hl)
                · rw [show y = 298 by omega] at hl ⊢; exact ck_a_298 pc (ck_l_298 ▸ hl)
              · rcases Nat.lt_or_ge y 300 with h300 | h300
                · rw [show y = 299 by omega] at hl ⊢; exact ck_a_299 pc (ck_l_299 ▸ hl)
                · rcases Nat.lt_or_ge y 301 with h301 | h301
                  · rw [show y = 300 by omega] at hl ⊢; exact ck_a_300 pc (ck_l_300 ▸ hl)
                  · rw [show y = 301 by omega] at hl ⊢; exact ck_a_301 pc (ck_l_301 ▸ hl)
          · rcases Nat.lt_or_ge y 307 with h307 | h307
            · rcases Nat.lt_or_ge y 304 with h304 | h304
              · rcases Nat.lt_or_ge y 303 with h303 | h303
                · rw [show y = 302 by omega] at hl ⊢; exact ck_a_302 pc (ck_l_302 ▸ hl)
                · rw [show y = 303 by omega] at hl ⊢; exact ck_a_303 pc (ck_l_303 ▸ hl)
              · rcases Nat.lt_or_ge y 305 with h305 | h305
                · rw [show y = 304 by omega] at hl ⊢; exact ck_a_304 pc (ck_l_304 ▸ hl)
                · rcases Nat.lt_or_ge y 306 with h306 | h306
                  · rw [show y = 305 by omega] at hl ⊢; exact ck_a_305 pc (ck_l_305 ▸ hl)
                  · rw [show y = 306 by omega] at hl ⊢; exact ck_a_306 pc (ck_l_306 ▸ hl)
            · rcases Nat.lt_or_ge y 309 with h309 | h309
              · rcases Nat.lt_or_ge y 308 with h308 | h308
                · rw [show y = 307 by omega] at hl ⊢; exact ck_a_307 pc (ck_l_307 ▸ hl)
                · rw [show y = 308 by omega] at hl ⊢; exact ck_a_308 pc (ck_l_308 ▸ hl)
              · rcases Nat.lt_or_ge y 310 with h310 | h310
                · rw [show y = 309 by omega] at hl ⊢; exact ck_a_309 pc (ck_l_309 ▸ hl)
                · rcases Nat.lt_or_ge y 311 with h311 | h311
                  · rw [show y = 310 by omega] at hl ⊢; exact ck_a_310 pc (ck_l_310 ▸ hl)
                  · rw [show y = 311 by omega] at hl ⊢; exact ck_a_311 pc (ck_l_311 ▸ hl)

theorem ck_Tab : ∀ y pc en, mm_nth (mm_cd y) pc = some (some en) → decode (mm_by y) pc = .ok (en.1, mm_ln en) ∧ sd_En y pc en := by
  intro y pc en h
  have hy : y < 312 := by
    rcases Nat.lt_or_ge y 312 with h1 | h1
    · exact h1
    · have hb : Nat.blt y 312 = false := by
        cases hc : Nat.blt y 312 with
        | false => rfl
        | true => have := Nat.le_of_ble_eq_true hc; omega
      have e : mm_cd y = [] := by unfold mm_cd; rw [hb]; rfl
      rw [e] at h
      cases h
  have h1 := ck_all hy (ck_len h)
  unfold ck_at at h1
  rw [h] at h1
  simp only [Bool.and_eq_true, decide_eq_true_eq] at h1
  exact ⟨h1.1, ck_En h1.2⟩
