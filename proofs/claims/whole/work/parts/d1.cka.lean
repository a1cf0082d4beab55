/-! ===== the checks, done, 1 (printed by wip/gen/genchk.py) ===== -/
def tb_me (w : Cond) : Bool := (decide (w ∈ tb_W) && goodWord w) || tb_ca.any (fun r => decide (w = am_cw r))
theorem tb_th_k : (tb_th.all fun r => Bundle.fit (am_xn r.2.2) && (vx_atS r.1 r.2.1 (am_xn r.2.2) tb_nm).all tb_me) = true := by decide +kernel
theorem tb_th_ok : ∀ r ∈ tb_th, (Bundle.fit (am_xn r.2.2) = true ∧ ∀ w ∈ vx_atS r.1 r.2.1 (am_xn r.2.2) tb_nm, w ∈ tb_Tg ∨ ∃ r ∈ tb_ca, w = am_cw r) := by
  intro r hr
  have h := List.all_eq_true.mp tb_th_k r hr
  simp only [Bool.and_eq_true] at h
  refine ⟨h.1, fun w hw => ?_⟩
  have h2 := List.all_eq_true.mp h.2 w hw
  simp only [tb_me, Bool.or_eq_true, Bool.and_eq_true, decide_eq_true_eq, List.any_eq_true] at h2
  rcases h2 with ⟨h2, h3⟩ | h2
  · exact Or.inl (List.mem_filter.mpr ⟨h2, h3⟩)
  · exact Or.inr h2
theorem tb_jk_0 : (tb_jk 0 && tb_ckj 0) = true := by decide +kernel
theorem tb_jk_1 : (tb_jk 1 && tb_ckj 1) = true := by decide +kernel
theorem tb_jk_2 : (tb_jk 2 && tb_ckj 2) = true := by decide +kernel
theorem tb_jk_3 : (tb_jk 3 && tb_ckj 3) = true := by decide +kernel
theorem tb_jk_4 : (tb_jk 4 && tb_ckj 4) = true := by decide +kernel
theorem tb_jk_5 : (tb_jk 5 && tb_ckj 5) = true := by decide +kernel
theorem tb_jk_6 : (tb_jk 6 && tb_ckj 6) = true := by decide +kernel
theorem tb_jk_7 : (tb_jk 7 && tb_ckj 7) = true := by decide +kernel
theorem tb_jk_8 : (tb_jk 8 && tb_ckj 8) = true := by decide +kernel
theorem tb_jk_9 : (tb_jk 9 && tb_ckj 9) = true := by decide +kernel
theorem tb_jk_10 : (tb_jk 10 && tb_ckj 10) = true := by decide +kernel
theorem tb_jk_11 : (tb_jk 11 && tb_ckj 11) = true := by decide +kernel
theorem tb_jk_12 : (tb_jk 12 && tb_ckj 12) = true := by decide +kernel
theorem tb_jk_13 : (tb_jk 13 && tb_ckj 13) = true := by decide +kernel
theorem tb_jk_14 : (tb_jk 14 && tb_ckj 14) = true := by decide +kernel
theorem tb_jk_15 : (tb_jk 15 && tb_ckj 15) = true := by decide +kernel
theorem tb_jk_16 : (tb_jk 16 && tb_ckj 16) = true := by decide +kernel
theorem tb_jk_17 : (tb_jk 17 && tb_ckj 17) = true := by decide +kernel
theorem tb_jk_18 : (tb_jk 18 && tb_ckj 18) = true := by decide +kernel
theorem tb_jk_19 : (tb_jk 19 && tb_ckj 19) = true := by decide +kernel
theorem tb_jk_20 : (tb_jk 20 && tb_ckj 20) = true := by decide +kernel
theorem tb_jk_21 : (tb_jk 21 && tb_ckj 21) = true := by decide +kernel
theorem tb_jk_22 : (tb_jk 22 && tb_ckj 22) = true := by decide +kernel
theorem tb_jk_23 : (tb_jk 23 && tb_ckj 23) = true := by decide +kernel
theorem tb_jk_24 : (tb_jk 24 && tb_ckj 24) = true := by decide +kernel
theorem tb_jk_25 : (tb_jk 25 && tb_ckj 25) = true := by decide +kernel
theorem tb_jk_26 : (tb_jk 26 && tb_ckj 26) = true := by decide +kernel
theorem tb_jk_27 : (tb_jk 27 && tb_ckj 27) = true := by decide +kernel
theorem tb_jk_28 : (tb_jk 28 && tb_ckj 28) = true := by decide +kernel
theorem tb_jk_29 : (tb_jk 29 && tb_ckj 29) = true := by decide +kernel
theorem tb_jk_30 : (tb_jk 30 && tb_ckj 30) = true := by decide +kernel
theorem tb_jk_31 : (tb_jk 31 && tb_ckj 31) = true := by decide +kernel
theorem tb_jk_32 : (tb_jk 32 && tb_ckj 32) = true := by decide +kernel
theorem tb_jk_33 : (tb_jk 33 && tb_ckj 33) = true := by decide +kernel
theorem tb_jk_34 : (tb_jk 34 && tb_ckj 34) = true := by decide +kernel
theorem tb_jk_35 : (tb_jk 35 && tb_ckj 35) = true := by decide +kernel
theorem tb_jk_36 : (tb_jk 36 && tb_ckj 36) = true := by decide +kernel
theorem tb_jk_37 : (tb_jk 37 && tb_ckj 37) = true := by decide +kernel
theorem tb_jk_38 : (tb_jk 38 && tb_ckj 38) = true := by decide +kernel
theorem tb_jk_39 : (tb_jk 39 && tb_ckj 39) = true := by decide +kernel
theorem tb_jk_40 : (tb_jk 40 && tb_ckj 40) = true := by decide +kernel
theorem tb_jk_41 : (tb_jk 41 && tb_ckj 41) = true := by decide +kernel
theorem tb_jk_42 : (tb_jk 42 && tb_ckj 42) = true := by decide +kernel
theorem tb_jk_43 : (tb_jk 43 && tb_ckj 43) = true := by decide +kernel
theorem tb_jk_44 : (tb_jk 44 && tb_ckj 44) = true := by decide +kernel
theorem tb_jk_45 : (tb_jk 45 && tb_ckj 45) = true := by decide +kernel
theorem tb_jk_46 : (tb_jk 46 && tb_ckj 46) = true := by decide +kernel
theorem tb_jk_47 : (tb_jk 47 && tb_ckj 47) = true := by decide +kernel
theorem tb_jk_48 : (tb_jk 48 && tb_ckj 48) = true := by decide +kernel
theorem tb_jk_49 : (tb_jk 49 && tb_ckj 49) = true := by decide +kernel
theorem tb_jk_50 : (tb_jk 50 && tb_ckj 50) = true := by decide +kernel
theorem tb_jk_51 : (tb_jk 51 && tb_ckj 51) = true := by decide +kernel
theorem tb_jk_52 : (tb_jk 52 && tb_ckj 52) = true := by decide +kernel
theorem tb_jk_53 : (tb_jk 53 && tb_ckj 53) = true := by decide +kernel
theorem tb_jk_54 : (tb_jk 54 && tb_ckj 54) = true := by decide +kernel
theorem tb_jk_55 : (tb_jk 55 && tb_ckj 55) = true := by decide +kernel
theorem tb_jk_56 : (tb_jk 56 && tb_ckj 56) = true := by decide +kernel
theorem tb_jk_57 : (tb_jk 57 && tb_ckj 57) = true := by decide +kernel
theorem tb_jk_58 : (tb_jk 58 && tb_ckj 58) = true := by decide +kernel
theorem tb_jk_59 : (tb_jk 59 && tb_ckj 59) = true := by decide +kernel
theorem tb_jk_60 : (tb_jk 60 && tb_ckj 60) = true := by decide +kernel
theorem tb_jk_61 : (tb_jk 61 && tb_ckj 61) = true := by decide +kernel
theorem tb_jk_62 : (tb_jk 62 && tb_ckj 62) = true := by decide +kernel
theorem tb_jk_63 : (tb_jk 63 && tb_ckj 63) = true := by decide +kernel
theorem tb_jk_64 : (tb_jk 64 && tb_ckj 64) = true := by decide +kernel
theorem tb_jk_65 : (tb_jk 65 && tb_ckj 65) = true := by decide +kernel
theorem tb_jk_66 : (tb_jk 66 && tb_ckj 66) = true := by decide +kernel
theorem tb_jk_67 : (tb_jk 67 && tb_ckj 67) = true := by decide +kernel
theorem tb_jk_68 : (tb_jk 68 && tb_ckj 68) = true := by decide +kernel
theorem tb_jk_69 : (tb_jk 69 && tb_ckj 69) = true := by decide +kernel
theorem tb_jk_70 : (tb_jk 70 && tb_ckj 70) = true := by decide +kernel
theorem tb_jk_71 : (tb_jk 71 && tb_ckj 71) = true := by decide +kernel
theorem tb_jk_72 : (tb_jk 72 && tb_ckj 72) = true := by decide +kernel
theorem tb_jk_73 : (tb_jk 73 && tb_ckj 73) = true := by decide +kernel
theorem tb_jk_74 : (tb_jk 74 && tb_ckj 74) = true := by decide +kernel
theorem tb_jk_75 : (tb_jk 75 && tb_ckj 75) = true := by decide +kernel
theorem tb_jk_76 : (tb_jk 76 && tb_ckj 76) = true := by decide +kernel
theorem tb_jk_77 : (tb_jk 77 && tb_ckj 77) = true := by decide +kernel
theorem tb_jk_78 : (tb_jk 78 && tb_ckj 78) = true := by decide +kernel
theorem tb_jk_79 : (tb_jk 79 && tb_ckj 79) = true := by decide +kernel
theorem tb_jk_80 : (tb_jk 80 && tb_ckj 80) = true := by decide +kernel
theorem tb_jk_81 : (tb_jk 81 && tb_ckj 81) = true := by decide +kernel
theorem tb_jk_82 : (tb_jk 82 && tb_ckj 82) = true := by decide +kernel
theorem tb_jk_83 : (tb_jk 83 && tb_ckj 83) = true := by decide +kernel
theorem tb_jk_84 : (tb_jk 84 && tb_ckj 84) = true := by decide +kernel
theorem tb_jk_85 : (tb_jk 85 && tb_ckj 85) = true := by decide +kernel
theorem tb_jk_86 : (tb_jk 86 && tb_ckj 86) = true := by decide +kernel
theorem tb_jk_87 : (tb_jk 87 && tb_ckj 87) = true := by decide +kernel
theorem tb_jk_88 : (tb_jk 88 && tb_ckj 88) = true := by decide +kernel
theorem tb_jk_89 : (tb_jk 89 && tb_ckj 89) = true := by decide +kernel
theorem tb_jk_90 : (tb_jk 90 && tb_ckj 90) = true := by decide +kernel
theorem tb_jk_91 : (tb_jk 91 && tb_ckj 91) = true := by decide +kernel
theorem tb_jk_92 : (tb_jk 92 && tb_ckj 92) = true := by decide +kernel
theorem tb_jk_93 : (tb_jk 93 && tb_ckj 93) = true := by decide +kernel
theorem tb_jk_94 : (tb_jk 94 && tb_ckj 94) = true := by decide +kernel
theorem tb_jk_95 : (tb_jk 95 && tb_ckj 95) = true := by decide +kernel
theorem tb_jk_96 : (tb_jk 96 && tb_ckj 96) = true := by decide +kernel
theorem tb_jk_97 : (tb_jk 97 && tb_ckj 97) = true := by decide +kernel
theorem tb_jk_98 : (tb_jk 98 && tb_ckj 98) = true := by decide +kernel
theorem tb_jk_99 : (tb_jk 99 && tb_ckj 99) = true := by decide +kernel
theorem tb_jk_100 : (tb_jk 100 && tb_ckj 100) = true := by decide +kernel
theorem tb_jk_101 : (tb_jk 101 && tb_ckj 101) = true := by decide +kernel
theorem tb_jk_102 : (tb_jk 102 && tb_ckj 102) = true := by decide +kernel
theorem tb_jk_103 : (tb_jk 103 && tb_ckj 103) = true := by decide +kernel
theorem tb_jk_104 : (tb_jk 104 && tb_ckj 104) = true := by decide +kernel
theorem tb_jk_105 : (tb_jk 105 && tb_ckj 105) = true := by decide +kernel
theorem tb_jk_106 : (tb_jk 106 && tb_ckj 106) = true := by decide +kernel
theorem tb_jk_107 : (tb_jk 107 && tb_ckj 107) = true := by decide +kernel
theorem tb_jk_108 : (tb_jk 108 && tb_ckj 108) = true := by decide +kernel
theorem tb_jk_109 : (tb_jk 109 && tb_ckj 109) = true := by decide +kernel
theorem tb_jk_110 : (tb_jk 110 && tb_ckj 110) = true := by decide +kernel
theorem tb_jk_111 : (tb_jk 111 && tb_ckj 111) = true := by decide +kernel
theorem tb_jk_112 : (tb_jk 112 && tb_ckj 112) = true := by decide +kernel
theorem tb_jk_113 : (tb_jk 113 && tb_ckj 113) = true := by decide +kernel
theorem tb_jk_114 : (tb_jk 114 && tb_ckj 114) = true := by decide +kernel
theorem tb_jk_115 : (tb_jk 115 && tb_ckj 115) = true := by decide +kernel
theorem tb_jk_116 : (tb_jk 116 && tb_ckj 116) = true := by decide +kernel
theorem tb_jk_117 : (tb_jk 117 && tb_ckj 117) = true := by decide +kernel
theorem tb_jk_118 : (tb_jk 118 && tb_ckj 118) = true := by decide +kernel
theorem tb_jk_119 : (tb_jk 119 && tb_ckj 119) = true := by decide +kernel
theorem tb_jk_120 : (tb_jk 120 && tb_ckj 120) = true := by decide +kernel
theorem tb_jk_121 : (tb_jk 121 && tb_ckj 121) = true := by decide +kernel
theorem tb_jk_122 : (tb_jk 122 && tb_ckj 122) = true := by decide +kernel
theorem tb_jk_123 : (tb_jk 123 && tb_ckj 123) = true := by decide +kernel
theorem tb_jk_124 : (tb_jk 124 && tb_ckj 124) = true := by decide +kernel
theorem tb_jk_125 : (tb_jk 125 && tb_ckj 125) = true := by decide +kernel
theorem tb_jk_126 : (tb_jk 126 && tb_ckj 126) = true := by decide +kernel
theorem tb_jk_127 : (tb_jk 127 && tb_ckj 127) = true := by decide +kernel
theorem tb_jk_128 : (tb_jk 128 && tb_ckj 128) = true := by decide +kernel
theorem tb_jk_129 : (tb_jk 129 && tb_ckj 129) = true := by decide +kernel
theorem tb_jk_130 : (tb_jk 130 && tb_ckj 130) = true := by decide +kernel
theorem tb_jk_131 : (tb_jk 131 && tb_ckj 131) = true := by decide +kernel
theorem tb_jk_132 : (tb_jk 132 && tb_ckj 132) = true := by decide +kernel
theorem tb_jk_133 : (tb_jk 133 && tb_ckj 133) = true := by decide +kernel
theorem tb_jk_134 : (tb_jk 134 && tb_ckj 134) = true := by decide +kernel
theorem tb_jk_135 : (tb_jk 135 && tb_ckj 135) = true := by decide +kernel
theorem tb_jk_136 : (tb_jk 136 && tb_ckj 136) = true := by decide +kernel
theorem tb_jk_137 : (tb_jk 137 && tb_ckj 137) = true := by decide +kernel
theorem tb_jk_138 : (tb_jk 138 && tb_ckj 138) = true := by decide +kernel
theorem tb_jk_139 : (tb_jk 139 && tb_ckj 139) = true := by decide +kernel
theorem tb_jk_140 : (tb_jk 140 && tb_ckj 140) = true := by decide +kernel
theorem tb_jk_141 : (tb_jk 141 && tb_ckj 141) = true := by decide +kernel
theorem tb_jk_142 : (tb_jk 142 && tb_ckj 142) = true := by decide +kernel
theorem tb_jk_143 : (tb_jk 143 && tb_ckj 143) = true := by decide +kernel
theorem tb_jk_144 : (tb_jk 144 && tb_ckj 144) = true := by decide +kernel
theorem tb_jk_145 : (tb_jk 145 && tb_ckj 145) = true := by decide +kernel
theorem tb_jk_146 : (tb_jk 146 && tb_ckj 146) = true := by decide +kernel
theorem tb_jk_147 : (tb_jk 147 && tb_ckj 147) = true := by decide +kernel
theorem tb_jk_148 : (tb_jk 148 && tb_ckj 148) = true := by decide +kernel
theorem tb_jk_149 : (tb_jk 149 && tb_ckj 149) = true := by decide +kernel
theorem tb_jk_150 : (tb_jk 150 && tb_ckj 150) = true := by decide +kernel
theorem tb_jk_151 : (tb_jk 151 && tb_ckj 151) = true := by decide +kernel
theorem tb_jk_152 : (tb_jk 152 && tb_ckj 152) = true := by decide +kernel
theorem tb_jk_153 : (tb_jk 153 && tb_ckj 153) = true := by decide +kernel
theorem tb_jk_154 : (tb_jk 154 && tb_ckj 154) = true := by decide +kernel
theorem tb_jk_155 : (tb_jk 155 && tb_ckj 155) = true := by decide +kernel
theorem tb_jk_156 : (tb_jk 156 && tb_ckj 156) = true := by decide +kernel
theorem tb_jk_157 : (tb_jk 157 && tb_ckj 157) = true := by decide +kernel
theorem tb_jk_158 : (tb_jk 158 && tb_ckj 158) = true := by decide +kernel
theorem tb_jk_159 : (tb_jk 159 && tb_ckj 159) = true := by decide +kernel
theorem tb_jk_160 : (tb_jk 160 && tb_ckj 160) = true := by decide +kernel
theorem tb_jk_161 : (tb_jk 161 && tb_ckj 161) = true := by decide +kernel
theorem tb_jk_162 : (tb_jk 162 && tb_ckj 162) = true := by decide +kernel
theorem tb_jk_163 : (tb_jk 163 && tb_ckj 163) = true := by decide +kernel
theorem tb_jk_164 : (tb_jk 164 && tb_ckj 164) = true := by decide +kernel
theorem tb_jk_165 : (tb_jk 165 && tb_ckj 165) = true := by decide +kernel
theorem tb_jk_166 : (tb_jk 166 && tb_ckj 166) = true := by decide +kernel
theorem tb_jk_167 : (tb_jk 167 && tb_ckj 167) = true := by decide +kernel
theorem tb_jk_168 : (tb_jk 168 && tb_ckj 168) = true := by decide +kernel
theorem tb_jk_169 : (tb_jk 169 && tb_ckj 169) = true := by decide +kernel
theorem tb_jk_170 : (tb_jk 170 && tb_ckj 170) = true := by decide +kernel
theorem tb_jk_171 : (tb_jk 171 && tb_ckj 171) = true := by decide +kernel
theorem tb_jk_172 : (tb_jk 172 && tb_ckj 172) = true := by decide +kernel
theorem tb_jk_173 : (tb_jk 173 && tb_ckj 173) = true := by decide +kernel
theorem tb_jk_174 : (tb_jk 174 && tb_ckj 174) = true := by decide +kernel
theorem tb_jk_175 : (tb_jk 175 && tb_ckj 175) = true := by decide +kernel
theorem tb_jk_176 : (tb_jk 176 && tb_ckj 176) = true := by decide +kernel
theorem tb_jk_177 : (tb_jk 177 && tb_ckj 177) = true := by decide +kernel
theorem tb_jk_178 : (tb_jk 178 && tb_ckj 178) = true := by decide +kernel
theorem tb_jk_179 : (tb_jk 179 && tb_ckj 179) = true := by decide +kernel
theorem tb_jk_180 : (tb_jk 180 && tb_ckj 180) = true := by decide +kernel
theorem tb_jk_181 : (tb_jk 181 && tb_ckj 181) = true := by decide +kernel
theorem tb_jk_182 : (tb_jk 182 && tb_ckj 182) = true := by decide +kernel
theorem tb_jk_183 : (tb_jk 183 && tb_ckj 183) = true := by decide +kernel
theorem tb_jk_184 : (tb_jk 184 && tb_ckj 184) = true := by decide +kernel
theorem tb_jk_185 : (tb_jk 185 && tb_ckj 185) = true := by decide +kernel
theorem tb_jk_186 : (tb_jk 186 && tb_ckj 186) = true := by decide +kernel
theorem tb_jk_187 : (tb_jk 187 && tb_ckj 187) = true := by decide +kernel
theorem tb_jk_188 : (tb_jk 188 && tb_ckj 188) = true := by decide +kernel
theorem tb_jk_189 : (tb_jk 189 && tb_ckj 189) = true := by decide +kernel
theorem tb_jk_190 : (tb_jk 190 && tb_ckj 190) = true := by decide +kernel
theorem tb_jk_191 : (tb_jk 191 && tb_ckj 191) = true := by decide +kernel
theorem tb_jk_192 : (tb_jk 192 && tb_ckj 192) = true := by decide +kernel
theorem tb_jk_193 : (tb_jk 193 && tb_ckj 193) = true := by decide +kernel
theorem tb_jk_194 : (tb_jk 194 && tb_ckj 194) = true := by decide +kernel
theorem tb_jk_195 : (tb_jk 195 && tb_ckj 195) = true := by decide +kernel
theorem tb_jk_196 : (tb_jk 196 && tb_ckj 196) = true := by decide +kernel
theorem tb_jk_197 : (tb_jk 197 && tb_ckj 197) = true := by decide +kernel
theorem tb_jk_198 : (tb_jk 198 && tb_ckj 198) = true := by decide +kernel
theorem tb_jk_199 : (tb_jk 199 && tb_ckj 199) = true := by decide +kernel
theorem tb_jk_200 : (tb_jk 200 && tb_ckj 200) = true := by decide +kernel
theorem tb_jk_201 : (tb_jk 201 && tb_ckj 201) = true := by decide +kernel
theorem tb_jk_202 : (tb_jk 202 && tb_ckj 202) = true := by decide +kernel
theorem tb_jk_203 : (tb_jk 203 && tb_ckj 203) = true := by decide +kernel
theorem tb_jk_204 : (tb_jk 204 && tb_ckj 204) = true := by decide +kernel
theorem tb_jk_205 : (tb_jk 205 && tb_ckj 205) = true := by decide +kernel
theorem tb_jk_206 : (tb_jk 206 && tb_ckj 206) = true := by decide +kernel
theorem tb_jk_207 : (tb_jk 207 && tb_ckj 207) = true := by decide +kernel
theorem tb_jk_208 : (tb_jk 208 && tb_ckj 208) = true := by decide +kernel
theorem tb_jk_209 : (tb_jk 209 && tb_ckj 209) = true := by decide +kernel
theorem tb_jk_210 : (tb_jk 210 && tb_ckj 210) = true := by decide +kernel
theorem tb_jk_211 : (tb_jk 211 && tb_ckj 211) = true := by decide +kernel
theorem tb_jk_212 : (tb_jk 212 && tb_ckj 212) = true := by decide +kernel
theorem tb_jk_213 : (tb_jk 213 && tb_ckj 213) = true := by decide +kernel
theorem tb_jk_214 : (tb_jk 214 && tb_ckj 214) = true := by decide +kernel
theorem tb_jk_215 : (tb_jk 215 && tb_ckj 215) = true := by decide +kernel
theorem tb_jk_216 : (tb_jk 216 && tb_ckj 216) = true := by decide +kernel
theorem tb_jk_217 : (tb_jk 217 && tb_ckj 217) = true := by decide +kernel
theorem tb_jk_218 : (tb_jk 218 && tb_ckj 218) = true := by decide +kernel
theorem tb_jk_219 : (tb_jk 219 && tb_ckj 219) = true := by decide +kernel
theorem tb_jk_220 : (tb_jk 220 && tb_ckj 220) = true := by decide +kernel
theorem tb_jk_221 : (tb_jk 221 && tb_ckj 221) = true := by decide +kernel
theorem tb_jk_222 : (tb_jk 222 && tb_ckj 222) = true := by decide +kernel
theorem tb_jk_223 : (tb_jk 223 && tb_ckj 223) = true := by decide +kernel
theorem tb_jk_224 : (tb_jk 224 && tb_ckj 224) = true := by decide +kernel
theorem tb_jk_225 : (tb_jk 225 && tb_ckj 225) = true := by decide +kernel
theorem tb_jk_226 : (tb_jk 226 && tb_ckj 226) = true := by decide +kernel
theorem tb_jk_227 : (tb_jk 227 && tb_ckj 227) = true := by decide +kernel
theorem tb_jk_228 : (tb_jk 228 && tb_ckj 228) = true := by decide +kernel
theorem tb_jk_229 : (tb_jk 229 && tb_ckj 229) = true := by decide +kernel
theorem tb_jk_230 : (tb_jk 230 && tb_ckj 230) = true := by decide +kernel
theorem tb_jk_231 : (tb_jk 231 && tb_ckj 231) = true := by decide +kernel
theorem tb_jk_232 : (tb_jk 232 && tb_ckj 232) = true := by decide +kernel
theorem tb_jk_233 : (tb_jk 233 && tb_ckj 233) = true := by decide +kernel
theorem tb_jk_234 : (tb_jk 234 && tb_ckj 234) = true := by decide +kernel
theorem tb_jk_235 : (tb_jk 235 && tb_ckj 235) = true := by decide +kernel
theorem tb_jk_236 : (tb_jk 236 && tb_ckj 236) = true := by decide +kernel
theorem tb_jk_237 : (tb_jk 237 && tb_ckj 237) = true := by decide +kernel
theorem tb_jk_238 : (tb_jk 238 && tb_ckj 238) = true := by decide +kernel
theorem tb_jk_239 : (tb_jk 239 && tb_ckj 239) = true := by decide +kernel
theorem tb_jk_240 : (tb_jk 240 && tb_ckj 240) = true := by decide +kernel
theorem tb_jk_241 : (tb_jk 241 && tb_ckj 241) = true := by decide +kernel
theorem tb_jk_242 : (tb_jk 242 && tb_ckj 242) = true := by decide +kernel
theorem tb_jk_243 : (tb_jk 243 && tb_ckj 243) = true := by decide +kernel
theorem tb_jk_244 : (tb_jk 244 && tb_ckj 244) = true := by decide +kernel
theorem tb_jk_245 : (tb_jk 245 && tb_ckj 245) = true := by decide +kernel
theorem tb_jk_246 : (tb_jk 246 && tb_ckj 246) = true := by decide +kernel
theorem tb_jk_247 : (tb_jk 247 && tb_ckj 247) = true := by decide +kernel
theorem tb_jk_248 : (tb_jk 248 && tb_ckj 248) = true := by decide +kernel
theorem tb_jk_249 : (tb_jk 249 && tb_ckj 249) = true := by decide +kernel
theorem tb_jk_250 : (tb_jk 250 && tb_ckj 250) = true := by decide +kernel
theorem tb_jk_251 : (tb_jk 251 && tb_ckj 251) = true := by decide +kernel
theorem tb_jk_252 : (tb_jk 252 && tb_ckj 252) = true := by decide +kernel
theorem tb_jk_253 : (tb_jk 253 && tb_ckj 253) = true := by decide +kernel
theorem tb_jk_254 : (tb_jk 254 && tb_ckj 254) = true := by decide +kernel
theorem tb_jk_255 : (tb_jk 255 && tb_ckj 255) = true := by decide +kernel
theorem tb_jk_256 : (tb_jk 256 && tb_ckj 256) = true := by decide +kernel
theorem tb_jk_257 : (tb_jk 257 && tb_ckj 257) = true := by decide +kernel
theorem tb_jk_258 : (tb_jk 258 && tb_ckj 258) = true := by decide +kernel
theorem tb_jk_259 : (tb_jk 259 && tb_ckj 259) = true := by decide +kernel
theorem tb_jk_260 : (tb_jk 260 && tb_ckj 260) = true := by decide +kernel
theorem tb_jk_261 : (tb_jk 261 && tb_ckj 261) = true := by decide +kernel
theorem tb_jk_262 : (tb_jk 262 && tb_ckj 262) = true := by decide +kernel
theorem tb_jk_263 : (tb_jk 263 && tb_ckj 263) = true := by decide +kernel
theorem tb_jk_264 : (tb_jk 264 && tb_ckj 264) = true := by decide +kernel
theorem tb_jk_265 : (tb_jk 265 && tb_ckj 265) = true := by decide +kernel
theorem tb_jk_266 : (tb_jk 266 && tb_ckj 266) = true := by decide +kernel
theorem tb_jk_267 : (tb_jk 267 && tb_ckj 267) = true := by decide +kernel
theorem tb_jk_268 : (tb_jk 268 && tb_ckj 268) = true := by decide +kernel
theorem tb_jk_269 : (tb_jk 269 && tb_ckj 269) = true := by decide +kernel
theorem tb_jk_270 : (tb_jk 270 && tb_ckj 270) = true := by decide +kernel
theorem tb_jk_271 : (tb_jk 271 && tb_ckj 271) = true := by decide +kernel
theorem tb_jk_272 : (tb_jk 272 && tb_ckj 272) = true := by decide +kernel
theorem tb_jk_273 : (tb_jk 273 && tb_ckj 273) = true := by decide +kernel
theorem tb_jk_274 : (tb_jk 274 && tb_ckj 274) = true := by decide +kernel
theorem tb_jk_275 : (tb_jk 275 && tb_ckj 275) = true := by decide +kernel
theorem tb_jk_276 : (tb_jk 276 && tb_ckj 276) = true := by decide +kernel
theorem tb_jk_277 : (tb_jk 277 && tb_ckj 277) = true := by decide +kernel
theorem tb_jk_278 : (tb_jk 278 && tb_ckj 278) = true := by decide +kernel
theorem tb_jk_279 : (tb_jk 279 && tb_ckj 279) = true := by decide +kernel
theorem tb_jk_280 : (tb_jk 280 && tb_ckj 280) = true := by decide +kernel
theorem tb_jk_281 : (tb_jk 281 && tb_ckj 281) = true := by decide +kernel
theorem tb_jk_282 : (tb_jk 282 && tb_ckj 282) = true := by decide +kernel
theorem tb_jk_283 : (tb_jk 283 && tb_ckj 283) = true := by decide +kernel
theorem tb_jk_284 : (tb_jk 284 && tb_ckj 284) = true := by decide +kernel
theorem tb_jk_285 : (tb_jk 285 && tb_ckj 285) = true := by decide +kernel
theorem tb_jk_286 : (tb_jk 286 && tb_ckj 286) = true := by decide +kernel
theorem tb_jk_287 : (tb_jk 287 && tb_ckj 287) = true := by decide +kernel
theorem tb_jk_288 : (tb_jk 288 && tb_ckj 288) = true := by decide +kernel
theorem tb_jk_289 : (tb_jk 289 && tb_ckj 289) = true := by decide +kernel
theorem tb_jk_290 : (tb_jk 290 && tb_ckj 290) = true := by decide +kernel
theorem tb_jk_291 : (tb_jk 291 && tb_ckj 291) = true := by decide +kernel
theorem tb_jk_292 : (tb_jk 292 && tb_ckj 292) = true := by decide +kernel
theorem tb_jk_293 : (tb_jk 293 && tb_ckj 293) = true := by decide +kernel
theorem tb_jk_294 : (tb_jk 294 && tb_ckj 294) = true := by decide +kernel
theorem tb_jk_295 : (tb_jk 295 && tb_ckj 295) = true := by decide +kernel
theorem tb_jk_296 : (tb_jk 296 && tb_ckj 296) = true := by decide +kernel
theorem tb_jk_297 : (tb_jk 297 && tb_ckj 297) = true := by decide +kernel
theorem tb_jk_298 : (tb_jk 298 && tb_ckj 298) = true := by decide +kernel
theorem tb_jk_299 : (tb_jk 299 && tb_ckj 299) = true := by decide +kernel
theorem tb_jk_300 : (tb_jk 300 && tb_ckj 300) = true := by decide +kernel
theorem tb_jk_301 : (tb_jk 301 && tb_ckj 301) = true := by decide +kernel
theorem tb_jk_302 : (tb_jk 302 && tb_ckj 302) = true := by decide +kernel
theorem tb_jk_303 : (tb_jk 303 && tb_ckj 303) = true := by decide +kernel
theorem tb_jk_304 : (tb_jk 304 && tb_ckj 304) = true := by decide +kernel
theorem tb_jk_305 : (tb_jk 305 && tb_ckj 305) = true := by decide +kernel
theorem tb_jk_306 : (tb_jk 306 && tb_ckj 306) = true := by decide +kernel
theorem tb_jk_307 : (tb_jk 307 && tb_ckj 307) = true := by decide +kernel
theorem tb_jk_308 : (tb_jk 308 && tb_ckj 308) = true := by decide +kernel
theorem tb_jk_309 : (tb_jk 309 && tb_ckj 309) = true := by decide +kernel
theorem tb_jk_310 : (tb_jk 310 && tb_ckj 310) = true := by decide +kernel
theorem tb_jk_311 : (tb_jk 311 && tb_ckj 311) = true := by decide +kernel
theorem tb_jk_312 : (tb_jk 312 && tb_ckj 312) = true := by decide +kernel
theorem tb_jk_313 : (tb_jk 313 && tb_ckj 313) = true := by decide +kernel
theorem tb_jk_314 : (tb_jk 314 && tb_ckj 314) = true := by decide +kernel
theorem tb_jk_315 : (tb_jk 315 && tb_ckj 315) = true := by decide +kernel
theorem tb_jk_316 : (tb_jk 316 && tb_ckj 316) = true := by decide +kernel
theorem tb_jk_317 : (tb_jk 317 && tb_ckj 317) = true := by decide +kernel
theorem tb_jk_318 : (tb_jk 318 && tb_ckj 318) = true := by decide +kernel
theorem tb_jk_319 : (tb_jk 319 && tb_ckj 319) = true := by decide +kernel
theorem tb_jk_320 : (tb_jk 320 && tb_ckj 320) = true := by decide +kernel
theorem tb_jk_321 : (tb_jk 321 && tb_ckj 321) = true := by decide +kernel
theorem tb_jk_322 : (tb_jk 322 && tb_ckj 322) = true := by decide +kernel
theorem tb_jk_323 : (tb_jk 323 && tb_ckj 323) = true := by decide +kernel
theorem tb_jk_324 : (tb_jk 324 && tb_ckj 324) = true := by decide +kernel
theorem tb_jk_325 : (tb_jk 325 && tb_ckj 325) = true := by decide +kernel
theorem tb_jk_326 : (tb_jk 326 && tb_ckj 326) = true := by decide +kernel
theorem tb_jk_327 : (tb_jk 327 && tb_ckj 327) = true := by decide +kernel
theorem tb_jk_328 : (tb_jk 328 && tb_ckj 328) = true := by decide +kernel
theorem tb_jk_329 : (tb_jk 329 && tb_ckj 329) = true := by decide +kernel
theorem tb_jk_330 : (tb_jk 330 && tb_ckj 330) = true := by decide +kernel
theorem tb_jk_331 : (tb_jk 331 && tb_ckj 331) = true := by decide +kernel
theorem tb_jk_332 : (tb_jk 332 && tb_ckj 332) = true := by decide +kernel
theorem tb_jk_333 : (tb_jk 333 && tb_ckj 333) = true := by decide +kernel
theorem tb_jk_334 : (tb_jk 334 && tb_ckj 334) = true := by decide +kernel
theorem tb_jk_335 : (tb_jk 335 && tb_ckj 335) = true := by decide +kernel
theorem tb_jk_336 : (tb_jk 336 && tb_ckj 336) = true := by decide +kernel
theorem tb_jk_337 : (tb_jk 337 && tb_ckj 337) = true := by decide +kernel
theorem tb_jk_338 : (tb_jk 338 && tb_ckj 338) = true := by decide +kernel
theorem tb_jk_339 : (tb_jk 339 && tb_ckj 339) = true := by decide +kernel
theorem tb_jk_340 : (tb_jk 340 && tb_ckj 340) = true := by decide +kernel
theorem tb_jk_341 : (tb_jk 341 && tb_ckj 341) = true := by decide +kernel
theorem tb_jk_342 : (tb_jk 342 && tb_ckj 342) = true := by decide +kernel
theorem tb_jk_343 : (tb_jk 343 && tb_ckj 343) = true := by decide +kernel
theorem tb_jk_344 : (tb_jk 344 && tb_ckj 344) = true := by decide +kernel
theorem tb_jk_345 : (tb_jk 345 && tb_ckj 345) = true := by decide +kernel
theorem tb_jk_346 : (tb_jk 346 && tb_ckj 346) = true := by decide +kernel
theorem tb_jk_347 : (tb_jk 347 && tb_ckj 347) = true := by decide +kernel
theorem tb_jk_348 : (tb_jk 348 && tb_ckj 348) = true := by decide +kernel
theorem tb_jk_349 : (tb_jk 349 && tb_ckj 349) = true := by decide +kernel
theorem tb_jk_350 : (tb_jk 350 && tb_ckj 350) = true := by decide +kernel
theorem tb_jk_351 : (tb_jk 351 && tb_ckj 351) = true := by decide +kernel
theorem tb_jk_352 : (tb_jk 352 && tb_ckj 352) = true := by decide +kernel
theorem tb_jk_353 : (tb_jk 353 && tb_ckj 353) = true := by decide +kernel
theorem tb_jk_354 : (tb_jk 354 && tb_ckj 354) = true := by decide +kernel
theorem tb_jk_355 : (tb_jk 355 && tb_ckj 355) = true := by decide +kernel
theorem tb_jk_356 : (tb_jk 356 && tb_ckj 356) = true := by decide +kernel
theorem tb_jk_357 : (tb_jk 357 && tb_ckj 357) = true := by decide +kernel
theorem tb_jk_358 : (tb_jk 358 && tb_ckj 358) = true := by decide +kernel
theorem tb_jk_359 : (tb_jk 359 && tb_ckj 359) = true := by decide +kernel
theorem tb_jk_360 : (tb_jk 360 && tb_ckj 360) = true := by decide +kernel
theorem tb_jk_361 : (tb_jk 361 && tb_ckj 361) = true := by decide +kernel
theorem tb_jk_362 : (tb_jk 362 && tb_ckj 362) = true := by decide +kernel
theorem tb_jk_363 : (tb_jk 363 && tb_ckj 363) = true := by decide +kernel
theorem tb_jk_364 : (tb_jk 364 && tb_ckj 364) = true := by decide +kernel
theorem tb_jk_365 : (tb_jk 365 && tb_ckj 365) = true := by decide +kernel
theorem tb_jk_366 : (tb_jk 366 && tb_ckj 366) = true := by decide +kernel
theorem tb_jk_367 : (tb_jk 367 && tb_ckj 367) = true := by decide +kernel
theorem tb_jk_368 : (tb_jk 368 && tb_ckj 368) = true := by decide +kernel
theorem tb_jk_369 : (tb_jk 369 && tb_ckj 369) = true := by decide +kernel
theorem tb_jk_370 : (tb_jk 370 && tb_ckj 370) = true := by decide +kernel
theorem tb_jk_371 : (tb_jk 371 && tb_ckj 371) = true := by decide +kernel
theorem tb_jk_372 : (tb_jk 372 && tb_ckj 372) = true := by decide +kernel
theorem tb_jk_373 : (tb_jk 373 && tb_ckj 373) = true := by decide +kernel
theorem tb_jk_374 : (tb_jk 374 && tb_ckj 374) = true := by decide +kernel
theorem tb_jk_375 : (tb_jk 375 && tb_ckj 375) = true := by decide +kernel
theorem tb_jk_376 : (tb_jk 376 && tb_ckj 376) = true := by decide +kernel
theorem tb_jk_377 : (tb_jk 377 && tb_ckj 377) = true := by decide +kernel
theorem tb_jk_378 : (tb_jk 378 && tb_ckj 378) = true := by decide +kernel
theorem tb_jk_379 : (tb_jk 379 && tb_ckj 379) = true := by decide +kernel
theorem tb_jk_380 : (tb_jk 380 && tb_ckj 380) = true := by decide +kernel
theorem tb_jk_381 : (tb_jk 381 && tb_ckj 381) = true := by decide +kernel
theorem tb_jk_382 : (tb_jk 382 && tb_ckj 382) = true := by decide +kernel
theorem tb_jk_383 : (tb_jk 383 && tb_ckj 383) = true := by decide +kernel
theorem tb_jk_384 : (tb_jk 384 && tb_ckj 384) = true := by decide +kernel
theorem tb_jk_ok_r0 : ∀ j, 0 ≤ j → j < 20 → (tb_jk j && tb_ckj j) = true := by
  intro j h1 h2
  have h : j = 0 ∨ j = 1 ∨ j = 2 ∨ j = 3 ∨ j = 4 ∨ j = 5 ∨ j = 6 ∨ j = 7 ∨ j = 8 ∨ j = 9 ∨ j = 10 ∨ j = 11 ∨ j = 12 ∨ j = 13 ∨ j = 14 ∨ j = 15 ∨ j = 16 ∨ j = 17 ∨ j = 18 ∨ j = 19 := by omega
  rcases h with rfl | rfl | rfl | rfl | rfl | rfl | rfl | rfl | rfl | rfl | rfl | rfl | rfl | rfl | rfl | rfl | rfl | rfl | rfl | rfl
  · exact tb_jk_0
  · exact tb_jk_1
  · exact tb_jk_2
  · exact tb_jk_3
  · exact tb_jk_4
  · exact tb_jk_5
  · exact tb_jk_6
  · exact tb_jk_7
  · exact tb_jk_8
  · exact tb_jk_9
  · exact tb_jk_10
  · exact tb_jk_11
  · exact tb_jk_12
  · exact tb_jk_13
  · exact tb_jk_14
  · exact tb_jk_15
  · exact tb_jk_16
  · exact tb_jk_17
  · exact tb_jk_18
  · exact tb_jk_19
theorem tb_jk_ok_r20 : ∀ j, 20 ≤ j → j < 40 → (tb_jk j && tb_ckj j) = true := by
  intro j h1 h2
  have h : j = 20 ∨ j = 21 ∨ j = 22 ∨ j = 23 ∨ j = 24 ∨ j = 25 ∨ j = 26 ∨ j = 27 ∨ j = 28 ∨ j = 29 ∨ j = 30 ∨ j = 31 ∨ j = 32 ∨ j = 33 ∨ j = 34 ∨ j = 35 ∨ j = 36 ∨ j = 37 ∨ j = 38 ∨ j = 39 := by omega
  rcases h with rfl | rfl | rfl | rfl | rfl | rfl | rfl | rfl | rfl | rfl | rfl | rfl | rfl | rfl | rfl | rfl | rfl | rfl | rfl | rfl
  · exact tb_jk_20
  · exact tb_jk_21
  · exact tb_jk_22
  · exact tb_jk_23
  · exact tb_jk_24
  · exact tb_jk_25
  · exact tb_jk_26
  · exact tb_jk_27
  · exact tb_jk_28
  · exact tb_jk_29
  · exact tb_jk_30
  · exact tb_jk_31
  · exact tb_jk_32
  · exact tb_jk_33
  · exact tb_jk_34
  · exact tb_jk_35
  · exact tb_jk_36
  · exact tb_jk_37
  · exact tb_jk_38
  · exact tb_jk_39
theorem tb_jk_ok_r40 : ∀ j, 40 ≤ j → j < 60 → (tb_jk j && tb_ckj j) = true := by
  intro j h1 h2
  have h : j = 40 ∨ j = 41 ∨ j = 42 ∨ j = 43 ∨ j = 44 ∨ j = 45 ∨ j = 46 ∨ j = 47 ∨ j = 48 ∨ j = 49 ∨ j = 50 ∨ j = 51 ∨ j = 52 ∨ j = 53 ∨ j = 54 ∨ j = 55 ∨ j = 56 ∨ j = 57 ∨ j = 58 ∨ j = 59 := by omega
  rcases h with rfl | rfl | rfl | rfl | rfl | rfl | rfl | rfl | rfl | rfl | rfl | rfl | rfl | rfl | rfl | rfl | rfl | rfl | rfl | rfl
  · exact tb_jk_40
  · exact tb_jk_41
  · exact tb_jk_42
  · exact tb_jk_43
  · exact tb_jk_44
  · exact tb_jk_45
  · exact tb_jk_46
  · exact tb_jk_47
  · exact tb_jk_48
  · exact tb_jk_49
  · exact tb_jk_50
  · exact tb_jk_51
  · exact tb_jk_52
  · exact tb_jk_53
  · exact tb_jk_54
  · exact tb_jk_55
  · exact tb_jk_56
  · exact tb_jk_57
  · exact tb_jk_58
  · exact tb_jk_59
theorem tb_jk_ok_r60 : ∀ j, 60 ≤ j → j < 80 → (tb_jk j && tb_ckj j) = true := by
  intro j h1 h2
  have h : j = 60 ∨ j = 61 ∨ j = 62 ∨ j = 63 ∨ j = 64 ∨ j = 65 ∨ j = 66 ∨ j = 67 ∨ j = 68 ∨ j = 69 ∨ j = 70 ∨ j = 71 ∨ j = 72 ∨ j = 73 ∨ j = 74 ∨ j = 75 ∨ j = 76 ∨ j = 77 ∨ j = 78 ∨ j = 79 := by omega
  rcases h with rfl | rfl | rfl | rfl | rfl | rfl | rfl | rfl | rfl | rfl | rfl | rfl | rfl | rfl | rfl | rfl | rfl | rfl | rfl | rfl
  · exact tb_jk_60
  · exact tb_jk_61
  · exact tb_jk_62
  · exact tb_jk_63
  · exact tb_jk_64
  · exact tb_jk_65
  · exact tb_jk_66
  · exact tb_jk_67
  · exact tb_jk_68
  · exact tb_jk_69
  · exact tb_jk_70
  · exact tb_jk_71
  · exact tb_jk_72
  · exact tb_jk_73
  · exact tb_jk_74
  · exact tb_jk_75
  · exact tb_jk_76
  · exact tb_jk_77
  · exact tb_jk_78
  · exact tb_jk_79
theorem tb_jk_ok_r80 : ∀ j, 80 ≤ j → j < 100 → (tb_jk j && tb_ckj j) = true := by
  intro j h1 h2
  have h : j = 80 ∨ j = 81 ∨ j = 82 ∨ j = 83 ∨ j = 84 ∨ j = 85 ∨ j = 86 ∨ j = 87 ∨ j = 88 ∨ j = 89 ∨ j = 90 ∨ j = 91 ∨ j = 92 ∨ j = 93 ∨ j = 94 ∨ j = 95 ∨ j = 96 ∨ j = 97 ∨ j = 98 ∨ j = 99 := by omega
  rcases h with rfl | rfl | rfl | rfl | rfl | rfl | rfl | rfl | rfl | rfl | rfl | rfl | rfl | rfl | rfl | rfl | rfl | rfl | rfl | rfl
  · exact tb_jk_80
  · exact tb_jk_81
  · exact tb_jk_82
  · exact tb_jk_83
  · exact tb_jk_84
  · exact tb_jk_85
  · exact tb_jk_86
  · exact tb_jk_87
  · exact tb_jk_88
  · exact tb_jk_89
  · exact tb_jk_90
  · exact tb_jk_91
  · exact tb_jk_92
  · exact tb_jk_93
  · exact tb_jk_94
  · exact tb_jk_95
  · exact tb_jk_96
  · exact tb_jk_97
  · exact tb_jk_98
  · exact tb_jk_99
theorem tb_jk_ok_r100 : ∀ j, 100 ≤ j → j < 120 → (tb_jk j && tb_ckj j) = true := by
  intro j h1 h2
  have h : j = 100 ∨ j = 101 ∨ j = 102 ∨ j = 103 ∨ j = 104 ∨ j = 105 ∨ j = 106 ∨ j = 107 ∨ j = 108 ∨ j = 109 ∨ j = 110 ∨ j = 111 ∨ j = 112 ∨ j = 113 ∨ j = 114 ∨ j = 115 ∨ j = 116 ∨ j = 117 ∨ j = 118 ∨ j = 119 := by omega
  rcases h with rfl | rfl | rfl | rfl | rfl | rfl | rfl | rfl | rfl | rfl | rfl | rfl | rfl | rfl | rfl | rfl | rfl | rfl | rfl | rfl
  · exact tb_jk_100
  · exact tb_jk_101
  · exact tb_jk_102
  · exact tb_jk_103
  · exact tb_jk_104
  · exact tb_jk_105
  · exact tb_jk_106
  · exact tb_jk_107
  · exact tb_jk_108
  · exact tb_jk_109
  · exact tb_jk_110
  · exact tb_jk_111
  · exact tb_jk_112
  · exact tb_jk_113
  · exact tb_jk_114
  · exact tb_jk_115
  · exact tb_jk_116
  · exact tb_jk_117
  · exact tb_jk_118
  · exact tb_jk_119
theorem tb_jk_ok_r120 : ∀ j, 120 ≤ j → j < 140 → (tb_jk j && tb_ckj j) = true := by
  intro j h1 h2
  have h : j = 120 ∨ j = 121 ∨ j = 122 ∨ j = 123 ∨ j = 124 ∨ j = 125 ∨ j = 126 ∨ j = 127 ∨ j = 128 ∨ j = 129 ∨ j = 130 ∨ j = 131 ∨ j = 132 ∨ j = 133 ∨ j = 134 ∨ j = 135 ∨ j = 136 ∨ j = 137 ∨ j = 138 ∨ j = 139 := by omega
  rcases h with rfl | rfl | rfl | rfl | rfl | rfl | rfl | rfl | rfl | rfl | rfl | rfl | rfl | rfl | rfl | rfl | rfl | rfl | rfl | rfl
  · exact tb_jk_120
  · exact tb_jk_121
  · exact tb_jk_122
  · exact tb_jk_123
  · exact tb_jk_124
  · exact tb_jk_125
  · exact tb_jk_126
  · exact tb_jk_127
  · exact tb_jk_128
  · exact tb_jk_129
  · exact tb_jk_130
  · exact tb_jk_131
  · exact tb_jk_132
  · exact tb_jk_133
  · exact tb_jk_134
  · exact tb_jk_135
  · exact tb_jk_136
  · exact tb_jk_137
  · exact tb_jk_138
  · exact tb_jk_139
theorem tb_jk_ok_r140 : ∀ j, 140 ≤ j → j < 160 → (tb_jk j && tb_ckj j) = true := by
  intro j h1 h2
  have h : j = 140 ∨ j = 141 ∨ j = 142 ∨ j = 143 ∨ j = 144 ∨ j = 145 ∨ j = 146 ∨ j = 147 ∨ j = 148 ∨ j = 149 ∨ j = 150 ∨ j = 151 ∨ j = 152 ∨ j = 153 ∨ j = 154 ∨ j = 155 ∨ j = 156 ∨ j = 157 ∨ j = 158 ∨ j = 159 := by omega
  rcases h with rfl | rfl | rfl | rfl | rfl | rfl | rfl | rfl | rfl | rfl | rfl | rfl | rfl | rfl | rfl | rfl | rfl | rfl | rfl | rfl
  · exact tb_jk_140
  · exact tb_jk_141
  · exact tb_jk_142
  · exact tb_jk_143
  · exact tb_jk_144
  · exact tb_jk_145
  · exact tb_jk_146
  · exact tb_jk_147
  · exact tb_jk_148
  · exact tb_jk_149
  · exact tb_jk_150
  · exact tb_jk_151
  · exact tb_jk_152
  · exact tb_jk_153
  · exact tb_jk_154
  · exact tb_jk_155
  · exact tb_jk_156
  · exact tb_jk_157
  · exact tb_jk_158
  · exact tb_jk_159
theorem tb_jk_ok_r160 : ∀ j, 160 ≤ j → j < 180 → (tb_jk j && tb_ckj j) = true := by
  intro j h1 h2
  have h : j = 160 ∨ j = 161 ∨ j = 162 ∨ j = 163 ∨ j = 164 ∨ j = 165 ∨ j = 166 ∨ j = 167 ∨ j = 168 ∨ j = 169 ∨ j = 170 ∨ j = 171 ∨ j = 172 ∨ j = 173 ∨ j = 174 ∨ j = 175 ∨ j = 176 ∨ j = 177 ∨ j = 178 ∨ j = 179 := by omega
  rcases h with rfl | rfl | rfl | rfl | rfl | rfl | rfl | rfl | rfl | rfl | rfl | rfl | rfl | rfl | rfl | rfl | rfl | rfl | rfl | rfl
  · exact tb_jk_160
  · exact tb_jk_161
  · exact tb_jk_162
  · exact tb_jk_163
  · exact tb_jk_164
  · exact tb_jk_165
  · exact tb_jk_166
  · exact tb_jk_167
  · exact tb_jk_168
  · exact tb_jk_169
  · exact tb_jk_170
  · exact tb_jk_171
  · exact tb_jk_172
  · exact tb_jk_173
  · exact tb_jk_174
  · exact tb_jk_175
  · exact tb_jk_176
  · exact tb_jk_177
  · exact tb_jk_178
  · exact tb_jk_179
theorem tb_jk_ok_r180 : ∀ j, 180 ≤ j → j < 200 → (tb_jk j && tb_ckj j) = true := by
  intro j h1 h2
  have h : j = 180 ∨ j = 181 ∨ j = 182 ∨ j = 183 ∨ j = 184 ∨ j = 185 ∨ j = 186 ∨ j = 187 ∨ j = 188 ∨ j = 189 ∨ j = 190 ∨ j = 191 ∨ j = 192 ∨ j = 193 ∨ j = 194 ∨ j = 195 ∨ j = 196 ∨ j = 197 ∨ j = 198 ∨ j = 199 := by omega
  rcases h with rfl | rfl | rfl | rfl | rfl | rfl | rfl | rfl | rfl | rfl | rfl | rfl | rfl | rfl | rfl | rfl | rfl | rfl | rfl | rfl
  · exact tb_jk_180
  · exact tb_jk_181
  · exact tb_jk_182
  · exact tb_jk_183
  · exact tb_jk_184
  · exact tb_jk_185
  · exact tb_jk_186
  · exact tb_jk_187
  · exact tb_jk_188
  · exact tb_jk_189
  · exact tb_jk_190
  · exact tb_jk_191
  · exact tb_jk_192
  · exact tb_jk_193
  · exact tb_jk_194
  · exact tb_jk_195
  · exact tb_jk_196
  · exact tb_jk_197
  · exact tb_jk_198
  · exact tb_jk_199
theorem tb_jk_ok_r200 : ∀ j, 200 ≤ j → j < 220 → (tb_jk j && tb_ckj j) = true := by
  intro j h1 h2
  have h : j = 200 ∨ j = 201 ∨ j = 202 ∨ j = 203 ∨ j = 204 ∨ j = 205 ∨ j = 206 ∨ j = 207 ∨ j = 208 ∨ j = 209 ∨ j = 210 ∨ j = 211 ∨ j = 212 ∨ j = 213 ∨ j = 214 ∨ j = 215 ∨ j = 216 ∨ j = 217 ∨ j = 218 ∨ j = 219 := by omega
  rcases h with rfl | rfl | rfl | rfl | rfl | rfl | rfl | rfl | rfl | rfl | rfl | rfl | rfl | rfl | rfl | rfl | rfl | rfl | rfl | rfl
  · exact tb_jk_200
  · exact tb_jk_201
  · exact tb_jk_202
  · exact tb_jk_203
  · exact tb_jk_204
  · exact tb_jk_205
  · exact tb_jk_206
  · exact tb_jk_207
  · exact tb_jk_208
  · exact tb_jk_209
  · exact tb_jk_210
  · exact tb_jk_211
  · exact tb_jk_212
  · exact tb_jk_213
  · exact tb_jk_214
  · exact tb_jk_215
  · exact tb_jk_216
  · exact tb_jk_217
  · exact tb_jk_218
  · exact tb_jk_219
theorem tb_jk_ok_r220 : ∀ j, 220 ≤ j → j < 240 → (tb_jk j && tb_ckj j) = true := by
  intro j h1 h2
  have h : j = 220 ∨ j = 221 ∨ j = 222 ∨ j = 223 ∨ j = 224 ∨ j = 225 ∨ j = 226 ∨ j = 227 ∨ j = 228 ∨ j = 229 ∨ j = 230 ∨ j = 231 ∨ j = 232 ∨ j = 233 ∨ j = 234 ∨ j = 235 ∨ j = 236 ∨ j = 237 ∨ j = 238 ∨ j = 239 := by omega
  rcases h with rfl | rfl | rfl | rfl | rfl | rfl | rfl | rfl | rfl | rfl | rfl | rfl | rfl | rfl | rfl | rfl | rfl | rfl | rfl | rfl
  · exact tb_jk_220
  · exact tb_jk_221
  · exact tb_jk_222
  · exact tb_jk_223
  · exact tb_jk_224
  · exact tb_jk_225
  · exact tb_jk_226
  · exact tb_jk_227
  · exact tb_jk_228
  · exact tb_jk_229
  · exact tb_jk_230
  · exact tb_jk_231
  · exact tb_jk_232
  · exact tb_jk_233
  · exact tb_jk_234
  · exact tb_jk_235
  · exact tb_jk_236
  · exact tb_jk_237
  · exact tb_jk_238
  · exact tb_jk_239
theorem tb_jk_ok_r240 : ∀ j, 240 ≤ j → j < 260 → (tb_jk j && tb_ckj j) = true := by
  intro j h1 h2
  have h : j = 240 ∨ j = 241 ∨ j = 242 ∨ j = 243 ∨ j = 244 ∨ j = 245 ∨ j = 246 ∨ j = 247 ∨ j = 248 ∨ j = 249 ∨ j = 250 ∨ j = 251 ∨ j = 252 ∨ j = 253 ∨ j = 254 ∨ j = 255 ∨ j = 256 ∨ j = 257 ∨ j = 258 ∨ j = 259 := by omega
  rcases h with rfl | rfl | rfl | rfl | rfl | rfl | rfl | rfl | rfl | rfl | rfl | rfl | rfl | rfl | rfl | rfl | rfl | rfl | rfl | rfl
  · exact tb_jk_240
  · exact tb_jk_241
  · exact tb_jk_242
  · exact tb_jk_243
  · exact tb_jk_244
  · exact tb_jk_245
  · exact tb_jk_246
  · exact tb_jk_247
  · exact tb_jk_248
  · exact tb_jk_249
  · exact tb_jk_250
  · exact tb_jk_251
  · exact tb_jk_252
  · exact tb_jk_253
  · exact tb_jk_254
  · exact tb_jk_255
  · exact tb_jk_256
  · exact tb_jk_257
  · exact tb_jk_258
  · exact tb_jk_259
theorem tb_jk_ok_r260 : ∀ j, 260 ≤ j → j < 280 → (tb_jk j && tb_ckj j) = true := by
  intro j h1 h2
  have h : j = 260 ∨ j = 261 ∨ j = 262 ∨ j = 263 ∨ j = 264 ∨ j = 265 ∨ j = 266 ∨ j = 267 ∨ j = 268 ∨ j = 269 ∨ j = 270 ∨ j = 271 ∨ j = 272 ∨ j = 273 ∨ j = 274 ∨ j = 275 ∨ j = 276 ∨ j = 277 ∨ j = 278 ∨ j = 279 := by omega
  rcases h with rfl | rfl | rfl | rfl | rfl | rfl | rfl | rfl | rfl | rfl | rfl | rfl | rfl | rfl | rfl | rfl | rfl | rfl | rfl | rfl
  · exact tb_jk_260
  · exact tb_jk_261
  · exact tb_jk_262
  · exact tb_jk_263
  · exact tb_jk_264
  · exact tb_jk_265
  · exact tb_jk_266
  · exact tb_jk_267
  · exact tb_jk_268
  · exact tb_jk_269
  · exact tb_jk_270
  · exact tb_jk_271
  · exact tb_jk_272
  · exact tb_jk_273
  · exact tb_jk_274
  · exact tb_jk_275
  · exact tb_jk_276
  · exact tb_jk_277
  · exact tb_jk_278
  · exact tb_jk_279
theorem tb_jk_ok_r280 : ∀ j, 280 ≤ j → j < 300 → (tb_jk j && tb_ckj j) = true := by
  intro j h1 h2
  have h : j = 280 ∨ j = 281 ∨ j = 282 ∨ j = 283 ∨ j = 284 ∨ j = 285 ∨ j = 286 ∨ j = 287 ∨ j = 288 ∨ j = 289 ∨ j = 290 ∨ j = 291 ∨ j = 292 ∨ j = 293 ∨ j = 294 ∨ j = 295 ∨ j = 296 ∨ j = 297 ∨ j = 298 ∨ j = 299 := by omega
  rcases h with rfl | rfl | rfl | rfl | rfl | rfl | rfl | rfl | rfl | rfl | rfl | rfl | rfl | rfl | rfl | rfl | rfl | rfl | rfl | rfl
  · exact tb_jk_280
  · exact tb_jk_281
  · exact tb_jk_282
  · exact tb_jk_283
  · exact tb_jk_284
  · exact tb_jk_285
  · exact tb_jk_286
  · exact tb_jk_287
  · exact tb_jk_288
  · exact tb_jk_289
  · exact tb_jk_290
  · exact tb_jk_291
  · exact tb_jk_292
  · exact tb_jk_293
  · exact tb_jk_294
  · exact tb_jk_295
  · exact tb_jk_296
  · exact tb_jk_297
  · exact tb_jk_298
  · exact tb_jk_299
theorem tb_jk_ok_r300 : ∀ j, 300 ≤ j → j < 320 → (tb_jk j && tb_ckj j) = true := by
  intro j h1 h2
  have h : j = 300 ∨ j = 301 ∨ j = 302 ∨ j = 303 ∨ j = 304 ∨ j = 305 ∨ j = 306 ∨ j = 307 ∨ j = 308 ∨ j = 309 ∨ j = 310 ∨ j = 311 ∨ j = 312 ∨ j = 313 ∨ j = 314 ∨ j = 315 ∨ j = 316 ∨ j = 317 ∨ j = 318 ∨ j = 319 := by omega
  rcases h with rfl | rfl | rfl | rfl | rfl | rfl | rfl | rfl | rfl | rfl | rfl | rfl | rfl | rfl | rfl | rfl | rfl | rfl | rfl | rfl
  · exact tb_jk_300
  · exact tb_jk_301
  · exact tb_jk_302
  · exact tb_jk_303
  · exact tb_jk_304
  · exact tb_jk_305
  · exact tb_jk_306
  · exact tb_jk_307
  · exact tb_jk_308
  · exact tb_jk_309
  · exact tb_jk_310
  · exact tb_jk_311
  · exact tb_jk_312
  · exact tb_jk_313
  · exact tb_jk_314
  · exact tb_jk_315
  · exact tb_jk_316
  · exact tb_jk_317
  · exact tb_jk_318
  · exact tb_jk_319
theorem tb_jk_ok_r320 : ∀ j, 320 ≤ j → j < 340 → (tb_jk j && tb_ckj j) = true := by
  intro j h1 h2
  have h : j = 320 ∨ j = 321 ∨ j = 322 ∨ j = 323 ∨ j = 324 ∨ j = 325 ∨ j = 326 ∨ j = 327 ∨ j = 328 ∨ j = 329 ∨ j = 330 ∨ j = 331 ∨ j = 332 ∨ j = 333 ∨ j = 334 ∨ j = 335 ∨ j = 336 ∨ j = 337 ∨ j = 338 ∨ j = 339 := by omega
  rcases h with rfl | rfl | rfl | rfl | rfl | rfl | rfl | rfl | rfl | rfl | rfl | rfl | rfl | rfl | rfl | rfl | rfl | rfl | rfl | rfl
  · exact tb_jk_320
  · exact tb_jk_321
  · exact tb_jk_322
  · exact tb_jk_323
  · exact tb_jk_324
  · exact tb_jk_325
  · exact tb_jk_326
  · exact tb_jk_327
  · exact tb_jk_328
  · exact tb_jk_329
  · exact tb_jk_330
  · exact tb_jk_331
  · exact tb_jk_332
  · exact tb_jk_333
  · exact tb_jk_334
  · exact tb_jk_335
  · exact tb_jk_336
  · exact tb_jk_337
  · exact tb_jk_338
  · exact tb_jk_339
theorem tb_jk_ok_r340 : ∀ j, 340 ≤ j → j < 360 → (tb_jk j && tb_ckj j) = true := by
  intro j h1 h2
  have h : j = 340 ∨ j = 341 ∨ j = 342 ∨ j = 343 ∨ j = 344 ∨ j = 345 ∨ j = 346 ∨ j = 347 ∨ j = 348 ∨ j = 349 ∨ j = 350 ∨ j = 351 ∨ j = 352 ∨ j = 353 ∨ j = 354 ∨ j = 355 ∨ j = 356 ∨ j = 357 ∨ j = 358 ∨ j = 359 := by omega
  rcases h with rfl | rfl | rfl | rfl | rfl | rfl | rfl | rfl | rfl | rfl | rfl | rfl | rfl | rfl | rfl | rfl | rfl | rfl | rfl | rfl
  · exact tb_jk_340
  · exact tb_jk_341
  · exact tb_jk_342
  · exact tb_jk_343
  · exact tb_jk_344
  · exact tb_jk_345
  · exact tb_jk_346
  · exact tb_jk_347
  · exact tb_jk_348
  · exact tb_jk_349
  · exact tb_jk_350
  · exact tb_jk_351
  · exact tb_jk_352
  · exact tb_jk_353
  · exact tb_jk_354
  · exact tb_jk_355
  · exact tb_jk_356
  · exact tb_jk_357
  · exact tb_jk_358
  · exact tb_jk_359
theorem tb_jk_ok_r360 : ∀ j, 360 ≤ j → j < 380 → (tb_jk j && tb_ckj j) = true := by
  intro j h1 h2
  have h : j = 360 ∨ j = 361 ∨ j = 362 ∨ j = 363 ∨ j = 364 ∨ j = 365 ∨ j = 366 ∨ j = 367 ∨ j = 368 ∨ j = 369 ∨ j = 370 ∨ j = 371 ∨ j = 372 ∨ j = 373 ∨ j = 374 ∨ j = 375 ∨ j = 376 ∨ j = 377 ∨ j = 378 ∨ j = 379 := by omega
  rcases h with rfl | rfl | rfl | rfl | rfl | rfl | rfl | rfl | rfl | rfl | rfl | rfl | rfl | rfl | rfl | rfl | rfl | rfl | rfl | rfl
  · exact tb_jk_360
  · exact tb_jk_361
  · exact tb_jk_362
  · exact tb_jk_363
  · exact tb_jk_364
  · exact tb_jk_365
  · exact tb_jk_366
  · exact tb_jk_367
  · exact tb_jk_368
  · exact tb_jk_369
  · exact tb_jk_370
  · exact tb_jk_371
  · exact tb_jk_372
  · exact tb_jk_373
  · exact tb_jk_374
  · exact tb_jk_375
  · exact tb_jk_376
  · exact tb_jk_377
  · exact tb_jk_378
  · exact tb_jk_379
theorem tb_jk_ok_r380 : ∀ j, 380 ≤ j → j < 385 → (tb_jk j && tb_ckj j) = true := by
  intro j h1 h2
  have h : j = 380 ∨ j = 381 ∨ j = 382 ∨ j = 383 ∨ j = 384 := by omega
  rcases h with rfl | rfl | rfl | rfl | rfl
  · exact tb_jk_380
  · exact tb_jk_381
  · exact tb_jk_382
  · exact tb_jk_383
  · exact tb_jk_384
theorem tb_jk_ok : ∀ j, 0 ≤ j → j < 385 → (tb_jk j && tb_ckj j) = true := by
  intro j h0 hj
  rcases Nat.lt_or_ge j 20 with h | h
  · exact tb_jk_ok_r0 j (by omega) h
  rcases Nat.lt_or_ge j 40 with h | h
  · exact tb_jk_ok_r20 j (by omega) h
  rcases Nat.lt_or_ge j 60 with h | h
  · exact tb_jk_ok_r40 j (by omega) h
  rcases Nat.lt_or_ge j 80 with h | h
  · exact tb_jk_ok_r60 j (by omega) h
  rcases Nat.lt_or_ge j 100 with h | h
  · exact tb_jk_ok_r80 j (by omega) h
  rcases Nat.lt_or_ge j 120 with h | h
  · exact tb_jk_ok_r100 j (by omega) h
  rcases Nat.lt_or_ge j 140 with h | h
  · exact tb_jk_ok_r120 j (by omega) h
  rcases Nat.lt_or_ge j 160 with h | h
  · exact tb_jk_ok_r140 j (by omega) h
  rcases Nat.lt_or_ge j 180 with h | h
  · exact tb_jk_ok_r160 j (by omega) h
  rcases Nat.lt_or_ge j 200 with h | h
  · exact tb_jk_ok_r180 j (by omega) h
  rcases Nat.lt_or_ge j 220 with h | h
  · exact tb_jk_ok_r200 j (by omega) h
  rcases Nat.lt_or_ge j 240 with h | h
  · exact tb_jk_ok_r220 j (by omega) h
  rcases Nat.lt_or_ge j 260 with h | h
  · exact tb_jk_ok_r240 j (by omega) h
  rcases Nat.lt_or_ge j 280 with h | h
  · exact tb_jk_ok_r260 j (by omega) h
  rcases Nat.lt_or_ge j 300 with h | h
  · exact tb_jk_ok_r280 j (by omega) h
  rcases Nat.lt_or_ge j 320 with h | h
  · exact tb_jk_ok_r300 j (by omega) h
  rcases Nat.lt_or_ge j 340 with h | h
  · exact tb_jk_ok_r320 j (by omega) h
  rcases Nat.lt_or_ge j 360 with h | h
  · exact tb_jk_ok_r340 j (by omega) h
  rcases Nat.lt_or_ge j 380 with h | h
  · exact tb_jk_ok_r360 j (by omega) h
  rcases Nat.lt_or_ge j 385 with h | h
  · exact tb_jk_ok_r380 j (by omega) h
  exact absurd hj (by omega)
theorem tb_c_1 : ((tb_Tf 1).all (tb_ck 1)) = true := by decide +kernel
theorem tb_c_2 : ((tb_Tf 2).all (tb_ck 2)) = true := by decide +kernel
theorem tb_c_3 : ((tb_Tf 3).all (tb_ck 3)) = true := by decide +kernel
theorem tb_c_4 : ((tb_Tf 4).all (tb_ck 4)) = true := by decide +kernel
theorem tb_c_5 : ((tb_Tf 5).all (tb_ck 5)) = true := by decide +kernel
theorem tb_c_6 : ((tb_Tf 6).all (tb_ck 6)) = true := by decide +kernel
theorem tb_c_7 : ((tb_Tf 7).all (tb_ck 7)) = true := by decide +kernel
theorem tb_c_8 : ((tb_Tf 8).all (tb_ck 8)) = true := by decide +kernel
theorem tb_c_9 : ((tb_Tf 9).all (tb_ck 9)) = true := by decide +kernel
theorem tb_c_10 : ((tb_Tf 10).all (tb_ck 10)) = true := by decide +kernel
theorem tb_c_11 : ((tb_Tf 11).all (tb_ck 11)) = true := by decide +kernel
theorem tb_c_12 : ((tb_Tf 12).all (tb_ck 12)) = true := by decide +kernel
theorem tb_c_13 : ((tb_Tf 13).all (tb_ck 13)) = true := by decide +kernel
theorem tb_c_14 : ((tb_Tf 14).all (tb_ck 14)) = true := by decide +kernel
theorem tb_c_15 : ((tb_Tf 15).all (tb_ck 15)) = true := by decide +kernel
theorem tb_c_16 : ((tb_Tf 16).all (tb_ck 16)) = true := by decide +kernel
theorem tb_c_17 : ((tb_Tf 17).all (tb_ck 17)) = true := by decide +kernel
theorem tb_c_18 : ((tb_Tf 18).all (tb_ck 18)) = true := by decide +kernel
theorem tb_c_19 : ((tb_Tf 19).all (tb_ck 19)) = true := by decide +kernel
theorem tb_c_20 : ((tb_Tf 20).all (tb_ck 20)) = true := by decide +kernel
theorem tb_c_21 : ((tb_Tf 21).all (tb_ck 21)) = true := by decide +kernel
theorem tb_c_22 : ((tb_Tf 22).all (tb_ck 22)) = true := by decide +kernel
theorem tb_c_23 : ((tb_Tf 23).all (tb_ck 23)) = true := by decide +kernel
theorem tb_c_24 : ((tb_Tf 24).all (tb_ck 24)) = true := by decide +kernel
theorem tb_c_25 : ((tb_Tf 25).all (tb_ck 25)) = true := by decide +kernel
theorem tb_c_26 : ((tb_Tf 26).all (tb_ck 26)) = true := by decide +kernel
theorem tb_c_27 : ((tb_Tf 27).all (tb_ck 27)) = true := by decide +kernel
theorem tb_c_28 : ((tb_Tf 28).all (tb_ck 28)) = true := by decide +kernel
theorem tb_c_29 : ((tb_Tf 29).all (tb_ck 29)) = true := by decide +kernel
theorem tb_c_30 : ((tb_Tf 30).all (tb_ck 30)) = true := by decide +kernel
theorem tb_c_31 : ((tb_Tf 31).all (tb_ck 31)) = true := by decide +kernel
theorem tb_c_32 : ((tb_Tf 32).all (tb_ck 32)) = true := by decide +kernel
theorem tb_c_33 : ((tb_Tf 33).all (tb_ck 33)) = true := by decide +kernel
theorem tb_c_34 : ((tb_Tf 34).all (tb_ck 34)) = true := by decide +kernel
theorem tb_c_35 : ((tb_Tf 35).all (tb_ck 35)) = true := by decide +kernel
theorem tb_c_36 : ((tb_Tf 36).all (tb_ck 36)) = true := by decide +kernel
theorem tb_c_37 : ((tb_Tf 37).all (tb_ck 37)) = true := by decide +kernel
theorem tb_c_38 : ((tb_Tf 38).all (tb_ck 38)) = true := by decide +kernel
theorem tb_c_39 : ((tb_Tf 39).all (tb_ck 39)) = true := by decide +kernel
theorem tb_c_40 : ((tb_Tf 40).all (tb_ck 40)) = true := by decide +kernel
theorem tb_c_41 : ((tb_Tf 41).all (tb_ck 41)) = true := by decide +kernel
theorem tb_c_42 : ((tb_Tf 42).all (tb_ck 42)) = true := by decide +kernel
theorem tb_c_43 : ((tb_Tf 43).all (tb_ck 43)) = true := by decide +kernel
theorem tb_c_44 : ((tb_Tf 44).all (tb_ck 44)) = true := by decide +kernel
theorem tb_c_45 : ((tb_Tf 45).all (tb_ck 45)) = true := by decide +kernel
theorem tb_c_46 : ((tb_Tf 46).all (tb_ck 46)) = true := by decide +kernel
theorem tb_c_47 : ((tb_Tf 47).all (tb_ck 47)) = true := by decide +kernel
theorem tb_c_48 : ((tb_Tf 48).all (tb_ck 48)) = true := by decide +kernel
theorem tb_c_49 : ((tb_Tf 49).all (tb_ck 49)) = true := by decide +kernel
theorem tb_c_50 : ((tb_Tf 50).all (tb_ck 50)) = true := by decide +kernel
theorem tb_c_51 : ((tb_Tf 51).all (tb_ck 51)) = true := by decide +kernel
theorem tb_c_52 : ((tb_Tf 52).all (tb_ck 52)) = true := by decide +kernel
theorem tb_c_53 : ((tb_Tf 53).all (tb_ck 53)) = true := by decide +kernel
theorem tb_c_54 : ((tb_Tf 54).all (tb_ck 54)) = true := by decide +kernel
theorem tb_c_55 : ((tb_Tf 55).all (tb_ck 55)) = true := by decide +kernel
theorem tb_c_56 : ((tb_Tf 56).all (tb_ck 56)) = true := by decide +kernel
theorem tb_c_57 : ((tb_Tf 57).all (tb_ck 57)) = true := by decide +kernel
theorem tb_c_58 : ((tb_Tf 58).all (tb_ck 58)) = true := by decide +kernel
theorem tb_c_59 : ((tb_Tf 59).all (tb_ck 59)) = true := by decide +kernel
theorem tb_c_60 : ((tb_Tf 60).all (tb_ck 60)) = true := by decide +kernel
theorem tb_c_61 : ((tb_Tf 61).all (tb_ck 61)) = true := by decide +kernel
theorem tb_c_62 : ((tb_Tf 62).all (tb_ck 62)) = true := by decide +kernel
theorem tb_c_63 : ((tb_Tf 63).all (tb_ck 63)) = true := by decide +kernel
theorem tb_c_64 : ((tb_Tf 64).all (tb_ck 64)) = true := by decide +kernel
theorem tb_c_65 : ((tb_Tf 65).all (tb_ck 65)) = true := by decide +kernel
theorem tb_c_66 : ((tb_Tf 66).all (tb_ck 66)) = true := by decide +kernel
theorem tb_c_67 : ((tb_Tf 67).all (tb_ck 67)) = true := by decide +kernel
theorem tb_c_68 : ((tb_Tf 68).all (tb_ck 68)) = true := by decide +kernel
theorem tb_c_69 : ((tb_Tf 69).all (tb_ck 69)) = true := by decide +kernel
theorem tb_c_70 : ((tb_Tf 70).all (tb_ck 70)) = true := by decide +kernel
theorem tb_c_71 : ((tb_Tf 71).all (tb_ck 71)) = true := by decide +kernel
theorem tb_c_72 : ((tb_Tf 72).all (tb_ck 72)) = true := by decide +kernel
theorem tb_c_73 : ((tb_Tf 73).all (tb_ck 73)) = true := by decide +kernel
theorem tb_c_74 : ((tb_Tf 74).all (tb_ck 74)) = true := by decide +kernel
theorem tb_c_75 : ((tb_Tf 75).all (tb_ck 75)) = true := by decide +kernel
theorem tb_c_76 : ((tb_Tf 76).all (tb_ck 76)) = true := by decide +kernel
theorem tb_c_77 : ((tb_Tf 77).all (tb_ck 77)) = true := by decide +kernel
theorem tb_c_78 : ((tb_Tf 78).all (tb_ck 78)) = true := by decide +kernel
theorem tb_c_79 : ((tb_Tf 79).all (tb_ck 79)) = true := by decide +kernel
theorem tb_c_80 : ((tb_Tf 80).all (tb_ck 80)) = true := by decide +kernel
theorem tb_c_81 : ((tb_Tf 81).all (tb_ck 81)) = true := by decide +kernel
theorem tb_c_82 : ((tb_Tf 82).all (tb_ck 82)) = true := by decide +kernel
theorem tb_c_83 : ((tb_Tf 83).all (tb_ck 83)) = true := by decide +kernel
theorem tb_c_84 : ((tb_Tf 84).all (tb_ck 84)) = true := by decide +kernel
theorem tb_c_85 : ((tb_Tf 85).all (tb_ck 85)) = true := by decide +kernel
theorem tb_c_86 : ((tb_Tf 86).all (tb_ck 86)) = true := by decide +kernel
theorem tb_c_87 : ((tb_Tf 87).all (tb_ck 87)) = true := by decide +kernel
theorem tb_c_88 : ((tb_Tf 88).all (tb_ck 88)) = true := by decide +kernel
theorem tb_c_89 : ((tb_Tf 89).all (tb_ck 89)) = true := by decide +kernel
theorem tb_c_90 : ((tb_Tf 90).all (tb_ck 90)) = true := by decide +kernel
theorem tb_c_91 : ((tb_Tf 91).all (tb_ck 91)) = true := by decide +kernel
theorem tb_c_92 : ((tb_Tf 92).all (tb_ck 92)) = true := by decide +kernel
theorem tb_c_93 : ((tb_Tf 93).all (tb_ck 93)) = true := by decide +kernel
theorem tb_c_94 : ((tb_Tf 94).all (tb_ck 94)) = true := by decide +kernel
theorem tb_c_95 : ((tb_Tf 95).all (tb_ck 95)) = true := by decide +kernel
theorem tb_c_96 : ((tb_Tf 96).all (tb_ck 96)) = true := by decide +kernel
theorem tb_c_97 : ((tb_Tf 97).all (tb_ck 97)) = true := by decide +kernel
theorem tb_c_98 : ((tb_Tf 98).all (tb_ck 98)) = true := by decide +kernel
theorem tb_c_99 : ((tb_Tf 99).all (tb_ck 99)) = true := by decide +kernel
theorem tb_c_100 : ((tb_Tf 100).all (tb_ck 100)) = true := by decide +kernel
theorem tb_c_101 : ((tb_Tf 101).all (tb_ck 101)) = true := by decide +kernel
theorem tb_c_102 : ((tb_Tf 102).all (tb_ck 102)) = true := by decide +kernel
theorem tb_c_103 : ((tb_Tf 103).all (tb_ck 103)) = true := by decide +kernel
theorem tb_c_104 : ((tb_Tf 104).all (tb_ck 104)) = true := by decide +kernel
theorem tb_c_105 : ((tb_Tf 105).all (tb_ck 105)) = true := by decide +kernel
theorem tb_c_106 : ((tb_Tf 106).all (tb_ck 106)) = true := by decide +kernel
theorem tb_c_107 : ((tb_Tf 107).all (tb_ck 107)) = true := by decide +kernel
theorem tb_c_108 : ((tb_Tf 108).all (tb_ck 108)) = true := by decide +kernel
theorem tb_c_109 : ((tb_Tf 109).all (tb_ck 109)) = true := by decide +kernel
theorem tb_c_110 : ((tb_Tf 110).all (tb_ck 110)) = true := by decide +kernel
theorem tb_c_111 : ((tb_Tf 111).all (tb_ck 111)) = true := by decide +kernel
theorem tb_c_112 : ((tb_Tf 112).all (tb_ck 112)) = true := by decide +kernel
theorem tb_c_113 : ((tb_Tf 113).all (tb_ck 113)) = true := by decide +kernel
theorem tb_c_114 : ((tb_Tf 114).all (tb_ck 114)) = true := by decide +kernel
theorem tb_c_115 : ((tb_Tf 115).all (tb_ck 115)) = true := by decide +kernel
theorem tb_c_116 : ((tb_Tf 116).all (tb_ck 116)) = true := by decide +kernel
theorem tb_c_117 : ((tb_Tf 117).all (tb_ck 117)) = true := by decide +kernel
theorem tb_c_118 : ((tb_Tf 118).all (tb_ck 118)) = true := by decide +kernel
theorem tb_c_119 : ((tb_Tf 119).all (tb_ck 119)) = true := by decide +kernel
theorem tb_c_120 : ((tb_Tf 120).all (tb_ck 120)) = true := by decide +kernel
theorem tb_c_121 : ((tb_Tf 121).all (tb_ck 121)) = true := by decide +kernel
theorem tb_c_122 : ((tb_Tf 122).all (tb_ck 122)) = true := by decide +kernel
theorem tb_c_123 : ((tb_Tf 123).all (tb_ck 123)) = true := by decide +kernel
theorem tb_c_124 : ((tb_Tf 124).all (tb_ck 124)) = true := by decide +kernel
theorem tb_c_125 : ((tb_Tf 125).all (tb_ck 125)) = true := by decide +kernel
theorem tb_c_126 : ((tb_Tf 126).all (tb_ck 126)) = true := by decide +kernel
theorem tb_c_127 : ((tb_Tf 127).all (tb_ck 127)) = true := by decide +kernel
theorem tb_c_128 : ((tb_Tf 128).all (tb_ck 128)) = true := by decide +kernel
theorem tb_c_129 : ((tb_Tf 129).all (tb_ck 129)) = true := by decide +kernel
theorem tb_c_130 : ((tb_Tf 130).all (tb_ck 130)) = true := by decide +kernel
theorem tb_c_131 : ((tb_Tf 131).all (tb_ck 131)) = true := by decide +kernel
theorem tb_c_132 : ((tb_Tf 132).all (tb_ck 132)) = true := by decide +kernel
theorem tb_c_133 : ((tb_Tf 133).all (tb_ck 133)) = true := by decide +kernel
theorem tb_c_134 : ((tb_Tf 134).all (tb_ck 134)) = true := by decide +kernel
theorem tb_c_135 : ((tb_Tf 135).all (tb_ck 135)) = true := by decide +kernel
theorem tb_c_136 : ((tb_Tf 136).all (tb_ck 136)) = true := by decide +kernel
theorem tb_c_137 : ((tb_Tf 137).all (tb_ck 137)) = true := by decide +kernel
theorem tb_c_138 : ((tb_Tf 138).all (tb_ck 138)) = true := by decide +kernel
theorem tb_c_139 : ((tb_Tf 139).all (tb_ck 139)) = true := by decide +kernel
theorem tb_c_140 : ((tb_Tf 140).all (tb_ck 140)) = true := by decide +kernel
theorem tb_c_141 : ((tb_Tf 141).all (tb_ck 141)) = true := by decide +kernel
theorem tb_c_142 : ((tb_Tf 142).all (tb_ck 142)) = true := by decide +kernel
theorem tb_c_143 : ((tb_Tf 143).all (tb_ck 143)) = true := by decide +kernel
theorem tb_c_144 : ((tb_Tf 144).all (tb_ck 144)) = true := by decide +kernel
theorem tb_c_145 : ((tb_Tf 145).all (tb_ck 145)) = true := by decide +kernel
theorem tb_c_146 : ((tb_Tf 146).all (tb_ck 146)) = true := by decide +kernel
theorem tb_c_147 : ((tb_Tf 147).all (tb_ck 147)) = true := by decide +kernel
theorem tb_c_148 : ((tb_Tf 148).all (tb_ck 148)) = true := by decide +kernel
theorem tb_c_149 : ((tb_Tf 149).all (tb_ck 149)) = true := by decide +kernel
theorem tb_c_150 : ((tb_Tf 150).all (tb_ck 150)) = true := by decide +kernel
theorem tb_c_151 : ((tb_Tf 151).all (tb_ck 151)) = true := by decide +kernel
theorem tb_c_152 : ((tb_Tf 152).all (tb_ck 152)) = true := by decide +kernel
theorem tb_c_153 : ((tb_Tf 153).all (tb_ck 153)) = true := by decide +kernel
theorem tb_c_154 : ((tb_Tf 154).all (tb_ck 154)) = true := by decide +kernel
theorem tb_c_155 : ((tb_Tf 155).all (tb_ck 155)) = true := by decide +kernel
theorem tb_c_156 : ((tb_Tf 156).all (tb_ck 156)) = true := by decide +kernel
theorem tb_c_157 : ((tb_Tf 157).all (tb_ck 157)) = true := by decide +kernel
theorem tb_c_158 : ((tb_Tf 158).all (tb_ck 158)) = true := by decide +kernel
theorem tb_c_159 : ((tb_Tf 159).all (tb_ck 159)) = true := by decide +kernel
theorem tb_c_160 : ((tb_Tf 160).all (tb_ck 160)) = true := by decide +kernel
theorem tb_c_161 : ((tb_Tf 161).all (tb_ck 161)) = true := by decide +kernel
theorem tb_c_162 : ((tb_Tf 162).all (tb_ck 162)) = true := by decide +kernel
theorem tb_c_163 : ((tb_Tf 163).all (tb_ck 163)) = true := by decide +kernel
theorem tb_c_164 : ((tb_Tf 164).all (tb_ck 164)) = true := by decide +kernel
theorem tb_c_165 : ((tb_Tf 165).all (tb_ck 165)) = true := by decide +kernel
theorem tb_c_166 : ((tb_Tf 166).all (tb_ck 166)) = true := by decide +kernel
theorem tb_c_167 : ((tb_Tf 167).all (tb_ck 167)) = true := by decide +kernel
theorem tb_c_168 : ((tb_Tf 168).all (tb_ck 168)) = true := by decide +kernel
theorem tb_c_169 : ((tb_Tf 169).all (tb_ck 169)) = true := by decide +kernel
theorem tb_c_170 : ((tb_Tf 170).all (tb_ck 170)) = true := by decide +kernel
theorem tb_c_171 : ((tb_Tf 171).all (tb_ck 171)) = true := by decide +kernel
theorem tb_c_172 : ((tb_Tf 172).all (tb_ck 172)) = true := by decide +kernel
theorem tb_c_173 : ((tb_Tf 173).all (tb_ck 173)) = true := by decide +kernel
theorem tb_c_174 : ((tb_Tf 174).all (tb_ck 174)) = true := by decide +kernel
theorem tb_c_175 : ((tb_Tf 175).all (tb_ck 175)) = true := by decide +kernel
theorem tb_c_176 : ((tb_Tf 176).all (tb_ck 176)) = true := by decide +kernel
theorem tb_c_177 : ((tb_Tf 177).all (tb_ck 177)) = true := by decide +kernel
theorem tb_c_178 : ((tb_Tf 178).all (tb_ck 178)) = true := by decide +kernel
theorem tb_c_179 : ((tb_Tf 179).all (tb_ck 179)) = true := by decide +kernel
theorem tb_c_180 : ((tb_Tf 180).all (tb_ck 180)) = true := by decide +kernel
theorem tb_c_181 : ((tb_Tf 181).all (tb_ck 181)) = true := by decide +kernel
theorem tb_c_182 : ((tb_Tf 182).all (tb_ck 182)) = true := by decide +kernel
theorem tb_c_183 : ((tb_Tf 183).all (tb_ck 183)) = true := by decide +kernel
theorem tb_c_184 : ((tb_Tf 184).all (tb_ck 184)) = true := by decide +kernel
theorem tb_c_185 : ((tb_Tf 185).all (tb_ck 185)) = true := by decide +kernel
theorem tb_c_186 : ((tb_Tf 186).all (tb_ck 186)) = true := by decide +kernel
theorem tb_c_187 : ((tb_Tf 187).all (tb_ck 187)) = true := by decide +kernel
theorem tb_c_188 : ((tb_Tf 188).all (tb_ck 188)) = true := by decide +kernel
theorem tb_c_189 : ((tb_Tf 189).all (tb_ck 189)) = true := by decide +kernel
theorem tb_c_190 : ((tb_Tf 190).all (tb_ck 190)) = true := by decide +kernel
theorem tb_c_191 : ((tb_Tf 191).all (tb_ck 191)) = true := by decide +kernel
theorem tb_c_192 : ((tb_Tf 192).all (tb_ck 192)) = true := by decide +kernel
theorem tb_c_193 : ((tb_Tf 193).all (tb_ck 193)) = true := by decide +kernel
theorem tb_c_194 : ((tb_Tf 194).all (tb_ck 194)) = true := by decide +kernel
theorem tb_c_195 : ((tb_Tf 195).all (tb_ck 195)) = true := by decide +kernel
theorem tb_c_196 : ((tb_Tf 196).all (tb_ck 196)) = true := by decide +kernel
theorem tb_c_197 : ((tb_Tf 197).all (tb_ck 197)) = true := by decide +kernel
theorem tb_c_198 : ((tb_Tf 198).all (tb_ck 198)) = true := by decide +kernel
theorem tb_c_199 : ((tb_Tf 199).all (tb_ck 199)) = true := by decide +kernel
theorem tb_cA_r1 : ∀ j, 1 ≤ j → j < 21 → ((tb_Tf j).all (tb_ck j)) = true := by
  intro j h1 h2
  have h : j = 1 ∨ j = 2 ∨ j = 3 ∨ j = 4 ∨ j = 5 ∨ j = 6 ∨ j = 7 ∨ j = 8 ∨ j = 9 ∨ j = 10 ∨ j = 11 ∨ j = 12 ∨ j = 13 ∨ j = 14 ∨ j = 15 ∨ j = 16 ∨ j = 17 ∨ j = 18 ∨ j = 19 ∨ j = 20 := by omega
  rcases h with rfl | rfl | rfl | rfl | rfl | rfl | rfl | rfl | rfl | rfl | rfl | rfl | rfl | rfl | rfl | rfl | rfl | rfl | rfl | rfl
  · exact tb_c_1
  · exact tb_c_2
  · exact tb_c_3
  · exact tb_c_4
  · exact tb_c_5
  · exact tb_c_6
  · exact tb_c_7
  · exact tb_c_8
  · exact tb_c_9
  · exact tb_c_10
  · exact tb_c_11
  · exact tb_c_12
  · exact tb_c_13
  · exact tb_c_14
  · exact tb_c_15
  · exact tb_c_16
  · exact tb_c_17
  · exact tb_c_18
  · exact tb_c_19
  · exact tb_c_20
theorem tb_cA_r21 : ∀ j, 21 ≤ j → j < 41 → ((tb_Tf j).all (tb_ck j)) = true := by
  intro j h1 h2
  have h : j = 21 ∨ j = 22 ∨ j = 23 ∨ j = 24 ∨ j = 25 ∨ j = 26 ∨ j = 27 ∨ j = 28 ∨ j = 29 ∨ j = 30 ∨ j = 31 ∨ j = 32 ∨ j = 33 ∨ j = 34 ∨ j = 35 ∨ j = 36 ∨ j = 37 ∨ j = 38 ∨ j = 39 ∨ j = 40 := by omega
  rcases h with rfl | rfl | rfl | rfl | rfl | rfl | rfl | rfl | rfl | rfl | rfl | rfl | rfl | rfl | rfl | rfl | rfl | rfl | rfl | rfl
  · exact tb_c_21
  · exact tb_c_22
  · exact tb_c_23
  · exact tb_c_24
  · exact tb_c_25
  · exact tb_c_26
  · exact tb_c_27
  · exact tb_c_28
  · exact tb_c_29
  · exact tb_c_30
  · exact tb_c_31
  · exact tb_c_32
  · exact tb_c_33
  · exact tb_c_34
  · exact tb_c_35
  · exact tb_c_36
  · exact tb_c_37
  · exact tb_c_38
  · exact tb_c_39
  · exact tb_c_40
theorem tb_cA_r41 : ∀ j, 41 ≤ j → j < 61 → ((tb_Tf j).all (tb_ck j)) = true := by
  intro j h1 h2
  have h : j = 41 ∨ j = 42 ∨ j = 43 ∨ j = 44 ∨ j = 45 ∨ j = 46 ∨ j = 47 ∨ j = 48 ∨ j = 49 ∨ j = 50 ∨ j = 51 ∨ j = 52 ∨ j = 53 ∨ j = 54 ∨ j = 55 ∨ j = 56 ∨ j = 57 ∨ j = 58 ∨ j = 59 ∨ j = 60 := by omega
  rcases h with rfl | rfl | rfl | rfl | rfl | rfl | rfl | rfl | rfl | rfl | rfl | rfl | rfl | rfl | rfl | rfl | rfl | rfl | rfl | rfl
  · exact tb_c_41
  · exact tb_c_42
  · exact tb_c_43
  · exact tb_c_44
  · exact tb_c_45
  · exact tb_c_46
  · exact tb_c_47
  · exact tb_c_48
  · exact tb_c_49
  · exact tb_c_50
  · exact tb_c_51
  · exact tb_c_52
  · exact tb_c_53
  · exact tb_c_54
  · exact tb_c_55
  · exact tb_c_56
  · exact tb_c_57
  · exact tb_c_58
  · exact tb_c_59
  · exact tb_c_60
theorem tb_cA_r61 : ∀ j, 61 ≤ j → j < 81 → ((tb_Tf j).all (tb_ck j)) = true := by
  intro j h1 h2
  have h : j = 61 ∨ j = 62 ∨ j = 63 ∨ j = 64 ∨ j = 65 ∨ j = 66 ∨ j = 67 ∨ j = 68 ∨ j = 69 ∨ j = 70 ∨ j = 71 ∨ j = 72 ∨ j = 73 ∨ j = 74 ∨ j = 75 ∨ j = 76 ∨ j = 77 ∨ j = 78 ∨ j = 79 ∨ j = 80 := by omega
  rcases h with rfl | rfl | rfl | rfl | rfl | rfl | rfl | rfl | rfl | rfl | rfl | rfl | rfl | rfl | rfl | rfl | rfl | rfl | rfl | rfl
  · exact tb_c_61
  · exact tb_c_62
  · exact tb_c_63
  · exact tb_c_64
  · exact tb_c_65
  · exact tb_c_66
  · exact tb_c_67
  · exact tb_c_68
  · exact tb_c_69
  · exact tb_c_70
  · exact tb_c_71
  · exact tb_c_72
  · exact tb_c_73
  · exact tb_c_74
  · exact tb_c_75
  · exact tb_c_76
  · exact tb_c_77
  · exact tb_c_78
  · exact tb_c_79
  · exact tb_c_80
theorem tb_cA_r81 : ∀ j, 81 ≤ j → j < 101 → ((tb_Tf j).all (tb_ck j)) = true := by
  intro j h1 h2
  have h : j = 81 ∨ j = 82 ∨ j = 83 ∨ j = 84 ∨ j = 85 ∨ j = 86 ∨ j = 87 ∨ j = 88 ∨ j = 89 ∨ j = 90 ∨ j = 91 ∨ j = 92 ∨ j = 93 ∨ j = 94 ∨ j = 95 ∨ j = 96 ∨ j = 97 ∨ j = 98 ∨ j = 99 ∨ j = 100 := by omega
  rcases h with rfl | rfl | rfl | rfl | rfl | rfl | rfl | rfl | rfl | rfl | rfl | rfl | rfl | rfl | rfl | rfl | rfl | rfl | rfl | rfl
  · exact tb_c_81
  · exact tb_c_82
  · exact tb_c_83
  · exact tb_c_84
  · exact tb_c_85
  · exact tb_c_86
  · exact tb_c_87
  · exact tb_c_88
  · exact tb_c_89
  · exact tb_c_90
  · exact tb_c_91
  · exact tb_c_92
  · exact tb_c_93
  · exact tb_c_94
  · exact tb_c_95
  · exact tb_c_96
  · exact tb_c_97
  · exact tb_c_98
  · exact tb_c_99
  · exact tb_c_100
theorem tb_cA_r101 : ∀ j, 101 ≤ j → j < 121 → ((tb_Tf j).all (tb_ck j)) = true := by
  intro j h1 h2
  have h : j = 101 ∨ j = 102 ∨ j = 103 ∨ j = 104 ∨ j = 105 ∨ j = 106 ∨ j = 107 ∨ j = 108 ∨ j = 109 ∨ j = 110 ∨ j = 111 ∨ j = 112 ∨ j = 113 ∨ j = 114 ∨ j = 115 ∨ j = 116 ∨ j = 117 ∨ j = 118 ∨ j = 119 ∨ j = 120 := by omega
  rcases h with rfl | rfl | rfl | rfl | rfl | rfl | rfl | rfl | rfl | rfl | rfl | rfl | rfl | rfl | rfl | rfl | rfl | rfl | rfl | rfl
  · exact tb_c_101
  · exact tb_c_102
  · exact tb_c_103
  · exact tb_c_104
  · exact tb_c_105
  · exact tb_c_106
  · exact tb_c_107
  · exact tb_c_108
  · exact tb_c_109
  · exact tb_c_110
  · exact tb_c_111
  · exact tb_c_112
  · exact tb_c_113
  · exact tb_c_114
  · exact tb_c_115
  · exact tb_c_116
  · exact tb_c_117
  · exact tb_c_118
  · exact tb_c_119
  · exact tb_c_120
theorem tb_cA_r121 : ∀ j, 121 ≤ j → j < 141 → ((tb_Tf j).all (tb_ck j)) = true := by
  intro j h1 h2
  have h : j = 121 ∨ j = 122 ∨ j = 123 ∨ j = 124 ∨ j = 125 ∨ j = 126 ∨ j = 127 ∨ j = 128 ∨ j = 129 ∨ j = 130 ∨ j = 131 ∨ j = 132 ∨ j = 133 ∨ j = 134 ∨ j = 135 ∨ j = 136 ∨ j = 137 ∨ j = 138 ∨ j = 139 ∨ j = 140 := by omega
  rcases h with rfl | rfl | rfl | rfl | rfl | rfl | rfl | rfl | rfl | rfl | rfl | rfl | rfl | rfl | rfl | rfl | rfl | rfl | rfl | rfl
  · exact tb_c_121
  · exact tb_c_122
  · exact tb_c_123
  · exact tb_c_124
  · exact tb_c_125
  · exact tb_c_126
  · exact tb_c_127
  · exact tb_c_128
  · exact tb_c_129
  · exact tb_c_130
  · exact tb_c_131
  · exact tb_c_132
  · exact tb_c_133
  · exact tb_c_134
  · exact tb_c_135
  · exact tb_c_136
  · exact tb_c_137
  · exact tb_c_138
  · exact tb_c_139
  · exact tb_c_140
theorem tb_cA_r141 : ∀ j, 141 ≤ j → j < 161 → ((tb_Tf j).all (tb_ck j)) = true := by
  intro j h1 h2
  have h : j = 141 ∨ j = 142 ∨ j = 143 ∨ j = 144 ∨ j = 145 ∨ j = 146 ∨ j = 147 ∨ j = 148 ∨ j = 149 ∨ j = 150 ∨ j = 151 ∨ j = 152 ∨ j = 153 ∨ j = 154 ∨ j = 155 ∨ j = 156 ∨ j = 157 ∨ j = 158 ∨ j = 159 ∨ j = 160 := by omega
  rcases h with rfl | rfl | rfl | rfl | rfl | rfl | rfl | rfl | rfl | rfl | rfl | rfl | rfl | rfl | rfl | rfl | rfl | rfl | rfl | rfl
  · exact tb_c_141
  · exact tb_c_142
  · exact tb_c_143
  · exact tb_c_144
  · exact tb_c_145
  · exact tb_c_146
  · exact tb_c_147
  · exact tb_c_148
  · exact tb_c_149
  · exact tb_c_150
  · exact tb_c_151
  · exact tb_c_152
  · exact tb_c_153
  · exact tb_c_154
  · exact tb_c_155
  · exact tb_c_156
  · exact tb_c_157
  · exact tb_c_158
  · exact tb_c_159
  · exact tb_c_160
theorem tb_cA_r161 : ∀ j, 161 ≤ j → j < 181 → ((tb_Tf j).all (tb_ck j)) = true := by
  intro j h1 h2
  have h : j = 161 ∨ j = 162 ∨ j = 163 ∨ j = 164 ∨ j = 165 ∨ j = 166 ∨ j = 167 ∨ j = 168 ∨ j = 169 ∨ j = 170 ∨ j = 171 ∨ j = 172 ∨ j = 173 ∨ j = 174 ∨ j = 175 ∨ j = 176 ∨ j = 177 ∨ j = 178 ∨ j = 179 ∨ j = 180 := by omega
  rcases h with rfl | rfl | rfl | rfl | rfl | rfl | rfl | rfl | rfl | rfl | rfl | rfl | rfl | rfl | rfl | rfl | rfl | rfl | rfl | rfl
  · exact tb_c_161
  · exact tb_c_162
  · exact tb_c_163
  · exact tb_c_164
  · exact tb_c_165
  · exact tb_c_166
  · exact tb_c_167
  · exact tb_c_168
  · exact tb_c_169
  · exact tb_c_170
  · exact tb_c_171
  · exact tb_c_172
  · exact tb_c_173
  · exact tb_c_174
  · exact tb_c_175
  · exact tb_c_176
  · exact tb_c_177
  · exact tb_c_178
  · exact tb_c_179
  · exact tb_c_180
theorem tb_cA_r181 : ∀ j, 181 ≤ j → j < 200 → ((tb_Tf j).all (tb_ck j)) = true := by
  intro j h1 h2
  have h : j = 181 ∨ j = 182 ∨ j = 183 ∨ j = 184 ∨ j = 185 ∨ j = 186 ∨ j = 187 ∨ j = 188 ∨ j = 189 ∨ j = 190 ∨ j = 191 ∨ j = 192 ∨ j = 193 ∨ j = 194 ∨ j = 195 ∨ j = 196 ∨ j = 197 ∨ j = 198 ∨ j = 199 := by omega
  rcases h with rfl | rfl | rfl | rfl | rfl | rfl | rfl | rfl | rfl | rfl | rfl | rfl | rfl | rfl | rfl | rfl | rfl | rfl | rfl
  · exact tb_c_181
  · exact tb_c_182
  · exact tb_c_183
  · exact tb_c_184
  · exact tb_c_185
  · exact tb_c_186
  · exact tb_c_187
  · exact tb_c_188
  · exact tb_c_189
  · exact tb_c_190
  · exact tb_c_191
  · exact tb_c_192
  · exact tb_c_193
  · exact tb_c_194
  · exact tb_c_195
  · exact tb_c_196
  · exact tb_c_197
  · exact tb_c_198
  · exact tb_c_199
theorem tb_cA : ∀ j, 1 ≤ j → j < 200 → ((tb_Tf j).all (tb_ck j)) = true := by
  intro j h0 hj
  rcases Nat.lt_or_ge j 21 with h | h
  · exact tb_cA_r1 j (by omega) h
  rcases Nat.lt_or_ge j 41 with h | h
  · exact tb_cA_r21 j (by omega) h
  rcases Nat.lt_or_ge j 61 with h | h
  · exact tb_cA_r41 j (by omega) h
  rcases Nat.lt_or_ge j 81 with h | h
  · exact tb_cA_r61 j (by omega) h
  rcases Nat.lt_or_ge j 101 with h | h
  · exact tb_cA_r81 j (by omega) h
  rcases Nat.lt_or_ge j 121 with h | h
  · exact tb_cA_r101 j (by omega) h
  rcases Nat.lt_or_ge j 141 with h | h
  · exact tb_cA_r121 j (by omega) h
  rcases Nat.lt_or_ge j 161 with h | h
  · exact tb_cA_r141 j (by omega) h
  rcases Nat.lt_or_ge j 181 with h | h
  · exact tb_cA_r161 j (by omega) h
  rcases Nat.lt_or_ge j 200 with h | h
  · exact tb_cA_r181 j (by omega) h
  exact absurd hj (by omega)
