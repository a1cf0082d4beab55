/-! ===== the checks, done, 2 ===== -/
theorem tb_jk_100 : (tb_jk 100 && tb_ckj 100) = true := by decide +kernel
theorem tb_c_100 : ((tb_Tf 100).all (tb_ck 100)) = true := by decide +kernel
theorem tb_jk_101 : (tb_jk 101 && tb_ckj 101) = true := by decide +kernel
theorem tb_c_101 : ((tb_Tf 101).all (tb_ck 101)) = true := by decide +kernel
theorem tb_jk_102 : (tb_jk 102 && tb_ckj 102) = true := by decide +kernel
theorem tb_c_102 : ((tb_Tf 102).all (tb_ck 102)) = true := by decide +kernel
theorem tb_jk_103 : (tb_jk 103 && tb_ckj 103) = true := by decide +kernel
theorem tb_c_103 : ((tb_Tf 103).all (tb_ck 103)) = true := by decide +kernel
theorem tb_jk_104 : (tb_jk 104 && tb_ckj 104) = true := by decide +kernel
theorem tb_c_104 : ((tb_Tf 104).all (tb_ck 104)) = true := by decide +kernel
theorem tb_jk_105 : (tb_jk 105 && tb_ckj 105) = true := by decide +kernel
theorem tb_c_105 : ((tb_Tf 105).all (tb_ck 105)) = true := by decide +kernel
theorem tb_jk_106 : (tb_jk 106 && tb_ckj 106) = true := by decide +kernel
theorem tb_c_106 : ((tb_Tf 106).all (tb_ck 106)) = true := by decide +kernel
theorem tb_jk_107 : (tb_jk 107 && tb_ckj 107) = true := by decide +kernel
theorem tb_c_107 : ((tb_Tf 107).all (tb_ck 107)) = true := by decide +kernel
theorem tb_jk_108 : (tb_jk 108 && tb_ckj 108) = true := by decide +kernel
theorem tb_c_108 : ((tb_Tf 108).all (tb_ck 108)) = true := by decide +kernel
theorem tb_jk_109 : (tb_jk 109 && tb_ckj 109) = true := by decide +kernel
theorem tb_c_109 : ((tb_Tf 109).all (tb_ck 109)) = true := by decide +kernel
theorem tb_jk_110 : (tb_jk 110 && tb_ckj 110) = true := by decide +kernel
theorem tb_c_110 : ((tb_Tf 110).all (tb_ck 110)) = true := by decide +kernel
theorem tb_jk_111 : (tb_jk 111 && tb_ckj 111) = true := by decide +kernel
theorem tb_c_111 : ((tb_Tf 111).all (tb_ck 111)) = true := by decide +kernel
theorem tb_jk_112 : (tb_jk 112 && tb_ckj 112) = true := by decide +kernel
theorem tb_c_112 : ((tb_Tf 112).all (tb_ck 112)) = true := by decide +kernel
theorem tb_jk_113 : (tb_jk 113 && tb_ckj 113) = true := by decide +kernel
theorem tb_c_113 : ((tb_Tf 113).all (tb_ck 113)) = true := by decide +kernel
theorem tb_jk_114 : (tb_jk 114 && tb_ckj 114) = true := by decide +kernel
theorem tb_c_114 : ((tb_Tf 114).all (tb_ck 114)) = true := by decide +kernel
theorem tb_jk_115 : (tb_jk 115 && tb_ckj 115) = true := by decide +kernel
theorem tb_c_115 : ((tb_Tf 115).all (tb_ck 115)) = true := by decide +kernel
theorem tb_jk_154 : (tb_jk 154 && tb_ckj 154) = true := by decide +kernel
theorem tb_c_154 : ((tb_Tf 154).all (tb_ck 154)) = true := by decide +kernel
theorem tb_jk_156 : (tb_jk 156 && tb_ckj 156) = true := by decide +kernel
theorem tb_c_156 : ((tb_Tf 156).all (tb_ck 156)) = true := by decide +kernel
theorem tb_jk_160 : (tb_jk 160 && tb_ckj 160) = true := by decide +kernel
theorem tb_c_160 : ((tb_Tf 160).all (tb_ck 160)) = true := by decide +kernel
theorem tb_jk_164 : (tb_jk 164 && tb_ckj 164) = true := by decide +kernel
theorem tb_c_164 : ((tb_Tf 164).all (tb_ck 164)) = true := by decide +kernel
theorem tb_jk_167 : (tb_jk 167 && tb_ckj 167) = true := by decide +kernel
theorem tb_c_167 : ((tb_Tf 167).all (tb_ck 167)) = true := by decide +kernel
theorem tb_jk_170 : (tb_jk 170 && tb_ckj 170) = true := by decide +kernel
theorem tb_c_170 : ((tb_Tf 170).all (tb_ck 170)) = true := by decide +kernel
theorem tb_jk_173 : (tb_jk 173 && tb_ckj 173) = true := by decide +kernel
theorem tb_c_173 : ((tb_Tf 173).all (tb_ck 173)) = true := by decide +kernel
theorem tb_jk_174 : (tb_jk 174 && tb_ckj 174) = true := by decide +kernel
theorem tb_c_174 : ((tb_Tf 174).all (tb_ck 174)) = true := by decide +kernel
theorem tb_jk_178 : (tb_jk 178 && tb_ckj 178) = true := by decide +kernel
theorem tb_c_178 : ((tb_Tf 178).all (tb_ck 178)) = true := by decide +kernel
theorem tb_jk_181 : (tb_jk 181 && tb_ckj 181) = true := by decide +kernel
theorem tb_c_181 : ((tb_Tf 181).all (tb_ck 181)) = true := by decide +kernel
theorem tb_jk_182 : (tb_jk 182 && tb_ckj 182) = true := by decide +kernel
theorem tb_c_182 : ((tb_Tf 182).all (tb_ck 182)) = true := by decide +kernel
theorem tb_jk_183 : (tb_jk 183 && tb_ckj 183) = true := by decide +kernel
theorem tb_c_183 : ((tb_Tf 183).all (tb_ck 183)) = true := by decide +kernel
theorem tb_jk_186 : (tb_jk 186 && tb_ckj 186) = true := by decide +kernel
theorem tb_c_186 : ((tb_Tf 186).all (tb_ck 186)) = true := by decide +kernel
theorem tb_jk_187 : (tb_jk 187 && tb_ckj 187) = true := by decide +kernel
theorem tb_c_187 : ((tb_Tf 187).all (tb_ck 187)) = true := by decide +kernel
theorem tb_jk_190 : (tb_jk 190 && tb_ckj 190) = true := by decide +kernel
theorem tb_c_190 : ((tb_Tf 190).all (tb_ck 190)) = true := by decide +kernel
theorem tb_jk_191 : (tb_jk 191 && tb_ckj 191) = true := by decide +kernel
theorem tb_c_191 : ((tb_Tf 191).all (tb_ck 191)) = true := by decide +kernel
theorem tb_jk_195 : (tb_jk 195 && tb_ckj 195) = true := by decide +kernel
theorem tb_c_195 : ((tb_Tf 195).all (tb_ck 195)) = true := by decide +kernel
theorem tb_jk_198 : (tb_jk 198 && tb_ckj 198) = true := by decide +kernel
theorem tb_c_198 : ((tb_Tf 198).all (tb_ck 198)) = true := by decide +kernel
theorem tb_jk_204 : (tb_jk 204 && tb_ckj 204) = true := by decide +kernel
theorem tb_c_204 : ((tb_Tf 204).all (tb_ck 204)) = true := by decide +kernel
theorem tb_jk_207 : (tb_jk 207 && tb_ckj 207) = true := by decide +kernel
theorem tb_c_207 : ((tb_Tf 207).all (tb_ck 207)) = true := by decide +kernel
theorem tb_jk_208 : (tb_jk 208 && tb_ckj 208) = true := by decide +kernel
theorem tb_c_208 : ((tb_Tf 208).all (tb_ck 208)) = true := by decide +kernel
theorem tb_jk_210 : (tb_jk 210 && tb_ckj 210) = true := by decide +kernel
theorem tb_c_210 : ((tb_Tf 210).all (tb_ck 210)) = true := by decide +kernel
theorem tb_jk_213 : (tb_jk 213 && tb_ckj 213) = true := by decide +kernel
theorem tb_c_213 : ((tb_Tf 213).all (tb_ck 213)) = true := by decide +kernel
theorem tb_jk_214 : (tb_jk 214 && tb_ckj 214) = true := by decide +kernel
theorem tb_c_214 : ((tb_Tf 214).all (tb_ck 214)) = true := by decide +kernel
theorem tb_jk_215 : (tb_jk 215 && tb_ckj 215) = true := by decide +kernel
theorem tb_c_215 : ((tb_Tf 215).all (tb_ck 215)) = true := by decide +kernel
theorem tb_jk_216 : (tb_jk 216 && tb_ckj 216) = true := by decide +kernel
theorem tb_c_216 : ((tb_Tf 216).all (tb_ck 216)) = true := by decide +kernel
theorem tb_jk_221 : (tb_jk 221 && tb_ckj 221) = true := by decide +kernel
theorem tb_c_221 : ((tb_Tf 221).all (tb_ck 221)) = true := by decide +kernel
theorem tb_jk_224 : (tb_jk 224 && tb_ckj 224) = true := by decide +kernel
theorem tb_c_224 : ((tb_Tf 224).all (tb_ck 224)) = true := by decide +kernel
theorem tb_jk_228 : (tb_jk 228 && tb_ckj 228) = true := by decide +kernel
theorem tb_c_228 : ((tb_Tf 228).all (tb_ck 228)) = true := by decide +kernel
theorem tb_jk_233 : (tb_jk 233 && tb_ckj 233) = true := by decide +kernel
theorem tb_c_233 : ((tb_Tf 233).all (tb_ck 233)) = true := by decide +kernel
theorem tb_jk_236 : (tb_jk 236 && tb_ckj 236) = true := by decide +kernel
theorem tb_c_236 : ((tb_Tf 236).all (tb_ck 236)) = true := by decide +kernel
theorem tb_jk_237 : (tb_jk 237 && tb_ckj 237) = true := by decide +kernel
theorem tb_c_237 : ((tb_Tf 237).all (tb_ck 237)) = true := by decide +kernel
theorem tb_jk_238 : (tb_jk 238 && tb_ckj 238) = true := by decide +kernel
theorem tb_c_238 : ((tb_Tf 238).all (tb_ck 238)) = true := by decide +kernel
theorem tb_jk_239 : (tb_jk 239 && tb_ckj 239) = true := by decide +kernel
theorem tb_c_239 : ((tb_Tf 239).all (tb_ck 239)) = true := by decide +kernel
theorem tb_jk_244 : (tb_jk 244 && tb_ckj 244) = true := by decide +kernel
theorem tb_c_244 : ((tb_Tf 244).all (tb_ck 244)) = true := by decide +kernel
theorem tb_jk_259 : (tb_jk 259 && tb_ckj 259) = true := by decide +kernel
theorem tb_c_259 : ((tb_Tf 259).all (tb_ck 259)) = true := by decide +kernel
theorem tb_jk_260 : (tb_jk 260 && tb_ckj 260) = true := by decide +kernel
theorem tb_c_260 : ((tb_Tf 260).all (tb_ck 260)) = true := by decide +kernel
theorem tb_jk_261 : (tb_jk 261 && tb_ckj 261) = true := by decide +kernel
theorem tb_c_261_0 : (tb_m261_0.all (tb_ck 261)) = true := by decide +kernel
theorem tb_c_261_1 : (tb_m261_1.all (tb_ck 261)) = true := by decide +kernel
theorem tb_c_261 : ((tb_Tf 261).all (tb_ck 261)) = true := by
  show (tb_m261.all (tb_ck 261)) = true
  simp only [tb_m261, List.all_append, tb_c_261_0, tb_c_261_1, Bool.and_self]
theorem tb_jk_262 : (tb_jk 262 && tb_ckj 262) = true := by decide +kernel
theorem tb_c_262 : ((tb_Tf 262).all (tb_ck 262)) = true := by decide +kernel
theorem tb_jk_263 : (tb_jk 263 && tb_ckj 263) = true := by decide +kernel
theorem tb_c_263 : ((tb_Tf 263).all (tb_ck 263)) = true := by decide +kernel
theorem tb_jk_264 : (tb_jk 264 && tb_ckj 264) = true := by decide +kernel
theorem tb_c_264 : ((tb_Tf 264).all (tb_ck 264)) = true := by decide +kernel
theorem tb_jk_271 : (tb_jk 271 && tb_ckj 271) = true := by decide +kernel
theorem tb_c_271 : ((tb_Tf 271).all (tb_ck 271)) = true := by decide +kernel
theorem tb_jk_278 : (tb_jk 278 && tb_ckj 278) = true := by decide +kernel
theorem tb_c_278 : ((tb_Tf 278).all (tb_ck 278)) = true := by decide +kernel
theorem tb_jk_279 : (tb_jk 279 && tb_ckj 279) = true := by decide +kernel
theorem tb_c_279 : ((tb_Tf 279).all (tb_ck 279)) = true := by decide +kernel
theorem tb_jk_284 : (tb_jk 284 && tb_ckj 284) = true := by decide +kernel
theorem tb_c_284 : ((tb_Tf 284).all (tb_ck 284)) = true := by decide +kernel
theorem tb_jk_285 : (tb_jk 285 && tb_ckj 285) = true := by decide +kernel
theorem tb_c_285 : ((tb_Tf 285).all (tb_ck 285)) = true := by decide +kernel
theorem tb_jk_290 : (tb_jk 290 && tb_ckj 290) = true := by decide +kernel
theorem tb_c_290 : ((tb_Tf 290).all (tb_ck 290)) = true := by decide +kernel
theorem tb_jk_291 : (tb_jk 291 && tb_ckj 291) = true := by decide +kernel
theorem tb_c_291 : ((tb_Tf 291).all (tb_ck 291)) = true := by decide +kernel
theorem tb_jk_294 : (tb_jk 294 && tb_ckj 294) = true := by decide +kernel
theorem tb_c_294 : ((tb_Tf 294).all (tb_ck 294)) = true := by decide +kernel
theorem tb_jk_295 : (tb_jk 295 && tb_ckj 295) = true := by decide +kernel
theorem tb_c_295 : ((tb_Tf 295).all (tb_ck 295)) = true := by decide +kernel
theorem tb_jk_296 : (tb_jk 296 && tb_ckj 296) = true := by decide +kernel
theorem tb_c_296 : ((tb_Tf 296).all (tb_ck 296)) = true := by decide +kernel
theorem tb_jk_299 : (tb_jk 299 && tb_ckj 299) = true := by decide +kernel
theorem tb_c_299 : ((tb_Tf 299).all (tb_ck 299)) = true := by decide +kernel
theorem tb_ok_r100 {j : Nat} (hg : tb_gh j = false) (h1 : 100 ≤ j) (h2 : j < 120) : (tb_jk j && tb_ckj j) = true ∧ ((tb_Tf j).all (tb_ck j)) = true := by
  have h : j = 100 ∨ j = 101 ∨ j = 102 ∨ j = 103 ∨ j = 104 ∨ j = 105 ∨ j = 106 ∨ j = 107 ∨ j = 108 ∨ j = 109 ∨ j = 110 ∨ j = 111 ∨ j = 112 ∨ j = 113 ∨ j = 114 ∨ j = 115 ∨ j = 116 ∨ j = 117 ∨ j = 118 ∨ j = 119 := by omega
  rcases h with rfl | rfl | rfl | rfl | rfl | rfl | rfl | rfl | rfl | rfl | rfl | rfl | rfl | rfl | rfl | rfl | rfl | rfl | rfl | rfl
  · exact ⟨tb_jk_100, tb_c_100⟩
  · exact ⟨tb_jk_101, tb_c_101⟩
  · exact ⟨tb_jk_102, tb_c_102⟩
  · exact ⟨tb_jk_103, tb_c_103⟩
  · exact ⟨tb_jk_104, tb_c_104⟩
  · exact ⟨tb_jk_105, tb_c_105⟩
  · exact ⟨tb_jk_106, tb_c_106⟩
  · exact ⟨tb_jk_107, tb_c_107⟩
  · exact ⟨tb_jk_108, tb_c_108⟩
  · exact ⟨tb_jk_109, tb_c_109⟩
  · exact ⟨tb_jk_110, tb_c_110⟩
  · exact ⟨tb_jk_111, tb_c_111⟩
  · exact ⟨tb_jk_112, tb_c_112⟩
  · exact ⟨tb_jk_113, tb_c_113⟩
  · exact ⟨tb_jk_114, tb_c_114⟩
  · exact ⟨tb_jk_115, tb_c_115⟩
  · exact absurd hg (by decide)
  · exact absurd hg (by decide)
  · exact absurd hg (by decide)
  · exact absurd hg (by decide)
theorem tb_ok_r120 {j : Nat} (hg : tb_gh j = false) (h1 : 120 ≤ j) (h2 : j < 140) : (tb_jk j && tb_ckj j) = true ∧ ((tb_Tf j).all (tb_ck j)) = true := by
  have h : j = 120 ∨ j = 121 ∨ j = 122 ∨ j = 123 ∨ j = 124 ∨ j = 125 ∨ j = 126 ∨ j = 127 ∨ j = 128 ∨ j = 129 ∨ j = 130 ∨ j = 131 ∨ j = 132 ∨ j = 133 ∨ j = 134 ∨ j = 135 ∨ j = 136 ∨ j = 137 ∨ j = 138 ∨ j = 139 := by omega
  rcases h with rfl | rfl | rfl | rfl | rfl | rfl | rfl | rfl | rfl | rfl | rfl | rfl | rfl | rfl | rfl | rfl | rfl | rfl | rfl | rfl
  · exact absurd hg (by decide)
  · exact absurd hg (by decide)
  · exact absurd hg (by decide)
  · exact absurd hg (by decide)
  · exact absurd hg (by decide)
  · exact absurd hg (by decide)
  · exact absurd hg (by decide)
  · exact absurd hg (by decide)
  · exact absurd hg (by decide)
  · exact absurd hg (by decide)
  · exact absurd hg (by decide)
  · exact absurd hg (by decide)
  · exact absurd hg (by decide)
  · exact absurd hg (by decide)
  · exact absurd hg (by decide)
  · exact absurd hg (by decide)
  · exact absurd hg (by decide)
  · exact absurd hg (by decide)
  · exact absurd hg (by decide)
  · exact absurd hg (by decide)
theorem tb_ok_r140 {j : Nat} (hg : tb_gh j = false) (h1 : 140 ≤ j) (h2 : j < 160) : (tb_jk j && tb_ckj j) = true ∧ ((tb_Tf j).all (tb_ck j)) = true := by
  have h : j = 140 ∨ j = 141 ∨ j = 142 ∨ j = 143 ∨ j = 144 ∨ j = 145 ∨ j = 146 ∨ j = 147 ∨ j = 148 ∨ j = 149 ∨ j = 150 ∨ j = 151 ∨ j = 152 ∨ j = 153 ∨ j = 154 ∨ j = 155 ∨ j = 156 ∨ j = 157 ∨ j = 158 ∨ j = 159 := by omega
  rcases h with rfl | rfl | rfl | rfl | rfl | rfl | rfl | rfl | rfl | rfl | rfl | rfl | rfl | rfl | rfl | rfl | rfl | rfl | rfl | rfl
  · exact absurd hg (by decide)
  · exact absurd hg (by decide)
  · exact absurd hg (by decide)
  · exact absurd hg (by decide)
  · exact absurd hg (by decide)
  · exact absurd hg (by decide)
  · exact absurd hg (by decide)
  · exact absurd hg (by decide)
  · exact absurd hg (by decide)
  · exact absurd hg (by decide)
  · exact absurd hg (by decide)
  · exact absurd hg (by decide)
  · exact absurd hg (by decide)
  · exact absurd hg (by decide)
  · exact ⟨tb_jk_154, tb_c_154⟩
  · exact absurd hg (by decide)
  · exact ⟨tb_jk_156, tb_c_156⟩
  · exact absurd hg (by decide)
  · exact absurd hg (by decide)
  · exact absurd hg (by decide)
theorem tb_ok_r160 {j : Nat} (hg : tb_gh j = false) (h1 : 160 ≤ j) (h2 : j < 180) : (tb_jk j && tb_ckj j) = true ∧ ((tb_Tf j).all (tb_ck j)) = true := by
  have h : j = 160 ∨ j = 161 ∨ j = 162 ∨ j = 163 ∨ j = 164 ∨ j = 165 ∨ j = 166 ∨ j = 167 ∨ j = 168 ∨ j = 169 ∨ j = 170 ∨ j = 171 ∨ j = 172 ∨ j = 173 ∨ j = 174 ∨ j = 175 ∨ j = 176 ∨ j = 177 ∨ j = 178 ∨ j = 179 := by omega
  rcases h with rfl | rfl | rfl | rfl | rfl | rfl | rfl | rfl | rfl | rfl | rfl | rfl | rfl | rfl | rfl | rfl | rfl | rfl | rfl | rfl
  · exact ⟨tb_jk_160, tb_c_160⟩
  · exact absurd hg (by decide)
  · exact absurd hg (by decide)
  · exact absurd hg (by decide)
  · exact ⟨tb_jk_164, tb_c_164⟩
  · exact absurd hg (by decide)
  · exact absurd hg (by decide)
  · exact ⟨tb_jk_167, tb_c_167⟩
  · exact absurd hg (by decide)
  · exact absurd hg (by decide)
  · exact ⟨tb_jk_170, tb_c_170⟩
  · exact absurd hg (by decide)
  · exact absurd hg (by decide)
  · exact ⟨tb_jk_173, tb_c_173⟩
  · exact ⟨tb_jk_174, tb_c_174⟩
  · exact absurd hg (by decide)
  · exact absurd hg (by decide)
  · exact absurd hg (by decide)
  · exact ⟨tb_jk_178, tb_c_178⟩
  · exact absurd hg (by decide)
theorem tb_ok_r180 {j : Nat} (hg : tb_gh j = false) (h1 : 180 ≤ j) (h2 : j < 200) : (tb_jk j && tb_ckj j) = true ∧ ((tb_Tf j).all (tb_ck j)) = true := by
  have h : j = 180 ∨ j = 181 ∨ j = 182 ∨ j = 183 ∨ j = 184 ∨ j = 185 ∨ j = 186 ∨ j = 187 ∨ j = 188 ∨ j = 189 ∨ j = 190 ∨ j = 191 ∨ j = 192 ∨ j = 193 ∨ j = 194 ∨ j = 195 ∨ j = 196 ∨ j = 197 ∨ j = 198 ∨ j = 199 := by omega
  rcases h with rfl | rfl | rfl | rfl | rfl | rfl | rfl | rfl | rfl | rfl | rfl | rfl | rfl | rfl | rfl | rfl | rfl | rfl | rfl | rfl
  · exact absurd hg (by decide)
  · exact ⟨tb_jk_181, tb_c_181⟩
  · exact ⟨tb_jk_182, tb_c_182⟩
  · exact ⟨tb_jk_183, tb_c_183⟩
  · exact absurd hg (by decide)
  · exact absurd hg (by decide)
  · exact ⟨tb_jk_186, tb_c_186⟩
  · exact ⟨tb_jk_187, tb_c_187⟩
  · exact absurd hg (by decide)
  · exact absurd hg (by decide)
  · exact ⟨tb_jk_190, tb_c_190⟩
  · exact ⟨tb_jk_191, tb_c_191⟩
  · exact absurd hg (by decide)
  · exact absurd hg (by decide)
  · exact absurd hg (by decide)
  · exact ⟨tb_jk_195, tb_c_195⟩
  · exact absurd hg (by decide)
  · exact absurd hg (by decide)
  · exact ⟨tb_jk_198, tb_c_198⟩
  · exact absurd hg (by decide)
theorem tb_ok_r200 {j : Nat} (hg : tb_gh j = false) (h1 : 200 ≤ j) (h2 : j < 220) : (tb_jk j && tb_ckj j) = true ∧ ((tb_Tf j).all (tb_ck j)) = true := by
  have h : j = 200 ∨ j = 201 ∨ j = 202 ∨ j = 203 ∨ j = 204 ∨ j = 205 ∨ j = 206 ∨ j = 207 ∨ j = 208 ∨ j = 209 ∨ j = 210 ∨ j = 211 ∨ j = 212 ∨ j = 213 ∨ j = 214 ∨ j = 215 ∨ j = 216 ∨ j = 217 ∨ j = 218 ∨ j = 219 := by omega
  rcases h with rfl | rfl | rfl | rfl | rfl | rfl | rfl | rfl | rfl | rfl | rfl | rfl | rfl | rfl | rfl | rfl | rfl | rfl | rfl | rfl
  · exact absurd hg (by decide)
  · exact absurd hg (by decide)
  · exact absurd hg (by decide)
  · exact absurd hg (by decide)
  · exact ⟨tb_jk_204, tb_c_204⟩
  · exact absurd hg (by decide)
  · exact absurd hg (by decide)
  · exact ⟨tb_jk_207, tb_c_207⟩
  · exact ⟨tb_jk_208, tb_c_208⟩
  · exact absurd hg (by decide)
  · exact ⟨tb_jk_210, tb_c_210⟩
  · exact absurd hg (by decide)
  · exact absurd hg (by decide)
  · exact ⟨tb_jk_213, tb_c_213⟩
  · exact ⟨tb_jk_214, tb_c_214⟩
  · exact ⟨tb_jk_215, tb_c_215⟩
  · exact ⟨tb_jk_216, tb_c_216⟩
  · exact absurd hg (by decide)
  · exact absurd hg (by decide)
  · exact absurd hg (by decide)
theorem tb_ok_r220 {j : Nat} (hg : tb_gh j = false) (h1 : 220 ≤ j) (h2 : j < 240) : (tb_jk j && tb_ckj j) = true ∧ ((tb_Tf j).all (tb_ck j)) = true := by
  have h : j = 220 ∨ j = 221 ∨ j = 222 ∨ j = 223 ∨ j = 224 ∨ j = 225 ∨ j = 226 ∨ j = 227 ∨ j = 228 ∨ j = 229 ∨ j = 230 ∨ j = 231 ∨ j = 232 ∨ j = 233 ∨ j = 234 ∨ j = 235 ∨ j = 236 ∨ j = 237 ∨ j = 238 ∨ j = 239 := by omega
  rcases h with rfl | rfl | rfl | rfl | rfl | rfl | rfl | rfl | rfl | rfl | rfl | rfl | rfl | rfl | rfl | rfl | rfl | rfl | rfl | rfl
  · exact absurd hg (by decide)
  · exact ⟨tb_jk_221, tb_c_221⟩
  · exact absurd hg (by decide)
  · exact absurd hg (by decide)
  · exact ⟨tb_jk_224, tb_c_224⟩
  · exact absurd hg (by decide)
  · exact absurd hg (by decide)
  · exact absurd hg (by decide)
  · exact ⟨tb_jk_228, tb_c_228⟩
  · exact absurd hg (by decide)
  · exact absurd hg (by decide)
  · exact absurd hg (by decide)
  · exact absurd hg (by decide)
  · exact ⟨tb_jk_233, tb_c_233⟩
  · exact absurd hg (by decide)
  · exact absurd hg (by decide)
  · exact ⟨tb_jk_236, tb_c_236⟩
  · exact ⟨tb_jk_237, tb_c_237⟩
  · exact ⟨tb_jk_238, tb_c_238⟩
  · exact ⟨tb_jk_239, tb_c_239⟩
theorem tb_ok_r240 {j : Nat} (hg : tb_gh j = false) (h1 : 240 ≤ j) (h2 : j < 260) : (tb_jk j && tb_ckj j) = true ∧ ((tb_Tf j).all (tb_ck j)) = true := by
  have h : j = 240 ∨ j = 241 ∨ j = 242 ∨ j = 243 ∨ j = 244 ∨ j = 245 ∨ j = 246 ∨ j = 247 ∨ j = 248 ∨ j = 249 ∨ j = 250 ∨ j = 251 ∨ j = 252 ∨ j = 253 ∨ j = 254 ∨ j = 255 ∨ j = 256 ∨ j = 257 ∨ j = 258 ∨ j = 259 := by omega
  rcases h with rfl | rfl | rfl | rfl | rfl | rfl | rfl | rfl | rfl | rfl | rfl | rfl | rfl | rfl | rfl | rfl | rfl | rfl | rfl | rfl
  · exact absurd hg (by decide)
  · exact absurd hg (by decide)
  · exact absurd hg (by decide)
  · exact absurd hg (by decide)
  · exact ⟨tb_jk_244, tb_c_244⟩
  · exact absurd hg (by decide)
  · exact absurd hg (by decide)
  · exact absurd hg (by decide)
  · exact absurd hg (by decide)
  · exact absurd hg (by decide)
  · exact absurd hg (by decide)
  · exact absurd hg (by decide)
  · exact absurd hg (by decide)
  · exact absurd hg (by decide)
  · exact absurd hg (by decide)
  · exact absurd hg (by decide)
  · exact absurd hg (by decide)
  · exact absurd hg (by decide)
  · exact absurd hg (by decide)
  · exact ⟨tb_jk_259, tb_c_259⟩
theorem tb_ok_r260 {j : Nat} (hg : tb_gh j = false) (h1 : 260 ≤ j) (h2 : j < 280) : (tb_jk j && tb_ckj j) = true ∧ ((tb_Tf j).all (tb_ck j)) = true := by
  have h : j = 260 ∨ j = 261 ∨ j = 262 ∨ j = 263 ∨ j = 264 ∨ j = 265 ∨ j = 266 ∨ j = 267 ∨ j = 268 ∨ j = 269 ∨ j = 270 ∨ j = 271 ∨ j = 272 ∨ j = 273 ∨ j = 274 ∨ j = 275 ∨ j = 276 ∨ j = 277 ∨ j = 278 ∨ j = 279 := by omega
  rcases h with rfl | rfl | rfl | rfl | rfl | rfl | rfl | rfl | rfl | rfl | rfl | rfl | rfl | rfl | rfl | rfl | rfl | rfl | rfl | rfl
  · exact ⟨tb_jk_260, tb_c_260⟩
  · exact ⟨tb_jk_261, tb_c_261⟩
  · exact ⟨tb_jk_262, tb_c_262⟩
  · exact ⟨tb_jk_263, tb_c_263⟩
  · exact ⟨tb_jk_264, tb_c_264⟩
  · exact absurd hg (by decide)
  · exact absurd hg (by decide)
  · exact absurd hg (by decide)
  · exact absurd hg (by decide)
  · exact absurd hg (by decide)
  · exact absurd hg (by decide)
  · exact ⟨tb_jk_271, tb_c_271⟩
  · exact absurd hg (by decide)
  · exact absurd hg (by decide)
  · exact absurd hg (by decide)
  · exact absurd hg (by decide)
  · exact absurd hg (by decide)
  · exact absurd hg (by decide)
  · exact ⟨tb_jk_278, tb_c_278⟩
  · exact ⟨tb_jk_279, tb_c_279⟩
theorem tb_ok_r280 {j : Nat} (hg : tb_gh j = false) (h1 : 280 ≤ j) (h2 : j < 300) : (tb_jk j && tb_ckj j) = true ∧ ((tb_Tf j).all (tb_ck j)) = true := by
  have h : j = 280 ∨ j = 281 ∨ j = 282 ∨ j = 283 ∨ j = 284 ∨ j = 285 ∨ j = 286 ∨ j = 287 ∨ j = 288 ∨ j = 289 ∨ j = 290 ∨ j = 291 ∨ j = 292 ∨ j = 293 ∨ j = 294 ∨ j = 295 ∨ j = 296 ∨ j = 297 ∨ j = 298 ∨ j = 299 := by omega
  rcases h with rfl | rfl | rfl | rfl | rfl | rfl | rfl | rfl | rfl | rfl | rfl | rfl | rfl | rfl | rfl | rfl | rfl | rfl | rfl | rfl
  · exact absurd hg (by decide)
  · exact absurd hg (by decide)
  · exact absurd hg (by decide)
  · exact absurd hg (by decide)
  · exact ⟨tb_jk_284, tb_c_284⟩
  · exact ⟨tb_jk_285, tb_c_285⟩
  · exact absurd hg (by decide)
  · exact absurd hg (by decide)
  · exact absurd hg (by decide)
  · exact absurd hg (by decide)
  · exact ⟨tb_jk_290, tb_c_290⟩
  · exact ⟨tb_jk_291, tb_c_291⟩
  · exact absurd hg (by decide)
  · exact absurd hg (by decide)
  · exact ⟨tb_jk_294, tb_c_294⟩
  · exact ⟨tb_jk_295, tb_c_295⟩
  · exact ⟨tb_jk_296, tb_c_296⟩
  · exact absurd hg (by decide)
  · exact absurd hg (by decide)
  · exact ⟨tb_jk_299, tb_c_299⟩
theorem tb_okB {j : Nat} (hg : tb_gh j = false) (h1 : 100 ≤ j) (h2 : j < 300) : (tb_jk j && tb_ckj j) = true ∧ ((tb_Tf j).all (tb_ck j)) = true := by
  rcases Nat.lt_or_ge j 120 with h | h
  · exact tb_ok_r100 hg (by omega) h
  rcases Nat.lt_or_ge j 140 with h | h
  · exact tb_ok_r120 hg (by omega) h
  rcases Nat.lt_or_ge j 160 with h | h
  · exact tb_ok_r140 hg (by omega) h
  rcases Nat.lt_or_ge j 180 with h | h
  · exact tb_ok_r160 hg (by omega) h
  rcases Nat.lt_or_ge j 200 with h | h
  · exact tb_ok_r180 hg (by omega) h
  rcases Nat.lt_or_ge j 220 with h | h
  · exact tb_ok_r200 hg (by omega) h
  rcases Nat.lt_or_ge j 240 with h | h
  · exact tb_ok_r220 hg (by omega) h
  rcases Nat.lt_or_ge j 260 with h | h
  · exact tb_ok_r240 hg (by omega) h
  rcases Nat.lt_or_ge j 280 with h | h
  · exact tb_ok_r260 hg (by omega) h
  rcases Nat.lt_or_ge j 300 with h | h
  · exact tb_ok_r280 hg (by omega) h
  exact absurd h2 (by omega)
