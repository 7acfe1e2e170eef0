/-! the numbers of the cells -/
def CId (C : Nat) : Prop := kd C = 10 ∧ 1 ≤ C ∧ C + 9 ≤ 264 ∧ kd (C + 1) = 4 ∧ ln (C + 1) = 4 ∧ (∀ t u, q_R t u C 0 = C + 1) ∧ ∀ c, c < 4 → HId (C + 2 + 2 * c) ∧ ∀ t u, q_R t u (C + 1) c = C + 2 + 2 * c
def TId (T : Nat) : Prop := kd T = 18 ∧ CId (T + 1) ∧ (∀ t u, q_R t u T 0 = T + 1) ∧ (∀ j, j < 6 → kd (T + 11 + j) = 1 ∧ (∀ t u, q_R t u T (j + 1) = T + 11 + j)) ∧ (ln (T + 11) = 4 ∧ ln (T + 12) = 4 ∧ ln (T + 13) = 4 ∧ ln (T + 14) = 6 ∧ ln (T + 15) = 6 ∧ ln (T + 16) = 6) ∧ (T = 7 ∨ T = 248)
theorem HId_10 : HId 10 := ⟨rfl, rfl, rfl, by decide, by decide, fun _ _ => rfl⟩
theorem HId_12 : HId 12 := ⟨rfl, rfl, rfl, by decide, by decide, fun _ _ => rfl⟩
theorem HId_14 : HId 14 := ⟨rfl, rfl, rfl, by decide, by decide, fun _ _ => rfl⟩
theorem HId_16 : HId 16 := ⟨rfl, rfl, rfl, by decide, by decide, fun _ _ => rfl⟩
theorem HId_26 : HId 26 := ⟨rfl, rfl, rfl, by decide, by decide, fun _ _ => rfl⟩
theorem HId_28 : HId 28 := ⟨rfl, rfl, rfl, by decide, by decide, fun _ _ => rfl⟩
theorem HId_30 : HId 30 := ⟨rfl, rfl, rfl, by decide, by decide, fun _ _ => rfl⟩
theorem HId_32 : HId 32 := ⟨rfl, rfl, rfl, by decide, by decide, fun _ _ => rfl⟩
theorem HId_39 : HId 39 := ⟨rfl, rfl, rfl, by decide, by decide, fun _ _ => rfl⟩
theorem HId_41 : HId 41 := ⟨rfl, rfl, rfl, by decide, by decide, fun _ _ => rfl⟩
theorem HId_43 : HId 43 := ⟨rfl, rfl, rfl, by decide, by decide, fun _ _ => rfl⟩
theorem HId_45 : HId 45 := ⟨rfl, rfl, rfl, by decide, by decide, fun _ _ => rfl⟩
theorem HId_49 : HId 49 := ⟨rfl, rfl, rfl, by decide, by decide, fun _ _ => rfl⟩
theorem HId_51 : HId 51 := ⟨rfl, rfl, rfl, by decide, by decide, fun _ _ => rfl⟩
theorem HId_53 : HId 53 := ⟨rfl, rfl, rfl, by decide, by decide, fun _ _ => rfl⟩
theorem HId_55 : HId 55 := ⟨rfl, rfl, rfl, by decide, by decide, fun _ _ => rfl⟩
theorem HId_59 : HId 59 := ⟨rfl, rfl, rfl, by decide, by decide, fun _ _ => rfl⟩
theorem HId_61 : HId 61 := ⟨rfl, rfl, rfl, by decide, by decide, fun _ _ => rfl⟩
theorem HId_63 : HId 63 := ⟨rfl, rfl, rfl, by decide, by decide, fun _ _ => rfl⟩
theorem HId_65 : HId 65 := ⟨rfl, rfl, rfl, by decide, by decide, fun _ _ => rfl⟩
theorem HId_69 : HId 69 := ⟨rfl, rfl, rfl, by decide, by decide, fun _ _ => rfl⟩
theorem HId_71 : HId 71 := ⟨rfl, rfl, rfl, by decide, by decide, fun _ _ => rfl⟩
theorem HId_73 : HId 73 := ⟨rfl, rfl, rfl, by decide, by decide, fun _ _ => rfl⟩
theorem HId_75 : HId 75 := ⟨rfl, rfl, rfl, by decide, by decide, fun _ _ => rfl⟩
theorem HId_79 : HId 79 := ⟨rfl, rfl, rfl, by decide, by decide, fun _ _ => rfl⟩
theorem HId_81 : HId 81 := ⟨rfl, rfl, rfl, by decide, by decide, fun _ _ => rfl⟩
theorem HId_83 : HId 83 := ⟨rfl, rfl, rfl, by decide, by decide, fun _ _ => rfl⟩
theorem HId_85 : HId 85 := ⟨rfl, rfl, rfl, by decide, by decide, fun _ _ => rfl⟩
theorem HId_89 : HId 89 := ⟨rfl, rfl, rfl, by decide, by decide, fun _ _ => rfl⟩
theorem HId_91 : HId 91 := ⟨rfl, rfl, rfl, by decide, by decide, fun _ _ => rfl⟩
theorem HId_93 : HId 93 := ⟨rfl, rfl, rfl, by decide, by decide, fun _ _ => rfl⟩
theorem HId_95 : HId 95 := ⟨rfl, rfl, rfl, by decide, by decide, fun _ _ => rfl⟩
theorem HId_99 : HId 99 := ⟨rfl, rfl, rfl, by decide, by decide, fun _ _ => rfl⟩
theorem HId_101 : HId 101 := ⟨rfl, rfl, rfl, by decide, by decide, fun _ _ => rfl⟩
theorem HId_103 : HId 103 := ⟨rfl, rfl, rfl, by decide, by decide, fun _ _ => rfl⟩
theorem HId_105 : HId 105 := ⟨rfl, rfl, rfl, by decide, by decide, fun _ _ => rfl⟩
theorem HId_109 : HId 109 := ⟨rfl, rfl, rfl, by decide, by decide, fun _ _ => rfl⟩
theorem HId_111 : HId 111 := ⟨rfl, rfl, rfl, by decide, by decide, fun _ _ => rfl⟩
theorem HId_113 : HId 113 := ⟨rfl, rfl, rfl, by decide, by decide, fun _ _ => rfl⟩
theorem HId_115 : HId 115 := ⟨rfl, rfl, rfl, by decide, by decide, fun _ _ => rfl⟩
theorem HId_119 : HId 119 := ⟨rfl, rfl, rfl, by decide, by decide, fun _ _ => rfl⟩
theorem HId_121 : HId 121 := ⟨rfl, rfl, rfl, by decide, by decide, fun _ _ => rfl⟩
theorem HId_123 : HId 123 := ⟨rfl, rfl, rfl, by decide, by decide, fun _ _ => rfl⟩
theorem HId_125 : HId 125 := ⟨rfl, rfl, rfl, by decide, by decide, fun _ _ => rfl⟩
theorem HId_129 : HId 129 := ⟨rfl, rfl, rfl, by decide, by decide, fun _ _ => rfl⟩
theorem HId_131 : HId 131 := ⟨rfl, rfl, rfl, by decide, by decide, fun _ _ => rfl⟩
theorem HId_133 : HId 133 := ⟨rfl, rfl, rfl, by decide, by decide, fun _ _ => rfl⟩
theorem HId_135 : HId 135 := ⟨rfl, rfl, rfl, by decide, by decide, fun _ _ => rfl⟩
theorem HId_139 : HId 139 := ⟨rfl, rfl, rfl, by decide, by decide, fun _ _ => rfl⟩
theorem HId_141 : HId 141 := ⟨rfl, rfl, rfl, by decide, by decide, fun _ _ => rfl⟩
theorem HId_143 : HId 143 := ⟨rfl, rfl, rfl, by decide, by decide, fun _ _ => rfl⟩
theorem HId_145 : HId 145 := ⟨rfl, rfl, rfl, by decide, by decide, fun _ _ => rfl⟩
theorem HId_149 : HId 149 := ⟨rfl, rfl, rfl, by decide, by decide, fun _ _ => rfl⟩
theorem HId_151 : HId 151 := ⟨rfl, rfl, rfl, by decide, by decide, fun _ _ => rfl⟩
theorem HId_153 : HId 153 := ⟨rfl, rfl, rfl, by decide, by decide, fun _ _ => rfl⟩
theorem HId_155 : HId 155 := ⟨rfl, rfl, rfl, by decide, by decide, fun _ _ => rfl⟩
theorem HId_159 : HId 159 := ⟨rfl, rfl, rfl, by decide, by decide, fun _ _ => rfl⟩
theorem HId_161 : HId 161 := ⟨rfl, rfl, rfl, by decide, by decide, fun _ _ => rfl⟩
theorem HId_163 : HId 163 := ⟨rfl, rfl, rfl, by decide, by decide, fun _ _ => rfl⟩
theorem HId_165 : HId 165 := ⟨rfl, rfl, rfl, by decide, by decide, fun _ _ => rfl⟩
theorem HId_169 : HId 169 := ⟨rfl, rfl, rfl, by decide, by decide, fun _ _ => rfl⟩
theorem HId_171 : HId 171 := ⟨rfl, rfl, rfl, by decide, by decide, fun _ _ => rfl⟩
theorem HId_173 : HId 173 := ⟨rfl, rfl, rfl, by decide, by decide, fun _ _ => rfl⟩
theorem HId_175 : HId 175 := ⟨rfl, rfl, rfl, by decide, by decide, fun _ _ => rfl⟩
theorem HId_179 : HId 179 := ⟨rfl, rfl, rfl, by decide, by decide, fun _ _ => rfl⟩
theorem HId_181 : HId 181 := ⟨rfl, rfl, rfl, by decide, by decide, fun _ _ => rfl⟩
theorem HId_183 : HId 183 := ⟨rfl, rfl, rfl, by decide, by decide, fun _ _ => rfl⟩
theorem HId_185 : HId 185 := ⟨rfl, rfl, rfl, by decide, by decide, fun _ _ => rfl⟩
theorem HId_189 : HId 189 := ⟨rfl, rfl, rfl, by decide, by decide, fun _ _ => rfl⟩
theorem HId_191 : HId 191 := ⟨rfl, rfl, rfl, by decide, by decide, fun _ _ => rfl⟩
theorem HId_193 : HId 193 := ⟨rfl, rfl, rfl, by decide, by decide, fun _ _ => rfl⟩
theorem HId_195 : HId 195 := ⟨rfl, rfl, rfl, by decide, by decide, fun _ _ => rfl⟩
theorem HId_199 : HId 199 := ⟨rfl, rfl, rfl, by decide, by decide, fun _ _ => rfl⟩
theorem HId_201 : HId 201 := ⟨rfl, rfl, rfl, by decide, by decide, fun _ _ => rfl⟩
theorem HId_203 : HId 203 := ⟨rfl, rfl, rfl, by decide, by decide, fun _ _ => rfl⟩
theorem HId_205 : HId 205 := ⟨rfl, rfl, rfl, by decide, by decide, fun _ _ => rfl⟩
theorem HId_209 : HId 209 := ⟨rfl, rfl, rfl, by decide, by decide, fun _ _ => rfl⟩
theorem HId_211 : HId 211 := ⟨rfl, rfl, rfl, by decide, by decide, fun _ _ => rfl⟩
theorem HId_213 : HId 213 := ⟨rfl, rfl, rfl, by decide, by decide, fun _ _ => rfl⟩
theorem HId_215 : HId 215 := ⟨rfl, rfl, rfl, by decide, by decide, fun _ _ => rfl⟩
theorem HId_219 : HId 219 := ⟨rfl, rfl, rfl, by decide, by decide, fun _ _ => rfl⟩
theorem HId_221 : HId 221 := ⟨rfl, rfl, rfl, by decide, by decide, fun _ _ => rfl⟩
theorem HId_223 : HId 223 := ⟨rfl, rfl, rfl, by decide, by decide, fun _ _ => rfl⟩
theorem HId_225 : HId 225 := ⟨rfl, rfl, rfl, by decide, by decide, fun _ _ => rfl⟩
theorem HId_230 : HId 230 := ⟨rfl, rfl, rfl, by decide, by decide, fun _ _ => rfl⟩
theorem HId_233 : HId 233 := ⟨rfl, rfl, rfl, by decide, by decide, fun _ _ => rfl⟩
theorem HId_235 : HId 235 := ⟨rfl, rfl, rfl, by decide, by decide, fun _ _ => rfl⟩
theorem HId_238 : HId 238 := ⟨rfl, rfl, rfl, by decide, by decide, fun _ _ => rfl⟩
theorem HId_240 : HId 240 := ⟨rfl, rfl, rfl, by decide, by decide, fun _ _ => rfl⟩
theorem HId_246 : HId 246 := ⟨rfl, rfl, rfl, by decide, by decide, fun _ _ => rfl⟩
theorem HId_251 : HId 251 := ⟨rfl, rfl, rfl, by decide, by decide, fun _ _ => rfl⟩
theorem HId_253 : HId 253 := ⟨rfl, rfl, rfl, by decide, by decide, fun _ _ => rfl⟩
theorem HId_255 : HId 255 := ⟨rfl, rfl, rfl, by decide, by decide, fun _ _ => rfl⟩
theorem HId_257 : HId 257 := ⟨rfl, rfl, rfl, by decide, by decide, fun _ _ => rfl⟩
theorem CId_8 : CId 8 := ⟨rfl, by decide, by decide, rfl, rfl, fun _ _ => rfl, fun c hc => match c, hc with
  | 0, _ => ⟨HId_10, fun _ _ => rfl⟩
  | 1, _ => ⟨HId_12, fun _ _ => rfl⟩
  | 2, _ => ⟨HId_14, fun _ _ => rfl⟩
  | 3, _ => ⟨HId_16, fun _ _ => rfl⟩⟩
theorem CId_24 : CId 24 := ⟨rfl, by decide, by decide, rfl, rfl, fun _ _ => rfl, fun c hc => match c, hc with
  | 0, _ => ⟨HId_26, fun _ _ => rfl⟩
  | 1, _ => ⟨HId_28, fun _ _ => rfl⟩
  | 2, _ => ⟨HId_30, fun _ _ => rfl⟩
  | 3, _ => ⟨HId_32, fun _ _ => rfl⟩⟩
theorem CId_249 : CId 249 := ⟨rfl, by decide, by decide, rfl, rfl, fun _ _ => rfl, fun c hc => match c, hc with
  | 0, _ => ⟨HId_251, fun _ _ => rfl⟩
  | 1, _ => ⟨HId_253, fun _ _ => rfl⟩
  | 2, _ => ⟨HId_255, fun _ _ => rfl⟩
  | 3, _ => ⟨HId_257, fun _ _ => rfl⟩⟩
theorem CId_37 : CId 37 := ⟨rfl, by decide, by decide, rfl, rfl, fun _ _ => rfl, fun c hc => match c, hc with
  | 0, _ => ⟨HId_39, fun _ _ => rfl⟩
  | 1, _ => ⟨HId_41, fun _ _ => rfl⟩
  | 2, _ => ⟨HId_43, fun _ _ => rfl⟩
  | 3, _ => ⟨HId_45, fun _ _ => rfl⟩⟩
theorem CId_47 : CId 47 := ⟨rfl, by decide, by decide, rfl, rfl, fun _ _ => rfl, fun c hc => match c, hc with
  | 0, _ => ⟨HId_49, fun _ _ => rfl⟩
  | 1, _ => ⟨HId_51, fun _ _ => rfl⟩
  | 2, _ => ⟨HId_53, fun _ _ => rfl⟩
  | 3, _ => ⟨HId_55, fun _ _ => rfl⟩⟩
theorem CId_57 : CId 57 := ⟨rfl, by decide, by decide, rfl, rfl, fun _ _ => rfl, fun c hc => match c, hc with
  | 0, _ => ⟨HId_59, fun _ _ => rfl⟩
  | 1, _ => ⟨HId_61, fun _ _ => rfl⟩
  | 2, _ => ⟨HId_63, fun _ _ => rfl⟩
  | 3, _ => ⟨HId_65, fun _ _ => rfl⟩⟩
theorem CId_67 : CId 67 := ⟨rfl, by decide, by decide, rfl, rfl, fun _ _ => rfl, fun c hc => match c, hc with
  | 0, _ => ⟨HId_69, fun _ _ => rfl⟩
  | 1, _ => ⟨HId_71, fun _ _ => rfl⟩
  | 2, _ => ⟨HId_73, fun _ _ => rfl⟩
  | 3, _ => ⟨HId_75, fun _ _ => rfl⟩⟩
theorem CId_77 : CId 77 := ⟨rfl, by decide, by decide, rfl, rfl, fun _ _ => rfl, fun c hc => match c, hc with
  | 0, _ => ⟨HId_79, fun _ _ => rfl⟩
  | 1, _ => ⟨HId_81, fun _ _ => rfl⟩
  | 2, _ => ⟨HId_83, fun _ _ => rfl⟩
  | 3, _ => ⟨HId_85, fun _ _ => rfl⟩⟩
theorem CId_87 : CId 87 := ⟨rfl, by decide, by decide, rfl, rfl, fun _ _ => rfl, fun c hc => match c, hc with
  | 0, _ => ⟨HId_89, fun _ _ => rfl⟩
  | 1, _ => ⟨HId_91, fun _ _ => rfl⟩
  | 2, _ => ⟨HId_93, fun _ _ => rfl⟩
  | 3, _ => ⟨HId_95, fun _ _ => rfl⟩⟩
theorem CId_97 : CId 97 := ⟨rfl, by decide, by decide, rfl, rfl, fun _ _ => rfl, fun c hc => match c, hc with
  | 0, _ => ⟨HId_99, fun _ _ => rfl⟩
  | 1, _ => ⟨HId_101, fun _ _ => rfl⟩
  | 2, _ => ⟨HId_103, fun _ _ => rfl⟩
  | 3, _ => ⟨HId_105, fun _ _ => rfl⟩⟩
theorem CId_107 : CId 107 := ⟨rfl, by decide, by decide, rfl, rfl, fun _ _ => rfl, fun c hc => match c, hc with
  | 0, _ => ⟨HId_109, fun _ _ => rfl⟩
  | 1, _ => ⟨HId_111, fun _ _ => rfl⟩
  | 2, _ => ⟨HId_113, fun _ _ => rfl⟩
  | 3, _ => ⟨HId_115, fun _ _ => rfl⟩⟩
theorem CId_117 : CId 117 := ⟨rfl, by decide, by decide, rfl, rfl, fun _ _ => rfl, fun c hc => match c, hc with
  | 0, _ => ⟨HId_119, fun _ _ => rfl⟩
  | 1, _ => ⟨HId_121, fun _ _ => rfl⟩
  | 2, _ => ⟨HId_123, fun _ _ => rfl⟩
  | 3, _ => ⟨HId_125, fun _ _ => rfl⟩⟩
theorem CId_127 : CId 127 := ⟨rfl, by decide, by decide, rfl, rfl, fun _ _ => rfl, fun c hc => match c, hc with
  | 0, _ => ⟨HId_129, fun _ _ => rfl⟩
  | 1, _ => ⟨HId_131, fun _ _ => rfl⟩
  | 2, _ => ⟨HId_133, fun _ _ => rfl⟩
  | 3, _ => ⟨HId_135, fun _ _ => rfl⟩⟩
theorem CId_137 : CId 137 := ⟨rfl, by decide, by decide, rfl, rfl, fun _ _ => rfl, fun c hc => match c, hc with
  | 0, _ => ⟨HId_139, fun _ _ => rfl⟩
  | 1, _ => ⟨HId_141, fun _ _ => rfl⟩
  | 2, _ => ⟨HId_143, fun _ _ => rfl⟩
  | 3, _ => ⟨HId_145, fun _ _ => rfl⟩⟩
theorem CId_147 : CId 147 := ⟨rfl, by decide, by decide, rfl, rfl, fun _ _ => rfl, fun c hc => match c, hc with
  | 0, _ => ⟨HId_149, fun _ _ => rfl⟩
  | 1, _ => ⟨HId_151, fun _ _ => rfl⟩
  | 2, _ => ⟨HId_153, fun _ _ => rfl⟩
  | 3, _ => ⟨HId_155, fun _ _ => rfl⟩⟩
theorem CId_157 : CId 157 := ⟨rfl, by decide, by decide, rfl, rfl, fun _ _ => rfl, fun c hc => match c, hc with
  | 0, _ => ⟨HId_159, fun _ _ => rfl⟩
  | 1, _ => ⟨HId_161, fun _ _ => rfl⟩
  | 2, _ => ⟨HId_163, fun _ _ => rfl⟩
  | 3, _ => ⟨HId_165, fun _ _ => rfl⟩⟩
theorem CId_167 : CId 167 := ⟨rfl, by decide, by decide, rfl, rfl, fun _ _ => rfl, fun c hc => match c, hc with
  | 0, _ => ⟨HId_169, fun _ _ => rfl⟩
  | 1, _ => ⟨HId_171, fun _ _ => rfl⟩
  | 2, _ => ⟨HId_173, fun _ _ => rfl⟩
  | 3, _ => ⟨HId_175, fun _ _ => rfl⟩⟩
theorem CId_177 : CId 177 := ⟨rfl, by decide, by decide, rfl, rfl, fun _ _ => rfl, fun c hc => match c, hc with
  | 0, _ => ⟨HId_179, fun _ _ => rfl⟩
  | 1, _ => ⟨HId_181, fun _ _ => rfl⟩
  | 2, _ => ⟨HId_183, fun _ _ => rfl⟩
  | 3, _ => ⟨HId_185, fun _ _ => rfl⟩⟩
theorem CId_187 : CId 187 := ⟨rfl, by decide, by decide, rfl, rfl, fun _ _ => rfl, fun c hc => match c, hc with
  | 0, _ => ⟨HId_189, fun _ _ => rfl⟩
  | 1, _ => ⟨HId_191, fun _ _ => rfl⟩
  | 2, _ => ⟨HId_193, fun _ _ => rfl⟩
  | 3, _ => ⟨HId_195, fun _ _ => rfl⟩⟩
theorem CId_197 : CId 197 := ⟨rfl, by decide, by decide, rfl, rfl, fun _ _ => rfl, fun c hc => match c, hc with
  | 0, _ => ⟨HId_199, fun _ _ => rfl⟩
  | 1, _ => ⟨HId_201, fun _ _ => rfl⟩
  | 2, _ => ⟨HId_203, fun _ _ => rfl⟩
  | 3, _ => ⟨HId_205, fun _ _ => rfl⟩⟩
theorem CId_207 : CId 207 := ⟨rfl, by decide, by decide, rfl, rfl, fun _ _ => rfl, fun c hc => match c, hc with
  | 0, _ => ⟨HId_209, fun _ _ => rfl⟩
  | 1, _ => ⟨HId_211, fun _ _ => rfl⟩
  | 2, _ => ⟨HId_213, fun _ _ => rfl⟩
  | 3, _ => ⟨HId_215, fun _ _ => rfl⟩⟩
theorem CId_217 : CId 217 := ⟨rfl, by decide, by decide, rfl, rfl, fun _ _ => rfl, fun c hc => match c, hc with
  | 0, _ => ⟨HId_219, fun _ _ => rfl⟩
  | 1, _ => ⟨HId_221, fun _ _ => rfl⟩
  | 2, _ => ⟨HId_223, fun _ _ => rfl⟩
  | 3, _ => ⟨HId_225, fun _ _ => rfl⟩⟩
theorem WId_232 : WId 232 := ⟨rfl, by decide, HId_233, HId_235, fun _ _ => ⟨rfl, rfl⟩⟩
theorem WId_237 : WId 237 := ⟨rfl, by decide, HId_238, HId_240, fun _ _ => ⟨rfl, rfl⟩⟩
theorem TId_7 : TId 7 := ⟨rfl, CId_8, fun _ _ => rfl, fun j hj => match j, hj with
  | 0, _ => ⟨rfl, fun _ _ => rfl⟩
  | 1, _ => ⟨rfl, fun _ _ => rfl⟩
  | 2, _ => ⟨rfl, fun _ _ => rfl⟩
  | 3, _ => ⟨rfl, fun _ _ => rfl⟩
  | 4, _ => ⟨rfl, fun _ _ => rfl⟩
  | 5, _ => ⟨rfl, fun _ _ => rfl⟩, ⟨rfl, rfl, rfl, rfl, rfl, rfl⟩, by decide⟩
theorem TId_248 : TId 248 := ⟨rfl, CId_249, fun _ _ => rfl, fun j hj => match j, hj with
  | 0, _ => ⟨rfl, fun _ _ => rfl⟩
  | 1, _ => ⟨rfl, fun _ _ => rfl⟩
  | 2, _ => ⟨rfl, fun _ _ => rfl⟩
  | 3, _ => ⟨rfl, fun _ _ => rfl⟩
  | 4, _ => ⟨rfl, fun _ _ => rfl⟩
  | 5, _ => ⟨rfl, fun _ _ => rfl⟩, ⟨rfl, rfl, rfl, rfl, rfl, rfl⟩, by decide⟩
theorem CId_K : ∀ i, i < 16 → CId (37 + 10 * i) := fun i hi => match i, hi with
  | 0, _ => CId_37
  | 1, _ => CId_47
  | 2, _ => CId_57
  | 3, _ => CId_67
  | 4, _ => CId_77
  | 5, _ => CId_87
  | 6, _ => CId_97
  | 7, _ => CId_107
  | 8, _ => CId_117
  | 9, _ => CId_127
  | 10, _ => CId_137
  | 11, _ => CId_147
  | 12, _ => CId_157
  | 13, _ => CId_167
  | 14, _ => CId_177
  | 15, _ => CId_187
  | n + 16, h => absurd h (by omega)
theorem CId_P : ∀ i, i < 3 → CId (197 + 10 * i) := fun i hi => match i, hi with
  | 0, _ => CId_197
  | 1, _ => CId_207
  | 2, _ => CId_217
theorem R_K (t u : Nat) : ∀ i, i < 16 → q_R t u 35 i = 37 + 10 * i := fun i hi => match i, hi with
  | 0, _ => rfl
  | 1, _ => rfl
  | 2, _ => rfl
  | 3, _ => rfl
  | 4, _ => rfl
  | 5, _ => rfl
  | 6, _ => rfl
  | 7, _ => rfl
  | 8, _ => rfl
  | 9, _ => rfl
  | 10, _ => rfl
  | 11, _ => rfl
  | 12, _ => rfl
  | 13, _ => rfl
  | 14, _ => rfl
  | 15, _ => rfl
  | n + 16, h => absurd h (by omega)
theorem R_P (t u : Nat) : ∀ i, i < 3 → q_R t u 36 i = 197 + 10 * i := fun i hi => match i, hi with
  | 0, _ => rfl
  | 1, _ => rfl
  | 2, _ => rfl
theorem R_now (t u : Nat) : ∀ i, i < 4 → q_R t u 25 i = 26 + 2 * i := fun i hi => match i, hi with
  | 0, _ => rfl
  | 1, _ => rfl
  | 2, _ => rfl
  | 3, _ => rfl
