theorem mj_ck_141 : mj_chkM 141 := by
  show ∀ b, b < 4 → mj_chkF 141 b = true
  decide +kernel
theorem mj_ck_142 : mj_chkM 142 := by
  show ∀ b, b < 4 → mj_chkF 142 b = true
  decide +kernel
theorem mj_ck_143 : mj_chkM 143 := by
  show ∀ b, b < 3 → mj_chkF 143 b = true
  decide +kernel
theorem mj_ck_144 : mj_chkM 144 := by
  show ∀ b, b < 3 → mj_chkF 144 b = true
  decide +kernel
theorem mj_ck_145 : mj_chkM 145 := by
  show ∀ b, b < 9 → mj_chkF 145 b = true
  decide +kernel
theorem mj_ck_146 : mj_chkM 146 := by
  show ∀ b, b < 10 → mj_chkF 146 b = true
  decide +kernel
theorem mj_ck_147 : mj_chkM 147 := by
  show ∀ b, b < 10 → mj_chkF 147 b = true
  decide +kernel
theorem mj_ck_148 : mj_chkM 148 := by
  show ∀ b, b < 3 → mj_chkF 148 b = true
  decide +kernel
theorem mj_ck_149 : mj_chkM 149 := by
  show ∀ b, b < 3 → mj_chkF 149 b = true
  decide +kernel
theorem mj_ck_150 : mj_chkM 150 := by
  show ∀ b, b < 1 → mj_chkF 150 b = true
  decide +kernel
theorem mj_ck_152 : mj_chkM 152 := by
  show ∀ b, b < 3 → mj_chkF 152 b = true
  decide +kernel
theorem mj_ck_153 : mj_chkM 153 := by
  show ∀ b, b < 9 → mj_chkF 153 b = true
  decide +kernel
theorem mj_ck_154 : mj_chkM 154 := by
  show ∀ b, b < 3 → mj_chkF 154 b = true
  decide +kernel
theorem mj_ck_155 : mj_chkM 155 := by
  show ∀ b, b < 2 → mj_chkF 155 b = true
  decide +kernel
theorem mj_ck_156 : mj_chkM 156 := by
  show ∀ b, b < 3 → mj_chkF 156 b = true
  decide +kernel
theorem mj_ck_157 : mj_chkM 157 := by
  show ∀ b, b < 3 → mj_chkF 157 b = true
  decide +kernel
theorem mj_ck_158 : mj_chkM 158 := by
  show ∀ b, b < 5 → mj_chkF 158 b = true
  decide +kernel
theorem mj_ck_159 : mj_chkM 159 := by
  show ∀ b, b < 9 → mj_chkF 159 b = true
  decide +kernel
theorem mj_ck_160 : mj_chkM 160 := by
  show ∀ b, b < 2 → mj_chkF 160 b = true
  decide +kernel
theorem mj_ck_161 : mj_chkM 161 := by
  show ∀ b, b < 2 → mj_chkF 161 b = true
  decide +kernel
theorem mj_ck_162 : mj_chkM 162 := by
  show ∀ b, b < 3 → mj_chkF 162 b = true
  decide +kernel
theorem mj_ck_163 : mj_chkM 163 := by
  show ∀ b, b < 2 → mj_chkF 163 b = true
  decide +kernel
theorem mj_ck_164 : mj_chkM 164 := by
  show ∀ b, b < 8 → mj_chkF 164 b = true
  decide +kernel
theorem mj_ck_165 : mj_chkM 165 := by
  show ∀ b, b < 13 → mj_chkF 165 b = true
  decide +kernel
theorem mj_ck_166 : mj_chkM 166 := by
  show ∀ b, b < 7 → mj_chkF 166 b = true
  decide +kernel
theorem mj_ck_167 : mj_chkM 167 := by
  show ∀ b, b < 6 → mj_chkF 167 b = true
  decide +kernel
theorem mj_ck_168 : mj_chkM 168 := by
  show ∀ b, b < 4 → mj_chkF 168 b = true
  decide +kernel
theorem mj_ck_169 : mj_chkM 169 := by
  show ∀ b, b < 4 → mj_chkF 169 b = true
  decide +kernel
theorem mj_ck_170 : mj_chkM 170 := by
  show ∀ b, b < 5 → mj_chkF 170 b = true
  decide +kernel
theorem mj_ck_171 : mj_chkM 171 := by
  show ∀ b, b < 6 → mj_chkF 171 b = true
  decide +kernel
theorem mj_ck_172 : mj_chkM 172 := by
  show ∀ b, b < 3 → mj_chkF 172 b = true
  decide +kernel
theorem mj_ck_173 : mj_chkM 173 := by
  show ∀ b, b < 8 → mj_chkF 173 b = true
  decide +kernel
theorem mj_ck_174 : mj_chkM 174 := by
  show ∀ b, b < 11 → mj_chkF 174 b = true
  decide +kernel
theorem mj_ck_175 : mj_chkM 175 := by
  show ∀ b, b < 10 → mj_chkF 175 b = true
  decide +kernel
theorem mj_ck_176 : mj_chkM 176 := by
  show ∀ b, b < 13 → mj_chkF 176 b = true
  decide +kernel
theorem mj_ck_177 : mj_chkM 177 := by
  show ∀ b, b < 4 → mj_chkF 177 b = true
  decide +kernel
theorem mj_ck_178 : mj_chkM 178 := by
  show ∀ b, b < 1 → mj_chkF 178 b = true
  decide +kernel
theorem mj_ck_179 : mj_chkM 179 := by
  show ∀ b, b < 1 → mj_chkF 179 b = true
  decide +kernel
theorem mj_ck_180 : mj_chkM 180 := by
  show ∀ b, b < 1 → mj_chkF 180 b = true
  decide +kernel
theorem mj_ck_181 : mj_chkM 181 := by
  show ∀ b, b < 3 → mj_chkF 181 b = true
  decide +kernel
theorem mj_ck_182 : mj_chkM 182 := by
  show ∀ b, b < 3 → mj_chkF 182 b = true
  decide +kernel
theorem mj_ck_183 : mj_chkM 183 := by
  show ∀ b, b < 1 → mj_chkF 183 b = true
  decide +kernel
theorem mj_ck_184 : mj_chkM 184 := by
  show ∀ b, b < 3 → mj_chkF 184 b = true
  decide +kernel
theorem mj_ck_185 : mj_chkM 185 := by
  show ∀ b, b < 9 → mj_chkF 185 b = true
  decide +kernel
theorem mj_ck_186 : mj_chkM 186 := by
  show ∀ b, b < 3 → mj_chkF 186 b = true
  decide +kernel
theorem mj_ck_187 : mj_chkM 187 := by
  show ∀ b, b < 4 → mj_chkF 187 b = true
  decide +kernel
theorem mj_ck_188 : mj_chkM 188 := by
  show ∀ b, b < 8 → mj_chkF 188 b = true
  decide +kernel
theorem mj_ck_189 : mj_chkM 189 := by
  show ∀ b, b < 4 → mj_chkF 189 b = true
  decide +kernel
theorem mj_ck_190 : mj_chkM 190 := by
  show ∀ b, b < 5 → mj_chkF 190 b = true
  decide +kernel
theorem mj_ck_191 : mj_chkM 191 := by
  show ∀ b, b < 3 → mj_chkF 191 b = true
  decide +kernel
theorem mj_ck_192 : mj_chkM 192 := by
  show ∀ b, b < 6 → mj_chkF 192 b = true
  decide +kernel
theorem mj_ck_193 : mj_chkM 193 := by
  show ∀ b, b < 5 → mj_chkF 193 b = true
  decide +kernel
theorem mj_ck_194 : mj_chkM 194 := by
  show ∀ b, b < 6 → mj_chkF 194 b = true
  decide +kernel
theorem mj_ck_195 : mj_chkM 195 := by
  show ∀ b, b < 7 → mj_chkF 195 b = true
  decide +kernel
theorem mj_ck_196 : mj_chkM 196 := by
  show ∀ b, b < 3 → mj_chkF 196 b = true
  decide +kernel
theorem mj_ck_197 : mj_chkM 197 := by
  show ∀ b, b < 3 → mj_chkF 197 b = true
  decide +kernel
theorem mj_ck_198 : mj_chkM 198 := by
  show ∀ b, b < 3 → mj_chkF 198 b = true
  decide +kernel
theorem mj_ck_199 : mj_chkM 199 := by
  show ∀ b, b < 1 → mj_chkF 199 b = true
  decide +kernel
theorem mj_ck_200 : mj_chkM 200 := by
  show ∀ b, b < 3 → mj_chkF 200 b = true
  decide +kernel
theorem mj_ck_201 : mj_chkM 201 := by
  show ∀ b, b < 3 → mj_chkF 201 b = true
  decide +kernel
theorem mj_ck_202 : mj_chkM 202 := by
  show ∀ b, b < 3 → mj_chkF 202 b = true
  decide +kernel
theorem mj_ck_203 : mj_chkM 203 := by
  show ∀ b, b < 11 → mj_chkF 203 b = true
  decide +kernel
theorem mj_ck_204 : mj_chkM 204 := by
  show ∀ b, b < 8 → mj_chkF 204 b = true
  decide +kernel
theorem mj_ck_205 : mj_chkM 205 := by
  show ∀ b, b < 8 → mj_chkF 205 b = true
  decide +kernel
theorem mj_ck_206 : mj_chkM 206 := by
  show ∀ b, b < 7 → mj_chkF 206 b = true
  decide +kernel
theorem mj_ck_207 : mj_chkM 207 := by
  show ∀ b, b < 3 → mj_chkF 207 b = true
  decide +kernel
theorem mj_ck_208 : mj_chkM 208 := by
  show ∀ b, b < 5 → mj_chkF 208 b = true
  decide +kernel
theorem mj_ck_209 : mj_chkM 209 := by
  show ∀ b, b < 6 → mj_chkF 209 b = true
  decide +kernel
theorem mj_ck_210 : mj_chkM 210 := by
  show ∀ b, b < 3 → mj_chkF 210 b = true
  decide +kernel
theorem mj_ck_211 : mj_chkM 211 := by
  show ∀ b, b < 5 → mj_chkF 211 b = true
  decide +kernel
theorem mj_ck_212 : mj_chkM 212 := by
  show ∀ b, b < 9 → mj_chkF 212 b = true
  decide +kernel
theorem mj_ck_213 : mj_chkM 213 := by
  show ∀ b, b < 5 → mj_chkF 213 b = true
  decide +kernel
theorem mj_ck_214 : mj_chkM 214 := by
  show ∀ b, b < 13 → mj_chkF 214 b = true
  decide +kernel
theorem mj_ck_215 : mj_chkM 215 := by
  show ∀ b, b < 5 → mj_chkF 215 b = true
  decide +kernel
theorem mj_ck_216 : mj_chkM 216 := by
  show ∀ b, b < 7 → mj_chkF 216 b = true
  decide +kernel
theorem mj_ck_217 : mj_chkM 217 := by
  show ∀ b, b < 4 → mj_chkF 217 b = true
  decide +kernel
theorem mj_ck_218 : mj_chkM 218 := by
  show ∀ b, b < 6 → mj_chkF 218 b = true
  decide +kernel
theorem mj_ck_219 : mj_chkM 219 := by
  show ∀ b, b < 1 → mj_chkF 219 b = true
  decide +kernel
theorem mj_ck_220 : mj_chkM 220 := by
  show ∀ b, b < 10 → mj_chkF 220 b = true
  decide +kernel
theorem mj_ck_221 : mj_chkM 221 := by
  show ∀ b, b < 5 → mj_chkF 221 b = true
  decide +kernel
theorem mj_ck_222 : mj_chkM 222 := by
  show ∀ b, b < 8 → mj_chkF 222 b = true
  decide +kernel
theorem mj_ck_223 : mj_chkM 223 := by
  show ∀ b, b < 5 → mj_chkF 223 b = true
  decide +kernel
theorem mj_ck_224 : mj_chkM 224 := by
  show ∀ b, b < 7 → mj_chkF 224 b = true
  decide +kernel
theorem mj_ck_225 : mj_chkM 225 := by
  show ∀ b, b < 10 → mj_chkF 225 b = true
  decide +kernel
theorem mj_ck_226 : mj_chkM 226 := by
  show ∀ b, b < 4 → mj_chkF 226 b = true
  decide +kernel
theorem mj_ck_227 : mj_chkM 227 := by
  show ∀ b, b < 4 → mj_chkF 227 b = true
  decide +kernel
theorem mj_ck_228 : mj_chkM 228 := by
  show ∀ b, b < 3 → mj_chkF 228 b = true
  decide +kernel
theorem mj_ck_229 : mj_chkM 229 := by
  show ∀ b, b < 1 → mj_chkF 229 b = true
  decide +kernel
theorem mj_ck_230 : mj_chkM 230 := by
  show ∀ b, b < 1 → mj_chkF 230 b = true
  decide +kernel
theorem mj_ck_231 : mj_chkM 231 := by
  show ∀ b, b < 1 → mj_chkF 231 b = true
  decide +kernel
theorem mj_ck_232 : mj_chkM 232 := by
  show ∀ b, b < 1 → mj_chkF 232 b = true
  decide +kernel
theorem mj_ck_233 : mj_chkM 233 := by
  show ∀ b, b < 2 → mj_chkF 233 b = true
  decide +kernel
theorem mj_ck_234 : mj_chkM 234 := by
  show ∀ b, b < 2 → mj_chkF 234 b = true
  decide +kernel
theorem mj_ck_235 : mj_chkM 235 := by
  show ∀ b, b < 1 → mj_chkF 235 b = true
  decide +kernel
theorem mj_ck_236 : mj_chkM 236 := by
  show ∀ b, b < 5 → mj_chkF 236 b = true
  decide +kernel
theorem mj_ck_237 : mj_chkM 237 := by
  show ∀ b, b < 1 → mj_chkF 237 b = true
  decide +kernel
theorem mj_ck_238 : mj_chkM 238 := by
  show ∀ b, b < 3 → mj_chkF 238 b = true
  decide +kernel
theorem mj_ck_239 : mj_chkM 239 := by
  show ∀ b, b < 3 → mj_chkF 239 b = true
  decide +kernel
theorem mj_ck_240 : mj_chkM 240 := by
  show ∀ b, b < 1 → mj_chkF 240 b = true
  decide +kernel
theorem mj_ck_241 : mj_chkM 241 := by
  show ∀ b, b < 3 → mj_chkF 241 b = true
  decide +kernel
theorem mj_ck_242 : mj_chkM 242 := by
  show ∀ b, b < 5 → mj_chkF 242 b = true
  decide +kernel
theorem mj_ck_243 : mj_chkM 243 := by
  show ∀ b, b < 2 → mj_chkF 243 b = true
  decide +kernel
theorem mj_ck_244 : mj_chkM 244 := by
  show ∀ b, b < 11 → mj_chkF 244 b = true
  decide +kernel
theorem mj_ck_245 : mj_chkM 245 := by
  show ∀ b, b < 3 → mj_chkF 245 b = true
  decide +kernel
theorem mj_ck_246 : mj_chkM 246 := by
  show ∀ b, b < 12 → mj_chkF 246 b = true
  decide +kernel
theorem mj_ck_247 : mj_chkM 247 := by
  show ∀ b, b < 2 → mj_chkF 247 b = true
  decide +kernel
theorem mj_ck_248 : mj_chkM 248 := by
  show ∀ b, b < 18 → mj_chkF 248 b = true
  decide +kernel
theorem mj_ck_249 : mj_chkM 249 := by
  show ∀ b, b < 24 → mj_chkF 249 b = true
  decide +kernel
theorem mj_ck_250 : mj_chkM 250 := by
  show ∀ b, b < 6 → mj_chkF 250 b = true
  decide +kernel
theorem mj_ck_251 : mj_chkM 251 := by
  show ∀ b, b < 7 → mj_chkF 251 b = true
  decide +kernel
theorem mj_ck_252 : mj_chkM 252 := by
  show ∀ b, b < 4 → mj_chkF 252 b = true
  decide +kernel
theorem mj_ck_253 : mj_chkM 253 := by
  show ∀ b, b < 2 → mj_chkF 253 b = true
  decide +kernel
theorem mj_ck_254 : mj_chkM 254 := by
  show ∀ b, b < 8 → mj_chkF 254 b = true
  decide +kernel
theorem mj_ck_255 : mj_chkM 255 := by
  show ∀ b, b < 12 → mj_chkF 255 b = true
  decide +kernel
theorem mj_ck_256 : mj_chkM 256 := by
  show ∀ b, b < 4 → mj_chkF 256 b = true
  decide +kernel
theorem mj_ck_257 : mj_chkM 257 := by
  show ∀ b, b < 8 → mj_chkF 257 b = true
  decide +kernel
theorem mj_ck_258 : mj_chkM 258 := by
  show ∀ b, b < 1 → mj_chkF 258 b = true
  decide +kernel
theorem mj_ck_259 : mj_chkM 259 := by
  show ∀ b, b < 25 → mj_chkF 259 b = true
  decide +kernel
theorem mj_ck_260 : mj_chkM 260 := by
  show ∀ b, b < 14 → mj_chkF 260 b = true
  decide +kernel
theorem mj_ck_261 : mj_chkM 261 := by
  show ∀ b, b < 4 → mj_chkF 261 b = true
  decide +kernel
theorem mj_ck_262 : mj_chkM 262 := by
  show ∀ b, b < 9 → mj_chkF 262 b = true
  decide +kernel
theorem mj_ck_263 : mj_chkM 263 := by
  show ∀ b, b < 8 → mj_chkF 263 b = true
  decide +kernel
theorem mj_ck_264 : mj_chkM 264 := by
  show ∀ b, b < 11 → mj_chkF 264 b = true
  decide +kernel
theorem mj_ck_265 : mj_chkM 265 := by
  show ∀ b, b < 9 → mj_chkF 265 b = true
  decide +kernel
theorem mj_ck_266 : mj_chkM 266 := by
  show ∀ b, b < 3 → mj_chkF 266 b = true
  decide +kernel
theorem mj_ck_267 : mj_chkM 267 := by
  show ∀ b, b < 1 → mj_chkF 267 b = true
  decide +kernel
theorem mj_ck_268 : mj_chkM 268 := by
  show ∀ b, b < 5 → mj_chkF 268 b = true
  decide +kernel
theorem mj_ck_269 : mj_chkM 269 := by
  show ∀ b, b < 3 → mj_chkF 269 b = true
  decide +kernel
theorem mj_ck_270 : mj_chkM 270 := by
  show ∀ b, b < 7 → mj_chkF 270 b = true
  decide +kernel
theorem mj_ck_271 : mj_chkM 271 := by
  show ∀ b, b < 6 → mj_chkF 271 b = true
  decide +kernel
theorem mj_ck_272 : mj_chkM 272 := by
  show ∀ b, b < 3 → mj_chkF 272 b = true
  decide +kernel
theorem mj_ck_273 : mj_chkM 273 := by
  show ∀ b, b < 1 → mj_chkF 273 b = true
  decide +kernel
theorem mj_ck_274 : mj_chkM 274 := by
  show ∀ b, b < 2 → mj_chkF 274 b = true
  decide +kernel
theorem mj_ck_275 : mj_chkM 275 := by
  show ∀ b, b < 3 → mj_chkF 275 b = true
  decide +kernel
theorem mj_ck_276 : mj_chkM 276 := by
  show ∀ b, b < 3 → mj_chkF 276 b = true
  decide +kernel
theorem mj_ck_277 : mj_chkM 277 := by
  show ∀ b, b < 3 → mj_chkF 277 b = true
  decide +kernel
theorem mj_ck_278 : mj_chkM 278 := by
  show ∀ b, b < 3 → mj_chkF 278 b = true
  decide +kernel
theorem mj_ck_279 : mj_chkM 279 := by
  show ∀ b, b < 3 → mj_chkF 279 b = true
  decide +kernel
theorem mj_ck_280 : mj_chkM 280 := by
  show ∀ b, b < 3 → mj_chkF 280 b = true
  decide +kernel
theorem mj_ck_281 : mj_chkM 281 := by
  show ∀ b, b < 1 → mj_chkF 281 b = true
  decide +kernel
