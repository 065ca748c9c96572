set_option maxRecDepth 20000 in
theorem okB_210 : okB pM m_210 = true := by decide +kernel
set_option maxRecDepth 20000 in
theorem okB_211 : okB pM m_211 = true := by decide +kernel
set_option maxRecDepth 20000 in
theorem okB_212 : okB pM m_212 = true := by decide +kernel
set_option maxRecDepth 20000 in
theorem okB_213 : okB pM m_213 = true := by decide +kernel
set_option maxRecDepth 20000 in
theorem okB_214 : okB pM m_214 = true := by decide +kernel
set_option maxRecDepth 20000 in
theorem okB_215 : okB pM m_215 = true := by decide +kernel
set_option maxRecDepth 20000 in
theorem okB_216 : okB pM m_216 = true := by decide +kernel
set_option maxRecDepth 20000 in
theorem okB_217 : okB pM m_217 = true := by decide +kernel
set_option maxRecDepth 20000 in
theorem okB_218 : okB pM m_218 = true := by decide +kernel
set_option maxRecDepth 20000 in
theorem okB_219 : okB pM m_219 = true := by decide +kernel
set_option maxRecDepth 20000 in
theorem okB_220 : okB pM m_220 = true := by decide +kernel
set_option maxRecDepth 20000 in
theorem okB_221 : okB pM m_221 = true := by decide +kernel
set_option maxRecDepth 20000 in
theorem okB_222 : okB pM m_222 = true := by decide +kernel
set_option maxRecDepth 20000 in
theorem okB_223 : okB pM m_223 = true := by decide +kernel
set_option maxRecDepth 20000 in
theorem okB_224 : okB pM m_224 = true := by decide +kernel
set_option maxRecDepth 20000 in
theorem okB_225 : okB pM m_225 = true := by decide +kernel
set_option maxRecDepth 20000 in
theorem okB_226 : okB pM m_226 = true := by decide +kernel
set_option maxRecDepth 20000 in
theorem okB_227 : okB pM m_227 = true := by decide +kernel
set_option maxRecDepth 20000 in
theorem okB_228 : okB pM m_228 = true := by decide +kernel
set_option maxRecDepth 20000 in
theorem okB_229 : okB pM m_229 = true := by decide +kernel
set_option maxRecDepth 20000 in
theorem okB_230 : okB pM m_230 = true := by decide +kernel
set_option maxRecDepth 20000 in
theorem okB_231 : okB pM m_231 = true := by decide +kernel
set_option maxRecDepth 20000 in
theorem okB_232 : okB pM m_232 = true := by decide +kernel
set_option maxRecDepth 20000 in
theorem okB_233 : okB pM m_233 = true := by decide +kernel
set_option maxRecDepth 20000 in
theorem okB_234 : okB pM m_234 = true := by decide +kernel
set_option maxRecDepth 20000 in
theorem okB_235 : okB pM m_235 = true := by decide +kernel
set_option maxRecDepth 20000 in
theorem okB_236 : okB pM m_236 = true := by decide +kernel
set_option maxRecDepth 20000 in
theorem okB_237 : okB pM m_237 = true := by decide +kernel
set_option maxRecDepth 20000 in
theorem okB_238 : okB pM m_238 = true := by decide +kernel
set_option maxRecDepth 20000 in
theorem okB_239 : okB pM m_239 = true := by decide +kernel
set_option maxRecDepth 20000 in
theorem okB_240 : okB pM m_240 = true := by decide +kernel
set_option maxRecDepth 20000 in
theorem okB_241 : okB pM m_241 = true := by decide +kernel
set_option maxRecDepth 20000 in
theorem okB_242 : okB pM m_242 = true := by decide +kernel
set_option maxRecDepth 20000 in
theorem okB_243 : okB pM m_243 = true := by decide +kernel
set_option maxRecDepth 20000 in
theorem okB_244 : okB pM m_244 = true := by decide +kernel
set_option maxRecDepth 20000 in
theorem okB_245 : okB pM m_245 = true := by decide +kernel
set_option maxRecDepth 20000 in
theorem okB_246 : okB pM m_246 = true := by decide +kernel
set_option maxRecDepth 20000 in
theorem okB_247 : okB pM m_247 = true := by decide +kernel
set_option maxRecDepth 20000 in
theorem okB_248 : okB pM m_248 = true := by decide +kernel
set_option maxRecDepth 20000 in
theorem okB_249 : okB pM m_249 = true := by decide +kernel
set_option maxRecDepth 20000 in
theorem okB_250 : okB pM m_250 = true := by decide +kernel
set_option maxRecDepth 20000 in
theorem okB_251 : okB pM m_251 = true := by decide +kernel
set_option maxRecDepth 20000 in
theorem okB_252 : okB pM m_252 = true := by decide +kernel
set_option maxRecDepth 20000 in
theorem okB_253 : okB pM m_253 = true := by decide +kernel
set_option maxRecDepth 20000 in
theorem okB_254 : okB pM m_254 = true := by decide +kernel
set_option maxRecDepth 20000 in
theorem okB_255 : okB pM m_255 = true := by decide +kernel
set_option maxRecDepth 20000 in
theorem okB_256 : okB pM m_256 = true := by decide +kernel
set_option maxRecDepth 20000 in
theorem okB_257 : okB pM m_257 = true := by decide +kernel
