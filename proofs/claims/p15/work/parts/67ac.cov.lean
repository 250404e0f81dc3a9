section
theorem cvb_124 : fx_covB fx_FZ fx_CV rxm_124 axm_124 (1, 2, 2) = true := by decide +kernel
theorem cvb_125 : fx_covB fx_FZ fx_CV rxm_125 axm_125 (1, 0, 2) = true := by decide +kernel
theorem cvb_126 : fx_covB fx_FZ fx_CV rxm_126 axm_126 (2, 1, 3) = true := by decide +kernel
theorem cvb_127 : fx_covB fx_FZ fx_CV rxm_127 axm_127 (0, 2, 1) = true := by decide +kernel
theorem cvb_128 : fx_covB fx_FZ fx_CV rxm_128 axm_128 (0, 0, 1) = true := by decide +kernel
theorem cvb_129 : fx_covB fx_FZ fx_CV rxm_129 axm_129 (0, 0, 4) = true := by decide +kernel
theorem cvb_130 : fx_covB fx_FZ fx_CV rxm_130 axm_130 (0, 1, 3) = true := by decide +kernel
theorem cvb_131 : fx_covB fx_FZ fx_CV rxm_131 axm_131 (0, 0, 2) = true := by decide +kernel
theorem cvb_132 : fx_covB fx_FZ fx_CV rxm_132 axm_132 (0, 0, 2) = true := by decide +kernel
theorem cvb_133 : fx_covB fx_FZ fx_CV rxm_133 axm_133 (0, 2, 1) = true := by decide +kernel
theorem cvb_134 : fx_covB fx_FZ fx_CV rxm_134 axm_134 (3, 1, 6) = true := by decide +kernel
theorem cvb_135 : fx_covB fx_FZ fx_CV rxm_135 axm_135 (2, 2, 6) = true := by decide +kernel
theorem cvb_136 : fx_covB fx_FZ fx_CV rxm_136 axm_136 (1, 0, 3) = true := by decide +kernel
theorem cvb_138 : fx_covB fx_FZ fx_CV rxm_138 axm_138 (1, 0, 2) = true := by decide +kernel
theorem cvb_139 : fx_covB fx_FZ fx_CV rxm_139 axm_139 (1, 0, 2) = true := by decide +kernel
theorem cvb_140 : fx_covB fx_FZ fx_CV rxm_140 axm_140 (2, 0, 4) = true := by decide +kernel
theorem cvb_142 : fx_covB fx_FZ fx_CV rxm_142 axm_142 (2, 2, 3) = true := by decide +kernel
theorem cvb_143 : fx_covB fx_FZ fx_CV rxm_143 axm_143 (1, 2, 2) = true := by decide +kernel
theorem cvb_144 : fx_covB fx_FZ fx_CV rxm_144 axm_144 (2, 0, 6) = true := by decide +kernel
theorem cvb_145 : fx_covB fx_FZ fx_CV rxm_145 axm_145 (3, 1, 6) = true := by decide +kernel
theorem cvb_146 : fx_covB fx_FZ fx_CV rxm_146 axm_146 (2, 0, 5) = true := by decide +kernel
theorem cvb_147 : fx_covB fx_FZ fx_CV rxm_147 axm_147 (3, 1, 7) = true := by decide +kernel
theorem cvb_148 : fx_covB fx_FZ fx_CV rxm_148 axm_148 (1, 0, 5) = true := by decide +kernel
theorem cvb_149 : fx_covB fx_FZ fx_CV rxm_149 axm_149 (2, 0, 6) = true := by decide +kernel
theorem cvb_150 : fx_covB fx_FZ fx_CV rxm_150 axm_150 (3, 0, 5) = true := by decide +kernel
theorem cvb_151 : fx_covB fx_FZ fx_CV rxm_151 axm_151 (1, 1, 7) = true := by decide +kernel
theorem cvb_152 : fx_covB fx_FZ fx_CV rxm_152 axm_152 (3, 0, 9) = true := by decide +kernel
theorem cvb_153 : fx_covB fx_FZ fx_CV rxm_153 axm_153 (1, 1, 2) = true := by decide +kernel
theorem cvb_154 : fx_covB fx_FZ fx_CV rxm_154 axm_154 (1, 1, 2) = true := by decide +kernel
theorem cvb_155 : fx_covB fx_FZ fx_CV rxm_155 axm_155 (0, 2, 1) = true := by decide +kernel
theorem cvb_156 : fx_covB fx_FZ fx_CV rxm_156 axm_156 (0, 2, 1) = true := by decide +kernel
theorem cvb_157 : fx_covB fx_FZ fx_CV rxm_157 axm_157 (1, 1, 2) = true := by decide +kernel
theorem cvb_158 : fx_covB fx_FZ fx_CV rxm_158 axm_158 (2, 0, 4) = true := by decide +kernel
theorem cvb_159 : fx_covB fx_FZ fx_CV rxm_159 axm_159 (0, 1, 1) = true := by decide +kernel
theorem cvb_160 : fx_covB fx_FZ fx_CV rxm_160 axm_160 (2, 2, 3) = true := by decide +kernel
theorem cvb_161 : fx_covB fx_FZ fx_CV rxm_161 axm_161 (1, 0, 2) = true := by decide +kernel
theorem cvb_162 : fx_covB fx_FZ fx_CV rxm_162 axm_162 (1, 1, 2) = true := by decide +kernel
theorem cvb_163 : fx_covB fx_FZ fx_CV rxm_163 axm_163 (0, 1, 3) = true := by decide +kernel
theorem cvb_164 : fx_covB fx_FZ fx_CV rxm_164 axm_164 (1, 2, 2) = true := by decide +kernel
theorem cvb_165 : fx_covB fx_FZ fx_CV rxm_165 axm_165 (2, 0, 7) = true := by decide +kernel
theorem cvb_166 : fx_covB fx_FZ fx_CV rxm_166 axm_166 (2, 1, 3) = true := by decide +kernel
theorem cvb_167 : fx_covB fx_FZ fx_CV rxm_167 axm_167 (1, 1, 4) = true := by decide +kernel
end
section
theorem cvb_168 : fx_covB fx_FZ fx_CV rxm_168 axm_168 (1, 1, 2) = true := by decide +kernel
theorem cvb_169 : fx_covB fx_FZ fx_CV rxm_169 axm_169 (1, 1, 10) = true := by decide +kernel
theorem cvb_170 : fx_covB fx_FZ fx_CV rxm_170 axm_170 (0, 0, 2) = true := by decide +kernel
theorem cvb_171 : fx_covB fx_FZ fx_CV rxm_171 axm_171 (1, 1, 2) = true := by decide +kernel
theorem cvb_172 : fx_covB fx_FZ fx_CV rxm_172 axm_172 (1, 1, 2) = true := by decide +kernel
theorem cvb_173 : fx_covB fx_FZ fx_CV rxm_173 axm_173 (1, 1, 4) = true := by decide +kernel
theorem cvb_174 : fx_covB fx_FZ fx_CV rxm_174 axm_174 (3, 1, 7) = true := by decide +kernel
theorem cvb_175 : fx_covB fx_FZ fx_CV rxm_175 axm_175 (0, 2, 1) = true := by decide +kernel
theorem cvb_176 : fx_covB fx_FZ fx_CV rxm_176 axm_176 (2, 0, 5) = true := by decide +kernel
theorem cvb_177 : fx_covB fx_FZ fx_CV rxm_177 axm_177 (0, 0, 3) = true := by decide +kernel
theorem cvb_178 : fx_covB fx_FZ fx_CV rxm_178 axm_178 (1, 0, 4) = true := by decide +kernel
theorem cvb_179 : fx_covB fx_FZ fx_CV rxm_179 axm_179 (0, 0, 4) = true := by decide +kernel
theorem cvb_180 : fx_covB fx_FZ fx_CV rxm_180 axm_180 (2, 0, 4) = true := by decide +kernel
theorem cvb_181 : fx_covB fx_FZ fx_CV rxm_181 axm_181 (2, 0, 4) = true := by decide +kernel
theorem cvb_183 : fx_covB fx_FZ fx_CV rxm_183 axm_183 (2, 1, 3) = true := by decide +kernel
theorem cvb_184 : fx_covB fx_FZ fx_CV rxm_184 axm_184 (1, 1, 2) = true := by decide +kernel
theorem cvb_185 : fx_covB fx_FZ fx_CV rxm_185 axm_185 (2, 1, 3) = true := by decide +kernel
theorem cvb_186 : fx_covB fx_FZ fx_CV rxm_186 axm_186 (1, 1, 2) = true := by decide +kernel
theorem cvb_187 : fx_covB fx_FZ fx_CV rxm_187 axm_187 (2, 1, 3) = true := by decide +kernel
theorem cvb_188 : fx_covB fx_FZ fx_CV rxm_188 axm_188 (2, 1, 3) = true := by decide +kernel
theorem cvb_189 : fx_covB fx_FZ fx_CV rxm_189 axm_189 (1, 1, 2) = true := by decide +kernel
theorem cvb_190 : fx_covB fx_FZ fx_CV rxm_190 axm_190 (0, 1, 3) = true := by decide +kernel
theorem cvb_191 : fx_covB fx_FZ fx_CV rxm_191 axm_191 (2, 1, 3) = true := by decide +kernel
theorem cvb_192 : fx_covB fx_FZ fx_CV rxm_192 axm_192 (1, 1, 2) = true := by decide +kernel
theorem cvb_193 : fx_covB fx_FZ fx_CV rxm_193 axm_193 (1, 1, 2) = true := by decide +kernel
theorem cvb_194 : fx_covB fx_FZ fx_CV rxm_194 axm_194 (1, 0, 2) = true := by decide +kernel
theorem cvb_195 : fx_covB fx_FZ fx_CV rxm_195 axm_195 (1, 1, 2) = true := by decide +kernel
theorem cvb_196 : fx_covB fx_FZ fx_CV rxm_196 axm_196 (0, 2, 2) = true := by decide +kernel
theorem cvb_197 : fx_covB fx_FZ fx_CV rxm_197 axm_197 (2, 2, 3) = true := by decide +kernel
theorem cvb_198 : fx_covB fx_FZ fx_CV rxm_198 axm_198 (1, 0, 2) = true := by decide +kernel
theorem cvb_199 : fx_covB fx_FZ fx_CV rxm_199 axm_199 (2, 1, 4) = true := by decide +kernel
theorem cvb_200 : fx_covB fx_FZ fx_CV rxm_200 axm_200 (2, 2, 6) = true := by decide +kernel
theorem cvb_201 : fx_covB fx_FZ fx_CV rxm_201 axm_201 (1, 1, 4) = true := by decide +kernel
theorem cvb_202 : fx_covB fx_FZ fx_CV rxm_202 axm_202 (2, 1, 3) = true := by decide +kernel
theorem cvb_203 : fx_covB fx_FZ fx_CV rxm_203 axm_203 (1, 1, 5) = true := by decide +kernel
theorem cvb_204 : fx_covB fx_FZ fx_CV rxm_204 axm_204 (1, 1, 5) = true := by decide +kernel
theorem cvb_205 : fx_covB fx_FZ fx_CV rxm_205 axm_205 (1, 2, 3) = true := by decide +kernel
theorem cvb_206 : fx_covB fx_FZ fx_CV rxm_206 axm_206 (1, 2, 4) = true := by decide +kernel
theorem cvb_207 : fx_covB fx_FZ fx_CV rxm_207 axm_207 (2, 1, 3) = true := by decide +kernel
end
section
theorem cvb_208 : fx_covB fx_FZ fx_CV rxm_208 axm_208 (3, 0, 8) = true := by decide +kernel
theorem cvb_209 : fx_covB fx_FZ fx_CV rxm_209 axm_209 (0, 2, 2) = true := by decide +kernel
theorem cvb_210 : fx_covB fx_FZ fx_CV rxm_210 axm_210 (3, 3, 9) = true := by decide +kernel
theorem cvb_211 : fx_covB fx_FZ fx_CV rxm_211 axm_211 (2, 3, 3) = true := by decide +kernel
theorem cvb_212 : fx_covB fx_FZ fx_CV rxm_212 axm_212 (2, 0, 3) = true := by decide +kernel
theorem cvb_213 : fx_covB fx_FZ fx_CV rxm_213 axm_213 (4, 1, 10) = true := by decide +kernel
theorem cvb_214 : fx_covB fx_FZ fx_CV rxm_214 axm_214 (3, 1, 4) = true := by decide +kernel
theorem cvb_215 : fx_covB fx_FZ fx_CV rxm_215 axm_215 (2, 1, 3) = true := by decide +kernel
theorem cvb_216 : fx_covB fx_FZ fx_CV rxm_216 axm_216 (1, 1, 4) = true := by decide +kernel
theorem cvb_217 : fx_covB fx_FZ fx_CV rxm_217 axm_217 (1, 1, 2) = true := by decide +kernel
theorem cvb_218 : fx_covB fx_FZ fx_CV rxm_218 axm_218 (2, 1, 3) = true := by decide +kernel
theorem cvb_219 : fx_covB fx_FZ fx_CV rxm_219 axm_219 (0, 1, 1) = true := by decide +kernel
theorem cvb_220 : fx_covB fx_FZ fx_CV rxm_220 axm_220 (2, 1, 4) = true := by decide +kernel
theorem cvb_221 : fx_covB fx_FZ fx_CV rxm_221 axm_221 (4, 2, 5) = true := by decide +kernel
theorem cvb_222 : fx_covB fx_FZ fx_CV rxm_222 axm_222 (1, 2, 2) = true := by decide +kernel
theorem cvb_223 : fx_covB fx_FZ fx_CV rxm_223 axm_223 (1, 0, 3) = true := by decide +kernel
theorem cvb_224 : fx_covB fx_FZ fx_CV rxm_224 axm_224 (0, 1, 4) = true := by decide +kernel
theorem cvb_225 : fx_covB fx_FZ fx_CV rxm_225 axm_225 (1, 0, 3) = true := by decide +kernel
theorem cvb_226 : fx_covB fx_FZ fx_CV rxm_226 axm_226 (1, 0, 4) = true := by decide +kernel
theorem cvb_227 : fx_covB fx_FZ fx_CV rxm_227 axm_227 (0, 1, 5) = true := by decide +kernel
theorem cvb_228 : fx_covB fx_FZ fx_CV rxm_228 axm_228 (3, 1, 4) = true := by decide +kernel
theorem cvb_229 : fx_covB fx_FZ fx_CV rxm_229 axm_229 (3, 1, 5) = true := by decide +kernel
theorem cvb_230 : fx_covB fx_FZ fx_CV rxm_230 axm_230 (2, 1, 4) = true := by decide +kernel
theorem cvb_231 : fx_covB fx_FZ fx_CV rxm_231 axm_231 (1, 1, 3) = true := by decide +kernel
theorem cvb_232 : fx_covB fx_FZ fx_CV rxm_232 axm_232 (1, 1, 2) = true := by decide +kernel
theorem cvb_233 : fx_covB fx_FZ fx_CV rxm_233 axm_233 (2, 1, 3) = true := by decide +kernel
theorem cvb_234 : fx_covB fx_FZ fx_CV rxm_234 axm_234 (3, 1, 4) = true := by decide +kernel
theorem cvb_235 : fx_covB fx_FZ fx_CV rxm_235 axm_235 (1, 0, 2) = true := by decide +kernel
theorem cvb_236 : fx_covB fx_FZ fx_CV rxm_236 axm_236 (0, 1, 3) = true := by decide +kernel
theorem cvb_237 : fx_covB fx_FZ fx_CV rxm_237 axm_237 (3, 3, 4) = true := by decide +kernel
theorem cvb_238 : fx_covB fx_FZ fx_CV rxm_238 axm_238 (2, 3, 3) = true := by decide +kernel
theorem cvb_239 : fx_covB fx_FZ fx_CV rxm_239 axm_239 (2, 1, 5) = true := by decide +kernel
theorem cvb_240 : fx_covB fx_FZ fx_CV rxm_240 axm_240 (2, 1, 4) = true := by decide +kernel
theorem cvb_241 : fx_covB fx_FZ fx_CV rxm_241 axm_241 (2, 2, 3) = true := by decide +kernel
theorem cvb_242 : fx_covB fx_FZ fx_CV rxm_242 axm_242 (2, 2, 3) = true := by decide +kernel
theorem cvb_243 : fx_covB fx_FZ fx_CV rxm_243 axm_243 (2, 1, 3) = true := by decide +kernel
theorem cvb_244 : fx_covB fx_FZ fx_CV rxm_244 axm_244 (1, 0, 3) = true := by decide +kernel
theorem cvb_245 : fx_covB fx_FZ fx_CV rxm_245 axm_245 (3, 1, 8) = true := by decide +kernel
theorem cvb_246 : fx_covB fx_FZ fx_CV rxm_246 axm_246 (1, 0, 2) = true := by decide +kernel
theorem cvb_247 : fx_covB fx_FZ fx_CV rxm_247 axm_247 (1, 1, 3) = true := by decide +kernel
end
section
theorem cvb_248 : fx_covB fx_FZ fx_CV rxm_248 axm_248 (1, 1, 6) = true := by decide +kernel
theorem cvb_249 : fx_covB fx_FZ fx_CV rxm_249 axm_249 (2, 1, 4) = true := by decide +kernel
theorem cvb_250 : fx_covB fx_FZ fx_CV rxm_250 axm_250 (0, 1, 2) = true := by decide +kernel
theorem cvb_251 : fx_covB fx_FZ fx_CV rxm_251 axm_251 (2, 1, 3) = true := by decide +kernel
theorem cvb_252 : fx_covB fx_FZ fx_CV rxm_252 axm_252 (2, 1, 3) = true := by decide +kernel
theorem cvb_253 : fx_covB fx_FZ fx_CV rxm_253 axm_253 (2, 1, 3) = true := by decide +kernel
theorem cvb_254 : fx_covB fx_FZ fx_CV rxm_254 axm_254 (1, 1, 2) = true := by decide +kernel
theorem cvb_255 : fx_covB fx_FZ fx_CV rxm_255 axm_255 (0, 1, 3) = true := by decide +kernel
theorem cvb_256 : fx_covB fx_FZ fx_CV rxm_256 axm_256 (2, 1, 3) = true := by decide +kernel
theorem cvb_257 : fx_covB fx_FZ fx_CV rxm_257 axm_257 (1, 2, 3) = true := by decide +kernel
theorem cvb_258 : fx_covB fx_FZ fx_CV rxm_258 axm_258 (2, 2, 5) = true := by decide +kernel
theorem cvb_259 : fx_covB fx_FZ fx_CV rxm_259 axm_259 (3, 2, 5) = true := by decide +kernel
theorem cvb_260 : fx_covB fx_FZ fx_CV rxm_260 axm_260 (1, 0, 6) = true := by decide +kernel
theorem cvb_261 : fx_covB fx_FZ fx_CV rxm_261 axm_261 (0, 0, 3) = true := by decide +kernel
theorem cvb_262 : fx_covB fx_FZ fx_CV rxm_262 axm_262 (1, 1, 3) = true := by decide +kernel
theorem cvb_263 : fx_covB fx_FZ fx_CV rxm_263 axm_263 (1, 0, 2) = true := by decide +kernel
theorem cvb_264 : fx_covB fx_FZ fx_CV rxm_264 axm_264 (0, 0, 2) = true := by decide +kernel
theorem cvb_266 : fx_covB fx_FZ fx_CV rxm_266 axm_266 (0, 2, 3) = true := by decide +kernel
theorem cvb_267 : fx_covB fx_FZ fx_CV rxm_267 axm_267 (2, 0, 6) = true := by decide +kernel
theorem cvb_268 : fx_covB fx_FZ fx_CV rxm_268 axm_268 (0, 0, 2) = true := by decide +kernel
theorem cvb_269 : fx_covB fx_FZ fx_CV rxm_269 axm_269 (1, 0, 5) = true := by decide +kernel
theorem cvb_270 : fx_covB fx_FZ fx_CV rxm_270 axm_270 (3, 1, 6) = true := by decide +kernel
theorem cvb_271 : fx_covB fx_FZ fx_CV rxm_271 axm_271 (2, 1, 3) = true := by decide +kernel
theorem cvb_272 : fx_covB fx_FZ fx_CV rxm_272 axm_272 (0, 1, 2) = true := by decide +kernel
theorem cvb_273 : fx_covB fx_FZ fx_CV rxm_273 axm_273 (1, 1, 2) = true := by decide +kernel
theorem cvb_274 : fx_covB fx_FZ fx_CV rxm_274 axm_274 (0, 1, 3) = true := by decide +kernel
theorem cvb_275 : fx_covB fx_FZ fx_CV rxm_275 axm_275 (1, 2, 3) = true := by decide +kernel
theorem cvb_276 : fx_covB fx_FZ fx_CV rxm_276 axm_276 (3, 1, 5) = true := by decide +kernel
theorem cvb_277 : fx_covB fx_FZ fx_CV rxm_277 axm_277 (0, 0, 3) = true := by decide +kernel
theorem cvb_278 : fx_covB fx_FZ fx_CV rxm_278 axm_278 (0, 0, 5) = true := by decide +kernel
theorem cvb_279 : fx_covB fx_FZ fx_CV rxm_279 axm_279 (1, 1, 4) = true := by decide +kernel
theorem cvb_280 : fx_covB fx_FZ fx_CV rxm_280 axm_280 (3, 3, 7) = true := by decide +kernel
theorem cvb_281 : fx_covB fx_FZ fx_CV rxm_281 axm_281 (2, 3, 3) = true := by decide +kernel
theorem cvb_282 : fx_covB fx_FZ fx_CV rxm_282 axm_282 (0, 2, 1) = true := by decide +kernel
theorem cvb_283 : fx_covB fx_FZ fx_CV rxm_283 axm_283 (0, 1, 1) = true := by decide +kernel
theorem cvb_284 : fx_covB fx_FZ fx_CV rxm_284 axm_284 (3, 1, 4) = true := by decide +kernel
end
section
theorem cvb_285 : fx_covB fx_FZ fx_CV rxm_285 axm_285 (0, 1, 3) = true := by decide +kernel
theorem cvb_286 : fx_covB fx_FZ fx_CV rxm_286 axm_286 (0, 0, 4) = true := by decide +kernel
theorem cvb_287 : fx_covB fx_FZ fx_CV rxm_287 axm_287 (2, 1, 3) = true := by decide +kernel
theorem cvb_288 : fx_covB fx_FZ fx_CV rxm_288 axm_288 (1, 1, 2) = true := by decide +kernel
theorem cvb_289 : fx_covB fx_FZ fx_CV rxm_289 axm_289 (3, 1, 4) = true := by decide +kernel
theorem cvb_290 : fx_covB fx_FZ fx_CV rxm_290 axm_290 (2, 1, 4) = true := by decide +kernel
theorem cvb_291 : fx_covB fx_FZ fx_CV rxm_291 axm_291 (1, 2, 4) = true := by decide +kernel
theorem cvb_292 : fx_covB fx_FZ fx_CV rxm_292 axm_292 (0, 1, 5) = true := by decide +kernel
theorem cvb_293 : fx_covB fx_FZ fx_CV rxm_293 axm_293 (0, 1, 3) = true := by decide +kernel
theorem cvb_294 : fx_covB fx_FZ fx_CV rxm_294 axm_294 (0, 0, 5) = true := by decide +kernel
theorem cvb_295 : fx_covB fx_FZ fx_CV rxm_295 axm_295 (1, 1, 4) = true := by decide +kernel
theorem cvb_296 : fx_covB fx_FZ fx_CV rxm_296 axm_296 (1, 1, 2) = true := by decide +kernel
theorem cvb_297 : fx_covB fx_FZ fx_CV rxm_297 axm_297 (1, 1, 2) = true := by decide +kernel
theorem cvb_298 : fx_covB fx_FZ fx_CV rxm_298 axm_298 (2, 1, 4) = true := by decide +kernel
theorem cvb_299 : fx_covB fx_FZ fx_CV rxm_299 axm_299 (1, 2, 4) = true := by decide +kernel
theorem cvb_300 : fx_covB fx_FZ fx_CV rxm_300 axm_300 (1, 1, 6) = true := by decide +kernel
theorem cvb_301 : fx_covB fx_FZ fx_CV rxm_301 axm_301 (3, 1, 6) = true := by decide +kernel
theorem cvb_302 : fx_covB fx_FZ fx_CV rxm_302 axm_302 (2, 1, 4) = true := by decide +kernel
theorem cvb_303 : fx_covB fx_FZ fx_CV rxm_303 axm_303 (2, 1, 3) = true := by decide +kernel
theorem cvb_304 : fx_covB fx_FZ fx_CV rxm_304 axm_304 (1, 1, 2) = true := by decide +kernel
theorem cvb_305 : fx_covB fx_FZ fx_CV rxm_305 axm_305 (0, 1, 3) = true := by decide +kernel
theorem cvb_306 : fx_covB fx_FZ fx_CV rxm_306 axm_306 (1, 2, 4) = true := by decide +kernel
theorem cvb_307 : fx_covB fx_FZ fx_CV rxm_307 axm_307 (1, 1, 3) = true := by decide +kernel
theorem cvb_308 : fx_covB fx_FZ fx_CV rxm_308 axm_308 (1, 2, 4) = true := by decide +kernel
theorem cvb_309 : fx_covB fx_FZ fx_CV rxm_309 axm_309 (2, 1, 4) = true := by decide +kernel
theorem cvb_310 : fx_covB fx_FZ fx_CV rxm_310 axm_310 (2, 1, 3) = true := by decide +kernel
theorem cvb_311 : fx_covB fx_FZ fx_CV rxm_311 axm_311 (2, 1, 3) = true := by decide +kernel
theorem cvb_312 : fx_covB fx_FZ fx_CV rxm_312 axm_312 (1, 2, 4) = true := by decide +kernel
theorem cvb_313 : fx_covB fx_FZ fx_CV rxm_313 axm_313 (1, 2, 4) = true := by decide +kernel
theorem cvb_314 : fx_covB fx_FZ fx_CV rxm_314 axm_314 (1, 2, 4) = true := by decide +kernel
theorem cvb_315 : fx_covB fx_FZ fx_CV rxm_315 axm_315 (1, 2, 4) = true := by decide +kernel
theorem cvb_316 : fx_covB fx_FZ fx_CV rxm_316 axm_316 (1, 2, 4) = true := by decide +kernel
theorem cvb_317 : fx_covB fx_FZ fx_CV rxm_317 axm_317 (1, 2, 4) = true := by decide +kernel
theorem cvb_318 : fx_covB fx_FZ fx_CV rxm_318 axm_318 (1, 2, 4) = true := by decide +kernel
theorem cvb_319 : fx_covB fx_FZ fx_CV rxm_319 axm_319 (1, 2, 4) = true := by decide +kernel
theorem cvb_320 : fx_covB fx_FZ fx_CV rxm_320 axm_320 (1, 2, 4) = true := by decide +kernel
theorem cvb_321 : fx_covB fx_FZ fx_CV rxm_321 axm_321 (1, 2, 4) = true := by decide +kernel
end
section
theorem cvb_322 : fx_covB fx_FZ fx_CV rxm_322 axm_322 (1, 2, 4) = true := by decide +kernel
theorem cvb_323 : fx_covB fx_FZ fx_CV rxm_323 axm_323 (1, 2, 4) = true := by decide +kernel
theorem cvb_324 : fx_covB fx_FZ fx_CV rxm_324 axm_324 (1, 2, 4) = true := by decide +kernel
theorem cvb_325 : fx_covB fx_FZ fx_CV rxm_325 axm_325 (1, 2, 4) = true := by decide +kernel
theorem cvb_326 : fx_covB fx_FZ fx_CV rxm_326 axm_326 (1, 2, 4) = true := by decide +kernel
theorem cvb_327 : fx_covB fx_FZ fx_CV rxm_327 axm_327 (1, 2, 4) = true := by decide +kernel
theorem cvb_328 : fx_covB fx_FZ fx_CV rxm_328 axm_328 (1, 2, 4) = true := by decide +kernel
theorem cvb_329 : fx_covB fx_FZ fx_CV rxm_329 axm_329 (0, 2, 1) = true := by decide +kernel
theorem cvb_330 : fx_covB fx_FZ fx_CV rxm_330 axm_330 (0, 2, 2) = true := by decide +kernel
theorem cvb_331 : fx_covB fx_FZ fx_CV rxm_331 axm_331 (0, 1, 3) = true := by decide +kernel
end
section
theorem fx_len_ok : ∀ p, fx_len fx_w p < 4294967296 := by
  have h : fx_w.2.1.all (fun z => Nat.blt z.2.1 4294967296) = true := by decide +kernel
  intro p
  unfold fx_len
  cases h1 : rx_nth fx_w.1 (Nat.sub p 2) with
  | none => exact (by decide : 0 < 4294967296)
  | some g =>
    dsimp only
    cases h2 : rx_nth fx_w.2.1 g with
    | none => exact (by decide : 0 < 4294967296)
    | some z =>
      rw [rx_nth_eq] at h2
      exact rx_blt.mp (List.all_eq_true.mp h z (List.mem_of_getElem? h2))
set_option maxRecDepth 20000 in
theorem fx_all : fx_All fx_w fx_FZ rx_P fx_K fx_AP fx_SG fx_CV := ⟨by decide, fx_len_ok, rxP_ok, (fx_cons (fun _ => cvb_0) (fx_cons (fun _ => cvb_1) (fx_cons (fun _ => cvb_2) (fx_cons (fun _ => cvb_3) (fx_cons (fun _ => cvb_4) (fx_cons (fun _ => cvb_5) (fx_cons (fun _ => cvb_6) (fx_cons (fun _ => cvb_7) (fx_cons (fun _ => cvb_8) (fx_cons (fun _ => cvb_9) (fx_cons (fun _ => cvb_10) (fx_cons (fun _ => cvb_11) (fx_cons (fun _ => cvb_12) (fx_cons (fun _ => cvb_13) (fx_cons (fun _ => cvb_14) (fx_cons (fun _ => cvb_15) (fx_cons (fun _ => cvb_16) (fx_cons (fun _ => cvb_17) (fx_cons (fun _ => cvb_18) (fx_cons (fun _ => cvb_19) (fx_cons (fun _ => cvb_20) (fx_cons (fun _ => cvb_21) (fx_cons (fun _ => cvb_22) (fx_cons (fun _ => cvb_23) (fx_cons (fun _ => cvb_24) (fx_cons (fun _ => cvb_25) (fx_cons (fun _ => cvb_26) (fx_cons (fun _ => cvb_27) (fx_cons (fun _ => cvb_28) (fx_cons (fun _ => cvb_29) (fx_cons (fun _ => cvb_30) (fx_cons (fun _ => cvb_31) (fx_cons (fun _ => cvb_32) (fx_cons (fun _ => cvb_33) (fx_cons (fun _ => cvb_34) (fx_cons (fun _ => cvb_35) (fx_cons (fun _ => cvb_36) (fx_cons (fun _ => cvb_37) (fx_cons (fun _ => cvb_38) (fx_cons (fun _ => cvb_39) (fx_cons (fun _ => cvb_40) (fx_cons (fun _ => cvb_41) (fx_cons (fun _ => cvb_42) (fx_cons (fun _ => cvb_43) (fx_cons (fun _ => cvb_44) (fx_cons (fun _ => cvb_45) (fx_cons (fun _ => cvb_46) (fx_cons (fun _ => cvb_47) (fx_cons (fun _ => cvb_48) (fx_cons (fun _ => cvb_49) (fx_cons (fun _ => cvb_50) (fx_cons (fun _ => cvb_51) (fx_cons (fun _ => cvb_52) (fx_cons (fun _ => cvb_53) (fx_cons (fun _ => cvb_54) (fx_cons (fun _ => cvb_55) (fx_cons (fun _ => cvb_56) (fx_cons (fun _ => cvb_57) (fx_cons (fun _ => cvb_58) (fx_cons (fun _ => cvb_59) (fx_cons (fun _ => cvb_60) (fx_cons (fun _ => cvb_61) (fx_cons (fun _ => cvb_62) (fx_cons (fun _ => cvb_63) (fx_cons (fun _ => cvb_64) (fx_cons (fun _ => cvb_65) (fx_cons (fun _ => cvb_66) (fx_cons (fun _ => cvb_67) (fx_cons (fun _ => cvb_68) (fx_cons (fun _ => cvb_69) (fx_cons (fun _ => cvb_70) (fx_cons (fun _ => cvb_71) (fx_cons (fun _ => cvb_72) (fx_cons (fun _ => cvb_73) (fx_cons (fun _ => cvb_74) (fx_cons (fun h => by cases h) (fx_cons (fun _ => cvb_76) (fx_cons (fun _ => cvb_77) (fx_cons (fun _ => cvb_78) (fx_cons (fun _ => cvb_79) (fx_cons (fun _ => cvb_80) (fx_cons (fun h => by cases h) (fx_cons (fun _ => cvb_82) (fx_cons (fun _ => cvb_83) (fx_cons (fun _ => cvb_84) (fx_cons (fun h => by cases h) (fx_cons (fun _ => cvb_86) (fx_cons (fun _ => cvb_87) (fx_cons (fun _ => cvb_88) (fx_cons (fun _ => cvb_89) (fx_cons (fun h => by cases h) (fx_cons (fun _ => cvb_91) (fx_cons (fun h => by cases h) (fx_cons (fun _ => cvb_93) (fx_cons (fun _ => cvb_94) (fx_cons (fun _ => cvb_95) (fx_cons (fun _ => cvb_96) (fx_cons (fun _ => cvb_97) (fx_cons (fun _ => cvb_98) (fx_cons (fun h => by cases h) (fx_cons (fun _ => cvb_100) (fx_cons (fun _ => cvb_101) (fx_cons (fun h => by cases h) (fx_cons (fun _ => cvb_103) (fx_cons (fun h => by cases h) (fx_cons (fun _ => cvb_105) (fx_cons (fun _ => cvb_106) (fx_cons (fun _ => cvb_107) (fx_cons (fun _ => cvb_108) (fx_cons (fun _ => cvb_109) (fx_cons (fun _ => cvb_110) (fx_cons (fun _ => cvb_111) (fx_cons (fun _ => cvb_112) (fx_cons (fun _ => cvb_113) (fx_cons (fun _ => cvb_114) (fx_cons (fun _ => cvb_115) (fx_cons (fun _ => cvb_116) (fx_cons (fun _ => cvb_117) (fx_cons (fun _ => cvb_118) (fx_cons (fun _ => cvb_119) (fx_cons (fun _ => cvb_120) (fx_cons (fun _ => cvb_121) (fx_cons (fun _ => cvb_122) (fx_cons (fun _ => cvb_123) (fx_cons (fun _ => cvb_124) (fx_cons (fun _ => cvb_125) (fx_cons (fun _ => cvb_126) (fx_cons (fun _ => cvb_127) (fx_cons (fun _ => cvb_128) (fx_cons (fun _ => cvb_129) (fx_cons (fun _ => cvb_130) (fx_cons (fun _ => cvb_131) (fx_cons (fun _ => cvb_132) (fx_cons (fun _ => cvb_133) (fx_cons (fun _ => cvb_134) (fx_cons (fun _ => cvb_135) (fx_cons (fun _ => cvb_136) (fx_cons (fun h => by cases h) (fx_cons (fun _ => cvb_138) (fx_cons (fun _ => cvb_139) (fx_cons (fun _ => cvb_140) (fx_cons (fun h => by cases h) (fx_cons (fun _ => cvb_142) (fx_cons (fun _ => cvb_143) (fx_cons (fun _ => cvb_144) (fx_cons (fun _ => cvb_145) (fx_cons (fun _ => cvb_146) (fx_cons (fun _ => cvb_147) (fx_cons (fun _ => cvb_148) (fx_cons (fun _ => cvb_149) (fx_cons (fun _ => cvb_150) (fx_cons (fun _ => cvb_151) (fx_cons (fun _ => cvb_152) (fx_cons (fun _ => cvb_153) (fx_cons (fun _ => cvb_154) (fx_cons (fun _ => cvb_155) (fx_cons (fun _ => cvb_156) (fx_cons (fun _ => cvb_157) (fx_cons (fun _ => cvb_158) (fx_cons (fun _ => cvb_159) (fx_cons (fun _ => cvb_160) (fx_cons (fun _ => cvb_161) (fx_cons (fun _ => cvb_162) (fx_cons (fun _ => cvb_163) (fx_cons (fun _ => cvb_164) (fx_cons (fun _ => cvb_165) (fx_cons (fun _ => cvb_166) (fx_cons (fun _ => cvb_167) (fx_cons (fun _ => cvb_168) (fx_cons (fun _ => cvb_169) (fx_cons (fun _ => cvb_170) (fx_cons (fun _ => cvb_171) (fx_cons (fun _ => cvb_172) (fx_cons (fun _ => cvb_173) (fx_cons (fun _ => cvb_174) (fx_cons (fun _ => cvb_175) (fx_cons (fun _ => cvb_176) (fx_cons (fun _ => cvb_177) (fx_cons (fun _ => cvb_178) (fx_cons (fun _ => cvb_179) (fx_cons (fun _ => cvb_180) (fx_cons (fun _ => cvb_181) (fx_cons (fun h => by cases h) (fx_cons (fun _ => cvb_183) (fx_cons (fun _ => cvb_184) (fx_cons (fun _ => cvb_185) (fx_cons (fun _ => cvb_186) (fx_cons (fun _ => cvb_187) (fx_cons (fun _ => cvb_188) (fx_cons (fun _ => cvb_189) (fx_cons (fun _ => cvb_190) (fx_cons (fun _ => cvb_191) (fx_cons (fun _ => cvb_192) (fx_cons (fun _ => cvb_193) (fx_cons (fun _ => cvb_194) (fx_cons (fun _ => cvb_195) (fx_cons (fun _ => cvb_196) (fx_cons (fun _ => cvb_197) (fx_cons (fun _ => cvb_198) (fx_cons (fun _ => cvb_199) (fx_cons (fun _ => cvb_200) (fx_cons (fun _ => cvb_201) (fx_cons (fun _ => cvb_202) (fx_cons (fun _ => cvb_203) (fx_cons (fun _ => cvb_204) (fx_cons (fun _ => cvb_205) (fx_cons (fun _ => cvb_206) (fx_cons (fun _ => cvb_207) (fx_cons (fun _ => cvb_208) (fx_cons (fun _ => cvb_209) (fx_cons (fun _ => cvb_210) (fx_cons (fun _ => cvb_211) (fx_cons (fun _ => cvb_212) (fx_cons (fun _ => cvb_213) (fx_cons (fun _ => cvb_214) (fx_cons (fun _ => cvb_215) (fx_cons (fun _ => cvb_216) (fx_cons (fun _ => cvb_217) (fx_cons (fun _ => cvb_218) (fx_cons (fun _ => cvb_219) (fx_cons (fun _ => cvb_220) (fx_cons (fun _ => cvb_221) (fx_cons (fun _ => cvb_222) (fx_cons (fun _ => cvb_223) (fx_cons (fun _ => cvb_224) (fx_cons (fun _ => cvb_225) (fx_cons (fun _ => cvb_226) (fx_cons (fun _ => cvb_227) (fx_cons (fun _ => cvb_228) (fx_cons (fun _ => cvb_229) (fx_cons (fun _ => cvb_230) (fx_cons (fun _ => cvb_231) (fx_cons (fun _ => cvb_232) (fx_cons (fun _ => cvb_233) (fx_cons (fun _ => cvb_234) (fx_cons (fun _ => cvb_235) (fx_cons (fun _ => cvb_236) (fx_cons (fun _ => cvb_237) (fx_cons (fun _ => cvb_238) (fx_cons (fun _ => cvb_239) (fx_cons (fun _ => cvb_240) (fx_cons (fun _ => cvb_241) (fx_cons (fun _ => cvb_242) (fx_cons (fun _ => cvb_243) (fx_cons (fun _ => cvb_244) (fx_cons (fun _ => cvb_245) (fx_cons (fun _ => cvb_246) (fx_cons (fun _ => cvb_247) (fx_cons (fun _ => cvb_248) (fx_cons (fun _ => cvb_249) (fx_cons (fun _ => cvb_250) (fx_cons (fun _ => cvb_251) (fx_cons (fun _ => cvb_252) (fx_cons (fun _ => cvb_253) (fx_cons (fun _ => cvb_254) (fx_cons (fun _ => cvb_255) (fx_cons (fun _ => cvb_256) (fx_cons (fun _ => cvb_257) (fx_cons (fun _ => cvb_258) (fx_cons (fun _ => cvb_259) (fx_cons (fun _ => cvb_260) (fx_cons (fun _ => cvb_261) (fx_cons (fun _ => cvb_262) (fx_cons (fun _ => cvb_263) (fx_cons (fun _ => cvb_264) (fx_cons (fun h => by cases h) (fx_cons (fun _ => cvb_266) (fx_cons (fun _ => cvb_267) (fx_cons (fun _ => cvb_268) (fx_cons (fun _ => cvb_269) (fx_cons (fun _ => cvb_270) (fx_cons (fun _ => cvb_271) (fx_cons (fun _ => cvb_272) (fx_cons (fun _ => cvb_273) (fx_cons (fun _ => cvb_274) (fx_cons (fun _ => cvb_275) (fx_cons (fun _ => cvb_276) (fx_cons (fun _ => cvb_277) (fx_cons (fun _ => cvb_278) (fx_cons (fun _ => cvb_279) (fx_cons (fun _ => cvb_280) (fx_cons (fun _ => cvb_281) (fx_cons (fun _ => cvb_282) (fx_cons (fun _ => cvb_283) (fx_cons (fun _ => cvb_284) (fx_cons (fun _ => cvb_285) (fx_cons (fun _ => cvb_286) (fx_cons (fun _ => cvb_287) (fx_cons (fun _ => cvb_288) (fx_cons (fun _ => cvb_289) (fx_cons (fun _ => cvb_290) (fx_cons (fun _ => cvb_291) (fx_cons (fun _ => cvb_292) (fx_cons (fun _ => cvb_293) (fx_cons (fun _ => cvb_294) (fx_cons (fun _ => cvb_295) (fx_cons (fun _ => cvb_296) (fx_cons (fun _ => cvb_297) (fx_cons (fun _ => cvb_298) (fx_cons (fun _ => cvb_299) (fx_cons (fun _ => cvb_300) (fx_cons (fun _ => cvb_301) (fx_cons (fun _ => cvb_302) (fx_cons (fun _ => cvb_303) (fx_cons (fun _ => cvb_304) (fx_cons (fun _ => cvb_305) (fx_cons (fun _ => cvb_306) (fx_cons (fun _ => cvb_307) (fx_cons (fun _ => cvb_308) (fx_cons (fun _ => cvb_309) (fx_cons (fun _ => cvb_310) (fx_cons (fun _ => cvb_311) (fx_cons (fun _ => cvb_312) (fx_cons (fun _ => cvb_313) (fx_cons (fun _ => cvb_314) (fx_cons (fun _ => cvb_315) (fx_cons (fun _ => cvb_316) (fx_cons (fun _ => cvb_317) (fx_cons (fun _ => cvb_318) (fx_cons (fun _ => cvb_319) (fx_cons (fun _ => cvb_320) (fx_cons (fun _ => cvb_321) (fx_cons (fun _ => cvb_322) (fx_cons (fun _ => cvb_323) (fx_cons (fun _ => cvb_324) (fx_cons (fun _ => cvb_325) (fx_cons (fun _ => cvb_326) (fx_cons (fun _ => cvb_327) (fx_cons (fun _ => cvb_328) (fx_cons (fun _ => cvb_329) (fx_cons (fun _ => cvb_330) (fx_cons (fun _ => cvb_331) (fun i hi => by cases i <;> cases hi)))))))))))))))))))))))))))))))))))))))))))))))))))))))))))))))))))))))))))))))))))))))))))))))))))))))))))))))))))))))))))))))))))))))))))))))))))))))))))))))))))))))))))))))))))))))))))))))))))))))))))))))))))))))))))))))))))))))))))))))))))))))))))))))))))))))))))))))))))))))))))))))))))))))))))))))))))))))))))))))))))))))))))))⟩
theorem q_ok {i n : Nat} (hi : rx_nth fx_CV i = some true) {cd : List (List ax_I)} (hcd : rx_nth fx_AP i = some cd) {hd : List (Nat × List Nat)} {v : fx_V} {F' : fx_F} {pc : Nat} {lv st : List fx_V} {F : fx_F} (h : Rn n i pc lv st F v F') (hlv : lv.map fy_u = lv) (hst : st.map fy_u = st) : fy_Pk fx_w fx_K.2 fx_FZ fx_SG (fy_Hd fx_w fx_K.2 fx_FZ fx_SG fx_AP fx_IL Cl 8) cd hd (fun pc lv st F => ∃ m, m < n ∧ Rn m i pc lv st F v F') (fun a b => v = fy_u a ∧ F' = b) 400 pc lv st F := by
  refine fy_Pk_ok (fy_Hd_ok 8) (R := fun a b => v = a ∧ F' = b) (fun _ _ h => h) 400 pc lv st F ?_
  rw [hlv, hst]
  exact fx_Pk_ok fx_all (fx_Hd_ok fx_all 8) hi hcd (n := n) (v := v) (F' := F') (fun m pc lv st F hm h => ⟨m, hm, h⟩) ⟨rfl, rfl⟩ 400 n (Nat.le_refl n) pc lv st F h
end
section
-- TurnNet$Graph.hasSpace(II)Z
theorem c_Gr_hasSpace {a1 a2 : Nat} {F : fx_F} {v : fx_V} {F' : fx_F} (h : Cl k_Gr_hasSpace [(2, 40), (0, a1), (0, a2)] F v F') : ∃ n, Rn n k_Gr_hasSpace 0 [(2, 40), (0, a1), (0, a2), (3, 0), (3, 0)] [] F v F' := by
  obtain ⟨n, s, hs, h⟩ := h
  rw [sg_0] at hs
  cases hs
  exact ⟨n, h⟩
set_option maxRecDepth 40000 in
theorem q_Gr_hasSpace_0 {n : Nat} {a1 a2 : Nat} {F : fx_F} {v : fx_V} {F' : fx_F} (h : Rn n k_Gr_hasSpace 0 [(2, 40), (0, a1), (0, a2), (3, 0), (3, 0)] [] F v F') :
  ((i_and a1 1) ≠ 0 →
   ((i_and (i_shr a2 (i_shr a1 1)) 1) ≠ 1 →
     v = (0, 0) ∧ F' = F) ∧
    ((i_and (i_shr a2 (i_shr a1 1)) 1) = 1 →
     (s_le 1 (i_neg (F 44 (i_shr a1 1))) →
       v = (0, 0) ∧ F' = F) ∧
      (s_lt (i_neg (F 44 (i_shr a1 1))) 1 →
       v = (0, 1) ∧ F' = F))) ∧
  ((i_and a1 1) = 0 →
   ((i_and (i_shr a2 (i_shr a1 1)) 1) ≠ 1 →
     v = (0, 0) ∧ F' = F) ∧
    ((i_and (i_shr a2 (i_shr a1 1)) 1) = 1 →
     (s_le 1 (F 44 (i_shr a1 1)) →
       v = (0, 0) ∧ F' = F) ∧
      (s_lt (F 44 (i_shr a1 1)) 1 →
       v = (0, 1) ∧ F' = F))) := by
  have t := q_ok cv_0 ap_0 (hd := []) h rfl rfl
  exact t
-- TurnNet$Graph.hopsOf(II)I
theorem c_Gr_hopsOf {a1 a2 : Nat} {F : fx_F} {v : fx_V} {F' : fx_F} (h : Cl k_Gr_hopsOf [(2, 40), (0, a1), (0, a2)] F v F') : ∃ n, Rn n k_Gr_hopsOf 0 [(2, 40), (0, a1), (0, a2)] [] F v F' := by
  obtain ⟨n, s, hs, h⟩ := h
  rw [sg_1] at hs
  cases hs
  exact ⟨n, h⟩
set_option maxRecDepth 40000 in
theorem q_Gr_hopsOf_0 {n : Nat} {a1 a2 : Nat} {F : fx_F} {v : fx_V} {F' : fx_F} (h : Rn n k_Gr_hopsOf 0 [(2, 40), (0, a1), (0, a2)] [] F v F') :
  v = (0, F 41 (i_add (i_mul a1 10) a2)) ∧ F' = F := by
  have t := q_ok cv_1 ap_1 (hd := []) h rfl rfl
  exact t
-- TurnNet$Graph.useRow(II)V
theorem c_Gr_useRow {a1 a2 : Nat} {F : fx_F} {v : fx_V} {F' : fx_F} (h : Cl k_Gr_useRow [(2, 40), (0, a1), (0, a2)] F v F') : ∃ n, Rn n k_Gr_useRow 0 [(2, 40), (0, a1), (0, a2), (3, 0), (3, 0), (3, 0)] [] F v F' := by
  obtain ⟨n, s, hs, h⟩ := h
  rw [sg_2] at hs
  cases hs
  exact ⟨n, h⟩
set_option maxRecDepth 40000 in
theorem q_Gr_useRow_0 {n : Nat} {a1 a2 : Nat} {F : fx_F} {v : fx_V} {F' : fx_F} (h : Rn n k_Gr_useRow 0 [(2, 40), (0, a1), (0, a2), (3, 0), (3, 0), (3, 0)] [] F v F') :
  ∃ m, m < n ∧ Rn m k_Gr_useRow 5 [(2, 40), (0, a1), (3, 0), (0, a2), (0, 0), (3, 0)] [] F v F' := by
  have t := q_ok cv_2 ap_2 (hd := [(5, [1, 1, 0, 1, 1, 0])]) h rfl rfl
  exact t
set_option maxRecDepth 40000 in
theorem q_Gr_useRow_5 {n : Nat} {l1 l3 l4 : Nat} {F : fx_F} {v : fx_V} {F' : fx_F} (h : Rn n k_Gr_useRow 5 [(2, 40), (0, l1), (3, 0), (0, l3), (0, l4), (3, 0)] [] F v F') :
  (s_le 10 l4 →
   v = (2, 0) ∧ F' = F) ∧
  (s_lt l4 10 →
   (l3 = l1 →
     v = (2, 0) ∧ F' = F) ∧
    (l3 ≠ l1 →
     ((F 43 l3) = 4294967295 →
       v = (2, 0) ∧ F' = F) ∧
      ((F 43 l3) ≠ 4294967295 →
       ((i_and (F 43 l3) 1) ≠ 0 →
         ∃ m, m < n ∧ Rn m k_Gr_useRow 5 [(2, 40), (0, l1), (3, 0), (0, F 4 (F 43 l3)), (0, i_add l4 1), (3, 0)] [] (fu F 44 (i_shr (F 43 l3) 1) (i_add (F 44 (i_shr (F 43 l3) 1)) 4294967295)) v F') ∧
        ((i_and (F 43 l3) 1) = 0 →
         ∃ m, m < n ∧ Rn m k_Gr_useRow 5 [(2, 40), (0, l1), (3, 0), (0, F 4 (F 43 l3)), (0, i_add l4 1), (3, 0)] [] (fu F 44 (i_shr (F 43 l3) 1) (i_add (F 44 (i_shr (F 43 l3) 1)) 1)) v F')))) := by
  have t := q_ok cv_2 ap_2 (hd := [(5, [1, 1, 0, 1, 1, 0])]) h rfl rfl
  exact t
-- TurnNet$History.clear()V
theorem c_Hi_clear {F : fx_F} {v : fx_V} {F' : fx_F} (h : Cl k_Hi_clear [(2, 51)] F v F') : ∃ n, Rn n k_Hi_clear 0 [(2, 51)] [] F v F' := by
  obtain ⟨n, s, hs, h⟩ := h
  rw [sg_3] at hs
  cases hs
  exact ⟨n, h⟩
set_option maxRecDepth 40000 in
theorem q_Hi_clear_0 {n : Nat} {F : fx_F} {v : fx_V} {F' : fx_F} (h : Rn n k_Hi_clear 0 [(2, 51)] [] F v F') :
  v = (2, 0) ∧ F' = (fu (fu F 51 2 0) 51 3 0) := by
  have t := q_ok cv_3 ap_3 (hd := []) h rfl rfl
  exact t
-- TurnNet$History.exchange(ILTurnNet$State;)LTurnNet$State;
theorem c_Hi_exchange {a1 a2 : Nat} {F : fx_F} {v : fx_V} {F' : fx_F} (h : Cl k_Hi_exchange [(2, 51), (0, a1), (2, a2)] F v F') : ∃ n, Rn n k_Hi_exchange 0 [(2, 51), (0, a1), (2, a2), (3, 0)] [] F v F' := by
  obtain ⟨n, s, hs, h⟩ := h
  rw [sg_4] at hs
  cases hs
  exact ⟨n, h⟩
set_option maxRecDepth 40000 in
theorem q_Hi_exchange_0 {n : Nat} {a1 a2 : Nat} {F : fx_F} {v : fx_V} {F' : fx_F} (h : Rn n k_Hi_exchange 0 [(2, 51), (0, a1), (2, a2), (3, 0)] [] F v F') :
  v = (2, F 52 a1) ∧ F' = (fu F 52 a1 a2) := by
  have t := q_ok cv_4 ap_4 (hd := []) h rfl rfl
  exact t
-- TurnNet$History.slotOf(I)I
theorem c_Hi_slotOf {a1 : Nat} {F : fx_F} {v : fx_V} {F' : fx_F} (h : Cl k_Hi_slotOf [(2, 51), (0, a1)] F v F') : ∃ n, Rn n k_Hi_slotOf 0 [(2, 51), (0, a1)] [] F v F' := by
  obtain ⟨n, s, hs, h⟩ := h
  rw [sg_5] at hs
  cases hs
  exact ⟨n, h⟩
set_option maxRecDepth 40000 in
theorem q_Hi_slotOf_0 {n : Nat} {a1 : Nat} {F : fx_F} {v : fx_V} {F' : fx_F} (h : Rn n k_Hi_slotOf 0 [(2, 51), (0, a1)] [] F v F') :
  v = (0, i_rem (i_add (F 51 1) a1) 20) ∧ F' = F := by
  have t := q_ok cv_5 ap_5 (hd := []) h rfl rfl
  exact t
-- TurnNet$Net.addCode(II)V
theorem c_Net_addCode {p a1 a2 : Nat} {F : fx_F} {v : fx_V} {F' : fx_F} (h : Cl k_Net_addCode [(2, p), (0, a1), (0, a2)] F v F') : ∃ n, Rn n k_Net_addCode 0 [(2, p), (0, a1), (0, a2)] [] F v F' := by
  obtain ⟨n, s, hs, h⟩ := h
  rw [sg_6] at hs
  cases hs
  exact ⟨n, h⟩
set_option maxRecDepth 40000 in
theorem q_Net_addCode_0 {n : Nat} {p a1 a2 : Nat} {F : fx_F} {v : fx_V} {F' : fx_F} (h : Rn n k_Net_addCode 0 [(2, p), (0, a1), (0, a2)] [] F v F') :
  (s_le 80 (F p 5) →
   v = (2, 0) ∧ F' = F) ∧
  (s_lt (F p 5) 80 →
   v = (2, 0) ∧ F' = (fu (fu (fu F (p + 5) (F p 5) a1) (p + 6) ((fu F (p + 5) (F p 5) a1) p 5) a2) p 5 (i_add ((fu (fu F (p + 5) (F p 5) a1) (p + 6) ((fu F (p + 5) (F p 5) a1) p 5) a2) p 5) 1))) := by
  have t := q_ok cv_6 ap_6 (hd := []) h rfl rfl
  exact t
-- TurnNet$Net.addLink(II)V
theorem c_Net_addLink {p a1 a2 : Nat} {F : fx_F} {v : fx_V} {F' : fx_F} (h : Cl k_Net_addLink [(2, p), (0, a1), (0, a2)] F v F') : ∃ n, Rn n k_Net_addLink 0 [(2, p), (0, a1), (0, a2), (3, 0)] [] F v F' := by
  obtain ⟨n, s, hs, h⟩ := h
  rw [sg_7] at hs
  cases hs
  exact ⟨n, h⟩
set_option maxRecDepth 40000 in
theorem q_Net_addLink_0 {n : Nat} {p a1 a2 : Nat} {F : fx_F} {v : fx_V} {F' : fx_F} (h : Rn n k_Net_addLink 0 [(2, p), (0, a1), (0, a2), (3, 0)] [] F v F') :
  v = (2, 0) ∧ F' = (fu (fu (fu (fu (fu F (p + 1) (i_mul 2 (F p 1)) a1) (p + 2) (i_mul 2 (F p 1)) a2) (p + 1) (i_add (i_mul 2 (F p 1)) 1) a2) (p + 2) (i_add (i_mul 2 (F p 1)) 1) a1) p 1 (i_add ((fu (fu (fu (fu F (p + 1) (i_mul 2 (F p 1)) a1) (p + 2) (i_mul 2 (F p 1)) a2) (p + 1) (i_add (i_mul 2 (F p 1)) 1) a2) (p + 2) (i_add (i_mul 2 (F p 1)) 1) a1) p 1) 1)) := by
  have t := q_ok cv_7 ap_7 (hd := []) h rfl rfl
  exact t
-- TurnNet$Net.allLinks()I
theorem c_Net_allLinks {p : Nat} {F : fx_F} {v : fx_V} {F' : fx_F} (h : Cl k_Net_allLinks [(2, p)] F v F') : ∃ n, Rn n k_Net_allLinks 0 [(2, p)] [] F v F' := by
  obtain ⟨n, s, hs, h⟩ := h
  rw [sg_8] at hs
  cases hs
  exact ⟨n, h⟩
set_option maxRecDepth 40000 in
theorem q_Net_allLinks_0 {n : Nat} {p : Nat} {F : fx_F} {v : fx_V} {F' : fx_F} (h : Rn n k_Net_allLinks 0 [(2, p)] [] F v F') :
  v = (0, i_sub (i_shl 1 (F p 1)) 1) ∧ F' = F := by
  have t := q_ok cv_8 ap_8 (hd := []) h rfl rfl
  exact t
-- TurnNet$Net.channels()I
theorem c_Net_channels {p : Nat} {F : fx_F} {v : fx_V} {F' : fx_F} (h : Cl k_Net_channels [(2, p)] F v F') : ∃ n, Rn n k_Net_channels 0 [(2, p)] [] F v F' := by
  obtain ⟨n, s, hs, h⟩ := h
  rw [sg_9] at hs
  cases hs
  exact ⟨n, h⟩
set_option maxRecDepth 40000 in
theorem q_Net_channels_0 {n : Nat} {p : Nat} {F : fx_F} {v : fx_V} {F' : fx_F} (h : Rn n k_Net_channels 0 [(2, p)] [] F v F') :
  v = (0, i_mul 2 (F p 1)) ∧ F' = F := by
  have t := q_ok cv_9 ap_9 (hd := []) h rfl rfl
  exact t
-- TurnNet$Net.clear()V
theorem c_Net_clear {p : Nat} {F : fx_F} {v : fx_V} {F' : fx_F} (h : Cl k_Net_clear [(2, p)] F v F') : ∃ n, Rn n k_Net_clear 0 [(2, p)] [] F v F' := by
  obtain ⟨n, s, hs, h⟩ := h
  rw [sg_10] at hs
  cases hs
  exact ⟨n, h⟩
set_option maxRecDepth 40000 in
theorem q_Net_clear_0 {n : Nat} {p : Nat} {F : fx_F} {v : fx_V} {F' : fx_F} (h : Rn n k_Net_clear 0 [(2, p)] [] F v F') :
  v = (2, 0) ∧ F' = (fu (fu (fu (fu (fu (fu F p 0 0) p 1 0) p 2 0) p 3 1) p 4 0) p 5 0) := by
  have t := q_ok cv_10 ap_10 (hd := []) h rfl rfl
  exact t
-- TurnNet$Net.hasLink(I)Z
theorem c_Net_hasLink {p a1 : Nat} {F : fx_F} {v : fx_V} {F' : fx_F} (h : Cl k_Net_hasLink [(2, p), (0, a1)] F v F') : ∃ n, Rn n k_Net_hasLink 0 [(2, p), (0, a1)] [] F v F' := by
  obtain ⟨n, s, hs, h⟩ := h
  rw [sg_11] at hs
  cases hs
  exact ⟨n, h⟩
set_option maxRecDepth 40000 in
theorem q_Net_hasLink_0 {n : Nat} {p a1 : Nat} {F : fx_F} {v : fx_V} {F' : fx_F} (h : Rn n k_Net_hasLink 0 [(2, p), (0, a1)] [] F v F') :
  (s_lt a1 0 →
   v = (0, 0) ∧ F' = F) ∧
  (s_le 0 a1 →
   (s_le (F p 1) a1 →
     v = (0, 0) ∧ F' = F) ∧
    (s_lt a1 (F p 1) →
     v = (0, 1) ∧ F' = F)) := by
  have t := q_ok cv_11 ap_11 (hd := []) h rfl rfl
  exact t
-- TurnNet$Net.hasSwitch(I)Z
theorem c_Net_hasSwitch {p a1 : Nat} {F : fx_F} {v : fx_V} {F' : fx_F} (h : Cl k_Net_hasSwitch [(2, p), (0, a1)] F v F') : ∃ n, Rn n k_Net_hasSwitch 0 [(2, p), (0, a1)] [] F v F' := by
  obtain ⟨n, s, hs, h⟩ := h
  rw [sg_12] at hs
  cases hs
  exact ⟨n, h⟩
set_option maxRecDepth 40000 in
theorem q_Net_hasSwitch_0 {n : Nat} {p a1 : Nat} {F : fx_F} {v : fx_V} {F' : fx_F} (h : Rn n k_Net_hasSwitch 0 [(2, p), (0, a1)] [] F v F') :
  (s_lt a1 0 →
   v = (0, 0) ∧ F' = F) ∧
  (s_le 0 a1 →
   (s_le (F p 0) a1 →
     v = (0, 0) ∧ F' = F) ∧
    (s_lt a1 (F p 0) →
     v = (0, 1) ∧ F' = F)) := by
  have t := q_ok cv_12 ap_12 (hd := []) h rfl rfl
  exact t
-- TurnNet$Net.isUp(II)Z
theorem c_Net_isUp {a0 a1 : Nat} {F : fx_F} {v : fx_V} {F' : fx_F} (h : Cl k_Net_isUp [(0, a0), (0, a1)] F v F') : ∃ n, Rn n k_Net_isUp 0 [(0, a0), (0, a1)] [] F v F' := by
  obtain ⟨n, s, hs, h⟩ := h
  rw [sg_13] at hs
  cases hs
  exact ⟨n, h⟩
set_option maxRecDepth 40000 in
theorem q_Net_isUp_0 {n : Nat} {a0 a1 : Nat} {F : fx_F} {v : fx_V} {F' : fx_F} (h : Rn n k_Net_isUp 0 [(0, a0), (0, a1)] [] F v F') :
  ((i_and (i_shr a1 (i_shr a0 1)) 1) = (i_and a0 1) →
   v = (0, 0) ∧ F' = F) ∧
  ((i_and (i_shr a1 (i_shr a0 1)) 1) ≠ (i_and a0 1) →
   v = (0, 1) ∧ F' = F) := by
  have t := q_ok cv_13 ap_13 (hd := []) h rfl rfl
  exact t
-- TurnNet$Net.upEnd(II)I
theorem c_Net_upEnd {p a1 a2 : Nat} {F : fx_F} {v : fx_V} {F' : fx_F} (h : Cl k_Net_upEnd [(2, p), (0, a1), (0, a2)] F v F') : ∃ n, Rn n k_Net_upEnd 0 [(2, p), (0, a1), (0, a2)] [] F v F' := by
  obtain ⟨n, s, hs, h⟩ := h
  rw [sg_14] at hs
  cases hs
  exact ⟨n, h⟩
set_option maxRecDepth 40000 in
theorem q_Net_upEnd_0 {n : Nat} {p a1 a2 : Nat} {F : fx_F} {v : fx_V} {F' : fx_F} (h : Rn n k_Net_upEnd 0 [(2, p), (0, a1), (0, a2)] [] F v F') :
  ((i_and (i_shr a2 a1) 1) ≠ 1 →
   v = (0, F (p + 1) (i_mul 2 a1)) ∧ F' = F) ∧
  ((i_and (i_shr a2 a1) 1) = 1 →
   v = (0, F (p + 2) (i_mul 2 a1)) ∧ F' = F) := by
  have t := q_ok cv_14 ap_14 (hd := []) h rfl rfl
  exact t
-- TurnNet$Order.combine(III)I
theorem c_Or_combine {a0 a1 a2 : Nat} {F : fx_F} {v : fx_V} {F' : fx_F} (h : Cl k_Or_combine [(0, a0), (0, a1), (0, a2)] F v F') : ∃ n, Rn n k_Or_combine 0 [(0, a0), (0, a1), (0, a2)] [] F v F' := by
  obtain ⟨n, s, hs, h⟩ := h
  rw [sg_15] at hs
  cases hs
  exact ⟨n, h⟩
set_option maxRecDepth 40000 in
theorem q_Or_combine_0 {n : Nat} {a0 a1 a2 : Nat} {F : fx_F} {v : fx_V} {F' : fx_F} (h : Rn n k_Or_combine 0 [(0, a0), (0, a1), (0, a2)] [] F v F') :
  ((a0 < 42 ∨ 48 ≤ a0) →
   (a2 ≠ 0 →
     v = (0, i_rem a1 a2) ∧ F' = F) ∧
    (a2 = 0 →
     v = (0, 0) ∧ F' = F)) ∧
  ((a0 = 42 →
   v = (0, i_mul a1 a2) ∧ F' = F) ∧
  ((a0 = 43 →
   v = (0, i_add a1 a2) ∧ F' = F) ∧
  ((a0 = 44 →
   (a2 ≠ 0 →
     v = (0, i_rem a1 a2) ∧ F' = F) ∧
    (a2 = 0 →
     v = (0, 0) ∧ F' = F)) ∧
  ((a0 = 45 →
   v = (0, i_sub a1 a2) ∧ F' = F) ∧
  ((a0 = 46 →
   (a2 ≠ 0 →
     v = (0, i_rem a1 a2) ∧ F' = F) ∧
    (a2 = 0 →
     v = (0, 0) ∧ F' = F)) ∧
  ((a0 = 47 →
   (a2 ≠ 0 →
     v = (0, i_div a1 a2) ∧ F' = F) ∧
    (a2 = 0 →
     v = (0, 0) ∧ F' = F)) ∧ True)))))) := by
  have t := q_ok cv_15 ap_15 (hd := []) h rfl rfl
  exact t
-- TurnNet$Order.isAbove(II)Z
theorem c_Or_isAbove {a1 a2 : Nat} {F : fx_F} {v : fx_V} {F' : fx_F} (h : Cl k_Or_isAbove [(2, 19), (0, a1), (0, a2)] F v F') : ∃ n, Rn n k_Or_isAbove 0 [(2, 19), (0, a1), (0, a2)] [] F v F' := by
  obtain ⟨n, s, hs, h⟩ := h
  rw [sg_16] at hs
  cases hs
  exact ⟨n, h⟩
set_option maxRecDepth 40000 in
theorem q_Or_isAbove_0 {n : Nat} {a1 a2 : Nat} {F : fx_F} {v : fx_V} {F' : fx_F} (h : Rn n k_Or_isAbove 0 [(2, 19), (0, a1), (0, a2)] [] F v F') :
  (s_lt (F 22 a1) (F 22 a2) →
   v = (0, 1) ∧ F' = F) ∧
  (s_le (F 22 a2) (F 22 a1) →
   ((F 22 a1) ≠ (F 22 a2) →
     v = (0, 0) ∧ F' = F) ∧
    ((F 22 a1) = (F 22 a2) →
     (s_le a2 a1 →
       v = (0, 0) ∧ F' = F) ∧
      (s_lt a1 a2 →
       v = (0, 1) ∧ F' = F))) := by
  have t := q_ok cv_16 ap_16 (hd := []) h rfl rfl
  exact t
-- TurnNet$Order.leaf(III)I
theorem c_Or_leaf {a1 a2 a3 : Nat} {F : fx_F} {v : fx_V} {F' : fx_F} (h : Cl k_Or_leaf [(2, 19), (0, a1), (0, a2), (0, a3)] F v F') : ∃ n, Rn n k_Or_leaf 0 [(2, 19), (0, a1), (0, a2), (0, a3)] [] F v F' := by
  obtain ⟨n, s, hs, h⟩ := h
  rw [sg_17] at hs
  cases hs
  exact ⟨n, h⟩
set_option maxRecDepth 40000 in
theorem q_Or_leaf_0 {n : Nat} {a1 a2 a3 : Nat} {F : fx_F} {v : fx_V} {F' : fx_F} (h : Rn n k_Or_leaf 0 [(2, 19), (0, a1), (0, a2), (0, a3)] [] F v F') :
  ((a1 < 2 ∨ 5 ≤ a1) →
   v = (0, a2) ∧ F' = F) ∧
  ((a1 = 2 →
   v = (0, F 20 a3) ∧ F' = F) ∧
  ((a1 = 3 →
   v = (0, a3) ∧ F' = F) ∧
  ((a1 = 4 →
   v = (0, F 21 a3) ∧ F' = F) ∧ True))) := by
  have t := q_ok cv_17 ap_17 (hd := []) h rfl rfl
  exact t
-- TurnNet$Planner.linksOf(I)I
theorem c_Pl_linksOf {a1 : Nat} {F : fx_F} {v : fx_V} {F' : fx_F} (h : Cl k_Pl_linksOf [(2, 48), (0, a1)] F v F') : ∃ n, Rn n k_Pl_linksOf 0 [(2, 48), (0, a1)] [] F v F' := by
  obtain ⟨n, s, hs, h⟩ := h
  rw [sg_18] at hs
  cases hs
  exact ⟨n, h⟩
set_option maxRecDepth 40000 in
theorem q_Pl_linksOf_0 {n : Nat} {a1 : Nat} {F : fx_F} {v : fx_V} {F' : fx_F} (h : Rn n k_Pl_linksOf 0 [(2, 48), (0, a1)] [] F v F') :
  (s_lt a1 0 →
   v = (0, 0) ∧ F' = F) ∧
  (s_le 0 a1 →
   (s_le (F 48 4) a1 →
     v = (0, 0) ∧ F' = F) ∧
    (s_lt a1 (F 48 4) →
     v = (0, F 49 a1) ∧ F' = F)) := by
  have t := q_ok cv_18 ap_18 (hd := []) h rfl rfl
  exact t
-- TurnNet$Planner.phaseOf(I)I
theorem c_Pl_phaseOf {a1 : Nat} {F : fx_F} {v : fx_V} {F' : fx_F} (h : Cl k_Pl_phaseOf [(2, 48), (0, a1)] F v F') : ∃ n, Rn n k_Pl_phaseOf 0 [(2, 48), (0, a1), (3, 0)] [] F v F' := by
  obtain ⟨n, s, hs, h⟩ := h
  rw [sg_19] at hs
  cases hs
  exact ⟨n, h⟩
set_option maxRecDepth 40000 in
theorem q_Pl_phaseOf_0 {n : Nat} {a1 : Nat} {F : fx_F} {v : fx_V} {F' : fx_F} (h : Rn n k_Pl_phaseOf 0 [(2, 48), (0, a1), (3, 0)] [] F v F') :
  ∃ m, m < n ∧ Rn m k_Pl_phaseOf 2 [(2, 48), (0, a1), (0, 0)] [] F v F' := by
  have t := q_ok cv_19 ap_19 (hd := [(2, [1, 1, 1])]) h rfl rfl
  exact t
set_option maxRecDepth 40000 in
theorem q_Pl_phaseOf_2 {n : Nat} {l1 l2 : Nat} {F : fx_F} {v : fx_V} {F' : fx_F} (h : Rn n k_Pl_phaseOf 2 [(2, 48), (0, l1), (0, l2)] [] F v F') :
  (s_le (F 48 4) l2 →
   v = (0, 4294967295) ∧ F' = F) ∧
  (s_lt l2 (F 48 4) →
   ((i_and (i_shr (F 49 l2) l1) 1) ≠ 1 →
     ∃ m, m < n ∧ Rn m k_Pl_phaseOf 2 [(2, 48), (0, l1), (0, i_add l2 1)] [] F v F') ∧
    ((i_and (i_shr (F 49 l2) l1) 1) = 1 →
     v = (0, l2) ∧ F' = F)) := by
  have t := q_ok cv_19 ap_19 (hd := [(2, [1, 1, 1])]) h rfl rfl
  exact t
-- TurnNet$Reader.append(I)V
theorem c_Rd_append {a1 : Nat} {F : fx_F} {v : fx_V} {F' : fx_F} (h : Cl k_Rd_append [(2, 10), (0, a1)] F v F') : ∃ n, Rn n k_Rd_append 0 [(2, 10), (0, a1), (3, 0)] [] F v F' := by
  obtain ⟨n, s, hs, h⟩ := h
  rw [sg_20] at hs
  cases hs
  exact ⟨n, h⟩
set_option maxRecDepth 40000 in
theorem q_Rd_append_0 {n : Nat} {a1 : Nat} {F : fx_F} {v : fx_V} {F' : fx_F} (h : Rn n k_Rd_append 0 [(2, 10), (0, a1), (3, 0)] [] F v F') :
  ∃ m, m < n ∧ Rn m k_Rd_append 3 [(2, 10), (0, a1), (0, 24)] [] F v F' := by
  have t := q_ok cv_20 ap_20 (hd := [(3, [1, 1, 1])]) h rfl rfl
  exact t
set_option maxRecDepth 40000 in
theorem q_Rd_append_3 {n : Nat} {l1 l2 : Nat} {F : fx_F} {v : fx_V} {F' : fx_F} (h : Rn n k_Rd_append 3 [(2, 10), (0, l1), (0, l2)] [] F v F') :
  (s_lt l2 0 →
   v = (2, 0) ∧ F' = F) ∧
  (s_le 0 l2 →
   (s_le 800 (F 10 1) →
     ∃ m, m < n ∧ Rn m k_Rd_append 3 [(2, 10), (0, l1), (0, i_add l2 4294967288)] [] F v F') ∧
    (s_lt (F 10 1) 800 →
     ∃ m, m < n ∧ Rn m k_Rd_append 3 [(2, 10), (0, l1), (0, i_add l2 4294967288)] [] (fu (fu F 11 (F 10 1) (i_2b (i_shr l1 l2))) 10 1 (i_add (F 10 1) 1)) v F')) := by
  have t := q_ok cv_20 ap_20 (hd := [(3, [1, 1, 1])]) h rfl rfl
  exact t
-- TurnNet$Reader.fail(I)Z
theorem c_Rd_fail {a1 : Nat} {F : fx_F} {v : fx_V} {F' : fx_F} (h : Cl k_Rd_fail [(2, 10), (0, a1)] F v F') : ∃ n, Rn n k_Rd_fail 0 [(2, 10), (0, a1)] [] F v F' := by
  obtain ⟨n, s, hs, h⟩ := h
  rw [sg_21] at hs
  cases hs
  exact ⟨n, h⟩
set_option maxRecDepth 40000 in
theorem q_Rd_fail_0 {n : Nat} {a1 : Nat} {F : fx_F} {v : fx_V} {F' : fx_F} (h : Rn n k_Rd_fail 0 [(2, 10), (0, a1)] [] F v F') :
  v = (0, 0) ∧ F' = (fu (fu F 10 3 a1) 10 4 (F 10 6)) := by
  have t := q_ok cv_21 ap_21 (hd := []) h rfl rfl
  exact t
-- TurnNet$Routes.entryOf(III)I
theorem c_Ro_entryOf {p a1 a2 a3 : Nat} {F : fx_F} {v : fx_V} {F' : fx_F} (h : Cl k_Ro_entryOf [(2, p), (0, a1), (0, a2), (0, a3)] F v F') : ∃ n, Rn n k_Ro_entryOf 0 [(2, p), (0, a1), (0, a2), (0, a3)] [] F v F' := by
  obtain ⟨n, s, hs, h⟩ := h
  rw [sg_22] at hs
  cases hs
  exact ⟨n, h⟩
set_option maxRecDepth 40000 in
theorem q_Ro_entryOf_0 {n : Nat} {p a1 a2 a3 : Nat} {F : fx_F} {v : fx_V} {F' : fx_F} (h : Rn n k_Ro_entryOf 0 [(2, p), (0, a1), (0, a2), (0, a3)] [] F v F') :
  v = (0, F (p + 2) (i_add (i_add (i_mul a1 20) (i_mul 2 a2)) a3)) ∧ F' = F := by
  have t := q_ok cv_22 ap_22 (hd := []) h rfl rfl
  exact t
-- TurnNet$Routes.forget()V
theorem c_Ro_forget {p : Nat} {F : fx_F} {v : fx_V} {F' : fx_F} (h : Cl k_Ro_forget [(2, p)] F v F') : ∃ n, Rn n k_Ro_forget 0 [(2, p)] [] F v F' := by
  obtain ⟨n, s, hs, h⟩ := h
  rw [sg_23] at hs
  cases hs
  exact ⟨n, h⟩
set_option maxRecDepth 40000 in
theorem q_Ro_forget_0 {n : Nat} {p : Nat} {F : fx_F} {v : fx_V} {F' : fx_F} (h : Rn n k_Ro_forget 0 [(2, p)] [] F v F') :
  v = (2, 0) ∧ F' = (fu (fu F p 3 0) p 4 0) := by
  have t := q_ok cv_23 ap_23 (hd := []) h rfl rfl
  exact t
-- TurnNet$Routes.hopsOf(II)I
theorem c_Ro_hopsOf {p a1 a2 : Nat} {F : fx_F} {v : fx_V} {F' : fx_F} (h : Cl k_Ro_hopsOf [(2, p), (0, a1), (0, a2)] F v F') : ∃ n, Rn n k_Ro_hopsOf 0 [(2, p), (0, a1), (0, a2)] [] F v F' := by
  obtain ⟨n, s, hs, h⟩ := h
  rw [sg_24] at hs
  cases hs
  exact ⟨n, h⟩
set_option maxRecDepth 40000 in
theorem q_Ro_hopsOf_0 {n : Nat} {p a1 a2 : Nat} {F : fx_F} {v : fx_V} {F' : fx_F} (h : Rn n k_Ro_hopsOf 0 [(2, p), (0, a1), (0, a2)] [] F v F') :
  v = (0, F (p + 1) (i_add (i_mul a2 20) (i_mul 2 a1))) ∧ F' = F := by
  have t := q_ok cv_24 ap_24 (hd := []) h rfl rfl
  exact t
-- TurnNet$Routes.placeBehind(I)I
theorem c_Ro_placeBehind {p a1 : Nat} {F : fx_F} {v : fx_V} {F' : fx_F} (h : Cl k_Ro_placeBehind [(2, p), (0, a1)] F v F') : ∃ n, Rn n k_Ro_placeBehind 0 [(2, p), (0, a1)] [] F v F' := by
  obtain ⟨n, s, hs, h⟩ := h
  rw [sg_25] at hs
  cases hs
  exact ⟨n, h⟩
set_option maxRecDepth 40000 in
theorem q_Ro_placeBehind_0 {n : Nat} {p a1 : Nat} {F : fx_F} {v : fx_V} {F' : fx_F} (h : Rn n k_Ro_placeBehind 0 [(2, p), (0, a1)] [] F v F') :
  v = (0, i_add (i_mul 2 (F 5 a1)) (F (p + 5) a1)) ∧ F' = F := by
  have t := q_ok cv_25 ap_25 (hd := []) h rfl rfl
  exact t
-- TurnNet$Routes.reach(III)Z
theorem c_Ro_reach {p a1 a2 a3 : Nat} {F : fx_F} {v : fx_V} {F' : fx_F} (h : Cl k_Ro_reach [(2, p), (0, a1), (0, a2), (0, a3)] F v F') : ∃ n, Rn n k_Ro_reach 0 [(2, p), (0, a1), (0, a2), (0, a3)] [] F v F' := by
  obtain ⟨n, s, hs, h⟩ := h
  rw [sg_26] at hs
  cases hs
  exact ⟨n, h⟩
set_option maxRecDepth 40000 in
theorem q_Ro_reach_0 {n : Nat} {p a1 a2 a3 : Nat} {F : fx_F} {v : fx_V} {F' : fx_F} (h : Rn n k_Ro_reach 0 [(2, p), (0, a1), (0, a2), (0, a3)] [] F v F') :
  ((F (p + 1) a1) ≠ 4294967295 →
   v = (0, 0) ∧ F' = F) ∧
  ((F (p + 1) a1) = 4294967295 →
   ((F (p + 1) a2) = (i_sub a3 1) →
     v = (0, 1) ∧ F' = (fu F (p + 1) a1 a3)) ∧
    ((F (p + 1) a2) ≠ (i_sub a3 1) →
     v = (0, 0) ∧ F' = F)) := by
  have t := q_ok cv_26 ap_26 (hd := []) h rfl rfl
  exact t
-- TurnNet$Routes.stands(I)Z
theorem c_Ro_stands {p a1 : Nat} {F : fx_F} {v : fx_V} {F' : fx_F} (h : Cl k_Ro_stands [(2, p), (0, a1)] F v F') : ∃ n, Rn n k_Ro_stands 0 [(2, p), (0, a1)] [] F v F' := by
  obtain ⟨n, s, hs, h⟩ := h
  rw [sg_27] at hs
  cases hs
  exact ⟨n, h⟩
set_option maxRecDepth 40000 in
theorem q_Ro_stands_0 {n : Nat} {p a1 : Nat} {F : fx_F} {v : fx_V} {F' : fx_F} (h : Rn n k_Ro_stands 0 [(2, p), (0, a1)] [] F v F') :
  ((i_and (i_shr (F p 2) (i_shr a1 1)) 1) ≠ 1 →
   v = (0, 0) ∧ F' = F) ∧
  ((i_and (i_shr (F p 2) (i_shr a1 1)) 1) = 1 →
   v = (0, 1) ∧ F' = F) := by
  have t := q_ok cv_27 ap_27 (hd := []) h rfl rfl
  exact t
-- TurnNet$State.begin(III)V
theorem c_St_begin {p a1 a2 a3 : Nat} {F : fx_F} {v : fx_V} {F' : fx_F} (h : Cl k_St_begin [(2, p), (0, a1), (0, a2), (0, a3)] F v F') : ∃ n, Rn n k_St_begin 0 [(2, p), (0, a1), (0, a2), (0, a3), (3, 0)] [] F v F' := by
  obtain ⟨n, s, hs, h⟩ := h
  rw [sg_28] at hs
  cases hs
  exact ⟨n, h⟩
set_option maxRecDepth 40000 in
theorem q_St_begin_0 {n : Nat} {p a1 a2 a3 : Nat} {F : fx_F} {v : fx_V} {F' : fx_F} (h : Rn n k_St_begin 0 [(2, p), (0, a1), (0, a2), (0, a3), (3, 0)] [] F v F') :
  ∃ m, m < n ∧ Rn m k_St_begin 23 [(2, p), (3, 0), (3, 0), (3, 0), (0, 0)] [] (fu (fu (fu (fu F p 0 a1) p 1 a2) p 2 a3) p 3 0) v F' := by
  have t := q_ok cv_28 ap_28 (hd := [(23, [1, 0, 0, 0, 1])]) h rfl rfl
  exact t
set_option maxRecDepth 40000 in
theorem q_St_begin_23 {n : Nat} {p l4 : Nat} {F : fx_F} {v : fx_V} {F' : fx_F} (h : Rn n k_St_begin 23 [(2, p), (3, 0), (3, 0), (3, 0), (0, l4)] [] F v F') :
  (s_le 12 l4 →
   v = (2, 0) ∧ F' = F) ∧
  (s_lt l4 12 →
   ∃ m, m < n ∧ Rn m k_St_begin 23 [(2, p), (3, 0), (3, 0), (3, 0), (0, i_add l4 1)] [] (fu F (p + 1) l4 4294967295) v F') := by
  have t := q_ok cv_28 ap_28 (hd := [(23, [1, 0, 0, 0, 1])]) h rfl rfl
  exact t
-- TurnNet$State.countAt(I)I
theorem c_St_countAt {p a1 : Nat} {F : fx_F} {v : fx_V} {F' : fx_F} (h : Cl k_St_countAt [(2, p), (0, a1)] F v F') : ∃ n, Rn n k_St_countAt 0 [(2, p), (0, a1), (3, 0), (3, 0)] [] F v F' := by
  obtain ⟨n, s, hs, h⟩ := h
  rw [sg_29] at hs
  cases hs
  exact ⟨n, h⟩
set_option maxRecDepth 40000 in
theorem q_St_countAt_0 {n : Nat} {p a1 : Nat} {F : fx_F} {v : fx_V} {F' : fx_F} (h : Rn n k_St_countAt 0 [(2, p), (0, a1), (3, 0), (3, 0)] [] F v F') :
  ∃ m, m < n ∧ Rn m k_St_countAt 4 [(2, p), (0, a1), (0, 0), (0, 0)] [] F v F' := by
  have t := q_ok cv_29 ap_29 (hd := [(4, [1, 1, 1, 1])]) h rfl rfl
  exact t
set_option maxRecDepth 40000 in
theorem q_St_countAt_4 {n : Nat} {p l1 l2 l3 : Nat} {F : fx_F} {v : fx_V} {F' : fx_F} (h : Rn n k_St_countAt 4 [(2, p), (0, l1), (0, l2), (0, l3)] [] F v F') :
  (s_le 12 l3 →
   v = (0, l2) ∧ F' = F) ∧
  (s_lt l3 12 →
   ((F (p + 1) l3) ≠ l1 →
     ∃ m, m < n ∧ Rn m k_St_countAt 4 [(2, p), (0, l1), (0, l2), (0, i_add l3 1)] [] F v F') ∧
    ((F (p + 1) l3) = l1 →
     ∃ m, m < n ∧ Rn m k_St_countAt 4 [(2, p), (0, l1), (0, i_add l2 1), (0, i_add l3 1)] [] F v F')) := by
  have t := q_ok cv_29 ap_29 (hd := [(4, [1, 1, 1, 1])]) h rfl rfl
  exact t
-- TurnNet$State.countCameBy(I)I
theorem c_St_countCameBy {p a1 : Nat} {F : fx_F} {v : fx_V} {F' : fx_F} (h : Cl k_St_countCameBy [(2, p), (0, a1)] F v F') : ∃ n, Rn n k_St_countCameBy 0 [(2, p), (0, a1), (3, 0), (3, 0)] [] F v F' := by
  obtain ⟨n, s, hs, h⟩ := h
  rw [sg_30] at hs
  cases hs
  exact ⟨n, h⟩
set_option maxRecDepth 40000 in
theorem q_St_countCameBy_0 {n : Nat} {p a1 : Nat} {F : fx_F} {v : fx_V} {F' : fx_F} (h : Rn n k_St_countCameBy 0 [(2, p), (0, a1), (3, 0), (3, 0)] [] F v F') :
  ∃ m, m < n ∧ Rn m k_St_countCameBy 4 [(2, p), (0, a1), (0, 0), (0, 0)] [] F v F' := by
  have t := q_ok cv_30 ap_30 (hd := [(4, [1, 1, 1, 1])]) h rfl rfl
  exact t
set_option maxRecDepth 40000 in
theorem q_St_countCameBy_4 {n : Nat} {p l1 l2 l3 : Nat} {F : fx_F} {v : fx_V} {F' : fx_F} (h : Rn n k_St_countCameBy 4 [(2, p), (0, l1), (0, l2), (0, l3)] [] F v F') :
  (s_le 12 l3 →
   v = (0, l2) ∧ F' = F) ∧
  (s_lt l3 12 →
   ((F (p + 1) l3) = 4294967295 →
     ∃ m, m < n ∧ Rn m k_St_countCameBy 4 [(2, p), (0, l1), (0, l2), (0, i_add l3 1)] [] F v F') ∧
    ((F (p + 1) l3) ≠ 4294967295 →
     ((F (p + 3) l3) ≠ l1 →
       ∃ m, m < n ∧ Rn m k_St_countCameBy 4 [(2, p), (0, l1), (0, l2), (0, i_add l3 1)] [] F v F') ∧
      ((F (p + 3) l3) = l1 →
       ∃ m, m < n ∧ Rn m k_St_countCameBy 4 [(2, p), (0, l1), (0, i_add l2 1), (0, i_add l3 1)] [] F v F'))) := by
  have t := q_ok cv_30 ap_30 (hd := [(4, [1, 1, 1, 1])]) h rfl rfl
  exact t
-- TurnNet$State.countPackets()I
theorem c_St_countPackets {p : Nat} {F : fx_F} {v : fx_V} {F' : fx_F} (h : Cl k_St_countPackets [(2, p)] F v F') : ∃ n, Rn n k_St_countPackets 0 [(2, p), (3, 0), (3, 0)] [] F v F' := by
  obtain ⟨n, s, hs, h⟩ := h
  rw [sg_31] at hs
  cases hs
  exact ⟨n, h⟩
set_option maxRecDepth 40000 in
theorem q_St_countPackets_0 {n : Nat} {p : Nat} {F : fx_F} {v : fx_V} {F' : fx_F} (h : Rn n k_St_countPackets 0 [(2, p), (3, 0), (3, 0)] [] F v F') :
  ∃ m, m < n ∧ Rn m k_St_countPackets 4 [(2, p), (0, 0), (0, 0)] [] F v F' := by
  have t := q_ok cv_31 ap_31 (hd := [(4, [1, 1, 1])]) h rfl rfl
  exact t
set_option maxRecDepth 40000 in
theorem q_St_countPackets_4 {n : Nat} {p l1 l2 : Nat} {F : fx_F} {v : fx_V} {F' : fx_F} (h : Rn n k_St_countPackets 4 [(2, p), (0, l1), (0, l2)] [] F v F') :
  (s_le 12 l2 →
   v = (0, l1) ∧ F' = F) ∧
  (s_lt l2 12 →
   ((F (p + 1) l2) = 4294967295 →
     ∃ m, m < n ∧ Rn m k_St_countPackets 4 [(2, p), (0, l1), (0, i_add l2 1)] [] F v F') ∧
    ((F (p + 1) l2) ≠ 4294967295 →
     ∃ m, m < n ∧ Rn m k_St_countPackets 4 [(2, p), (0, i_add l1 1), (0, i_add l2 1)] [] F v F')) := by
  have t := q_ok cv_31 ap_31 (hd := [(4, [1, 1, 1])]) h rfl rfl
  exact t
-- TurnNet$State.freePacket()I
theorem c_St_freePacket {p : Nat} {F : fx_F} {v : fx_V} {F' : fx_F} (h : Cl k_St_freePacket [(2, p)] F v F') : ∃ n, Rn n k_St_freePacket 0 [(2, p), (3, 0)] [] F v F' := by
  obtain ⟨n, s, hs, h⟩ := h
  rw [sg_32] at hs
  cases hs
  exact ⟨n, h⟩
set_option maxRecDepth 40000 in
theorem q_St_freePacket_0 {n : Nat} {p : Nat} {F : fx_F} {v : fx_V} {F' : fx_F} (h : Rn n k_St_freePacket 0 [(2, p), (3, 0)] [] F v F') :
  ∃ m, m < n ∧ Rn m k_St_freePacket 2 [(2, p), (0, 0)] [] F v F' := by
  have t := q_ok cv_32 ap_32 (hd := [(2, [1, 1])]) h rfl rfl
  exact t
set_option maxRecDepth 40000 in
theorem q_St_freePacket_2 {n : Nat} {p l1 : Nat} {F : fx_F} {v : fx_V} {F' : fx_F} (h : Rn n k_St_freePacket 2 [(2, p), (0, l1)] [] F v F') :
  (s_le 12 l1 →
   v = (0, 4294967295) ∧ F' = F) ∧
  (s_lt l1 12 →
   ((F (p + 1) l1) ≠ 4294967295 →
     ∃ m, m < n ∧ Rn m k_St_freePacket 2 [(2, p), (0, i_add l1 1)] [] F v F') ∧
    ((F (p + 1) l1) = 4294967295 →
     v = (0, l1) ∧ F' = F)) := by
  have t := q_ok cv_32 ap_32 (hd := [(2, [1, 1])]) h rfl rfl
  exact t
-- TurnNet$State.hasPacket(I)Z
theorem c_St_hasPacket {p a1 : Nat} {F : fx_F} {v : fx_V} {F' : fx_F} (h : Cl k_St_hasPacket [(2, p), (0, a1)] F v F') : ∃ n, Rn n k_St_hasPacket 0 [(2, p), (0, a1)] [] F v F' := by
  obtain ⟨n, s, hs, h⟩ := h
  rw [sg_33] at hs
  cases hs
  exact ⟨n, h⟩
set_option maxRecDepth 40000 in
theorem q_St_hasPacket_0 {n : Nat} {p a1 : Nat} {F : fx_F} {v : fx_V} {F' : fx_F} (h : Rn n k_St_hasPacket 0 [(2, p), (0, a1)] [] F v F') :
  (s_lt a1 0 →
   v = (0, 0) ∧ F' = F) ∧
  (s_le 0 a1 →
   (s_le 12 a1 →
     v = (0, 0) ∧ F' = F) ∧
    (s_lt a1 12 →
     ((F (p + 1) a1) = 4294967295 →
       v = (0, 0) ∧ F' = F) ∧
      ((F (p + 1) a1) ≠ 4294967295 →
       v = (0, 1) ∧ F' = F))) := by
  have t := q_ok cv_33 ap_33 (hd := []) h rfl rfl
  exact t
-- TurnNet$State.stands(I)Z
theorem c_St_stands {p a1 : Nat} {F : fx_F} {v : fx_V} {F' : fx_F} (h : Cl k_St_stands [(2, p), (0, a1)] F v F') : ∃ n, Rn n k_St_stands 0 [(2, p), (0, a1)] [] F v F' := by
  obtain ⟨n, s, hs, h⟩ := h
  rw [sg_34] at hs
  cases hs
  exact ⟨n, h⟩
set_option maxRecDepth 40000 in
theorem q_St_stands_0 {n : Nat} {p a1 : Nat} {F : fx_F} {v : fx_V} {F' : fx_F} (h : Rn n k_St_stands 0 [(2, p), (0, a1)] [] F v F') :
  ((i_and (i_shr (F p 2) a1) 1) ≠ 1 →
   v = (0, 0) ∧ F' = F) ∧
  ((i_and (i_shr (F p 2) a1) 1) = 1 →
   v = (0, 1) ∧ F' = F) := by
  have t := q_ok cv_34 ap_34 (hd := []) h rfl rfl
  exact t
-- TurnNet$Traffic.draw(I)I
theorem c_Tr_draw {a0 : Nat} {F : fx_F} {v : fx_V} {F' : fx_F} (h : Cl k_Tr_draw [(0, a0)] F v F') : ∃ n, Rn n k_Tr_draw 0 [(0, a0)] [] F v F' := by
  obtain ⟨n, s, hs, h⟩ := h
  rw [sg_35] at hs
  cases hs
  exact ⟨n, h⟩
set_option maxRecDepth 40000 in
theorem q_Tr_draw_0 {n : Nat} {a0 : Nat} {F : fx_F} {v : fx_V} {F' : fx_F} (h : Rn n k_Tr_draw 0 [(0, a0)] [] F v F') :
  v = (0, i_rem (i_add (i_mul 137 a0) 71) 10007) ∧ F' = F := by
  have t := q_ok cv_35 ap_35 (hd := []) h rfl rfl
  exact t
-- TurnNet$Traffic.startCount()V
theorem c_Tr_startCount {F : fx_F} {v : fx_V} {F' : fx_F} (h : Cl k_Tr_startCount [(2, 50)] F v F') : ∃ n, Rn n k_Tr_startCount 0 [(2, 50)] [] F v F' := by
  obtain ⟨n, s, hs, h⟩ := h
  rw [sg_36] at hs
  cases hs
  exact ⟨n, h⟩
set_option maxRecDepth 40000 in
theorem q_Tr_startCount_0 {n : Nat} {F : fx_F} {v : fx_V} {F' : fx_F} (h : Rn n k_Tr_startCount 0 [(2, 50)] [] F v F') :
  v = (2, 0) ∧ F' = (fu (fu F 50 1 0) 50 2 0) := by
  have t := q_ok cv_36 ap_36 (hd := []) h rfl rfl
  exact t
-- TurnNet$Turns.lawful(IJ)J
theorem c_Tu_lawful {a1 a2 : Nat} {F : fx_F} {v : fx_V} {F' : fx_F} (h : Cl k_Tu_lawful [(2, 45), (0, a1), (1, a2)] F v F') : ∃ n, Rn n k_Tu_lawful 0 [(2, 45), (0, a1), (1, a2), (3, 0), (3, 0), (3, 0)] [] F v F' := by
  obtain ⟨n, s, hs, h⟩ := h
  rw [sg_37] at hs
  cases hs
  exact ⟨n, h⟩
set_option maxRecDepth 40000 in
theorem q_Tu_lawful_0 {n : Nat} {a1 a2 : Nat} {F : fx_F} {v : fx_V} {F' : fx_F} (h : Rn n k_Tu_lawful 0 [(2, 45), (0, a1), (1, a2), (3, 0), (3, 0), (3, 0)] [] F v F') :
  ((rx_f_lcmp (rx_j_and (rx_j_shr a2 a1) 1) 1) ≠ 0 →
   v = (1, rx_j_and (rx_j_and (F 46 (F 5 a1)) (rx_j_xor (rx_j_shl 1 (i_xor a1 1)) 18446744073709551615)) (rx_j_xor a2 18446744073709551615)) ∧ F' = F) ∧
  ((rx_f_lcmp (rx_j_and (rx_j_shr a2 a1) 1) 1) = 0 →
   v = (1, rx_j_and (F 46 (F 5 a1)) (rx_j_xor (rx_j_shl 1 (i_xor a1 1)) 18446744073709551615)) ∧ F' = F) := by
  have t := q_ok cv_37 ap_37 (hd := []) h rfl rfl
  exact t
-- TurnNet$Turns.leads(II)Z
theorem c_Tu_leads {a1 a2 : Nat} {F : fx_F} {v : fx_V} {F' : fx_F} (h : Cl k_Tu_leads [(2, 45), (0, a1), (0, a2)] F v F') : ∃ n, Rn n k_Tu_leads 0 [(2, 45), (0, a1), (0, a2)] [] F v F' := by
  obtain ⟨n, s, hs, h⟩ := h
  rw [sg_38] at hs
  cases hs
  exact ⟨n, h⟩
set_option maxRecDepth 40000 in
theorem q_Tu_leads_0 {n : Nat} {a1 a2 : Nat} {F : fx_F} {v : fx_V} {F' : fx_F} (h : Rn n k_Tu_leads 0 [(2, 45), (0, a1), (0, a2)] [] F v F') :
  ((rx_f_lcmp (rx_j_and (rx_j_shr (F 47 a1) a2) 1) 1) ≠ 0 →
   v = (0, 0) ∧ F' = F) ∧
  ((rx_f_lcmp (rx_j_and (rx_j_shr (F 47 a1) a2) 1) 1) = 0 →
   v = (0, 1) ∧ F' = F) := by
  have t := q_ok cv_38 ap_38 (hd := []) h rfl rfl
  exact t
-- TurnNet.end(I)I
theorem c_T_end {a1 : Nat} {F : fx_F} {v : fx_V} {F' : fx_F} (h : Cl k_T_end [(2, 2), (0, a1)] F v F') : ∃ n, Rn n k_T_end 0 [(2, 2), (0, a1)] [] F v F' := by
  obtain ⟨n, s, hs, h⟩ := h
  rw [sg_39] at hs
  cases hs
  exact ⟨n, h⟩
set_option maxRecDepth 40000 in
theorem q_T_end_0 {n : Nat} {a1 : Nat} {F : fx_F} {v : fx_V} {F' : fx_F} (h : Rn n k_T_end 0 [(2, 2), (0, a1)] [] F v F') :
  (s_lt a1 0 →
   v = (0, 4294967295) ∧ F' = F) ∧
  (s_le 0 a1 →
   (s_le a1 (F 10 1) →
     v = (0, a1) ∧ F' = (fu F 10 1 a1)) ∧
    (s_lt (F 10 1) a1 →
     v = (0, 4294967295) ∧ F' = F)) := by
  have t := q_ok cv_39 ap_39 (hd := []) h rfl rfl
  exact t
-- TurnNet.fault(I)I
theorem c_T_fault {a1 : Nat} {F : fx_F} {v : fx_V} {F' : fx_F} (h : Cl k_T_fault [(2, 2), (0, a1)] F v F') : ∃ n, Rn n k_T_fault 0 [(2, 2), (0, a1)] [] F v F' := by
  obtain ⟨n, s, hs, h⟩ := h
  rw [sg_40] at hs
  cases hs
  exact ⟨n, h⟩
set_option maxRecDepth 40000 in
theorem q_T_fault_0 {n : Nat} {a1 : Nat} {F : fx_F} {v : fx_V} {F' : fx_F} (h : Rn n k_T_fault 0 [(2, 2), (0, a1)] [] F v F') :
  (a1 ≠ 0 →
   (a1 ≠ 1 →
     v = (0, 4294967295) ∧ F' = F) ∧
    (a1 = 1 →
     v = (0, F 10 4) ∧ F' = F)) ∧
  (a1 = 0 →
   v = (0, F 10 3) ∧ F' = F) := by
  have t := q_ok cv_40 ap_40 (hd := []) h rfl rfl
  exact t
-- TurnNetModel.behind(IZ)I
theorem c_M_behind {a0 a1 : Nat} {F : fx_F} {v : fx_V} {F' : fx_F} (h : Cl k_M_behind [(0, a0), (0, a1)] F v F') : ∃ n, Rn n k_M_behind 0 [(0, a0), (0, a1)] [] F v F' := by
  obtain ⟨n, s, hs, h⟩ := h
  rw [sg_41] at hs
  cases hs
  exact ⟨n, h⟩
set_option maxRecDepth 40000 in
theorem q_M_behind_0 {n : Nat} {a0 a1 : Nat} {F : fx_F} {v : fx_V} {F' : fx_F} (h : Rn n k_M_behind 0 [(0, a0), (0, a1)] [] F v F') :
  (a0 = 1 →
   v = (0, 1) ∧ F' = F) ∧
  (a0 ≠ 1 →
   (a1 ≠ 0 →
     v = (0, 0) ∧ F' = F) ∧
    (a1 = 0 →
     v = (0, 1) ∧ F' = F)) := by
  have t := q_ok cv_41 ap_41 (hd := []) h rfl rfl
  exact t
-- TurnNetModel.bringBack()V
theorem c_M_bringBack {F : fx_F} {v : fx_V} {F' : fx_F} (h : Cl k_M_bringBack [(2, 175)] F v F') : ∃ n, Rn n k_M_bringBack 0 [(2, 175), (3, 0)] [] F v F' := by
  obtain ⟨n, s, hs, h⟩ := h
  rw [sg_43] at hs
  cases hs
  exact ⟨n, h⟩
set_option maxRecDepth 40000 in
theorem q_M_bringBack_0 {n : Nat} {F : fx_F} {v : fx_V} {F' : fx_F} (h : Rn n k_M_bringBack 0 [(2, 175), (3, 0)] [] F v F') :
  ∃ m, m < n ∧ Rn m k_M_bringBack 2 [(2, 175), (0, 0)] [] F v F' := by
  have t := q_ok cv_43 ap_43 (hd := [(2, [1, 1])]) h rfl rfl
  exact t
set_option maxRecDepth 40000 in
theorem q_M_bringBack_2 {n : Nat} {l1 : Nat} {F : fx_F} {v : fx_V} {F' : fx_F} (h : Rn n k_M_bringBack 2 [(2, 175), (0, l1)] [] F v F') :
  (s_le 103 l1 →
   v = (2, 0) ∧ F' = F) ∧
  (s_lt l1 103 →
   ∃ m, m < n ∧ Rn m k_M_bringBack 2 [(2, 175), (0, i_add l1 1)] [] (fu F 176 l1 (F 199 l1)) v F') := by
  have t := q_ok cv_43 ap_43 (hd := [(2, [1, 1])]) h rfl rfl
  exact t
-- TurnNetModel.cameBy(I)I
theorem c_M_cameBy {a1 : Nat} {F : fx_F} {v : fx_V} {F' : fx_F} (h : Cl k_M_cameBy [(2, 175), (0, a1)] F v F') : ∃ n, Rn n k_M_cameBy 0 [(2, 175), (0, a1), (3, 0), (3, 0)] [] F v F' := by
  obtain ⟨n, s, hs, h⟩ := h
  rw [sg_44] at hs
  cases hs
  exact ⟨n, h⟩
set_option maxRecDepth 40000 in
theorem q_M_cameBy_0 {n : Nat} {a1 : Nat} {F : fx_F} {v : fx_V} {F' : fx_F} (h : Rn n k_M_cameBy 0 [(2, 175), (0, a1), (3, 0), (3, 0)] [] F v F') :
  ∃ m, m < n ∧ Rn m k_M_cameBy 4 [(2, 175), (0, a1), (0, 0), (0, 0)] [] F v F' := by
  have t := q_ok cv_44 ap_44 (hd := [(4, [1, 1, 1, 1])]) h rfl rfl
  exact t
set_option maxRecDepth 40000 in
theorem q_M_cameBy_4 {n : Nat} {l1 l2 l3 : Nat} {F : fx_F} {v : fx_V} {F' : fx_F} (h : Rn n k_M_cameBy 4 [(2, 175), (0, l1), (0, l2), (0, l3)] [] F v F') :
  (s_le 12 l3 →
   v = (0, l2) ∧ F' = F) ∧
  (s_lt l3 12 →
   ((F 176 (i_add 41 l3)) ≠ 1 →
     ∃ m, m < n ∧ Rn m k_M_cameBy 4 [(2, 175), (0, l1), (0, i_add l2 0), (0, i_add l3 1)] [] F v F') ∧
    ((F 176 (i_add 41 l3)) = 1 →
     ((F 176 (i_add 77 l3)) ≠ l1 →
       ∃ m, m < n ∧ Rn m k_M_cameBy 4 [(2, 175), (0, l1), (0, i_add l2 0), (0, i_add l3 1)] [] F v F') ∧
      ((F 176 (i_add 77 l3)) = l1 →
       ∃ m, m < n ∧ Rn m k_M_cameBy 4 [(2, 175), (0, l1), (0, i_add l2 1), (0, i_add l3 1)] [] F v F'))) := by
  have t := q_ok cv_44 ap_44 (hd := [(4, [1, 1, 1, 1])]) h rfl rfl
  exact t
-- TurnNetModel.clearBank(I)V
theorem c_M_clearBank {a1 : Nat} {F : fx_F} {v : fx_V} {F' : fx_F} (h : Cl k_M_clearBank [(2, 175), (0, a1)] F v F') : ∃ n, Rn n k_M_clearBank 0 [(2, 175), (0, a1)] [] F v F' := by
  obtain ⟨n, s, hs, h⟩ := h
  rw [sg_45] at hs
  cases hs
  exact ⟨n, h⟩
set_option maxRecDepth 40000 in
theorem q_M_clearBank_0 {n : Nat} {a1 : Nat} {F : fx_F} {v : fx_V} {F' : fx_F} (h : Rn n k_M_clearBank 0 [(2, 175), (0, a1)] [] F v F') :
  v = (2, 0) ∧ F' = (fu (fu (fu (fu (fu (fu F 177 a1 0) 178 a1 0) 179 a1 0) 180 a1 1) 181 a1 0) 182 a1 0) := by
  have t := q_ok cv_45 ap_45 (hd := []) h rfl rfl
  exact t
-- TurnNetModel.draw()I
theorem c_M_draw {F : fx_F} {v : fx_V} {F' : fx_F} (h : Cl k_M_draw [(2, 175)] F v F') : ∃ n, Rn n k_M_draw 0 [(2, 175)] [] F v F' := by
  obtain ⟨n, s, hs, h⟩ := h
  rw [sg_46] at hs
  cases hs
  exact ⟨n, h⟩
set_option maxRecDepth 40000 in
theorem q_M_draw_0 {n : Nat} {F : fx_F} {v : fx_V} {F' : fx_F} (h : Rn n k_M_draw 0 [(2, 175)] [] F v F') :
  v = (0, i_rem (i_add (i_mul 137 (F 175 49)) 71) 10007) ∧ F' = (fu F 175 49 (i_rem (i_add (i_mul 137 (F 175 49)) 71) 10007)) := by
  have t := q_ok cv_46 ap_46 (hd := []) h rfl rfl
  exact t
-- TurnNetModel.end(I)I
theorem c_M_end {a1 : Nat} {F : fx_F} {v : fx_V} {F' : fx_F} (h : Cl k_M_end [(2, 175), (0, a1)] F v F') : ∃ n, Rn n k_M_end 0 [(2, 175), (0, a1)] [] F v F' := by
  obtain ⟨n, s, hs, h⟩ := h
  rw [sg_47] at hs
  cases hs
  exact ⟨n, h⟩
set_option maxRecDepth 40000 in
theorem q_M_end_0 {n : Nat} {a1 : Nat} {F : fx_F} {v : fx_V} {F' : fx_F} (h : Rn n k_M_end 0 [(2, 175), (0, a1)] [] F v F') :
  (s_lt a1 0 →
   v = (0, 4294967295) ∧ F' = F) ∧
  (s_le 0 a1 →
   (s_le a1 (F 175 11) →
     v = (0, a1) ∧ F' = (fu F 175 11 a1)) ∧
    (s_lt (F 175 11) a1 →
     v = (0, 4294967295) ∧ F' = F)) := by
  have t := q_ok cv_47 ap_47 (hd := []) h rfl rfl
  exact t
-- TurnNetModel.endAt(III)I
theorem c_M_endAt {a0 a1 a2 : Nat} {F : fx_F} {v : fx_V} {F' : fx_F} (h : Cl k_M_endAt [(0, a0), (0, a1), (0, a2)] F v F') : ∃ n, Rn n k_M_endAt 0 [(0, a0), (0, a1), (0, a2)] [] F v F' := by
  obtain ⟨n, s, hs, h⟩ := h
  rw [sg_48] at hs
  cases hs
  exact ⟨n, h⟩
set_option maxRecDepth 40000 in
theorem q_M_endAt_0 {n : Nat} {a0 a1 a2 : Nat} {F : fx_F} {v : fx_V} {F' : fx_F} (h : Rn n k_M_endAt 0 [(0, a0), (0, a1), (0, a2)] [] F v F') :
  v = (0, i_add (i_add (i_mul 40 a0) (i_mul 2 a1)) a2) ∧ F' = F := by
  have t := q_ok cv_48 ap_48 (hd := []) h rfl rfl
  exact t
-- TurnNetModel.fault(I)I
theorem c_M_fault {a1 : Nat} {F : fx_F} {v : fx_V} {F' : fx_F} (h : Cl k_M_fault [(2, 175), (0, a1)] F v F') : ∃ n, Rn n k_M_fault 0 [(2, 175), (0, a1)] [] F v F' := by
  obtain ⟨n, s, hs, h⟩ := h
  rw [sg_50] at hs
  cases hs
  exact ⟨n, h⟩
set_option maxRecDepth 40000 in
theorem q_M_fault_0 {n : Nat} {a1 : Nat} {F : fx_F} {v : fx_V} {F' : fx_F} (h : Rn n k_M_fault 0 [(2, 175), (0, a1)] [] F v F') :
  (a1 ≠ 0 →
   (a1 ≠ 1 →
     v = (0, 4294967295) ∧ F' = F) ∧
    (a1 = 1 →
     v = (0, F 175 21) ∧ F' = F)) ∧
  (a1 = 0 →
   v = (0, F 175 20) ∧ F' = F) := by
  have t := q_ok cv_50 ap_50 (hd := []) h rfl rfl
  exact t
-- TurnNetModel.feed(IIIII)I
theorem c_M_feed {a1 a2 a3 a4 a5 : Nat} {F : fx_F} {v : fx_V} {F' : fx_F} (h : Cl k_M_feed [(2, 175), (0, a1), (0, a2), (0, a3), (0, a4), (0, a5)] F v F') : ∃ n, Rn n k_M_feed 0 [(2, 175), (0, a1), (0, a2), (0, a3), (0, a4), (0, a5), (3, 0), (3, 0)] [] F v F' := by
  obtain ⟨n, s, hs, h⟩ := h
  rw [sg_51] at hs
  cases hs
  exact ⟨n, h⟩
set_option maxRecDepth 40000 in
theorem q_M_feed_0 {n : Nat} {a1 a2 a3 a4 a5 : Nat} {F : fx_F} {v : fx_V} {F' : fx_F} (h : Rn n k_M_feed 0 [(2, 175), (0, a1), (0, a2), (0, a3), (0, a4), (0, a5), (3, 0), (3, 0)] [] F v F') :
  (s_le (i_add (F 175 11) 20) 800 →
   ∃ m, m < n ∧ Rn m k_M_feed 18 [(2, 175), (0, a1), (0, a2), (0, a3), (0, a4), (0, a5), (0, 0), (3, 0)] [] F v F') ∧
  (s_lt 800 (i_add (F 175 11) 20) →
   v = (0, 4294967295) ∧ F' = F) := by
  have t := q_ok cv_51 ap_51 (hd := [(18, [1, 1, 1, 1, 1, 1, 1, 0])]) h rfl rfl
  exact t
set_option maxRecDepth 40000 in
theorem q_M_feed_18 {n : Nat} {l1 l2 l3 l4 l5 l6 : Nat} {F : fx_F} {v : fx_V} {F' : fx_F} (h : Rn n k_M_feed 18 [(2, 175), (0, l1), (0, l2), (0, l3), (0, l4), (0, l5), (0, l6), (3, 0)] [] F v F') :
  (s_le 20 l6 →
   v = (0, i_add (F 175 11) 20) ∧ F' = (fu F 175 11 (i_add (F 175 11) 20))) ∧
  (s_lt l6 20 →
   (s_le 4 l6 →
     (s_le 8 l6 →
       (s_le 12 l6 →
         (s_le 16 l6 →
           ∃ m, m < n ∧ Rn m k_M_feed 18 [(2, 175), (0, l1), (0, l2), (0, l3), (0, l4), (0, l5), (0, i_add l6 1), (3, 0)] [] (fu F 185 (i_add (F 175 11) l6) (i_2b (i_shr l5 (i_sub 24 (i_mul 8 (i_and l6 3)))))) v F') ∧
          (s_lt l6 16 →
           ∃ m, m < n ∧ Rn m k_M_feed 18 [(2, 175), (0, l1), (0, l2), (0, l3), (0, l4), (0, l5), (0, i_add l6 1), (3, 0)] [] (fu F 185 (i_add (F 175 11) l6) (i_2b (i_shr l4 (i_sub 24 (i_mul 8 (i_and l6 3)))))) v F')) ∧
        (s_lt l6 12 →
         ∃ m, m < n ∧ Rn m k_M_feed 18 [(2, 175), (0, l1), (0, l2), (0, l3), (0, l4), (0, l5), (0, i_add l6 1), (3, 0)] [] (fu F 185 (i_add (F 175 11) l6) (i_2b (i_shr l3 (i_sub 24 (i_mul 8 (i_and l6 3)))))) v F')) ∧
      (s_lt l6 8 →
       ∃ m, m < n ∧ Rn m k_M_feed 18 [(2, 175), (0, l1), (0, l2), (0, l3), (0, l4), (0, l5), (0, i_add l6 1), (3, 0)] [] (fu F 185 (i_add (F 175 11) l6) (i_2b (i_shr l2 (i_sub 24 (i_mul 8 (i_and l6 3)))))) v F')) ∧
    (s_lt l6 4 →
     ∃ m, m < n ∧ Rn m k_M_feed 18 [(2, 175), (0, l1), (0, l2), (0, l3), (0, l4), (0, l5), (0, i_add l6 1), (3, 0)] [] (fu F 185 (i_add (F 175 11) l6) (i_2b (i_shr l1 (i_sub 24 (i_mul 8 (i_and l6 3)))))) v F')) := by
  have t := q_ok cv_51 ap_51 (hd := [(18, [1, 1, 1, 1, 1, 1, 1, 0])]) h rfl rfl
  exact t
-- TurnNetModel.freePacket()I
theorem c_M_freePacket {F : fx_F} {v : fx_V} {F' : fx_F} (h : Cl k_M_freePacket [(2, 175)] F v F') : ∃ n, Rn n k_M_freePacket 0 [(2, 175), (3, 0)] [] F v F' := by
  obtain ⟨n, s, hs, h⟩ := h
  rw [sg_52] at hs
  cases hs
  exact ⟨n, h⟩
set_option maxRecDepth 40000 in
theorem q_M_freePacket_0 {n : Nat} {F : fx_F} {v : fx_V} {F' : fx_F} (h : Rn n k_M_freePacket 0 [(2, 175), (3, 0)] [] F v F') :
  ∃ m, m < n ∧ Rn m k_M_freePacket 2 [(2, 175), (0, 0)] [] F v F' := by
  have t := q_ok cv_52 ap_52 (hd := [(2, [1, 1])]) h rfl rfl
  exact t
set_option maxRecDepth 40000 in
theorem q_M_freePacket_2 {n : Nat} {l1 : Nat} {F : fx_F} {v : fx_V} {F' : fx_F} (h : Rn n k_M_freePacket 2 [(2, 175), (0, l1)] [] F v F') :
  (s_le 12 l1 →
   v = (0, 4294967295) ∧ F' = F) ∧
  (s_lt l1 12 →
   ((F 176 (i_add 41 l1)) ≠ 0 →
     ∃ m, m < n ∧ Rn m k_M_freePacket 2 [(2, 175), (0, i_add l1 1)] [] F v F') ∧
    ((F 176 (i_add 41 l1)) = 0 →
     v = (0, l1) ∧ F' = F)) := by
  have t := q_ok cv_52 ap_52 (hd := [(2, [1, 1])]) h rfl rfl
  exact t
-- TurnNetModel.isAbove(II)Z
theorem c_M_isAbove {a1 a2 : Nat} {F : fx_F} {v : fx_V} {F' : fx_F} (h : Cl k_M_isAbove [(2, 175), (0, a1), (0, a2)] F v F') : ∃ n, Rn n k_M_isAbove 0 [(2, 175), (0, a1), (0, a2)] [] F v F' := by
  obtain ⟨n, s, hs, h⟩ := h
  rw [sg_53] at hs
  cases hs
  exact ⟨n, h⟩
set_option maxRecDepth 40000 in
theorem q_M_isAbove_0 {n : Nat} {a1 a2 : Nat} {F : fx_F} {v : fx_V} {F' : fx_F} (h : Rn n k_M_isAbove 0 [(2, 175), (0, a1), (0, a2)] [] F v F') :
  (s_lt (F 189 a1) (F 189 a2) →
   v = (0, 1) ∧ F' = F) ∧
  (s_le (F 189 a2) (F 189 a1) →
   ((F 189 a1) ≠ (F 189 a2) →
     v = (0, 0) ∧ F' = F) ∧
    ((F 189 a1) = (F 189 a2) →
     (s_le a2 a1 →
       v = (0, 0) ∧ F' = F) ∧
      (s_lt a1 a2 →
       v = (0, 1) ∧ F' = F))) := by
  have t := q_ok cv_53 ap_53 (hd := []) h rfl rfl
  exact t
-- TurnNetModel.isIn(III)Z
theorem c_M_isIn {a0 a1 a2 : Nat} {F : fx_F} {v : fx_V} {F' : fx_F} (h : Cl k_M_isIn [(0, a0), (0, a1), (0, a2)] F v F') : ∃ n, Rn n k_M_isIn 0 [(0, a0), (0, a1), (0, a2)] [] F v F' := by
  obtain ⟨n, s, hs, h⟩ := h
  rw [sg_56] at hs
  cases hs
  exact ⟨n, h⟩
set_option maxRecDepth 40000 in
theorem q_M_isIn_0 {n : Nat} {a0 a1 a2 : Nat} {F : fx_F} {v : fx_V} {F' : fx_F} (h : Rn n k_M_isIn 0 [(0, a0), (0, a1), (0, a2)] [] F v F') :
  (s_lt a0 a1 →
   v = (0, 0) ∧ F' = F) ∧
  (s_le a1 a0 →
   (s_lt a2 a0 →
     v = (0, 0) ∧ F' = F) ∧
    (s_le a0 a2 →
     v = (0, 1) ∧ F' = F)) := by
  have t := q_ok cv_56 ap_56 (hd := []) h rfl rfl
  exact t
-- TurnNetModel.keepAct()V
theorem c_M_keepAct {F : fx_F} {v : fx_V} {F' : fx_F} (h : Cl k_M_keepAct [(2, 175)] F v F') : ∃ n, Rn n k_M_keepAct 0 [(2, 175), (3, 0)] [] F v F' := by
  obtain ⟨n, s, hs, h⟩ := h
  rw [sg_61] at hs
  cases hs
  exact ⟨n, h⟩
set_option maxRecDepth 40000 in
theorem q_M_keepAct_0 {n : Nat} {F : fx_F} {v : fx_V} {F' : fx_F} (h : Rn n k_M_keepAct 0 [(2, 175), (3, 0)] [] F v F') :
  ((F 175 56) ≠ 20 →
   ∃ m, m < n ∧ Rn m k_M_keepAct 51 [(2, 175), (0, 0)] [] F v F') ∧
  ((F 175 56) = 20 →
   ∃ m, m < n ∧ Rn m k_M_keepAct 11 [(2, 175), (0, 0)] [] F v F') := by
  have t := q_ok cv_61 ap_61 (hd := [(11, [1, 1]), (51, [1, 1])]) h rfl rfl
  exact t
set_option maxRecDepth 40000 in
theorem q_M_keepAct_51 {n : Nat} {l1 : Nat} {F : fx_F} {v : fx_V} {F' : fx_F} (h : Rn n k_M_keepAct 51 [(2, 175), (0, l1)] [] F v F') :
  (s_le 103 l1 →
   v = (2, 0) ∧ F' = (fu (fu F 175 56 (i_add (F 175 56) 1)) 175 57 0)) ∧
  (s_lt l1 103 →
   ∃ m, m < n ∧ Rn m k_M_keepAct 51 [(2, 175), (0, i_add l1 1)] [] (fu F 204 (i_add (i_mul 103 (F 175 56)) l1) (F 176 l1)) v F') := by
  have t := q_ok cv_61 ap_61 (hd := [(11, [1, 1]), (51, [1, 1])]) h rfl rfl
  exact t
set_option maxRecDepth 40000 in
theorem q_M_keepAct_11 {n : Nat} {l1 : Nat} {F : fx_F} {v : fx_V} {F' : fx_F} (h : Rn n k_M_keepAct 11 [(2, 175), (0, l1)] [] F v F') :
  (s_le 2060 l1 →
   ∃ m, m < n ∧ Rn m k_M_keepAct 51 [(2, 175), (0, 0)] [] (fu F 175 56 (i_sub (F 175 56) 1)) v F') ∧
  (s_lt l1 2060 →
   ∃ m, m < n ∧ Rn m k_M_keepAct 11 [(2, 175), (0, i_add l1 1)] [] (fu F 204 l1 (F 204 (i_add l1 103))) v F') := by
  have t := q_ok cv_61 ap_61 (hd := [(11, [1, 1]), (51, [1, 1])]) h rfl rfl
  exact t
-- TurnNetModel.linksNow()I
theorem c_M_linksNow {F : fx_F} {v : fx_V} {F' : fx_F} (h : Cl k_M_linksNow [(2, 175)] F v F') : ∃ n, Rn n k_M_linksNow 0 [(2, 175)] [] F v F' := by
  obtain ⟨n, s, hs, h⟩ := h
  rw [sg_63] at hs
  cases hs
  exact ⟨n, h⟩
set_option maxRecDepth 40000 in
theorem q_M_linksNow_0 {n : Nat} {F : fx_F} {v : fx_V} {F' : fx_F} (h : Rn n k_M_linksNow 0 [(2, 175)] [] F v F') :
  v = (0, F 178 (F 175 9)) ∧ F' = F := by
  have t := q_ok cv_63 ap_63 (hd := []) h rfl rfl
  exact t
-- TurnNetModel.nodesNow()I
theorem c_M_nodesNow {F : fx_F} {v : fx_V} {F' : fx_F} (h : Cl k_M_nodesNow [(2, 175)] F v F') : ∃ n, Rn n k_M_nodesNow 0 [(2, 175)] [] F v F' := by
  obtain ⟨n, s, hs, h⟩ := h
  rw [sg_64] at hs
  cases hs
  exact ⟨n, h⟩
set_option maxRecDepth 40000 in
theorem q_M_nodesNow_0 {n : Nat} {F : fx_F} {v : fx_V} {F' : fx_F} (h : Rn n k_M_nodesNow 0 [(2, 175)] [] F v F') :
  v = (0, F 177 (F 175 9)) ∧ F' = F := by
  have t := q_ok cv_64 ap_64 (hd := []) h rfl rfl
  exact t
-- TurnNetModel.packetsAt(I)I
theorem c_M_packetsAt {a1 : Nat} {F : fx_F} {v : fx_V} {F' : fx_F} (h : Cl k_M_packetsAt [(2, 175), (0, a1)] F v F') : ∃ n, Rn n k_M_packetsAt 0 [(2, 175), (0, a1), (3, 0), (3, 0)] [] F v F' := by
  obtain ⟨n, s, hs, h⟩ := h
  rw [sg_65] at hs
  cases hs
  exact ⟨n, h⟩
set_option maxRecDepth 40000 in
theorem q_M_packetsAt_0 {n : Nat} {a1 : Nat} {F : fx_F} {v : fx_V} {F' : fx_F} (h : Rn n k_M_packetsAt 0 [(2, 175), (0, a1), (3, 0), (3, 0)] [] F v F') :
  ∃ m, m < n ∧ Rn m k_M_packetsAt 4 [(2, 175), (0, a1), (0, 0), (0, 0)] [] F v F' := by
  have t := q_ok cv_65 ap_65 (hd := [(4, [1, 1, 1, 1])]) h rfl rfl
  exact t
set_option maxRecDepth 40000 in
theorem q_M_packetsAt_4 {n : Nat} {l1 l2 l3 : Nat} {F : fx_F} {v : fx_V} {F' : fx_F} (h : Rn n k_M_packetsAt 4 [(2, 175), (0, l1), (0, l2), (0, l3)] [] F v F') :
  (s_le 12 l3 →
   v = (0, l2) ∧ F' = F) ∧
  (s_lt l3 12 →
   ((F 176 (i_add 41 l3)) ≠ 1 →
     ∃ m, m < n ∧ Rn m k_M_packetsAt 4 [(2, 175), (0, l1), (0, i_add l2 0), (0, i_add l3 1)] [] F v F') ∧
    ((F 176 (i_add 41 l3)) = 1 →
     ((F 176 (i_add 65 l3)) ≠ l1 →
       ∃ m, m < n ∧ Rn m k_M_packetsAt 4 [(2, 175), (0, l1), (0, i_add l2 0), (0, i_add l3 1)] [] F v F') ∧
      ((F 176 (i_add 65 l3)) = l1 →
       ∃ m, m < n ∧ Rn m k_M_packetsAt 4 [(2, 175), (0, l1), (0, i_add l2 1), (0, i_add l3 1)] [] F v F'))) := by
  have t := q_ok cv_65 ap_65 (hd := [(4, [1, 1, 1, 1])]) h rfl rfl
  exact t
-- TurnNetModel.packetsNow()I
theorem c_M_packetsNow {F : fx_F} {v : fx_V} {F' : fx_F} (h : Cl k_M_packetsNow [(2, 175)] F v F') : ∃ n, Rn n k_M_packetsNow 0 [(2, 175), (3, 0), (3, 0)] [] F v F' := by
  obtain ⟨n, s, hs, h⟩ := h
  rw [sg_66] at hs
  cases hs
  exact ⟨n, h⟩
set_option maxRecDepth 40000 in
theorem q_M_packetsNow_0 {n : Nat} {F : fx_F} {v : fx_V} {F' : fx_F} (h : Rn n k_M_packetsNow 0 [(2, 175), (3, 0), (3, 0)] [] F v F') :
  ∃ m, m < n ∧ Rn m k_M_packetsNow 4 [(2, 175), (0, 0), (0, 0)] [] F v F' := by
  have t := q_ok cv_66 ap_66 (hd := [(4, [1, 1, 1])]) h rfl rfl
  exact t
set_option maxRecDepth 40000 in
theorem q_M_packetsNow_4 {n : Nat} {l1 l2 : Nat} {F : fx_F} {v : fx_V} {F' : fx_F} (h : Rn n k_M_packetsNow 4 [(2, 175), (0, l1), (0, l2)] [] F v F') :
  (s_le 12 l2 →
   v = (0, l1) ∧ F' = F) ∧
  (s_lt l2 12 →
   ∃ m, m < n ∧ Rn m k_M_packetsNow 4 [(2, 175), (0, i_add l1 (F 176 (i_add 41 l2))), (0, i_add l2 1)] [] F v F') := by
  have t := q_ok cv_66 ap_66 (hd := [(4, [1, 1, 1])]) h rfl rfl
  exact t
-- TurnNetModel.putAside()V
theorem c_M_putAside {F : fx_F} {v : fx_V} {F' : fx_F} (h : Cl k_M_putAside [(2, 175)] F v F') : ∃ n, Rn n k_M_putAside 0 [(2, 175), (3, 0)] [] F v F' := by
  obtain ⟨n, s, hs, h⟩ := h
  rw [sg_68] at hs
  cases hs
  exact ⟨n, h⟩
set_option maxRecDepth 40000 in
theorem q_M_putAside_0 {n : Nat} {F : fx_F} {v : fx_V} {F' : fx_F} (h : Rn n k_M_putAside 0 [(2, 175), (3, 0)] [] F v F') :
  ∃ m, m < n ∧ Rn m k_M_putAside 2 [(2, 175), (0, 0)] [] F v F' := by
  have t := q_ok cv_68 ap_68 (hd := [(2, [1, 1])]) h rfl rfl
  exact t
set_option maxRecDepth 40000 in
theorem q_M_putAside_2 {n : Nat} {l1 : Nat} {F : fx_F} {v : fx_V} {F' : fx_F} (h : Rn n k_M_putAside 2 [(2, 175), (0, l1)] [] F v F') :
  (s_le 103 l1 →
   v = (2, 0) ∧ F' = F) ∧
  (s_lt l1 103 →
   ∃ m, m < n ∧ Rn m k_M_putAside 2 [(2, 175), (0, i_add l1 1)] [] (fu F 199 l1 (F 176 l1)) v F') := by
  have t := q_ok cv_68 ap_68 (hd := [(2, [1, 1])]) h rfl rfl
  exact t
-- TurnNetModel.stands(I)Z
theorem c_M_stands {a1 : Nat} {F : fx_F} {v : fx_V} {F' : fx_F} (h : Cl k_M_stands [(2, 175), (0, a1)] F v F') : ∃ n, Rn n k_M_stands 0 [(2, 175), (0, a1)] [] F v F' := by
  obtain ⟨n, s, hs, h⟩ := h
  rw [sg_70] at hs
  cases hs
  exact ⟨n, h⟩
set_option maxRecDepth 40000 in
theorem q_M_stands_0 {n : Nat} {a1 : Nat} {F : fx_F} {v : fx_V} {F' : fx_F} (h : Rn n k_M_stands 0 [(2, 175), (0, a1)] [] F v F') :
  ((F 176 (i_add 0 a1)) ≠ 1 →
   v = (0, 0) ∧ F' = F) ∧
  ((F 176 (i_add 0 a1)) = 1 →
   v = (0, 1) ∧ F' = F) := by
  have t := q_ok cv_70 ap_70 (hd := []) h rfl rfl
  exact t
-- TurnNetModel.stateAt(III)I
theorem c_M_stateAt {a0 a1 a2 : Nat} {F : fx_F} {v : fx_V} {F' : fx_F} (h : Cl k_M_stateAt [(0, a0), (0, a1), (0, a2)] F v F') : ∃ n, Rn n k_M_stateAt 0 [(0, a0), (0, a1), (0, a2)] [] F v F' := by
  obtain ⟨n, s, hs, h⟩ := h
  rw [sg_71] at hs
  cases hs
  exact ⟨n, h⟩
set_option maxRecDepth 40000 in
theorem q_M_stateAt_0 {n : Nat} {a0 a1 a2 : Nat} {F : fx_F} {v : fx_V} {F' : fx_F} (h : Rn n k_M_stateAt 0 [(0, a0), (0, a1), (0, a2)] [] F v F') :
  v = (0, i_add (i_add (i_mul 20 a0) (i_mul 2 a1)) a2) ∧ F' = F := by
  have t := q_ok cv_71 ap_71 (hd := []) h rfl rfl
  exact t
-- TurnNetModel.swapAll()V
theorem c_M_swapAll {F : fx_F} {v : fx_V} {F' : fx_F} (h : Cl k_M_swapAll [(2, 175)] F v F') : ∃ n, Rn n k_M_swapAll 0 [(2, 175), (3, 0), (3, 0)] [] F v F' := by
  obtain ⟨n, s, hs, h⟩ := h
  rw [sg_72] at hs
  cases hs
  exact ⟨n, h⟩
set_option maxRecDepth 40000 in
theorem q_M_swapAll_0 {n : Nat} {F : fx_F} {v : fx_V} {F' : fx_F} (h : Rn n k_M_swapAll 0 [(2, 175), (3, 0), (3, 0)] [] F v F') :
  ∃ m, m < n ∧ Rn m k_M_swapAll 2 [(2, 175), (0, 0), (3, 0)] [] F v F' := by
  have t := q_ok cv_72 ap_72 (hd := [(2, [1, 1, 0])]) h rfl rfl
  exact t
set_option maxRecDepth 40000 in
theorem q_M_swapAll_2 {n : Nat} {l1 : Nat} {F : fx_F} {v : fx_V} {F' : fx_F} (h : Rn n k_M_swapAll 2 [(2, 175), (0, l1), (3, 0)] [] F v F') :
  (s_le 103 l1 →
   v = (2, 0) ∧ F' = F) ∧
  (s_lt l1 103 →
   ∃ m, m < n ∧ Rn m k_M_swapAll 2 [(2, 175), (0, i_add l1 1), (3, 0)] [] (fu (fu F 204 (i_add (i_mul 103 (F 175 56)) l1) (F 176 l1)) 176 l1 (F 204 (i_add (i_mul 103 (F 175 56)) l1))) v F') := by
  have t := q_ok cv_72 ap_72 (hd := [(2, [1, 1, 0])]) h rfl rfl
  exact t
-- TurnNetModel.work(III)I
theorem c_M_work {a1 a2 a3 : Nat} {F : fx_F} {v : fx_V} {F' : fx_F} (h : Cl k_M_work [(2, 175), (0, a1), (0, a2), (0, a3)] F v F') : ∃ n, Rn n k_M_work 0 [(2, 175), (0, a1), (0, a2), (0, a3)] [] F v F' := by
  obtain ⟨n, s, hs, h⟩ := h
  rw [sg_73] at hs
  cases hs
  exact ⟨n, h⟩
set_option maxRecDepth 40000 in
theorem q_M_work_0 {n : Nat} {a1 a2 a3 : Nat} {F : fx_F} {v : fx_V} {F' : fx_F} (h : Rn n k_M_work 0 [(2, 175), (0, a1), (0, a2), (0, a3)] [] F v F') :
  ((a1 < 1003 ∨ 1007 ≤ a1) →
   (a3 ≠ 0 →
     v = (0, i_rem a2 a3) ∧ F' = F) ∧
    (a3 = 0 →
     v = (0, 0) ∧ F' = F)) ∧
  ((a1 = 1003 →
   v = (0, i_add a2 a3) ∧ F' = F) ∧
  ((a1 = 1004 →
   v = (0, i_sub a2 a3) ∧ F' = F) ∧
  ((a1 = 1005 →
   v = (0, i_mul a2 a3) ∧ F' = F) ∧
  ((a1 = 1006 →
   (a3 ≠ 0 →
     v = (0, i_div a2 a3) ∧ F' = F) ∧
    (a3 = 0 →
     v = (0, 0) ∧ F' = F)) ∧ True)))) := by
  have t := q_ok cv_73 ap_73 (hd := []) h rfl rfl
  exact t
-- java/lang/Integer.bitCount(I)I
theorem c_I_bitCount {a0 : Nat} {F : fx_F} {v : fx_V} {F' : fx_F} (h : Cl k_I_bitCount [(0, a0)] F v F') : ∃ n, Rn n k_I_bitCount 0 [(0, a0)] [] F v F' := by
  obtain ⟨n, s, hs, h⟩ := h
  rw [sg_74] at hs
  cases hs
  exact ⟨n, h⟩
set_option maxRecDepth 40000 in
theorem q_I_bitCount_0 {n : Nat} {a0 : Nat} {F : fx_F} {v : fx_V} {F' : fx_F} (h : Rn n k_I_bitCount 0 [(0, a0)] [] F v F') :
  v = (0, i_and (i_add (i_add (i_and (i_add (i_add (i_and (i_sub a0 (i_and (i_ushr a0 1) 1431655765)) 858993459) (i_and (i_ushr (i_sub a0 (i_and (i_ushr a0 1) 1431655765)) 2) 858993459)) (i_ushr (i_add (i_and (i_sub a0 (i_and (i_ushr a0 1) 1431655765)) 858993459) (i_and (i_ushr (i_sub a0 (i_and (i_ushr a0 1) 1431655765)) 2) 858993459)) 4)) 252645135) (i_ushr (i_and (i_add (i_add (i_and (i_sub a0 (i_and (i_ushr a0 1) 1431655765)) 858993459) (i_and (i_ushr (i_sub a0 (i_and (i_ushr a0 1) 1431655765)) 2) 858993459)) (i_ushr (i_add (i_and (i_sub a0 (i_and (i_ushr a0 1) 1431655765)) 858993459) (i_and (i_ushr (i_sub a0 (i_and (i_ushr a0 1) 1431655765)) 2) 858993459)) 4)) 252645135) 8)) (i_ushr (i_add (i_and (i_add (i_add (i_and (i_sub a0 (i_and (i_ushr a0 1) 1431655765)) 858993459) (i_and (i_ushr (i_sub a0 (i_and (i_ushr a0 1) 1431655765)) 2) 858993459)) (i_ushr (i_add (i_and (i_sub a0 (i_and (i_ushr a0 1) 1431655765)) 858993459) (i_and (i_ushr (i_sub a0 (i_and (i_ushr a0 1) 1431655765)) 2) 858993459)) 4)) 252645135) (i_ushr (i_and (i_add (i_add (i_and (i_sub a0 (i_and (i_ushr a0 1) 1431655765)) 858993459) (i_and (i_ushr (i_sub a0 (i_and (i_ushr a0 1) 1431655765)) 2) 858993459)) (i_ushr (i_add (i_and (i_sub a0 (i_and (i_ushr a0 1) 1431655765)) 858993459) (i_and (i_ushr (i_sub a0 (i_and (i_ushr a0 1) 1431655765)) 2) 858993459)) 4)) 252645135) 8)) 16)) 63) ∧ F' = F := by
  have t := q_ok cv_74 ap_74 (hd := []) h rfl rfl
  exact t
-- TurnNet$Graph.findRow(III)Z
theorem c_Gr_findRow {a1 a2 a3 : Nat} {F : fx_F} {v : fx_V} {F' : fx_F} (h : Cl k_Gr_findRow [(2, 40), (0, a1), (0, a2), (0, a3)] F v F') : ∃ n, Rn n k_Gr_findRow 0 [(2, 40), (0, a1), (0, a2), (0, a3), (3, 0), (3, 0), (3, 0), (3, 0), (3, 0)] [] F v F' := by
  obtain ⟨n, s, hs, h⟩ := h
  rw [sg_76] at hs
  cases hs
  exact ⟨n, h⟩
set_option maxRecDepth 40000 in
theorem q_Gr_findRow_0 {n : Nat} {a1 a2 a3 : Nat} {F : fx_F} {v : fx_V} {F' : fx_F} (h : Rn n k_Gr_findRow 0 [(2, 40), (0, a1), (0, a2), (0, a3), (3, 0), (3, 0), (3, 0), (3, 0), (3, 0)] [] F v F') :
  ∃ m, m < n ∧ Rn m k_Gr_findRow 3 [(2, 40), (0, a1), (0, a2), (0, a3), (0, 0), (3, 0), (3, 0), (3, 0), (3, 0)] [] F v F' := by
  have t := q_ok cv_76 ap_76 (hd := [(3, [1, 1, 1, 1, 1, 0, 0, 0, 0]), (35, [1, 1, 1, 1, 1, 1, 0, 0, 0]), (58, [1, 1, 1, 1, 1, 1, 1, 0, 0])]) h rfl rfl
  exact t
set_option maxRecDepth 40000 in
theorem q_Gr_findRow_3 {n : Nat} {l1 l2 l3 l4 : Nat} {F : fx_F} {v : fx_V} {F' : fx_F} (h : Rn n k_Gr_findRow 3 [(2, 40), (0, l1), (0, l2), (0, l3), (0, l4), (3, 0), (3, 0), (3, 0), (3, 0)] [] F v F') :
  (s_le (F 3 0) l4 →
   ∃ m, m < n ∧ Rn m k_Gr_findRow 35 [(2, 40), (0, l1), (0, l2), (0, l3), (0, 1), (0, 1), (3, 0), (3, 0), (3, 0)] [] F v F') ∧
  (s_lt l4 (F 3 0) →
   ∃ m, m < n ∧ Rn m k_Gr_findRow 3 [(2, 40), (0, l1), (0, l2), (0, l3), (0, i_add l4 1), (3, 0), (3, 0), (3, 0), (3, 0)] [] (fu F 43 l4 4294967295) v F') := by
  have t := q_ok cv_76 ap_76 (hd := [(3, [1, 1, 1, 1, 1, 0, 0, 0, 0]), (35, [1, 1, 1, 1, 1, 1, 0, 0, 0]), (58, [1, 1, 1, 1, 1, 1, 1, 0, 0])]) h rfl rfl
  exact t
set_option maxRecDepth 40000 in
theorem q_Gr_findRow_35 {n : Nat} {l1 l2 l3 l4 l5 : Nat} {F : fx_F} {v : fx_V} {F' : fx_F} (h : Rn n k_Gr_findRow 35 [(2, 40), (0, l1), (0, l2), (0, l3), (0, l4), (0, l5), (3, 0), (3, 0), (3, 0)] [] F v F') :
  (s_le (F 3 0) l5 →
   ((F 43 l2) = 4294967295 →
     v = (0, 0) ∧ F' = F) ∧
    ((F 43 l2) ≠ 4294967295 →
     v = (0, 1) ∧ F' = F)) ∧
  (s_lt l5 (F 3 0) →
   (l4 = 0 →
     ((F 43 l2) = 4294967295 →
       v = (0, 0) ∧ F' = F) ∧
      ((F 43 l2) ≠ 4294967295 →
       v = (0, 1) ∧ F' = F)) ∧
    (l4 ≠ 0 →
     ∃ m, m < n ∧ Rn m k_Gr_findRow 58 [(2, 40), (0, l1), (0, l2), (0, l3), (0, 0), (0, l5), (0, 0), (3, 0), (3, 0)] [] F v F')) := by
  have t := q_ok cv_76 ap_76 (hd := [(3, [1, 1, 1, 1, 1, 0, 0, 0, 0]), (35, [1, 1, 1, 1, 1, 1, 0, 0, 0]), (58, [1, 1, 1, 1, 1, 1, 1, 0, 0])]) h rfl rfl
  exact t
set_option maxRecDepth 40000 in
theorem q_Gr_findRow_58 {n : Nat} {l1 l2 l3 l4 l5 l6 : Nat} {F : fx_F} {v : fx_V} {F' : fx_F} (h : Rn n k_Gr_findRow 58 [(2, 40), (0, l1), (0, l2), (0, l3), (0, l4), (0, l5), (0, l6), (3, 0), (3, 0)] [] F v F') :
  (s_le (i_mul 2 (F 3 1)) l6 →
   ∃ m, m < n ∧ Rn m k_Gr_findRow 35 [(2, 40), (0, l1), (0, l2), (0, l3), (0, l4), (0, i_add l5 1), (3, 0), (3, 0), (3, 0)] [] F v F') ∧
  (s_lt l6 (i_mul 2 (F 3 1)) →
   ((F 4 l6) = l1 →
     ((F 5 l6) = l1 →
       ∃ m, m < n ∧ Rn m k_Gr_findRow 58 [(2, 40), (0, l1), (0, l2), (0, l3), (0, l4), (0, l5), (0, i_add l6 1), (3, 0), (3, 0)] [] F v F') ∧
      ((F 5 l6) ≠ l1 →
       ((F 43 (F 5 l6)) ≠ 4294967295 →
         ∃ m, m < n ∧ Rn m k_Gr_findRow 58 [(2, 40), (0, l1), (0, l2), (0, l3), (0, l4), (0, l5), (0, i_add l6 1), (3, 0), (3, 0)] [] F v F') ∧
        ((F 43 (F 5 l6)) = 4294967295 →
         ∃ (n1 : Nat) (F1 : fx_F), Cl k_Gr_hasSpace [(2, 40), (0, l6), (0, l3)] F (0, n1) F1 ∧
          (n1 = 0 →
            ∃ m, m < n ∧ Rn m k_Gr_findRow 58 [(2, 40), (0, l1), (0, l2), (0, l3), (0, l4), (0, l5), (0, i_add l6 1), (3, 0), (3, 0)] [] F1 v F') ∧
           (n1 ≠ 0 →
            ∃ m, m < n ∧ Rn m k_Gr_findRow 58 [(2, 40), (0, l1), (0, l2), (0, l3), (0, 1), (0, l5), (0, i_add l6 1), (3, 0), (3, 0)] [] (fu F1 43 (F 5 l6) l6) v F')))) ∧
    ((F 4 l6) ≠ l1 →
     ((F 43 (F 4 l6)) = 4294967295 →
       ∃ m, m < n ∧ Rn m k_Gr_findRow 58 [(2, 40), (0, l1), (0, l2), (0, l3), (0, l4), (0, l5), (0, i_add l6 1), (3, 0), (3, 0)] [] F v F') ∧
      ((F 43 (F 4 l6)) ≠ 4294967295 →
       ((F 5 l6) = l1 →
         ∃ m, m < n ∧ Rn m k_Gr_findRow 58 [(2, 40), (0, l1), (0, l2), (0, l3), (0, l4), (0, l5), (0, i_add l6 1), (3, 0), (3, 0)] [] F v F') ∧
        ((F 5 l6) ≠ l1 →
         ((F 43 (F 5 l6)) ≠ 4294967295 →
           ∃ m, m < n ∧ Rn m k_Gr_findRow 58 [(2, 40), (0, l1), (0, l2), (0, l3), (0, l4), (0, l5), (0, i_add l6 1), (3, 0), (3, 0)] [] F v F') ∧
          ((F 43 (F 5 l6)) = 4294967295 →
           ∃ (n1 : Nat) (F1 : fx_F), Cl k_Gr_hasSpace [(2, 40), (0, l6), (0, l3)] F (0, n1) F1 ∧
            (n1 = 0 →
              ∃ m, m < n ∧ Rn m k_Gr_findRow 58 [(2, 40), (0, l1), (0, l2), (0, l3), (0, l4), (0, l5), (0, i_add l6 1), (3, 0), (3, 0)] [] F1 v F') ∧
             (n1 ≠ 0 →
              ∃ m, m < n ∧ Rn m k_Gr_findRow 58 [(2, 40), (0, l1), (0, l2), (0, l3), (0, 1), (0, l5), (0, i_add l6 1), (3, 0), (3, 0)] [] (fu F1 43 (F 5 l6) l6) v F')))))) := by
  have t := q_ok cv_76 ap_76 (hd := [(3, [1, 1, 1, 1, 1, 0, 0, 0, 0]), (35, [1, 1, 1, 1, 1, 1, 0, 0, 0]), (58, [1, 1, 1, 1, 1, 1, 1, 0, 0])]) h rfl rfl
  exact t
-- TurnNet$Graph.pairsWithout()I
theorem c_Gr_pairsWithout {F : fx_F} {v : fx_V} {F' : fx_F} (h : Cl k_Gr_pairsWithout [(2, 40)] F v F') : ∃ n, Rn n k_Gr_pairsWithout 0 [(2, 40), (3, 0), (3, 0), (3, 0)] [] F v F' := by
  obtain ⟨n, s, hs, h⟩ := h
  rw [sg_77] at hs
  cases hs
  exact ⟨n, h⟩
set_option maxRecDepth 40000 in
theorem q_Gr_pairsWithout_0 {n : Nat} {F : fx_F} {v : fx_V} {F' : fx_F} (h : Rn n k_Gr_pairsWithout 0 [(2, 40), (3, 0), (3, 0), (3, 0)] [] F v F') :
  ∃ m, m < n ∧ Rn m k_Gr_pairsWithout 4 [(2, 40), (0, 0), (0, 0), (3, 0)] [] F v F' := by
  have t := q_ok cv_77 ap_77 (hd := [(4, [1, 1, 1, 0]), (17, [1, 1, 1, 1])]) h rfl rfl
  exact t
set_option maxRecDepth 40000 in
theorem q_Gr_pairsWithout_4 {n : Nat} {l1 l2 : Nat} {F : fx_F} {v : fx_V} {F' : fx_F} (h : Rn n k_Gr_pairsWithout 4 [(2, 40), (0, l1), (0, l2), (3, 0)] [] F v F') :
  (s_le (F 3 0) l2 →
   v = (0, l1) ∧ F' = F) ∧
  (s_lt l2 (F 3 0) →
   ∃ m, m < n ∧ Rn m k_Gr_pairsWithout 17 [(2, 40), (0, l1), (0, l2), (0, 0)] [] F v F') := by
  have t := q_ok cv_77 ap_77 (hd := [(4, [1, 1, 1, 0]), (17, [1, 1, 1, 1])]) h rfl rfl
  exact t
set_option maxRecDepth 40000 in
theorem q_Gr_pairsWithout_17 {n : Nat} {l1 l2 l3 : Nat} {F : fx_F} {v : fx_V} {F' : fx_F} (h : Rn n k_Gr_pairsWithout 17 [(2, 40), (0, l1), (0, l2), (0, l3)] [] F v F') :
  (s_le (F 3 0) l3 →
   ∃ m, m < n ∧ Rn m k_Gr_pairsWithout 4 [(2, 40), (0, l1), (0, i_add l2 1), (3, 0)] [] F v F') ∧
  (s_lt l3 (F 3 0) →
   ((F 41 (i_add (i_mul l2 10) l3)) ≠ 4294967295 →
     ∃ m, m < n ∧ Rn m k_Gr_pairsWithout 17 [(2, 40), (0, l1), (0, l2), (0, i_add l3 1)] [] F v F') ∧
    ((F 41 (i_add (i_mul l2 10) l3)) = 4294967295 →
     ∃ m, m < n ∧ Rn m k_Gr_pairsWithout 17 [(2, 40), (0, i_add l1 1), (0, l2), (0, i_add l3 1)] [] F v F')) := by
  have t := q_ok cv_77 ap_77 (hd := [(4, [1, 1, 1, 0]), (17, [1, 1, 1, 1])]) h rfl rfl
  exact t
end
section
-- TurnNet$Graph.spread(LTurnNet$Net;II[II)V
theorem c_Gr_spread {a0 a1 a2 a3 a4 : Nat} {F : fx_F} {v : fx_V} {F' : fx_F} (h : Cl k_Gr_spread [(2, a0), (0, a1), (0, a2), (2, a3), (0, a4)] F v F') : ∃ n, Rn n k_Gr_spread 0 [(2, a0), (0, a1), (0, a2), (2, a3), (0, a4), (3, 0), (3, 0), (3, 0), (3, 0), (3, 0)] [] F v F' := by
  obtain ⟨n, s, hs, h⟩ := h
  rw [sg_78] at hs
  cases hs
  exact ⟨n, h⟩
set_option maxRecDepth 40000 in
theorem q_Gr_spread_0 {n : Nat} {a0 a1 a2 a3 a4 : Nat} {F : fx_F} {v : fx_V} {F' : fx_F} (h : Rn n k_Gr_spread 0 [(2, a0), (0, a1), (0, a2), (2, a3), (0, a4), (3, 0), (3, 0), (3, 0), (3, 0), (3, 0)] [] F v F') :
  (s_lt a2 0 →
   v = (2, 0) ∧ F' = F) ∧
  (s_le 0 a2 →
   (s_le (F a0 0) a2 →
     v = (2, 0) ∧ F' = F) ∧
    (s_lt a2 (F a0 0) →
     ∃ m, m < n ∧ Rn m k_Gr_spread 12 [(2, a0), (0, a1), (0, a2), (2, a3), (0, a4), (0, 0), (3, 0), (3, 0), (3, 0), (3, 0)] [] F v F')) := by
  have t := q_ok cv_78 ap_78 (hd := [(12, [1, 1, 1, 1, 1, 1, 0, 0, 0, 0]), (48, [1, 1, 0, 1, 1, 1, 1, 0, 0, 0]), (68, [1, 1, 0, 1, 1, 1, 1, 1, 0, 0])]) h rfl rfl
  exact t
set_option maxRecDepth 40000 in
theorem q_Gr_spread_12 {n : Nat} {p l1 l2 l3 l4 l5 : Nat} {F : fx_F} {v : fx_V} {F' : fx_F} (h : Rn n k_Gr_spread 12 [(2, p), (0, l1), (0, l2), (2, l3), (0, l4), (0, l5), (3, 0), (3, 0), (3, 0), (3, 0)] [] F v F') :
  (s_le (F p 0) l5 →
   ∃ m, m < n ∧ Rn m k_Gr_spread 48 [(2, p), (0, l1), (3, 0), (2, l3), (0, l4), (0, 1), (0, 1), (3, 0), (3, 0), (3, 0)] [] (fu F l3 (i_add l4 l2) 0) v F') ∧
  (s_lt l5 (F p 0) →
   ∃ m, m < n ∧ Rn m k_Gr_spread 12 [(2, p), (0, l1), (0, l2), (2, l3), (0, l4), (0, i_add l5 1), (3, 0), (3, 0), (3, 0), (3, 0)] [] (fu F l3 (i_add l4 l5) 4294967295) v F') := by
  have t := q_ok cv_78 ap_78 (hd := [(12, [1, 1, 1, 1, 1, 1, 0, 0, 0, 0]), (48, [1, 1, 0, 1, 1, 1, 1, 0, 0, 0]), (68, [1, 1, 0, 1, 1, 1, 1, 1, 0, 0])]) h rfl rfl
  exact t
set_option maxRecDepth 40000 in
theorem q_Gr_spread_48 {n : Nat} {p l1 l3 l4 l5 l6 : Nat} {F : fx_F} {v : fx_V} {F' : fx_F} (h : Rn n k_Gr_spread 48 [(2, p), (0, l1), (3, 0), (2, l3), (0, l4), (0, l5), (0, l6), (3, 0), (3, 0), (3, 0)] [] F v F') :
  (s_le (F p 0) l6 →
   v = (2, 0) ∧ F' = F) ∧
  (s_lt l6 (F p 0) →
   (l5 = 0 →
     v = (2, 0) ∧ F' = F) ∧
    (l5 ≠ 0 →
     ∃ m, m < n ∧ Rn m k_Gr_spread 68 [(2, p), (0, l1), (3, 0), (2, l3), (0, l4), (0, 0), (0, l6), (0, 0), (3, 0), (3, 0)] [] F v F')) := by
  have t := q_ok cv_78 ap_78 (hd := [(12, [1, 1, 1, 1, 1, 1, 0, 0, 0, 0]), (48, [1, 1, 0, 1, 1, 1, 1, 0, 0, 0]), (68, [1, 1, 0, 1, 1, 1, 1, 1, 0, 0])]) h rfl rfl
  exact t
set_option maxRecDepth 40000 in
theorem q_Gr_spread_68 {n : Nat} {p l1 l3 l4 l5 l6 l7 : Nat} {F : fx_F} {v : fx_V} {F' : fx_F} (h : Rn n k_Gr_spread 68 [(2, p), (0, l1), (3, 0), (2, l3), (0, l4), (0, l5), (0, l6), (0, l7), (3, 0), (3, 0)] [] F v F') :
  (s_le (i_mul 2 (F p 1)) l7 →
   ∃ m, m < n ∧ Rn m k_Gr_spread 48 [(2, p), (0, l1), (3, 0), (2, l3), (0, l4), (0, l5), (0, i_add l6 1), (3, 0), (3, 0), (3, 0)] [] F v F') ∧
  (s_lt l7 (i_mul 2 (F p 1)) →
   ((F l3 (i_add l4 (F (p + 1) l7))) ≠ (i_sub l6 1) →
     ∃ m, m < n ∧ Rn m k_Gr_spread 68 [(2, p), (0, l1), (3, 0), (2, l3), (0, l4), (0, l5), (0, l6), (0, i_add l7 1), (3, 0), (3, 0)] [] F v F') ∧
    ((F l3 (i_add l4 (F (p + 1) l7))) = (i_sub l6 1) →
     ((F l3 (i_add l4 (F (p + 2) l7))) ≠ 4294967295 →
       ∃ m, m < n ∧ Rn m k_Gr_spread 68 [(2, p), (0, l1), (3, 0), (2, l3), (0, l4), (0, l5), (0, l6), (0, i_add l7 1), (3, 0), (3, 0)] [] F v F') ∧
      ((F l3 (i_add l4 (F (p + 2) l7))) = 4294967295 →
       ((i_and (i_shr l1 (i_shr l7 1)) 1) ≠ 1 →
         ∃ m, m < n ∧ Rn m k_Gr_spread 68 [(2, p), (0, l1), (3, 0), (2, l3), (0, l4), (0, l5), (0, l6), (0, i_add l7 1), (3, 0), (3, 0)] [] F v F') ∧
        ((i_and (i_shr l1 (i_shr l7 1)) 1) = 1 →
         ∃ m, m < n ∧ Rn m k_Gr_spread 68 [(2, p), (0, l1), (3, 0), (2, l3), (0, l4), (0, 1), (0, l6), (0, i_add l7 1), (3, 0), (3, 0)] [] (fu F l3 (i_add l4 (F (p + 2) l7)) l6) v F')))) := by
  have t := q_ok cv_78 ap_78 (hd := [(12, [1, 1, 1, 1, 1, 1, 0, 0, 0, 0]), (48, [1, 1, 0, 1, 1, 1, 1, 0, 0, 0]), (68, [1, 1, 0, 1, 1, 1, 1, 1, 0, 0])]) h rfl rfl
  exact t
-- TurnNet$History.stepBack(LTurnNet$State;)LTurnNet$State;
theorem c_Hi_stepBack {a1 : Nat} {F : fx_F} {v : fx_V} {F' : fx_F} (h : Cl k_Hi_stepBack [(2, 51), (2, a1)] F v F') : ∃ n, Rn n k_Hi_stepBack 0 [(2, 51), (2, a1)] [] F v F' := by
  obtain ⟨n, s, hs, h⟩ := h
  rw [sg_79] at hs
  cases hs
  exact ⟨n, h⟩
set_option maxRecDepth 40000 in
theorem q_Hi_stepBack_0 {n : Nat} {a1 : Nat} {F : fx_F} {v : fx_V} {F' : fx_F} (h : Rn n k_Hi_stepBack 0 [(2, 51), (2, a1)] [] F v F') :
  v = (2, F 52 (i_rem (i_add (F 51 1) (i_sub (F 51 2) 1)) 20)) ∧ F' = (fu (fu (fu F 51 2 (i_sub (F 51 2) 1)) 51 3 (i_add (F 51 3) 1)) 52 (i_rem (i_add (F 51 1) (i_sub (F 51 2) 1)) 20) a1) := by
  have t := q_ok cv_79 ap_79 (hd := []) h rfl rfl
  exact t
-- TurnNet$History.stepOn(LTurnNet$State;)LTurnNet$State;
theorem c_Hi_stepOn {a1 : Nat} {F : fx_F} {v : fx_V} {F' : fx_F} (h : Cl k_Hi_stepOn [(2, 51), (2, a1)] F v F') : ∃ n, Rn n k_Hi_stepOn 0 [(2, 51), (2, a1), (3, 0)] [] F v F' := by
  obtain ⟨n, s, hs, h⟩ := h
  rw [sg_80] at hs
  cases hs
  exact ⟨n, h⟩
set_option maxRecDepth 40000 in
theorem q_Hi_stepOn_0 {n : Nat} {a1 : Nat} {F : fx_F} {v : fx_V} {F' : fx_F} (h : Rn n k_Hi_stepOn 0 [(2, 51), (2, a1), (3, 0)] [] F v F') :
  v = (2, F 52 (i_rem (i_add (F 51 1) (F 51 2)) 20)) ∧ F' = (fu (fu (fu F 52 (i_rem (i_add (F 51 1) (F 51 2)) 20) a1) 51 2 (i_add (F 51 2) 1)) 51 3 (i_sub (F 51 3) 1)) := by
  have t := q_ok cv_80 ap_80 (hd := []) h rfl rfl
  exact t
-- TurnNet$Net.hasChannel(I)Z
theorem c_Net_hasChannel {p a1 : Nat} {F : fx_F} {v : fx_V} {F' : fx_F} (h : Cl k_Net_hasChannel [(2, p), (0, a1)] F v F') : ∃ n, Rn n k_Net_hasChannel 0 [(2, p), (0, a1)] [] F v F' := by
  obtain ⟨n, s, hs, h⟩ := h
  rw [sg_82] at hs
  cases hs
  exact ⟨n, h⟩
set_option maxRecDepth 40000 in
theorem q_Net_hasChannel_0 {n : Nat} {p a1 : Nat} {F : fx_F} {v : fx_V} {F' : fx_F} (h : Rn n k_Net_hasChannel 0 [(2, p), (0, a1)] [] F v F') :
  (s_lt a1 0 →
   v = (0, 0) ∧ F' = F) ∧
  (s_le 0 a1 →
   (s_le (i_mul 2 (F p 1)) a1 →
     v = (0, 0) ∧ F' = F) ∧
    (s_lt a1 (i_mul 2 (F p 1)) →
     v = (0, 1) ∧ F' = F)) := by
  have t := q_ok cv_82 ap_82 (hd := []) h rfl rfl
  exact t
-- TurnNet$Net.joins(II)Z
theorem c_Net_joins {p a1 a2 : Nat} {F : fx_F} {v : fx_V} {F' : fx_F} (h : Cl k_Net_joins [(2, p), (0, a1), (0, a2)] F v F') : ∃ n, Rn n k_Net_joins 0 [(2, p), (0, a1), (0, a2), (3, 0)] [] F v F' := by
  obtain ⟨n, s, hs, h⟩ := h
  rw [sg_83] at hs
  cases hs
  exact ⟨n, h⟩
set_option maxRecDepth 40000 in
theorem q_Net_joins_0 {n : Nat} {p a1 a2 : Nat} {F : fx_F} {v : fx_V} {F' : fx_F} (h : Rn n k_Net_joins 0 [(2, p), (0, a1), (0, a2), (3, 0)] [] F v F') :
  ∃ m, m < n ∧ Rn m k_Net_joins 2 [(2, p), (0, a1), (0, a2), (0, 0)] [] F v F' := by
  have t := q_ok cv_83 ap_83 (hd := [(2, [1, 1, 1, 1])]) h rfl rfl
  exact t
set_option maxRecDepth 40000 in
theorem q_Net_joins_2 {n : Nat} {p l1 l2 l3 : Nat} {F : fx_F} {v : fx_V} {F' : fx_F} (h : Rn n k_Net_joins 2 [(2, p), (0, l1), (0, l2), (0, l3)] [] F v F') :
  (s_le (i_mul 2 (F p 1)) l3 →
   v = (0, 0) ∧ F' = F) ∧
  (s_lt l3 (i_mul 2 (F p 1)) →
   ((F (p + 1) l3) ≠ l1 →
     ∃ m, m < n ∧ Rn m k_Net_joins 2 [(2, p), (0, l1), (0, l2), (0, i_add l3 1)] [] F v F') ∧
    ((F (p + 1) l3) = l1 →
     ((F (p + 2) l3) ≠ l2 →
       ∃ m, m < n ∧ Rn m k_Net_joins 2 [(2, p), (0, l1), (0, l2), (0, i_add l3 1)] [] F v F') ∧
      ((F (p + 2) l3) = l2 →
       v = (0, 1) ∧ F' = F))) := by
  have t := q_ok cv_83 ap_83 (hd := [(2, [1, 1, 1, 1])]) h rfl rfl
  exact t
-- TurnNet$Net.listChannels()V
theorem c_Net_listChannels {p : Nat} {F : fx_F} {v : fx_V} {F' : fx_F} (h : Cl k_Net_listChannels [(2, p)] F v F') : ∃ n, Rn n k_Net_listChannels 0 [(2, p), (3, 0), (3, 0), (3, 0)] [] F v F' := by
  obtain ⟨n, s, hs, h⟩ := h
  rw [sg_84] at hs
  cases hs
  exact ⟨n, h⟩
set_option maxRecDepth 40000 in
theorem q_Net_listChannels_0 {n : Nat} {p : Nat} {F : fx_F} {v : fx_V} {F' : fx_F} (h : Rn n k_Net_listChannels 0 [(2, p), (3, 0), (3, 0), (3, 0)] [] F v F') :
  ∃ m, m < n ∧ Rn m k_Net_listChannels 4 [(2, p), (0, 0), (0, 0), (3, 0)] [] F v F' := by
  have t := q_ok cv_84 ap_84 (hd := [(4, [1, 1, 1, 0]), (21, [1, 1, 1, 1])]) h rfl rfl
  exact t
set_option maxRecDepth 40000 in
theorem q_Net_listChannels_4 {n : Nat} {p l1 l2 : Nat} {F : fx_F} {v : fx_V} {F' : fx_F} (h : Rn n k_Net_listChannels 4 [(2, p), (0, l1), (0, l2), (3, 0)] [] F v F') :
  (s_le (F p 0) l2 →
   v = (2, 0) ∧ F' = (fu F (p + 3) (F p 0) l1)) ∧
  (s_lt l2 (F p 0) →
   ∃ m, m < n ∧ Rn m k_Net_listChannels 21 [(2, p), (0, l1), (0, l2), (0, 0)] [] (fu F (p + 3) l2 l1) v F') := by
  have t := q_ok cv_84 ap_84 (hd := [(4, [1, 1, 1, 0]), (21, [1, 1, 1, 1])]) h rfl rfl
  exact t
set_option maxRecDepth 40000 in
theorem q_Net_listChannels_21 {n : Nat} {p l1 l2 l3 : Nat} {F : fx_F} {v : fx_V} {F' : fx_F} (h : Rn n k_Net_listChannels 21 [(2, p), (0, l1), (0, l2), (0, l3)] [] F v F') :
  (s_le (i_mul 2 (F p 1)) l3 →
   ∃ m, m < n ∧ Rn m k_Net_listChannels 4 [(2, p), (0, l1), (0, i_add l2 1), (3, 0)] [] F v F') ∧
  (s_lt l3 (i_mul 2 (F p 1)) →
   ((F (p + 1) l3) ≠ l2 →
     ∃ m, m < n ∧ Rn m k_Net_listChannels 21 [(2, p), (0, l1), (0, l2), (0, i_add l3 1)] [] F v F') ∧
    ((F (p + 1) l3) = l2 →
     ∃ m, m < n ∧ Rn m k_Net_listChannels 21 [(2, p), (0, i_add l1 1), (0, l2), (0, i_add l3 1)] [] (fu F (p + 4) l1 l3) v F')) := by
  have t := q_ok cv_84 ap_84 (hd := [(4, [1, 1, 1, 0]), (21, [1, 1, 1, 1])]) h rfl rfl
  exact t
-- TurnNet$Order.countAbove(I)I
theorem c_Or_countAbove {a1 : Nat} {F : fx_F} {v : fx_V} {F' : fx_F} (h : Cl k_Or_countAbove [(2, 19), (0, a1)] F v F') : ∃ n, Rn n k_Or_countAbove 0 [(2, 19), (0, a1), (3, 0), (3, 0)] [] F v F' := by
  obtain ⟨n, s, hs, h⟩ := h
  rw [sg_86] at hs
  cases hs
  exact ⟨n, h⟩
set_option maxRecDepth 40000 in
theorem q_Or_countAbove_0 {n : Nat} {a1 : Nat} {F : fx_F} {v : fx_V} {F' : fx_F} (h : Rn n k_Or_countAbove 0 [(2, 19), (0, a1), (3, 0), (3, 0)] [] F v F') :
  ∃ m, m < n ∧ Rn m k_Or_countAbove 4 [(2, 19), (0, a1), (0, 0), (0, 0)] [] F v F' := by
  have t := q_ok cv_86 ap_86 (hd := [(4, [1, 1, 1, 1])]) h rfl rfl
  exact t
set_option maxRecDepth 40000 in
theorem q_Or_countAbove_4 {n : Nat} {l1 l2 l3 : Nat} {F : fx_F} {v : fx_V} {F' : fx_F} (h : Rn n k_Or_countAbove 4 [(2, 19), (0, l1), (0, l2), (0, l3)] [] F v F') :
  (s_le (F 3 0) l3 →
   v = (0, l2) ∧ F' = F) ∧
  (s_lt l3 (F 3 0) →
   (s_lt (F 22 l3) (F 22 l1) →
     ∃ m, m < n ∧ Rn m k_Or_countAbove 4 [(2, 19), (0, l1), (0, i_add l2 1), (0, i_add l3 1)] [] F v F') ∧
    (s_le (F 22 l1) (F 22 l3) →
     ((F 22 l3) ≠ (F 22 l1) →
       ∃ m, m < n ∧ Rn m k_Or_countAbove 4 [(2, 19), (0, l1), (0, l2), (0, i_add l3 1)] [] F v F') ∧
      ((F 22 l3) = (F 22 l1) →
       (s_le l1 l3 →
         ∃ m, m < n ∧ Rn m k_Or_countAbove 4 [(2, 19), (0, l1), (0, l2), (0, i_add l3 1)] [] F v F') ∧
        (s_lt l3 l1 →
         ∃ m, m < n ∧ Rn m k_Or_countAbove 4 [(2, 19), (0, l1), (0, i_add l2 1), (0, i_add l3 1)] [] F v F')))) := by
  have t := q_ok cv_86 ap_86 (hd := [(4, [1, 1, 1, 1])]) h rfl rfl
  exact t
-- TurnNet$Order.countLinks(I)V
theorem c_Or_countLinks {a1 : Nat} {F : fx_F} {v : fx_V} {F' : fx_F} (h : Cl k_Or_countLinks [(2, 19), (0, a1)] F v F') : ∃ n, Rn n k_Or_countLinks 0 [(2, 19), (0, a1), (3, 0)] [] F v F' := by
  obtain ⟨n, s, hs, h⟩ := h
  rw [sg_87] at hs
  cases hs
  exact ⟨n, h⟩
set_option maxRecDepth 40000 in
theorem q_Or_countLinks_0 {n : Nat} {a1 : Nat} {F : fx_F} {v : fx_V} {F' : fx_F} (h : Rn n k_Or_countLinks 0 [(2, 19), (0, a1), (3, 0)] [] F v F') :
  ∃ m, m < n ∧ Rn m k_Or_countLinks 2 [(2, 19), (0, a1), (0, 0)] [] F v F' := by
  have t := q_ok cv_87 ap_87 (hd := [(2, [1, 1, 1]), (28, [1, 1, 1])]) h rfl rfl
  exact t
set_option maxRecDepth 40000 in
theorem q_Or_countLinks_2 {n : Nat} {l1 l2 : Nat} {F : fx_F} {v : fx_V} {F' : fx_F} (h : Rn n k_Or_countLinks 2 [(2, 19), (0, l1), (0, l2)] [] F v F') :
  (s_le (F 3 0) l2 →
   ∃ m, m < n ∧ Rn m k_Or_countLinks 28 [(2, 19), (0, l1), (0, 0)] [] F v F') ∧
  (s_lt l2 (F 3 0) →
   ∃ m, m < n ∧ Rn m k_Or_countLinks 2 [(2, 19), (0, l1), (0, i_add l2 1)] [] (fu F 21 l2 0) v F') := by
  have t := q_ok cv_87 ap_87 (hd := [(2, [1, 1, 1]), (28, [1, 1, 1])]) h rfl rfl
  exact t
set_option maxRecDepth 40000 in
theorem q_Or_countLinks_28 {n : Nat} {l1 l2 : Nat} {F : fx_F} {v : fx_V} {F' : fx_F} (h : Rn n k_Or_countLinks 28 [(2, 19), (0, l1), (0, l2)] [] F v F') :
  (s_le (i_mul 2 (F 3 1)) l2 →
   v = (2, 0) ∧ F' = F) ∧
  (s_lt l2 (i_mul 2 (F 3 1)) →
   ((i_and (i_shr l1 (i_shr l2 1)) 1) ≠ 1 →
     ∃ m, m < n ∧ Rn m k_Or_countLinks 28 [(2, 19), (0, l1), (0, i_add l2 1)] [] F v F') ∧
    ((i_and (i_shr l1 (i_shr l2 1)) 1) = 1 →
     ∃ m, m < n ∧ Rn m k_Or_countLinks 28 [(2, 19), (0, l1), (0, i_add l2 1)] [] (fu F 21 (F 4 l2) (i_add (F 21 (F 4 l2)) 1)) v F')) := by
  have t := q_ok cv_87 ap_87 (hd := [(2, [1, 1, 1]), (28, [1, 1, 1])]) h rfl rfl
  exact t
-- TurnNet$Order.evaluate(I)I
theorem c_Or_evaluate {a1 : Nat} {F : fx_F} {v : fx_V} {F' : fx_F} (h : Cl k_Or_evaluate [(2, 19), (0, a1)] F v F') : ∃ n, Rn n k_Or_evaluate 0 [(2, 19), (0, a1), (3, 0), (3, 0), (3, 0)] [] F v F' := by
  obtain ⟨n, s, hs, h⟩ := h
  rw [sg_88] at hs
  cases hs
  exact ⟨n, h⟩
set_option maxRecDepth 40000 in
theorem q_Or_evaluate_0 {n : Nat} {a1 : Nat} {F : fx_F} {v : fx_V} {F' : fx_F} (h : Rn n k_Or_evaluate 0 [(2, 19), (0, a1), (3, 0), (3, 0), (3, 0)] [] F v F') :
  ∃ m, m < n ∧ Rn m k_Or_evaluate 4 [(2, 19), (0, a1), (0, 0), (0, 0), (3, 0)] [] F v F' := by
  have t := q_ok cv_88 ap_88 (hd := [(4, [1, 1, 1, 1, 0])]) h rfl rfl
  exact t
set_option maxRecDepth 40000 in
theorem q_Or_evaluate_4 {n : Nat} {l1 l2 l3 : Nat} {F : fx_F} {v : fx_V} {F' : fx_F} (h : Rn n k_Or_evaluate 4 [(2, 19), (0, l1), (0, l2), (0, l3), (3, 0)] [] F v F') :
  (s_le (F 3 5) l3 →
   v = (0, F 23 0) ∧ F' = F) ∧
  (s_lt l3 (F 3 5) →
   ((F 8 l3) ≠ 5 →
     (s_le 5 (F 8 l3) →
       (s_lt l2 2 →
         ∃ m, m < n ∧ Rn m k_Or_evaluate 4 [(2, 19), (0, l1), (0, l2), (0, i_add l3 1), (3, 0)] [] F v F') ∧
        (s_le 2 l2 →
         (((F 8 l3) < 42 ∨ 48 ≤ (F 8 l3)) →
           ((F 23 (i_add l2 4294967295)) ≠ 0 →
             ∃ m, m < n ∧ Rn m k_Or_evaluate 4 [(2, 19), (0, l1), (0, i_add l2 4294967295), (0, i_add l3 1), (3, 0)] [] (fu F 23 (i_sub (i_add l2 4294967295) 1) (i_rem (F 23 (i_sub (i_add l2 4294967295) 1)) (F 23 (i_add l2 4294967295)))) v F') ∧
            ((F 23 (i_add l2 4294967295)) = 0 →
             ∃ m, m < n ∧ Rn m k_Or_evaluate 4 [(2, 19), (0, l1), (0, i_add l2 4294967295), (0, i_add l3 1), (3, 0)] [] (fu F 23 (i_sub (i_add l2 4294967295) 1) 0) v F')) ∧
          (((F 8 l3) = 42 →
           ∃ m, m < n ∧ Rn m k_Or_evaluate 4 [(2, 19), (0, l1), (0, i_add l2 4294967295), (0, i_add l3 1), (3, 0)] [] (fu F 23 (i_sub (i_add l2 4294967295) 1) (i_mul (F 23 (i_sub (i_add l2 4294967295) 1)) (F 23 (i_add l2 4294967295)))) v F') ∧
          (((F 8 l3) = 43 →
           ∃ m, m < n ∧ Rn m k_Or_evaluate 4 [(2, 19), (0, l1), (0, i_add l2 4294967295), (0, i_add l3 1), (3, 0)] [] (fu F 23 (i_sub (i_add l2 4294967295) 1) (i_add (F 23 (i_sub (i_add l2 4294967295) 1)) (F 23 (i_add l2 4294967295)))) v F') ∧
          (((F 8 l3) = 44 →
           ((F 23 (i_add l2 4294967295)) ≠ 0 →
             ∃ m, m < n ∧ Rn m k_Or_evaluate 4 [(2, 19), (0, l1), (0, i_add l2 4294967295), (0, i_add l3 1), (3, 0)] [] (fu F 23 (i_sub (i_add l2 4294967295) 1) (i_rem (F 23 (i_sub (i_add l2 4294967295) 1)) (F 23 (i_add l2 4294967295)))) v F') ∧
            ((F 23 (i_add l2 4294967295)) = 0 →
             ∃ m, m < n ∧ Rn m k_Or_evaluate 4 [(2, 19), (0, l1), (0, i_add l2 4294967295), (0, i_add l3 1), (3, 0)] [] (fu F 23 (i_sub (i_add l2 4294967295) 1) 0) v F')) ∧
          (((F 8 l3) = 45 →
           ∃ m, m < n ∧ Rn m k_Or_evaluate 4 [(2, 19), (0, l1), (0, i_add l2 4294967295), (0, i_add l3 1), (3, 0)] [] (fu F 23 (i_sub (i_add l2 4294967295) 1) (i_sub (F 23 (i_sub (i_add l2 4294967295) 1)) (F 23 (i_add l2 4294967295)))) v F') ∧
          (((F 8 l3) = 46 →
           ((F 23 (i_add l2 4294967295)) ≠ 0 →
             ∃ m, m < n ∧ Rn m k_Or_evaluate 4 [(2, 19), (0, l1), (0, i_add l2 4294967295), (0, i_add l3 1), (3, 0)] [] (fu F 23 (i_sub (i_add l2 4294967295) 1) (i_rem (F 23 (i_sub (i_add l2 4294967295) 1)) (F 23 (i_add l2 4294967295)))) v F') ∧
            ((F 23 (i_add l2 4294967295)) = 0 →
             ∃ m, m < n ∧ Rn m k_Or_evaluate 4 [(2, 19), (0, l1), (0, i_add l2 4294967295), (0, i_add l3 1), (3, 0)] [] (fu F 23 (i_sub (i_add l2 4294967295) 1) 0) v F')) ∧
          (((F 8 l3) = 47 →
           ((F 23 (i_add l2 4294967295)) ≠ 0 →
             ∃ m, m < n ∧ Rn m k_Or_evaluate 4 [(2, 19), (0, l1), (0, i_add l2 4294967295), (0, i_add l3 1), (3, 0)] [] (fu F 23 (i_sub (i_add l2 4294967295) 1) (i_div (F 23 (i_sub (i_add l2 4294967295) 1)) (F 23 (i_add l2 4294967295)))) v F') ∧
            ((F 23 (i_add l2 4294967295)) = 0 →
             ∃ m, m < n ∧ Rn m k_Or_evaluate 4 [(2, 19), (0, l1), (0, i_add l2 4294967295), (0, i_add l3 1), (3, 0)] [] (fu F 23 (i_sub (i_add l2 4294967295) 1) 0) v F')) ∧ True)))))))) ∧
      (s_lt (F 8 l3) 5 →
       (s_le (fx_len fx_w 23) l2 →
         ∃ m, m < n ∧ Rn m k_Or_evaluate 4 [(2, 19), (0, l1), (0, l2), (0, i_add l3 1), (3, 0)] [] F v F') ∧
        (s_lt l2 (fx_len fx_w 23) →
         (((F 8 l3) < 2 ∨ 5 ≤ (F 8 l3)) →
           ∃ m, m < n ∧ Rn m k_Or_evaluate 4 [(2, 19), (0, l1), (0, i_add l2 1), (0, i_add l3 1), (3, 0)] [] (fu F 23 l2 (F 9 l3)) v F') ∧
          (((F 8 l3) = 2 →
           ∃ m, m < n ∧ Rn m k_Or_evaluate 4 [(2, 19), (0, l1), (0, i_add l2 1), (0, i_add l3 1), (3, 0)] [] (fu F 23 l2 (F 20 l1)) v F') ∧
          (((F 8 l3) = 3 →
           ∃ m, m < n ∧ Rn m k_Or_evaluate 4 [(2, 19), (0, l1), (0, i_add l2 1), (0, i_add l3 1), (3, 0)] [] (fu F 23 l2 l1) v F') ∧
          (((F 8 l3) = 4 →
           ∃ m, m < n ∧ Rn m k_Or_evaluate 4 [(2, 19), (0, l1), (0, i_add l2 1), (0, i_add l3 1), (3, 0)] [] (fu F 23 l2 (F 21 l1)) v F') ∧ True)))))) ∧
    ((F 8 l3) = 5 →
     (s_lt l2 1 →
       ∃ m, m < n ∧ Rn m k_Or_evaluate 4 [(2, 19), (0, l1), (0, l2), (0, i_add l3 1), (3, 0)] [] F v F') ∧
      (s_le 1 l2 →
       ∃ m, m < n ∧ Rn m k_Or_evaluate 4 [(2, 19), (0, l1), (0, l2), (0, i_add l3 1), (3, 0)] [] (fu F 23 (i_sub l2 1) (i_neg (F 23 (i_sub l2 1)))) v F'))) := by
  have t := q_ok cv_88 ap_88 (hd := [(4, [1, 1, 1, 1, 0])]) h rfl rfl
  exact t
-- TurnNet$Order.upEnds()I
theorem c_Or_upEnds {F : fx_F} {v : fx_V} {F' : fx_F} (h : Cl k_Or_upEnds [(2, 19)] F v F') : ∃ n, Rn n k_Or_upEnds 0 [(2, 19), (3, 0), (3, 0)] [] F v F' := by
  obtain ⟨n, s, hs, h⟩ := h
  rw [sg_89] at hs
  cases hs
  exact ⟨n, h⟩
set_option maxRecDepth 40000 in
theorem q_Or_upEnds_0 {n : Nat} {F : fx_F} {v : fx_V} {F' : fx_F} (h : Rn n k_Or_upEnds 0 [(2, 19), (3, 0), (3, 0)] [] F v F') :
  ∃ m, m < n ∧ Rn m k_Or_upEnds 4 [(2, 19), (0, 0), (0, 0)] [] F v F' := by
  have t := q_ok cv_89 ap_89 (hd := [(4, [1, 1, 1])]) h rfl rfl
  exact t
set_option maxRecDepth 40000 in
theorem q_Or_upEnds_4 {n : Nat} {l1 l2 : Nat} {F : fx_F} {v : fx_V} {F' : fx_F} (h : Rn n k_Or_upEnds 4 [(2, 19), (0, l1), (0, l2)] [] F v F') :
  (s_le (F 3 1) l2 →
   v = (0, l1) ∧ F' = F) ∧
  (s_lt l2 (F 3 1) →
   (s_lt (F 22 (F 5 (i_mul 2 l2))) (F 22 (F 4 (i_mul 2 l2))) →
     ∃ m, m < n ∧ Rn m k_Or_upEnds 4 [(2, 19), (0, i_or l1 (i_shl 1 l2)), (0, i_add l2 1)] [] F v F') ∧
    (s_le (F 22 (F 4 (i_mul 2 l2))) (F 22 (F 5 (i_mul 2 l2))) →
     ((F 22 (F 5 (i_mul 2 l2))) ≠ (F 22 (F 4 (i_mul 2 l2))) →
       ∃ m, m < n ∧ Rn m k_Or_upEnds 4 [(2, 19), (0, l1), (0, i_add l2 1)] [] F v F') ∧
      ((F 22 (F 5 (i_mul 2 l2))) = (F 22 (F 4 (i_mul 2 l2))) →
       (s_le (F 4 (i_mul 2 l2)) (F 5 (i_mul 2 l2)) →
         ∃ m, m < n ∧ Rn m k_Or_upEnds 4 [(2, 19), (0, l1), (0, i_add l2 1)] [] F v F') ∧
        (s_lt (F 5 (i_mul 2 l2)) (F 4 (i_mul 2 l2)) →
         ∃ m, m < n ∧ Rn m k_Or_upEnds 4 [(2, 19), (0, i_or l1 (i_shl 1 l2)), (0, i_add l2 1)] [] F v F')))) := by
  have t := q_ok cv_89 ap_89 (hd := [(4, [1, 1, 1])]) h rfl rfl
  exact t
-- TurnNet$Reader.advance()V
theorem c_Rd_advance {F : fx_F} {v : fx_V} {F' : fx_F} (h : Cl k_Rd_advance [(2, 10)] F v F') : ∃ n, Rn n k_Rd_advance 0 [(2, 10), (3, 0), (3, 0)] [] F v F' := by
  obtain ⟨n, s, hs, h⟩ := h
  rw [sg_91] at hs
  cases hs
  exact ⟨n, h⟩
set_option maxRecDepth 40000 in
theorem q_Rd_advance_0 {n : Nat} {F : fx_F} {v : fx_V} {F' : fx_F} (h : Rn n k_Rd_advance 0 [(2, 10), (3, 0), (3, 0)] [] F v F') :
  (s_le (F 10 1) (F 10 5) →
   (s_lt (F 10 5) (F 10 1) →
     (s_lt (F 11 (F 10 5)) 97 →
       (s_lt (F 11 (F 10 5)) 48 →
         ((F 11 (F 10 5)) = 59 →
           v = (2, 0) ∧ F' = (fu (fu (fu (fu F 10 6 (F 10 5)) 10 8 0) 10 5 (i_add (F 10 5) 1)) 10 7 (F 11 (F 10 5)))) ∧
          ((F 11 (F 10 5)) ≠ 59 →
           ((F 11 (F 10 5)) = 40 →
             v = (2, 0) ∧ F' = (fu (fu (fu (fu F 10 6 (F 10 5)) 10 8 0) 10 5 (i_add (F 10 5) 1)) 10 7 (F 11 (F 10 5)))) ∧
            ((F 11 (F 10 5)) ≠ 40 →
             ((F 11 (F 10 5)) = 41 →
               v = (2, 0) ∧ F' = (fu (fu (fu (fu F 10 6 (F 10 5)) 10 8 0) 10 5 (i_add (F 10 5) 1)) 10 7 (F 11 (F 10 5)))) ∧
              ((F 11 (F 10 5)) ≠ 41 →
               ((F 11 (F 10 5)) = 43 →
                 v = (2, 0) ∧ F' = (fu (fu (fu (fu F 10 6 (F 10 5)) 10 8 0) 10 5 (i_add (F 10 5) 1)) 10 7 (F 11 (F 10 5)))) ∧
                ((F 11 (F 10 5)) ≠ 43 →
                 ((F 11 (F 10 5)) = 45 →
                   v = (2, 0) ∧ F' = (fu (fu (fu (fu F 10 6 (F 10 5)) 10 8 0) 10 5 (i_add (F 10 5) 1)) 10 7 (F 11 (F 10 5)))) ∧
                  ((F 11 (F 10 5)) ≠ 45 →
                   ((F 11 (F 10 5)) = 42 →
                     v = (2, 0) ∧ F' = (fu (fu (fu (fu F 10 6 (F 10 5)) 10 8 0) 10 5 (i_add (F 10 5) 1)) 10 7 (F 11 (F 10 5)))) ∧
                    ((F 11 (F 10 5)) ≠ 42 →
                     ((F 11 (F 10 5)) = 47 →
                       v = (2, 0) ∧ F' = (fu (fu (fu (fu F 10 6 (F 10 5)) 10 8 0) 10 5 (i_add (F 10 5) 1)) 10 7 (F 11 (F 10 5)))) ∧
                      ((F 11 (F 10 5)) ≠ 47 →
                       ((F 11 (F 10 5)) ≠ 37 →
                         v = (2, 0) ∧ F' = (fu (fu (fu (fu F 10 6 (F 10 5)) 10 8 0) 10 5 (i_add (F 10 5) 1)) 10 7 3)) ∧
                        ((F 11 (F 10 5)) = 37 →
                         v = (2, 0) ∧ F' = (fu (fu (fu (fu F 10 6 (F 10 5)) 10 8 0) 10 5 (i_add (F 10 5) 1)) 10 7 (F 11 (F 10 5)))))))))))) ∧
        (s_le 48 (F 11 (F 10 5)) →
         (s_lt 57 (F 11 (F 10 5)) →
           ((F 11 (F 10 5)) = 59 →
             v = (2, 0) ∧ F' = (fu (fu (fu (fu F 10 6 (F 10 5)) 10 8 0) 10 5 (i_add (F 10 5) 1)) 10 7 (F 11 (F 10 5)))) ∧
            ((F 11 (F 10 5)) ≠ 59 →
             ((F 11 (F 10 5)) = 40 →
               v = (2, 0) ∧ F' = (fu (fu (fu (fu F 10 6 (F 10 5)) 10 8 0) 10 5 (i_add (F 10 5) 1)) 10 7 (F 11 (F 10 5)))) ∧
              ((F 11 (F 10 5)) ≠ 40 →
               ((F 11 (F 10 5)) = 41 →
                 v = (2, 0) ∧ F' = (fu (fu (fu (fu F 10 6 (F 10 5)) 10 8 0) 10 5 (i_add (F 10 5) 1)) 10 7 (F 11 (F 10 5)))) ∧
                ((F 11 (F 10 5)) ≠ 41 →
                 ((F 11 (F 10 5)) = 43 →
                   v = (2, 0) ∧ F' = (fu (fu (fu (fu F 10 6 (F 10 5)) 10 8 0) 10 5 (i_add (F 10 5) 1)) 10 7 (F 11 (F 10 5)))) ∧
                  ((F 11 (F 10 5)) ≠ 43 →
                   ((F 11 (F 10 5)) = 45 →
                     v = (2, 0) ∧ F' = (fu (fu (fu (fu F 10 6 (F 10 5)) 10 8 0) 10 5 (i_add (F 10 5) 1)) 10 7 (F 11 (F 10 5)))) ∧
                    ((F 11 (F 10 5)) ≠ 45 →
                     ((F 11 (F 10 5)) = 42 →
                       v = (2, 0) ∧ F' = (fu (fu (fu (fu F 10 6 (F 10 5)) 10 8 0) 10 5 (i_add (F 10 5) 1)) 10 7 (F 11 (F 10 5)))) ∧
                      ((F 11 (F 10 5)) ≠ 42 →
                       ((F 11 (F 10 5)) = 47 →
                         v = (2, 0) ∧ F' = (fu (fu (fu (fu F 10 6 (F 10 5)) 10 8 0) 10 5 (i_add (F 10 5) 1)) 10 7 (F 11 (F 10 5)))) ∧
                        ((F 11 (F 10 5)) ≠ 47 →
                         ((F 11 (F 10 5)) ≠ 37 →
                           v = (2, 0) ∧ F' = (fu (fu (fu (fu F 10 6 (F 10 5)) 10 8 0) 10 5 (i_add (F 10 5) 1)) 10 7 3)) ∧
                          ((F 11 (F 10 5)) = 37 →
                           v = (2, 0) ∧ F' = (fu (fu (fu (fu F 10 6 (F 10 5)) 10 8 0) 10 5 (i_add (F 10 5) 1)) 10 7 (F 11 (F 10 5)))))))))))) ∧
          (s_le (F 11 (F 10 5)) 57 →
           ∃ m, m < n ∧ Rn m k_Rd_advance 196 [(2, 10), (3, 0), (3, 0)] [] (fu (fu (fu (fu (fu F 10 6 (F 10 5)) 10 8 0) 10 5 (i_add (F 10 5) 1)) 10 7 2) 10 8 (i_sub (F 11 (F 10 5)) 48)) v F'))) ∧
      (s_le 97 (F 11 (F 10 5)) →
       (s_lt 122 (F 11 (F 10 5)) →
         (s_lt (F 11 (F 10 5)) 48 →
           ((F 11 (F 10 5)) = 59 →
             v = (2, 0) ∧ F' = (fu (fu (fu (fu F 10 6 (F 10 5)) 10 8 0) 10 5 (i_add (F 10 5) 1)) 10 7 (F 11 (F 10 5)))) ∧
            ((F 11 (F 10 5)) ≠ 59 →
             ((F 11 (F 10 5)) = 40 →
               v = (2, 0) ∧ F' = (fu (fu (fu (fu F 10 6 (F 10 5)) 10 8 0) 10 5 (i_add (F 10 5) 1)) 10 7 (F 11 (F 10 5)))) ∧
              ((F 11 (F 10 5)) ≠ 40 →
               ((F 11 (F 10 5)) = 41 →
                 v = (2, 0) ∧ F' = (fu (fu (fu (fu F 10 6 (F 10 5)) 10 8 0) 10 5 (i_add (F 10 5) 1)) 10 7 (F 11 (F 10 5)))) ∧
                ((F 11 (F 10 5)) ≠ 41 →
                 ((F 11 (F 10 5)) = 43 →
                   v = (2, 0) ∧ F' = (fu (fu (fu (fu F 10 6 (F 10 5)) 10 8 0) 10 5 (i_add (F 10 5) 1)) 10 7 (F 11 (F 10 5)))) ∧
                  ((F 11 (F 10 5)) ≠ 43 →
                   ((F 11 (F 10 5)) = 45 →
                     v = (2, 0) ∧ F' = (fu (fu (fu (fu F 10 6 (F 10 5)) 10 8 0) 10 5 (i_add (F 10 5) 1)) 10 7 (F 11 (F 10 5)))) ∧
                    ((F 11 (F 10 5)) ≠ 45 →
                     ((F 11 (F 10 5)) = 42 →
                       v = (2, 0) ∧ F' = (fu (fu (fu (fu F 10 6 (F 10 5)) 10 8 0) 10 5 (i_add (F 10 5) 1)) 10 7 (F 11 (F 10 5)))) ∧
                      ((F 11 (F 10 5)) ≠ 42 →
                       ((F 11 (F 10 5)) = 47 →
                         v = (2, 0) ∧ F' = (fu (fu (fu (fu F 10 6 (F 10 5)) 10 8 0) 10 5 (i_add (F 10 5) 1)) 10 7 (F 11 (F 10 5)))) ∧
                        ((F 11 (F 10 5)) ≠ 47 →
                         ((F 11 (F 10 5)) ≠ 37 →
                           v = (2, 0) ∧ F' = (fu (fu (fu (fu F 10 6 (F 10 5)) 10 8 0) 10 5 (i_add (F 10 5) 1)) 10 7 3)) ∧
                          ((F 11 (F 10 5)) = 37 →
                           v = (2, 0) ∧ F' = (fu (fu (fu (fu F 10 6 (F 10 5)) 10 8 0) 10 5 (i_add (F 10 5) 1)) 10 7 (F 11 (F 10 5)))))))))))) ∧
          (s_le 48 (F 11 (F 10 5)) →
           (s_lt 57 (F 11 (F 10 5)) →
             ((F 11 (F 10 5)) = 59 →
               v = (2, 0) ∧ F' = (fu (fu (fu (fu F 10 6 (F 10 5)) 10 8 0) 10 5 (i_add (F 10 5) 1)) 10 7 (F 11 (F 10 5)))) ∧
              ((F 11 (F 10 5)) ≠ 59 →
               ((F 11 (F 10 5)) = 40 →
                 v = (2, 0) ∧ F' = (fu (fu (fu (fu F 10 6 (F 10 5)) 10 8 0) 10 5 (i_add (F 10 5) 1)) 10 7 (F 11 (F 10 5)))) ∧
                ((F 11 (F 10 5)) ≠ 40 →
                 ((F 11 (F 10 5)) = 41 →
                   v = (2, 0) ∧ F' = (fu (fu (fu (fu F 10 6 (F 10 5)) 10 8 0) 10 5 (i_add (F 10 5) 1)) 10 7 (F 11 (F 10 5)))) ∧
                  ((F 11 (F 10 5)) ≠ 41 →
                   ((F 11 (F 10 5)) = 43 →
                     v = (2, 0) ∧ F' = (fu (fu (fu (fu F 10 6 (F 10 5)) 10 8 0) 10 5 (i_add (F 10 5) 1)) 10 7 (F 11 (F 10 5)))) ∧
                    ((F 11 (F 10 5)) ≠ 43 →
                     ((F 11 (F 10 5)) = 45 →
                       v = (2, 0) ∧ F' = (fu (fu (fu (fu F 10 6 (F 10 5)) 10 8 0) 10 5 (i_add (F 10 5) 1)) 10 7 (F 11 (F 10 5)))) ∧
                      ((F 11 (F 10 5)) ≠ 45 →
                       ((F 11 (F 10 5)) = 42 →
                         v = (2, 0) ∧ F' = (fu (fu (fu (fu F 10 6 (F 10 5)) 10 8 0) 10 5 (i_add (F 10 5) 1)) 10 7 (F 11 (F 10 5)))) ∧
                        ((F 11 (F 10 5)) ≠ 42 →
                         ((F 11 (F 10 5)) = 47 →
                           v = (2, 0) ∧ F' = (fu (fu (fu (fu F 10 6 (F 10 5)) 10 8 0) 10 5 (i_add (F 10 5) 1)) 10 7 (F 11 (F 10 5)))) ∧
                          ((F 11 (F 10 5)) ≠ 47 →
                           ((F 11 (F 10 5)) ≠ 37 →
                             v = (2, 0) ∧ F' = (fu (fu (fu (fu F 10 6 (F 10 5)) 10 8 0) 10 5 (i_add (F 10 5) 1)) 10 7 3)) ∧
                            ((F 11 (F 10 5)) = 37 →
                             v = (2, 0) ∧ F' = (fu (fu (fu (fu F 10 6 (F 10 5)) 10 8 0) 10 5 (i_add (F 10 5) 1)) 10 7 (F 11 (F 10 5)))))))))))) ∧
            (s_le (F 11 (F 10 5)) 57 →
             ∃ m, m < n ∧ Rn m k_Rd_advance 196 [(2, 10), (3, 0), (3, 0)] [] (fu (fu (fu (fu (fu F 10 6 (F 10 5)) 10 8 0) 10 5 (i_add (F 10 5) 1)) 10 7 2) 10 8 (i_sub (F 11 (F 10 5)) 48)) v F'))) ∧
        (s_le (F 11 (F 10 5)) 122 →
         ∃ m, m < n ∧ Rn m k_Rd_advance 119 [(2, 10), (3, 0), (3, 0)] [] (fu (fu (fu (fu F 10 6 (F 10 5)) 10 8 0) 10 5 (i_add (F 10 5) 1)) 10 7 1) v F'))) ∧
    (s_le (F 10 1) (F 10 5) →
     v = (2, 0) ∧ F' = (fu (fu (fu F 10 6 (F 10 5)) 10 8 0) 10 7 0))) ∧
  (s_lt (F 10 5) (F 10 1) →
   ((F 11 (F 10 5)) = 32 →
     ∃ m, m < n ∧ Rn m k_Rd_advance 0 [(2, 10), (3, 0), (3, 0)] [] (fu F 10 5 (i_add (F 10 5) 1)) v F') ∧
    ((F 11 (F 10 5)) ≠ 32 →
     ((F 11 (F 10 5)) ≠ 10 →
       (s_lt (F 10 5) (F 10 1) →
         (s_lt (F 11 (F 10 5)) 97 →
           (s_lt (F 11 (F 10 5)) 48 →
             ((F 11 (F 10 5)) = 59 →
               v = (2, 0) ∧ F' = (fu (fu (fu (fu F 10 6 (F 10 5)) 10 8 0) 10 5 (i_add (F 10 5) 1)) 10 7 (F 11 (F 10 5)))) ∧
              ((F 11 (F 10 5)) ≠ 59 →
               ((F 11 (F 10 5)) = 40 →
                 v = (2, 0) ∧ F' = (fu (fu (fu (fu F 10 6 (F 10 5)) 10 8 0) 10 5 (i_add (F 10 5) 1)) 10 7 (F 11 (F 10 5)))) ∧
                ((F 11 (F 10 5)) ≠ 40 →
                 ((F 11 (F 10 5)) = 41 →
                   v = (2, 0) ∧ F' = (fu (fu (fu (fu F 10 6 (F 10 5)) 10 8 0) 10 5 (i_add (F 10 5) 1)) 10 7 (F 11 (F 10 5)))) ∧
                  ((F 11 (F 10 5)) ≠ 41 →
                   ((F 11 (F 10 5)) = 43 →
                     v = (2, 0) ∧ F' = (fu (fu (fu (fu F 10 6 (F 10 5)) 10 8 0) 10 5 (i_add (F 10 5) 1)) 10 7 (F 11 (F 10 5)))) ∧
                    ((F 11 (F 10 5)) ≠ 43 →
                     ((F 11 (F 10 5)) = 45 →
                       v = (2, 0) ∧ F' = (fu (fu (fu (fu F 10 6 (F 10 5)) 10 8 0) 10 5 (i_add (F 10 5) 1)) 10 7 (F 11 (F 10 5)))) ∧
                      ((F 11 (F 10 5)) ≠ 45 →
                       ((F 11 (F 10 5)) = 42 →
                         v = (2, 0) ∧ F' = (fu (fu (fu (fu F 10 6 (F 10 5)) 10 8 0) 10 5 (i_add (F 10 5) 1)) 10 7 (F 11 (F 10 5)))) ∧
                        ((F 11 (F 10 5)) ≠ 42 →
                         ((F 11 (F 10 5)) = 47 →
                           v = (2, 0) ∧ F' = (fu (fu (fu (fu F 10 6 (F 10 5)) 10 8 0) 10 5 (i_add (F 10 5) 1)) 10 7 (F 11 (F 10 5)))) ∧
                          ((F 11 (F 10 5)) ≠ 47 →
                           ((F 11 (F 10 5)) ≠ 37 →
                             v = (2, 0) ∧ F' = (fu (fu (fu (fu F 10 6 (F 10 5)) 10 8 0) 10 5 (i_add (F 10 5) 1)) 10 7 3)) ∧
                            ((F 11 (F 10 5)) = 37 →
                             v = (2, 0) ∧ F' = (fu (fu (fu (fu F 10 6 (F 10 5)) 10 8 0) 10 5 (i_add (F 10 5) 1)) 10 7 (F 11 (F 10 5)))))))))))) ∧
            (s_le 48 (F 11 (F 10 5)) →
             (s_lt 57 (F 11 (F 10 5)) →
               ((F 11 (F 10 5)) = 59 →
                 v = (2, 0) ∧ F' = (fu (fu (fu (fu F 10 6 (F 10 5)) 10 8 0) 10 5 (i_add (F 10 5) 1)) 10 7 (F 11 (F 10 5)))) ∧
                ((F 11 (F 10 5)) ≠ 59 →
                 ((F 11 (F 10 5)) = 40 →
                   v = (2, 0) ∧ F' = (fu (fu (fu (fu F 10 6 (F 10 5)) 10 8 0) 10 5 (i_add (F 10 5) 1)) 10 7 (F 11 (F 10 5)))) ∧
                  ((F 11 (F 10 5)) ≠ 40 →
                   ((F 11 (F 10 5)) = 41 →
                     v = (2, 0) ∧ F' = (fu (fu (fu (fu F 10 6 (F 10 5)) 10 8 0) 10 5 (i_add (F 10 5) 1)) 10 7 (F 11 (F 10 5)))) ∧
                    ((F 11 (F 10 5)) ≠ 41 →
                     ((F 11 (F 10 5)) = 43 →
                       v = (2, 0) ∧ F' = (fu (fu (fu (fu F 10 6 (F 10 5)) 10 8 0) 10 5 (i_add (F 10 5) 1)) 10 7 (F 11 (F 10 5)))) ∧
                      ((F 11 (F 10 5)) ≠ 43 →
                       ((F 11 (F 10 5)) = 45 →
                         v = (2, 0) ∧ F' = (fu (fu (fu (fu F 10 6 (F 10 5)) 10 8 0) 10 5 (i_add (F 10 5) 1)) 10 7 (F 11 (F 10 5)))) ∧
                        ((F 11 (F 10 5)) ≠ 45 →
                         ((F 11 (F 10 5)) = 42 →
                           v = (2, 0) ∧ F' = (fu (fu (fu (fu F 10 6 (F 10 5)) 10 8 0) 10 5 (i_add (F 10 5) 1)) 10 7 (F 11 (F 10 5)))) ∧
                          ((F 11 (F 10 5)) ≠ 42 →
                           ((F 11 (F 10 5)) = 47 →
                             v = (2, 0) ∧ F' = (fu (fu (fu (fu F 10 6 (F 10 5)) 10 8 0) 10 5 (i_add (F 10 5) 1)) 10 7 (F 11 (F 10 5)))) ∧
                            ((F 11 (F 10 5)) ≠ 47 →
                             ((F 11 (F 10 5)) ≠ 37 →
                               v = (2, 0) ∧ F' = (fu (fu (fu (fu F 10 6 (F 10 5)) 10 8 0) 10 5 (i_add (F 10 5) 1)) 10 7 3)) ∧
                              ((F 11 (F 10 5)) = 37 →
                               v = (2, 0) ∧ F' = (fu (fu (fu (fu F 10 6 (F 10 5)) 10 8 0) 10 5 (i_add (F 10 5) 1)) 10 7 (F 11 (F 10 5)))))))))))) ∧
              (s_le (F 11 (F 10 5)) 57 →
               ∃ m, m < n ∧ Rn m k_Rd_advance 196 [(2, 10), (3, 0), (3, 0)] [] (fu (fu (fu (fu (fu F 10 6 (F 10 5)) 10 8 0) 10 5 (i_add (F 10 5) 1)) 10 7 2) 10 8 (i_sub (F 11 (F 10 5)) 48)) v F'))) ∧
          (s_le 97 (F 11 (F 10 5)) →
           (s_lt 122 (F 11 (F 10 5)) →
             (s_lt (F 11 (F 10 5)) 48 →
               ((F 11 (F 10 5)) = 59 →
                 v = (2, 0) ∧ F' = (fu (fu (fu (fu F 10 6 (F 10 5)) 10 8 0) 10 5 (i_add (F 10 5) 1)) 10 7 (F 11 (F 10 5)))) ∧
                ((F 11 (F 10 5)) ≠ 59 →
                 ((F 11 (F 10 5)) = 40 →
                   v = (2, 0) ∧ F' = (fu (fu (fu (fu F 10 6 (F 10 5)) 10 8 0) 10 5 (i_add (F 10 5) 1)) 10 7 (F 11 (F 10 5)))) ∧
                  ((F 11 (F 10 5)) ≠ 40 →
                   ((F 11 (F 10 5)) = 41 →
                     v = (2, 0) ∧ F' = (fu (fu (fu (fu F 10 6 (F 10 5)) 10 8 0) 10 5 (i_add (F 10 5) 1)) 10 7 (F 11 (F 10 5)))) ∧
                    ((F 11 (F 10 5)) ≠ 41 →
                     ((F 11 (F 10 5)) = 43 →
                       v = (2, 0) ∧ F' = (fu (fu (fu (fu F 10 6 (F 10 5)) 10 8 0) 10 5 (i_add (F 10 5) 1)) 10 7 (F 11 (F 10 5)))) ∧
                      ((F 11 (F 10 5)) ≠ 43 →
                       ((F 11 (F 10 5)) = 45 →
                         v = (2, 0) ∧ F' = (fu (fu (fu (fu F 10 6 (F 10 5)) 10 8 0) 10 5 (i_add (F 10 5) 1)) 10 7 (F 11 (F 10 5)))) ∧
                        ((F 11 (F 10 5)) ≠ 45 →
                         ((F 11 (F 10 5)) = 42 →
                           v = (2, 0) ∧ F' = (fu (fu (fu (fu F 10 6 (F 10 5)) 10 8 0) 10 5 (i_add (F 10 5) 1)) 10 7 (F 11 (F 10 5)))) ∧
                          ((F 11 (F 10 5)) ≠ 42 →
                           ((F 11 (F 10 5)) = 47 →
                             v = (2, 0) ∧ F' = (fu (fu (fu (fu F 10 6 (F 10 5)) 10 8 0) 10 5 (i_add (F 10 5) 1)) 10 7 (F 11 (F 10 5)))) ∧
                            ((F 11 (F 10 5)) ≠ 47 →
                             ((F 11 (F 10 5)) ≠ 37 →
                               v = (2, 0) ∧ F' = (fu (fu (fu (fu F 10 6 (F 10 5)) 10 8 0) 10 5 (i_add (F 10 5) 1)) 10 7 3)) ∧
                              ((F 11 (F 10 5)) = 37 →
                               v = (2, 0) ∧ F' = (fu (fu (fu (fu F 10 6 (F 10 5)) 10 8 0) 10 5 (i_add (F 10 5) 1)) 10 7 (F 11 (F 10 5)))))))))))) ∧
              (s_le 48 (F 11 (F 10 5)) →
               (s_lt 57 (F 11 (F 10 5)) →
                 ((F 11 (F 10 5)) = 59 →
                   v = (2, 0) ∧ F' = (fu (fu (fu (fu F 10 6 (F 10 5)) 10 8 0) 10 5 (i_add (F 10 5) 1)) 10 7 (F 11 (F 10 5)))) ∧
                  ((F 11 (F 10 5)) ≠ 59 →
                   ((F 11 (F 10 5)) = 40 →
                     v = (2, 0) ∧ F' = (fu (fu (fu (fu F 10 6 (F 10 5)) 10 8 0) 10 5 (i_add (F 10 5) 1)) 10 7 (F 11 (F 10 5)))) ∧
                    ((F 11 (F 10 5)) ≠ 40 →
                     ((F 11 (F 10 5)) = 41 →
                       v = (2, 0) ∧ F' = (fu (fu (fu (fu F 10 6 (F 10 5)) 10 8 0) 10 5 (i_add (F 10 5) 1)) 10 7 (F 11 (F 10 5)))) ∧
                      ((F 11 (F 10 5)) ≠ 41 →
                       ((F 11 (F 10 5)) = 43 →
                         v = (2, 0) ∧ F' = (fu (fu (fu (fu F 10 6 (F 10 5)) 10 8 0) 10 5 (i_add (F 10 5) 1)) 10 7 (F 11 (F 10 5)))) ∧
                        ((F 11 (F 10 5)) ≠ 43 →
                         ((F 11 (F 10 5)) = 45 →
                           v = (2, 0) ∧ F' = (fu (fu (fu (fu F 10 6 (F 10 5)) 10 8 0) 10 5 (i_add (F 10 5) 1)) 10 7 (F 11 (F 10 5)))) ∧
                          ((F 11 (F 10 5)) ≠ 45 →
                           ((F 11 (F 10 5)) = 42 →
                             v = (2, 0) ∧ F' = (fu (fu (fu (fu F 10 6 (F 10 5)) 10 8 0) 10 5 (i_add (F 10 5) 1)) 10 7 (F 11 (F 10 5)))) ∧
                            ((F 11 (F 10 5)) ≠ 42 →
                             ((F 11 (F 10 5)) = 47 →
                               v = (2, 0) ∧ F' = (fu (fu (fu (fu F 10 6 (F 10 5)) 10 8 0) 10 5 (i_add (F 10 5) 1)) 10 7 (F 11 (F 10 5)))) ∧
                              ((F 11 (F 10 5)) ≠ 47 →
                               ((F 11 (F 10 5)) ≠ 37 →
                                 v = (2, 0) ∧ F' = (fu (fu (fu (fu F 10 6 (F 10 5)) 10 8 0) 10 5 (i_add (F 10 5) 1)) 10 7 3)) ∧
                                ((F 11 (F 10 5)) = 37 →
                                 v = (2, 0) ∧ F' = (fu (fu (fu (fu F 10 6 (F 10 5)) 10 8 0) 10 5 (i_add (F 10 5) 1)) 10 7 (F 11 (F 10 5)))))))))))) ∧
                (s_le (F 11 (F 10 5)) 57 →
                 ∃ m, m < n ∧ Rn m k_Rd_advance 196 [(2, 10), (3, 0), (3, 0)] [] (fu (fu (fu (fu (fu F 10 6 (F 10 5)) 10 8 0) 10 5 (i_add (F 10 5) 1)) 10 7 2) 10 8 (i_sub (F 11 (F 10 5)) 48)) v F'))) ∧
            (s_le (F 11 (F 10 5)) 122 →
             ∃ m, m < n ∧ Rn m k_Rd_advance 119 [(2, 10), (3, 0), (3, 0)] [] (fu (fu (fu (fu F 10 6 (F 10 5)) 10 8 0) 10 5 (i_add (F 10 5) 1)) 10 7 1) v F'))) ∧
        (s_le (F 10 1) (F 10 5) →
         v = (2, 0) ∧ F' = (fu (fu (fu F 10 6 (F 10 5)) 10 8 0) 10 7 0))) ∧
      ((F 11 (F 10 5)) = 10 →
       ∃ m, m < n ∧ Rn m k_Rd_advance 0 [(2, 10), (3, 0), (3, 0)] [] (fu F 10 5 (i_add (F 10 5) 1)) v F'))) := by
  have t := q_ok cv_91 ap_91 (hd := [(0, [1, 0, 0]), (119, [1, 0, 0]), (196, [1, 0, 0])]) h rfl rfl
  exact t
set_option maxRecDepth 40000 in
theorem q_Rd_advance_196 {n : Nat} {F : fx_F} {v : fx_V} {F' : fx_F} (h : Rn n k_Rd_advance 196 [(2, 10), (3, 0), (3, 0)] [] F v F') :
  (s_le (F 10 1) (F 10 5) →
   v = (2, 0) ∧ F' = F) ∧
  (s_lt (F 10 5) (F 10 1) →
   (s_lt (F 11 (F 10 5)) 48 →
     v = (2, 0) ∧ F' = F) ∧
    (s_le 48 (F 11 (F 10 5)) →
     (s_lt 57 (F 11 (F 10 5)) →
       v = (2, 0) ∧ F' = F) ∧
      (s_le (F 11 (F 10 5)) 57 →
       ∃ m, m < n ∧ Rn m k_Rd_advance 196 [(2, 10), (3, 0), (3, 0)] [] (fu (fu F 10 8 (i_min (i_sub (i_add (i_mul 10 (F 10 8)) (F 11 (F 10 5))) 48) 100000)) 10 5 (i_add (F 10 5) 1)) v F'))) := by
  have t := q_ok cv_91 ap_91 (hd := [(0, [1, 0, 0]), (119, [1, 0, 0]), (196, [1, 0, 0])]) h rfl rfl
  exact t
set_option maxRecDepth 40000 in
theorem q_Rd_advance_119 {n : Nat} {F : fx_F} {v : fx_V} {F' : fx_F} (h : Rn n k_Rd_advance 119 [(2, 10), (3, 0), (3, 0)] [] F v F') :
  (s_le (F 10 1) (F 10 5) →
   v = (2, 0) ∧ F' = F) ∧
  (s_lt (F 10 5) (F 10 1) →
   (s_lt (F 11 (F 10 5)) 97 →
     v = (2, 0) ∧ F' = F) ∧
    (s_le 97 (F 11 (F 10 5)) →
     (s_lt 122 (F 11 (F 10 5)) →
       v = (2, 0) ∧ F' = F) ∧
      (s_le (F 11 (F 10 5)) 122 →
       ∃ m, m < n ∧ Rn m k_Rd_advance 119 [(2, 10), (3, 0), (3, 0)] [] (fu F 10 5 (i_add (F 10 5) 1)) v F'))) := by
  have t := q_ok cv_91 ap_91 (hd := [(0, [1, 0, 0]), (119, [1, 0, 0]), (196, [1, 0, 0])]) h rfl rfl
  exact t
-- TurnNet$Routes.entryBehind(II)I
theorem c_Ro_entryBehind {p a1 a2 : Nat} {F : fx_F} {v : fx_V} {F' : fx_F} (h : Cl k_Ro_entryBehind [(2, p), (0, a1), (0, a2)] F v F') : ∃ n, Rn n k_Ro_entryBehind 0 [(2, p), (0, a1), (0, a2)] [] F v F' := by
  obtain ⟨n, s, hs, h⟩ := h
  rw [sg_93] at hs
  cases hs
  exact ⟨n, h⟩
set_option maxRecDepth 40000 in
theorem q_Ro_entryBehind_0 {n : Nat} {p a1 a2 : Nat} {F : fx_F} {v : fx_V} {F' : fx_F} (h : Rn n k_Ro_entryBehind 0 [(2, p), (0, a1), (0, a2)] [] F v F') :
  v = (0, F (p + 2) (i_add (i_mul a1 20) (i_add (i_mul 2 (F 5 a2)) (F (p + 5) a2)))) ∧ F' = F := by
  have t := q_ok cv_93 ap_93 (hd := []) h rfl rfl
  exact t
-- TurnNet$Routes.growLevel(II)Z
theorem c_Ro_growLevel {p a1 a2 : Nat} {F : fx_F} {v : fx_V} {F' : fx_F} (h : Cl k_Ro_growLevel [(2, p), (0, a1), (0, a2)] F v F') : ∃ n, Rn n k_Ro_growLevel 0 [(2, p), (0, a1), (0, a2), (3, 0), (3, 0), (3, 0), (3, 0)] [] F v F' := by
  obtain ⟨n, s, hs, h⟩ := h
  rw [sg_94] at hs
  cases hs
  exact ⟨n, h⟩
set_option maxRecDepth 40000 in
theorem q_Ro_growLevel_0 {n : Nat} {p a1 a2 : Nat} {F : fx_F} {v : fx_V} {F' : fx_F} (h : Rn n k_Ro_growLevel 0 [(2, p), (0, a1), (0, a2), (3, 0), (3, 0), (3, 0), (3, 0)] [] F v F') :
  ∃ m, m < n ∧ Rn m k_Ro_growLevel 5 [(2, p), (0, a1), (0, a2), (0, 0), (0, 0), (3, 0), (3, 0)] [] F v F' := by
  have t := q_ok cv_94 ap_94 (hd := [(5, [1, 1, 1, 1, 1, 0, 0])]) h rfl rfl
  exact t
set_option maxRecDepth 40000 in
theorem q_Ro_growLevel_5 {n : Nat} {p l1 l2 l3 l4 : Nat} {F : fx_F} {v : fx_V} {F' : fx_F} (h : Rn n k_Ro_growLevel 5 [(2, p), (0, l1), (0, l2), (0, l3), (0, l4), (3, 0), (3, 0)] [] F v F') :
  (s_le (i_mul 2 (F 3 1)) l4 →
   v = (0, l3) ∧ F' = F) ∧
  (s_lt l4 (i_mul 2 (F 3 1)) →
   ((i_and (i_shr (F p 2) (i_shr l4 1)) 1) ≠ 1 →
     ∃ m, m < n ∧ Rn m k_Ro_growLevel 5 [(2, p), (0, l1), (0, l2), (0, l3), (0, i_add l4 1), (3, 0), (3, 0)] [] F v F') ∧
    ((i_and (i_shr (F p 2) (i_shr l4 1)) 1) = 1 →
     ((F (p + 5) l4) ≠ 0 →
       ((F (p + 1) (i_add l1 (i_mul 2 (F 4 l4)))) ≠ 4294967295 →
         (l3 = 0 →
           ((F (p + 1) (i_add (i_add l1 (i_mul 2 (F 4 l4))) 1)) ≠ 4294967295 →
             ∃ m, m < n ∧ Rn m k_Ro_growLevel 5 [(2, p), (0, l1), (0, l2), (0, 0), (0, i_add l4 1), (3, 0), (3, 0)] [] F v F') ∧
            ((F (p + 1) (i_add (i_add l1 (i_mul 2 (F 4 l4))) 1)) = 4294967295 →
             ((F (p + 1) (i_add (i_add l1 (i_mul 2 (F 5 l4))) 1)) = (i_sub l2 1) →
               ∃ m, m < n ∧ Rn m k_Ro_growLevel 5 [(2, p), (0, l1), (0, l2), (0, 1), (0, i_add l4 1), (3, 0), (3, 0)] [] (fu F (p + 1) (i_add (i_add l1 (i_mul 2 (F 4 l4))) 1) l2) v F') ∧
              ((F (p + 1) (i_add (i_add l1 (i_mul 2 (F 5 l4))) 1)) ≠ (i_sub l2 1) →
               ∃ m, m < n ∧ Rn m k_Ro_growLevel 5 [(2, p), (0, l1), (0, l2), (0, 0), (0, i_add l4 1), (3, 0), (3, 0)] [] F v F'))) ∧
          (l3 ≠ 0 →
           ((F (p + 1) (i_add (i_add l1 (i_mul 2 (F 4 l4))) 1)) ≠ 4294967295 →
             ∃ m, m < n ∧ Rn m k_Ro_growLevel 5 [(2, p), (0, l1), (0, l2), (0, 1), (0, i_add l4 1), (3, 0), (3, 0)] [] F v F') ∧
            ((F (p + 1) (i_add (i_add l1 (i_mul 2 (F 4 l4))) 1)) = 4294967295 →
             ((F (p + 1) (i_add (i_add l1 (i_mul 2 (F 5 l4))) 1)) = (i_sub l2 1) →
               ∃ m, m < n ∧ Rn m k_Ro_growLevel 5 [(2, p), (0, l1), (0, l2), (0, 1), (0, i_add l4 1), (3, 0), (3, 0)] [] (fu F (p + 1) (i_add (i_add l1 (i_mul 2 (F 4 l4))) 1) l2) v F') ∧
              ((F (p + 1) (i_add (i_add l1 (i_mul 2 (F 5 l4))) 1)) ≠ (i_sub l2 1) →
               ∃ m, m < n ∧ Rn m k_Ro_growLevel 5 [(2, p), (0, l1), (0, l2), (0, 1), (0, i_add l4 1), (3, 0), (3, 0)] [] F v F')))) ∧
        ((F (p + 1) (i_add l1 (i_mul 2 (F 4 l4)))) = 4294967295 →
         ((F (p + 1) (i_add (i_add l1 (i_mul 2 (F 5 l4))) 1)) = (i_sub l2 1) →
           (((fu F (p + 1) (i_add l1 (i_mul 2 (F 4 l4))) l2) (p + 1) (i_add (i_add l1 (i_mul 2 (F 4 l4))) 1)) ≠ 4294967295 →
             ∃ m, m < n ∧ Rn m k_Ro_growLevel 5 [(2, p), (0, l1), (0, l2), (0, 1), (0, i_add l4 1), (3, 0), (3, 0)] [] (fu F (p + 1) (i_add l1 (i_mul 2 (F 4 l4))) l2) v F') ∧
            (((fu F (p + 1) (i_add l1 (i_mul 2 (F 4 l4))) l2) (p + 1) (i_add (i_add l1 (i_mul 2 (F 4 l4))) 1)) = 4294967295 →
             (((fu F (p + 1) (i_add l1 (i_mul 2 (F 4 l4))) l2) (p + 1) (i_add (i_add l1 (i_mul 2 (F 5 l4))) 1)) = (i_sub l2 1) →
               ∃ m, m < n ∧ Rn m k_Ro_growLevel 5 [(2, p), (0, l1), (0, l2), (0, 1), (0, i_add l4 1), (3, 0), (3, 0)] [] (fu (fu F (p + 1) (i_add l1 (i_mul 2 (F 4 l4))) l2) (p + 1) (i_add (i_add l1 (i_mul 2 (F 4 l4))) 1) l2) v F') ∧
              (((fu F (p + 1) (i_add l1 (i_mul 2 (F 4 l4))) l2) (p + 1) (i_add (i_add l1 (i_mul 2 (F 5 l4))) 1)) ≠ (i_sub l2 1) →
               ∃ m, m < n ∧ Rn m k_Ro_growLevel 5 [(2, p), (0, l1), (0, l2), (0, 1), (0, i_add l4 1), (3, 0), (3, 0)] [] (fu F (p + 1) (i_add l1 (i_mul 2 (F 4 l4))) l2) v F'))) ∧
          ((F (p + 1) (i_add (i_add l1 (i_mul 2 (F 5 l4))) 1)) ≠ (i_sub l2 1) →
           (l3 = 0 →
             ((F (p + 1) (i_add (i_add l1 (i_mul 2 (F 4 l4))) 1)) ≠ 4294967295 →
               ∃ m, m < n ∧ Rn m k_Ro_growLevel 5 [(2, p), (0, l1), (0, l2), (0, 0), (0, i_add l4 1), (3, 0), (3, 0)] [] F v F') ∧
              ((F (p + 1) (i_add (i_add l1 (i_mul 2 (F 4 l4))) 1)) = 4294967295 →
               ((F (p + 1) (i_add (i_add l1 (i_mul 2 (F 5 l4))) 1)) = (i_sub l2 1) →
                 ∃ m, m < n ∧ Rn m k_Ro_growLevel 5 [(2, p), (0, l1), (0, l2), (0, 1), (0, i_add l4 1), (3, 0), (3, 0)] [] (fu F (p + 1) (i_add (i_add l1 (i_mul 2 (F 4 l4))) 1) l2) v F') ∧
                ((F (p + 1) (i_add (i_add l1 (i_mul 2 (F 5 l4))) 1)) ≠ (i_sub l2 1) →
                 ∃ m, m < n ∧ Rn m k_Ro_growLevel 5 [(2, p), (0, l1), (0, l2), (0, 0), (0, i_add l4 1), (3, 0), (3, 0)] [] F v F'))) ∧
            (l3 ≠ 0 →
             ((F (p + 1) (i_add (i_add l1 (i_mul 2 (F 4 l4))) 1)) ≠ 4294967295 →
               ∃ m, m < n ∧ Rn m k_Ro_growLevel 5 [(2, p), (0, l1), (0, l2), (0, 1), (0, i_add l4 1), (3, 0), (3, 0)] [] F v F') ∧
              ((F (p + 1) (i_add (i_add l1 (i_mul 2 (F 4 l4))) 1)) = 4294967295 →
               ((F (p + 1) (i_add (i_add l1 (i_mul 2 (F 5 l4))) 1)) = (i_sub l2 1) →
                 ∃ m, m < n ∧ Rn m k_Ro_growLevel 5 [(2, p), (0, l1), (0, l2), (0, 1), (0, i_add l4 1), (3, 0), (3, 0)] [] (fu F (p + 1) (i_add (i_add l1 (i_mul 2 (F 4 l4))) 1) l2) v F') ∧
                ((F (p + 1) (i_add (i_add l1 (i_mul 2 (F 5 l4))) 1)) ≠ (i_sub l2 1) →
                 ∃ m, m < n ∧ Rn m k_Ro_growLevel 5 [(2, p), (0, l1), (0, l2), (0, 1), (0, i_add l4 1), (3, 0), (3, 0)] [] F v F')))))) ∧
      ((F (p + 5) l4) = 0 →
       ((F (p + 1) (i_add l1 (i_mul 2 (F 4 l4)))) ≠ 4294967295 →
         (l3 = 0 →
           ∃ m, m < n ∧ Rn m k_Ro_growLevel 5 [(2, p), (0, l1), (0, l2), (0, 0), (0, i_add l4 1), (3, 0), (3, 0)] [] F v F') ∧
          (l3 ≠ 0 →
           ∃ m, m < n ∧ Rn m k_Ro_growLevel 5 [(2, p), (0, l1), (0, l2), (0, 1), (0, i_add l4 1), (3, 0), (3, 0)] [] F v F')) ∧
        ((F (p + 1) (i_add l1 (i_mul 2 (F 4 l4)))) = 4294967295 →
         ((F (p + 1) (i_add l1 (i_mul 2 (F 5 l4)))) = (i_sub l2 1) →
           ∃ m, m < n ∧ Rn m k_Ro_growLevel 5 [(2, p), (0, l1), (0, l2), (0, 1), (0, i_add l4 1), (3, 0), (3, 0)] [] (fu F (p + 1) (i_add l1 (i_mul 2 (F 4 l4))) l2) v F') ∧
          ((F (p + 1) (i_add l1 (i_mul 2 (F 5 l4)))) ≠ (i_sub l2 1) →
           (l3 = 0 →
             ∃ m, m < n ∧ Rn m k_Ro_growLevel 5 [(2, p), (0, l1), (0, l2), (0, 0), (0, i_add l4 1), (3, 0), (3, 0)] [] F v F') ∧
            (l3 ≠ 0 →
             ∃ m, m < n ∧ Rn m k_Ro_growLevel 5 [(2, p), (0, l1), (0, l2), (0, 1), (0, i_add l4 1), (3, 0), (3, 0)] [] F v F')))))) := by
  have t := q_ok cv_94 ap_94 (hd := [(5, [1, 1, 1, 1, 1, 0, 0])]) h rfl rfl
  exact t
-- TurnNet$Routes.heaviestChannel()I
theorem c_Ro_heaviestChannel {p : Nat} {F : fx_F} {v : fx_V} {F' : fx_F} (h : Cl k_Ro_heaviestChannel [(2, p)] F v F') : ∃ n, Rn n k_Ro_heaviestChannel 0 [(2, p), (3, 0), (3, 0)] [] F v F' := by
  obtain ⟨n, s, hs, h⟩ := h
  rw [sg_95] at hs
  cases hs
  exact ⟨n, h⟩
set_option maxRecDepth 40000 in
theorem q_Ro_heaviestChannel_0 {n : Nat} {p : Nat} {F : fx_F} {v : fx_V} {F' : fx_F} (h : Rn n k_Ro_heaviestChannel 0 [(2, p), (3, 0), (3, 0)] [] F v F') :
  ∃ m, m < n ∧ Rn m k_Ro_heaviestChannel 4 [(2, p), (0, 0), (0, 1)] [] F v F' := by
  have t := q_ok cv_95 ap_95 (hd := [(4, [1, 1, 1])]) h rfl rfl
  exact t
set_option maxRecDepth 40000 in
theorem q_Ro_heaviestChannel_4 {n : Nat} {p l1 l2 : Nat} {F : fx_F} {v : fx_V} {F' : fx_F} (h : Rn n k_Ro_heaviestChannel 4 [(2, p), (0, l1), (0, l2)] [] F v F') :
  (s_le (i_mul 2 (F 3 1)) l2 →
   v = (0, l1) ∧ F' = F) ∧
  (s_lt l2 (i_mul 2 (F 3 1)) →
   (s_le (F (p + 4) l2) (F (p + 4) l1) →
     ∃ m, m < n ∧ Rn m k_Ro_heaviestChannel 4 [(2, p), (0, l1), (0, i_add l2 1)] [] F v F') ∧
    (s_lt (F (p + 4) l1) (F (p + 4) l2) →
     ∃ m, m < n ∧ Rn m k_Ro_heaviestChannel 4 [(2, p), (0, l2), (0, i_add l2 1)] [] F v F')) := by
  have t := q_ok cv_95 ap_95 (hd := [(4, [1, 1, 1])]) h rfl rfl
  exact t
-- TurnNet$Routes.hopsTogether()I
theorem c_Ro_hopsTogether {p : Nat} {F : fx_F} {v : fx_V} {F' : fx_F} (h : Cl k_Ro_hopsTogether [(2, p)] F v F') : ∃ n, Rn n k_Ro_hopsTogether 0 [(2, p), (3, 0), (3, 0), (3, 0)] [] F v F' := by
  obtain ⟨n, s, hs, h⟩ := h
  rw [sg_96] at hs
  cases hs
  exact ⟨n, h⟩
set_option maxRecDepth 40000 in
theorem q_Ro_hopsTogether_0 {n : Nat} {p : Nat} {F : fx_F} {v : fx_V} {F' : fx_F} (h : Rn n k_Ro_hopsTogether 0 [(2, p), (3, 0), (3, 0), (3, 0)] [] F v F') :
  ∃ m, m < n ∧ Rn m k_Ro_hopsTogether 4 [(2, p), (0, 0), (0, 0), (3, 0)] [] F v F' := by
  have t := q_ok cv_96 ap_96 (hd := [(4, [1, 1, 1, 0]), (17, [1, 1, 1, 1])]) h rfl rfl
  exact t
set_option maxRecDepth 40000 in
theorem q_Ro_hopsTogether_4 {n : Nat} {p l1 l2 : Nat} {F : fx_F} {v : fx_V} {F' : fx_F} (h : Rn n k_Ro_hopsTogether 4 [(2, p), (0, l1), (0, l2), (3, 0)] [] F v F') :
  (s_le (F 3 0) l2 →
   v = (0, l1) ∧ F' = F) ∧
  (s_lt l2 (F 3 0) →
   ∃ m, m < n ∧ Rn m k_Ro_hopsTogether 17 [(2, p), (0, l1), (0, l2), (0, 0)] [] F v F') := by
  have t := q_ok cv_96 ap_96 (hd := [(4, [1, 1, 1, 0]), (17, [1, 1, 1, 1])]) h rfl rfl
  exact t
set_option maxRecDepth 40000 in
theorem q_Ro_hopsTogether_17 {n : Nat} {p l1 l2 l3 : Nat} {F : fx_F} {v : fx_V} {F' : fx_F} (h : Rn n k_Ro_hopsTogether 17 [(2, p), (0, l1), (0, l2), (0, l3)] [] F v F') :
  (s_le (F 3 0) l3 →
   ∃ m, m < n ∧ Rn m k_Ro_hopsTogether 4 [(2, p), (0, l1), (0, i_add l2 1), (3, 0)] [] F v F') ∧
  (s_lt l3 (F 3 0) →
   ∃ m, m < n ∧ Rn m k_Ro_hopsTogether 17 [(2, p), (0, i_add l1 (i_max (F (p + 1) (i_add (i_mul l3 20) (i_mul 2 l2))) 0)), (0, l2), (0, i_add l3 1)] [] F v F') := by
  have t := q_ok cv_96 ap_96 (hd := [(4, [1, 1, 1, 0]), (17, [1, 1, 1, 1])]) h rfl rfl
  exact t
-- TurnNet$Routes.leadsOn(III)Z
theorem c_Ro_leadsOn {p a1 a2 a3 : Nat} {F : fx_F} {v : fx_V} {F' : fx_F} (h : Cl k_Ro_leadsOn [(2, p), (0, a1), (0, a2), (0, a3)] F v F') : ∃ n, Rn n k_Ro_leadsOn 0 [(2, p), (0, a1), (0, a2), (0, a3), (3, 0), (3, 0)] [] F v F' := by
  obtain ⟨n, s, hs, h⟩ := h
  rw [sg_97] at hs
  cases hs
  exact ⟨n, h⟩
set_option maxRecDepth 40000 in
theorem q_Ro_leadsOn_0 {n : Nat} {p a1 a2 a3 : Nat} {F : fx_F} {v : fx_V} {F' : fx_F} (h : Rn n k_Ro_leadsOn 0 [(2, p), (0, a1), (0, a2), (0, a3), (3, 0), (3, 0)] [] F v F') :
  ((i_and (i_shr (F p 2) (i_shr a2 1)) 1) ≠ 1 →
   v = (0, 0) ∧ F' = F) ∧
  ((i_and (i_shr (F p 2) (i_shr a2 1)) 1) = 1 →
   (s_le a3 (F (p + 5) a2) →
     (s_le (F (p + 1) (i_add (i_add (i_mul a1 20) (i_mul 2 (F 4 a2))) a3)) 0 →
       v = (0, 0) ∧ F' = F) ∧
      (s_lt 0 (F (p + 1) (i_add (i_add (i_mul a1 20) (i_mul 2 (F 4 a2))) a3)) →
       ((F (p + 1) (i_add (i_mul a1 20) (i_add (i_mul 2 (F 5 a2)) (F (p + 5) a2)))) ≠ (i_sub (F (p + 1) (i_add (i_add (i_mul a1 20) (i_mul 2 (F 4 a2))) a3)) 1) →
         v = (0, 0) ∧ F' = F) ∧
        ((F (p + 1) (i_add (i_mul a1 20) (i_add (i_mul 2 (F 5 a2)) (F (p + 5) a2)))) = (i_sub (F (p + 1) (i_add (i_add (i_mul a1 20) (i_mul 2 (F 4 a2))) a3)) 1) →
         v = (0, 1) ∧ F' = F))) ∧
    (s_lt (F (p + 5) a2) a3 →
     v = (0, 0) ∧ F' = F)) := by
  have t := q_ok cv_97 ap_97 (hd := []) h rfl rfl
  exact t
-- TurnNet$Routes.pairsWithout()I
theorem c_Ro_pairsWithout {p : Nat} {F : fx_F} {v : fx_V} {F' : fx_F} (h : Cl k_Ro_pairsWithout [(2, p)] F v F') : ∃ n, Rn n k_Ro_pairsWithout 0 [(2, p), (3, 0), (3, 0), (3, 0)] [] F v F' := by
  obtain ⟨n, s, hs, h⟩ := h
  rw [sg_98] at hs
  cases hs
  exact ⟨n, h⟩
set_option maxRecDepth 40000 in
theorem q_Ro_pairsWithout_0 {n : Nat} {p : Nat} {F : fx_F} {v : fx_V} {F' : fx_F} (h : Rn n k_Ro_pairsWithout 0 [(2, p), (3, 0), (3, 0), (3, 0)] [] F v F') :
  ∃ m, m < n ∧ Rn m k_Ro_pairsWithout 4 [(2, p), (0, 0), (0, 0), (3, 0)] [] F v F' := by
  have t := q_ok cv_98 ap_98 (hd := [(4, [1, 1, 1, 0]), (17, [1, 1, 1, 1])]) h rfl rfl
  exact t
set_option maxRecDepth 40000 in
theorem q_Ro_pairsWithout_4 {n : Nat} {p l1 l2 : Nat} {F : fx_F} {v : fx_V} {F' : fx_F} (h : Rn n k_Ro_pairsWithout 4 [(2, p), (0, l1), (0, l2), (3, 0)] [] F v F') :
  (s_le (F 3 0) l2 →
   v = (0, l1) ∧ F' = F) ∧
  (s_lt l2 (F 3 0) →
   ∃ m, m < n ∧ Rn m k_Ro_pairsWithout 17 [(2, p), (0, l1), (0, l2), (0, 0)] [] F v F') := by
  have t := q_ok cv_98 ap_98 (hd := [(4, [1, 1, 1, 0]), (17, [1, 1, 1, 1])]) h rfl rfl
  exact t
set_option maxRecDepth 40000 in
theorem q_Ro_pairsWithout_17 {n : Nat} {p l1 l2 l3 : Nat} {F : fx_F} {v : fx_V} {F' : fx_F} (h : Rn n k_Ro_pairsWithout 17 [(2, p), (0, l1), (0, l2), (0, l3)] [] F v F') :
  (s_le (F 3 0) l3 →
   ∃ m, m < n ∧ Rn m k_Ro_pairsWithout 4 [(2, p), (0, l1), (0, i_add l2 1), (3, 0)] [] F v F') ∧
  (s_lt l3 (F 3 0) →
   ((F (p + 1) (i_add (i_mul l3 20) (i_mul 2 l2))) ≠ 4294967295 →
     ∃ m, m < n ∧ Rn m k_Ro_pairsWithout 17 [(2, p), (0, l1), (0, l2), (0, i_add l3 1)] [] F v F') ∧
    ((F (p + 1) (i_add (i_mul l3 20) (i_mul 2 l2))) = 4294967295 →
     ∃ m, m < n ∧ Rn m k_Ro_pairsWithout 17 [(2, p), (0, i_add l1 1), (0, l2), (0, i_add l3 1)] [] F v F')) := by
  have t := q_ok cv_98 ap_98 (hd := [(4, [1, 1, 1, 0]), (17, [1, 1, 1, 1])]) h rfl rfl
  exact t
-- TurnNet$State.copyFrom(LTurnNet$State;)V
theorem c_St_copyFrom {p a1 : Nat} {F : fx_F} {v : fx_V} {F' : fx_F} (h : Cl k_St_copyFrom [(2, p), (2, a1)] F v F') : ∃ n, Rn n k_St_copyFrom 0 [(2, p), (2, a1)] [] F v F' := by
  obtain ⟨n, s, hs, h⟩ := h
  rw [sg_100] at hs
  cases hs
  exact ⟨n, h⟩
set_option maxRecDepth 40000 in
theorem q_St_copyFrom_0 {n : Nat} {p a1 : Nat} {F : fx_F} {v : fx_V} {F' : fx_F} (h : Rn n k_St_copyFrom 0 [(2, p), (2, a1)] [] F v F') :
  v = (2, 0) ∧ F' = (fcp (fcp (fcp (fcp (fu (fu (fu (fu (fu F p 0 (F a1 0)) p 1 ((fu F p 0 (F a1 0)) a1 1)) p 2 ((fu (fu F p 0 (F a1 0)) p 1 ((fu F p 0 (F a1 0)) a1 1)) a1 2)) p 3 ((fu (fu (fu F p 0 (F a1 0)) p 1 ((fu F p 0 (F a1 0)) a1 1)) p 2 ((fu (fu F p 0 (F a1 0)) p 1 ((fu F p 0 (F a1 0)) a1 1)) a1 2)) a1 3)) p 4 ((fu (fu (fu (fu F p 0 (F a1 0)) p 1 ((fu F p 0 (F a1 0)) a1 1)) p 2 ((fu (fu F p 0 (F a1 0)) p 1 ((fu F p 0 (F a1 0)) a1 1)) a1 2)) p 3 ((fu (fu (fu F p 0 (F a1 0)) p 1 ((fu F p 0 (F a1 0)) a1 1)) p 2 ((fu (fu F p 0 (F a1 0)) p 1 ((fu F p 0 (F a1 0)) a1 1)) a1 2)) a1 3)) a1 4)) (a1 + 1) (p + 1)) (a1 + 2) (p + 2)) (a1 + 3) (p + 3)) (a1 + 4) (p + 4)) := by
  have t := q_ok cv_100 ap_100 (hd := []) h rfl rfl
  exact t
-- TurnNet$State.put(II)I
theorem c_St_put {p a1 a2 : Nat} {F : fx_F} {v : fx_V} {F' : fx_F} (h : Cl k_St_put [(2, p), (0, a1), (0, a2)] F v F') : ∃ n, Rn n k_St_put 0 [(2, p), (0, a1), (0, a2), (3, 0)] [] F v F' := by
  obtain ⟨n, s, hs, h⟩ := h
  rw [sg_101] at hs
  cases hs
  exact ⟨n, h⟩
set_option maxRecDepth 40000 in
theorem q_St_put_0 {n : Nat} {p a1 a2 : Nat} {F : fx_F} {v : fx_V} {F' : fx_F} (h : Rn n k_St_put 0 [(2, p), (0, a1), (0, a2), (3, 0)] [] F v F') :
  ∃ (n1 : Nat) (F1 : fx_F), Cl k_St_freePacket [(2, p)] F (0, n1) F1 ∧
  (n1 = 4294967295 →
    v = (0, n1) ∧ F' = F1) ∧
   (n1 ≠ 4294967295 →
    v = (0, n1) ∧ F' = (fu (fu (fu (fu F1 (p + 1) n1 a1) (p + 2) n1 a2) (p + 3) n1 4294967295) (p + 4) n1 0)) := by
  have t := q_ok cv_101 ap_101 (hd := []) h rfl rfl
  exact t
-- TurnNet$Traffic.nextChannel(LTurnNet$State;LTurnNet$Routes;I)I
theorem c_Tr_nextChannel {a1 a2 a3 : Nat} {F : fx_F} {v : fx_V} {F' : fx_F} (h : Cl k_Tr_nextChannel [(2, 50), (2, a1), (2, a2), (0, a3)] F v F') : ∃ n, Rn n k_Tr_nextChannel 0 [(2, 50), (2, a1), (2, a2), (0, a3), (3, 0), (3, 0)] [] F v F' := by
  obtain ⟨n, s, hs, h⟩ := h
  rw [sg_103] at hs
  cases hs
  exact ⟨n, h⟩
set_option maxRecDepth 40000 in
theorem q_Tr_nextChannel_0 {n : Nat} {a1 a2 a3 : Nat} {F : fx_F} {v : fx_V} {F' : fx_F} (h : Rn n k_Tr_nextChannel 0 [(2, 50), (2, a1), (2, a2), (0, a3), (3, 0), (3, 0)] [] F v F') :
  ((F (a1 + 3) a3) = 4294967295 →
   v = (0, F (a2 + 2) (i_add (i_add (i_mul (F (a1 + 2) a3) 20) (i_mul 2 (F (a1 + 1) a3))) 0)) ∧ F' = F) ∧
  ((F (a1 + 3) a3) ≠ 4294967295 →
   ((i_and (i_shr (F a1 1) (i_shr (F (a1 + 3) a3) 1)) 1) = (i_and (F (a1 + 3) a3) 1) →
     v = (0, F (a2 + 2) (i_add (i_add (i_mul (F (a1 + 2) a3) 20) (i_mul 2 (F (a1 + 1) a3))) 1)) ∧ F' = F) ∧
    ((i_and (i_shr (F a1 1) (i_shr (F (a1 + 3) a3) 1)) 1) ≠ (i_and (F (a1 + 3) a3) 1) →
     v = (0, F (a2 + 2) (i_add (i_add (i_mul (F (a1 + 2) a3) 20) (i_mul 2 (F (a1 + 1) a3))) 0)) ∧ F' = F)) := by
  have t := q_ok cv_103 ap_103 (hd := []) h rfl rfl
  exact t
-- TurnNet$Turns.haveRing()Z
theorem c_Tu_haveRing {F : fx_F} {v : fx_V} {F' : fx_F} (h : Cl k_Tu_haveRing [(2, 45)] F v F') : ∃ n, Rn n k_Tu_haveRing 0 [(2, 45), (3, 0), (3, 0), (3, 0), (3, 0), (3, 0)] [] F v F' := by
  obtain ⟨n, s, hs, h⟩ := h
  rw [sg_105] at hs
  cases hs
  exact ⟨n, h⟩
set_option maxRecDepth 40000 in
theorem q_Tu_haveRing_0 {n : Nat} {F : fx_F} {v : fx_V} {F' : fx_F} (h : Rn n k_Tu_haveRing 0 [(2, 45), (3, 0), (3, 0), (3, 0), (3, 0), (3, 0)] [] F v F') :
  ∃ m, m < n ∧ Rn m k_Tu_haveRing 17 [(2, 45), (1, rx_j_sub (rx_j_shl 1 (i_mul 2 (F 3 1))) 1), (3, 0), (0, 1), (0, 0), (3, 0)] [] F v F' := by
  have t := q_ok cv_105 ap_105 (hd := [(17, [1, 1, 0, 1, 1, 0]), (33, [1, 1, 0, 1, 1, 1])]) h rfl rfl
  exact t
set_option maxRecDepth 40000 in
theorem q_Tu_haveRing_17 {n : Nat} {l1 l3 l4 : Nat} {F : fx_F} {v : fx_V} {F' : fx_F} (h : Rn n k_Tu_haveRing 17 [(2, 45), (1, l1), (3, 0), (0, l3), (0, l4), (3, 0)] [] F v F') :
  (s_lt 40 l4 →
   ((rx_f_lcmp l1 0) = 0 →
     v = (0, 0) ∧ F' = F) ∧
    ((rx_f_lcmp l1 0) ≠ 0 →
     v = (0, 1) ∧ F' = F)) ∧
  (s_le l4 40 →
   (l3 = 0 →
     ((rx_f_lcmp l1 0) = 0 →
       v = (0, 0) ∧ F' = F) ∧
      ((rx_f_lcmp l1 0) ≠ 0 →
       v = (0, 1) ∧ F' = F)) ∧
    (l3 ≠ 0 →
     ∃ m, m < n ∧ Rn m k_Tu_haveRing 33 [(2, 45), (1, l1), (3, 0), (0, 0), (0, l4), (0, 0)] [] F v F')) := by
  have t := q_ok cv_105 ap_105 (hd := [(17, [1, 1, 0, 1, 1, 0]), (33, [1, 1, 0, 1, 1, 1])]) h rfl rfl
  exact t
set_option maxRecDepth 40000 in
theorem q_Tu_haveRing_33 {n : Nat} {l1 l3 l4 l5 : Nat} {F : fx_F} {v : fx_V} {F' : fx_F} (h : Rn n k_Tu_haveRing 33 [(2, 45), (1, l1), (3, 0), (0, l3), (0, l4), (0, l5)] [] F v F') :
  (s_le (i_mul 2 (F 3 1)) l5 →
   ∃ m, m < n ∧ Rn m k_Tu_haveRing 17 [(2, 45), (1, l1), (3, 0), (0, l3), (0, i_add l4 1), (3, 0)] [] F v F') ∧
  (s_lt l5 (i_mul 2 (F 3 1)) →
   ((rx_f_lcmp (rx_j_and (rx_j_shr l1 l5) 1) 1) ≠ 0 →
     ∃ m, m < n ∧ Rn m k_Tu_haveRing 33 [(2, 45), (1, l1), (3, 0), (0, l3), (0, l4), (0, i_add l5 1)] [] F v F') ∧
    ((rx_f_lcmp (rx_j_and (rx_j_shr l1 l5) 1) 1) = 0 →
     ((rx_f_lcmp (rx_j_and (F 47 l5) l1) 0) ≠ 0 →
       ∃ m, m < n ∧ Rn m k_Tu_haveRing 33 [(2, 45), (1, l1), (3, 0), (0, l3), (0, l4), (0, i_add l5 1)] [] F v F') ∧
      ((rx_f_lcmp (rx_j_and (F 47 l5) l1) 0) = 0 →
       ∃ m, m < n ∧ Rn m k_Tu_haveRing 33 [(2, 45), (1, rx_j_and l1 (rx_j_xor (rx_j_shl 1 l5) 18446744073709551615)), (3, 0), (0, 1), (0, l4), (0, i_add l5 1)] [] F v F'))) := by
  have t := q_ok cv_105 ap_105 (hd := [(17, [1, 1, 0, 1, 1, 0]), (33, [1, 1, 0, 1, 1, 1])]) h rfl rfl
  exact t
-- TurnNet$Turns.ontoFrom(J)J
theorem c_Tu_ontoFrom {a1 : Nat} {F : fx_F} {v : fx_V} {F' : fx_F} (h : Cl k_Tu_ontoFrom [(2, 45), (1, a1)] F v F') : ∃ n, Rn n k_Tu_ontoFrom 0 [(2, 45), (1, a1), (3, 0), (3, 0), (3, 0), (3, 0)] [] F v F' := by
  obtain ⟨n, s, hs, h⟩ := h
  rw [sg_106] at hs
  cases hs
  exact ⟨n, h⟩
set_option maxRecDepth 40000 in
theorem q_Tu_ontoFrom_0 {n : Nat} {a1 : Nat} {F : fx_F} {v : fx_V} {F' : fx_F} (h : Rn n k_Tu_ontoFrom 0 [(2, 45), (1, a1), (3, 0), (3, 0), (3, 0), (3, 0)] [] F v F') :
  ∃ m, m < n ∧ Rn m k_Tu_ontoFrom 5 [(2, 45), (1, a1), (3, 0), (1, 0), (3, 0), (0, 0)] [] F v F' := by
  have t := q_ok cv_106 ap_106 (hd := [(5, [1, 1, 0, 1, 0, 1])]) h rfl rfl
  exact t
set_option maxRecDepth 40000 in
theorem q_Tu_ontoFrom_5 {n : Nat} {l1 l3 l5 : Nat} {F : fx_F} {v : fx_V} {F' : fx_F} (h : Rn n k_Tu_ontoFrom 5 [(2, 45), (1, l1), (3, 0), (1, l3), (3, 0), (0, l5)] [] F v F') :
  (s_le (i_mul 2 (F 3 1)) l5 →
   v = (1, l3) ∧ F' = F) ∧
  (s_lt l5 (i_mul 2 (F 3 1)) →
   ((rx_f_lcmp (rx_j_and (rx_j_shr l1 l5) 1) 1) ≠ 0 →
     ∃ m, m < n ∧ Rn m k_Tu_ontoFrom 5 [(2, 45), (1, l1), (3, 0), (1, l3), (3, 0), (0, i_add l5 1)] [] F v F') ∧
    ((rx_f_lcmp (rx_j_and (rx_j_shr l1 l5) 1) 1) = 0 →
     ∃ m, m < n ∧ Rn m k_Tu_ontoFrom 5 [(2, 45), (1, l1), (3, 0), (1, rx_j_or l3 (F 47 l5)), (3, 0), (0, i_add l5 1)] [] F v F')) := by
  have t := q_ok cv_106 ap_106 (hd := [(5, [1, 1, 0, 1, 0, 1])]) h rfl rfl
  exact t
end
