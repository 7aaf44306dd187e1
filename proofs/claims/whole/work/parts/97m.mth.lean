/-! Every method holds: 210 to 314. -/
set_option maxRecDepth 1000000 in
theorem mt_210 : mthC2 210 = true := by decide +kernel
set_option maxRecDepth 1000000 in
theorem mt_211 : mthC2 211 = true := by decide +kernel
set_option maxRecDepth 1000000 in
theorem mt_212 : mthC2 212 = true := by decide +kernel
set_option maxRecDepth 1000000 in
theorem mt_213 : mthC2 213 = true := by decide +kernel
set_option maxRecDepth 1000000 in
theorem mt_214 : mthC2 214 = true := by decide +kernel
set_option maxRecDepth 1000000 in
theorem mt_215 : mthC2 215 = true := by decide +kernel
set_option maxRecDepth 1000000 in
theorem mt_216 : mthC2 216 = true := by decide +kernel
set_option maxRecDepth 1000000 in
theorem mt_217 : mthC2 217 = true := by decide +kernel
set_option maxRecDepth 1000000 in
theorem mt_218 : mthC2 218 = true := by decide +kernel
set_option maxRecDepth 1000000 in
theorem mt_219 : mthC2 219 = true := by decide +kernel
set_option maxRecDepth 1000000 in
theorem mt_220 : mthC2 220 = true := by decide +kernel
set_option maxRecDepth 1000000 in
theorem mt_221 : mthC2 221 = true := by decide +kernel
set_option maxRecDepth 1000000 in
theorem mt_222 : mthC2 222 = true := by decide +kernel
set_option maxRecDepth 1000000 in
theorem mt_223 : mthC2 223 = true := by decide +kernel
set_option maxRecDepth 1000000 in
theorem mt_224 : mthC2 224 = true := by decide +kernel
set_option maxRecDepth 1000000 in
theorem mt_225 : mthC2 225 = true := by decide +kernel
set_option maxRecDepth 1000000 in
theorem mt_226 : mthC2 226 = true := by decide +kernel
set_option maxRecDepth 1000000 in
theorem mt_227 : mthC2 227 = true := by decide +kernel
set_option maxRecDepth 1000000 in
theorem mt_228 : mthC2 228 = true := by decide +kernel
set_option maxRecDepth 1000000 in
theorem mt_229 : mthC2 229 = true := by decide +kernel
set_option maxRecDepth 1000000 in
theorem mt_230 : mthC2 230 = true := by decide +kernel
set_option maxRecDepth 1000000 in
theorem mt_231 : mthC2 231 = true := by decide +kernel
set_option maxRecDepth 1000000 in
theorem mt_232 : mthC2 232 = true := by decide +kernel
set_option maxRecDepth 1000000 in
theorem mt_233 : mthC2 233 = true := by decide +kernel
set_option maxRecDepth 1000000 in
theorem mt_234 : mthC2 234 = true := by decide +kernel
set_option maxRecDepth 1000000 in
theorem mt_235 : mthC2 235 = true := by decide +kernel
set_option maxRecDepth 1000000 in
theorem mt_236 : mthC2 236 = true := by decide +kernel
set_option maxRecDepth 1000000 in
theorem mt_237 : mthC2 237 = true := by decide +kernel
set_option maxRecDepth 1000000 in
theorem mt_238 : mthC2 238 = true := by decide +kernel
set_option maxRecDepth 1000000 in
theorem mt_239 : mthC2 239 = true := by decide +kernel
set_option maxRecDepth 1000000 in
theorem mt_240 : mthC2 240 = true := by decide +kernel
set_option maxRecDepth 1000000 in
theorem mt_241 : mthC2 241 = true := by decide +kernel
set_option maxRecDepth 1000000 in
theorem mt_242 : mthC2 242 = true := by decide +kernel
set_option maxRecDepth 1000000 in
theorem mt_243 : mthC2 243 = true := by decide +kernel
set_option maxRecDepth 1000000 in
theorem mt_244 : mthC2 244 = true := by decide +kernel
set_option maxRecDepth 1000000 in
theorem mt_245 : mthC2 245 = true := by decide +kernel
set_option maxRecDepth 1000000 in
theorem mt_246 : mthC2 246 = true := by decide +kernel
set_option maxRecDepth 1000000 in
theorem mt_247 : mthC2 247 = true := by decide +kernel
set_option maxRecDepth 1000000 in
theorem mt_248 : mthC2 248 = true := by decide +kernel
set_option maxRecDepth 1000000 in
theorem mt_249 : mthC2 249 = true := by decide +kernel
set_option maxRecDepth 1000000 in
theorem mt_250 : mthC2 250 = true := by decide +kernel
set_option maxRecDepth 1000000 in
theorem mt_251 : mthC2 251 = true := by decide +kernel
set_option maxRecDepth 1000000 in
theorem mt_252 : mthC2 252 = true := by decide +kernel
set_option maxRecDepth 1000000 in
theorem mt_253 : mthC2 253 = true := by decide +kernel
set_option maxRecDepth 1000000 in
theorem mt_254 : mthC2 254 = true := by decide +kernel
set_option maxRecDepth 1000000 in
theorem mt_255 : mthC2 255 = true := by decide +kernel
set_option maxRecDepth 1000000 in
theorem mt_256 : mthC2 256 = true := by decide +kernel
set_option maxRecDepth 1000000 in
theorem mt_257 : mthC2 257 = true := by decide +kernel
set_option maxRecDepth 1000000 in
theorem mt_258 : mthC2 258 = true := by decide +kernel
set_option maxRecDepth 1000000 in
theorem mt_259 : mthC2 259 = true := by decide +kernel
set_option maxRecDepth 1000000 in
theorem mt_260 : mthC2 260 = true := by decide +kernel
set_option maxRecDepth 1000000 in
theorem mt_261 : mthC2 261 = true := by decide +kernel
set_option maxRecDepth 1000000 in
theorem mt_262 : mthC2 262 = true := by decide +kernel
set_option maxRecDepth 1000000 in
theorem mt_263 : mthC2 263 = true := by decide +kernel
set_option maxRecDepth 1000000 in
theorem mt_264 : mthC2 264 = true := by decide +kernel
set_option maxRecDepth 1000000 in
theorem mt_265 : mthC2 265 = true := by decide +kernel
set_option maxRecDepth 1000000 in
theorem mt_266 : mthC2 266 = true := by decide +kernel
set_option maxRecDepth 1000000 in
theorem mt_267 : mthC2 267 = true := by decide +kernel
set_option maxRecDepth 1000000 in
theorem mt_268 : mthC2 268 = true := by decide +kernel
set_option maxRecDepth 1000000 in
theorem mt_269 : mthC2 269 = true := by decide +kernel
set_option maxRecDepth 1000000 in
theorem mt_270 : mthC2 270 = true := by decide +kernel
set_option maxRecDepth 1000000 in
theorem mt_271 : mthC2 271 = true := by decide +kernel
set_option maxRecDepth 1000000 in
theorem mt_272 : mthC2 272 = true := by decide +kernel
set_option maxRecDepth 1000000 in
theorem mt_273 : mthC2 273 = true := by decide +kernel
set_option maxRecDepth 1000000 in
theorem mt_274 : mthC2 274 = true := by decide +kernel
set_option maxRecDepth 1000000 in
theorem mt_275 : mthC2 275 = true := by decide +kernel
set_option maxRecDepth 1000000 in
theorem mt_276 : mthC2 276 = true := by decide +kernel
set_option maxRecDepth 1000000 in
theorem mt_277 : mthC2 277 = true := by decide +kernel
set_option maxRecDepth 1000000 in
theorem mt_278 : mthC2 278 = true := by decide +kernel
set_option maxRecDepth 1000000 in
theorem mt_279 : mthC2 279 = true := by decide +kernel
set_option maxRecDepth 1000000 in
theorem mt_280 : mthC2 280 = true := by decide +kernel
set_option maxRecDepth 1000000 in
theorem mt_281 : mthC2 281 = true := by decide +kernel
set_option maxRecDepth 1000000 in
theorem mt_282 : mthC2 282 = true := by decide +kernel
set_option maxRecDepth 1000000 in
theorem mt_283 : mthC2 283 = true := by decide +kernel
set_option maxRecDepth 1000000 in
theorem mt_284 : mthC2 284 = true := by decide +kernel
set_option maxRecDepth 1000000 in
theorem mt_285 : mthC2 285 = true := by decide +kernel
set_option maxRecDepth 1000000 in
theorem mt_286 : mthC2 286 = true := by decide +kernel
set_option maxRecDepth 1000000 in
theorem mt_287 : mthC2 287 = true := by decide +kernel
set_option maxRecDepth 1000000 in
theorem mt_288 : mthC2 288 = true := by decide +kernel
set_option maxRecDepth 1000000 in
theorem mt_289 : mthC2 289 = true := by decide +kernel
set_option maxRecDepth 1000000 in
theorem mt_290 : mthC2 290 = true := by decide +kernel
set_option maxRecDepth 1000000 in
theorem mt_291 : mthC2 291 = true := by decide +kernel
set_option maxRecDepth 1000000 in
theorem mt_292 : mthC2 292 = true := by decide +kernel
set_option maxRecDepth 1000000 in
theorem mt_293 : mthC2 293 = true := by decide +kernel
set_option maxRecDepth 1000000 in
theorem mt_294 : mthC2 294 = true := by decide +kernel
set_option maxRecDepth 1000000 in
theorem mt_295 : mthC2 295 = true := by decide +kernel
set_option maxRecDepth 1000000 in
theorem mt_296 : mthC2 296 = true := by decide +kernel
set_option maxRecDepth 1000000 in
theorem mt_297 : mthC2 297 = true := by decide +kernel
set_option maxRecDepth 1000000 in
theorem mt_298 : mthC2 298 = true := by decide +kernel
set_option maxRecDepth 1000000 in
theorem mt_299 : mthC2 299 = true := by decide +kernel
set_option maxRecDepth 1000000 in
theorem mt_300 : mthC2 300 = true := by decide +kernel
set_option maxRecDepth 1000000 in
theorem mt_301 : mthC2 301 = true := by decide +kernel
set_option maxRecDepth 1000000 in
theorem mt_302 : mthC2 302 = true := by decide +kernel
set_option maxRecDepth 1000000 in
theorem mt_303 : mthC2 303 = true := by decide +kernel
set_option maxRecDepth 1000000 in
theorem mt_304 : mthC2 304 = true := by decide +kernel
set_option maxRecDepth 1000000 in
theorem mt_305 : mthC2 305 = true := by decide +kernel
set_option maxRecDepth 1000000 in
theorem mt_306 : mthC2 306 = true := by decide +kernel
set_option maxRecDepth 1000000 in
theorem mt_307 : mthC2 307 = true := by decide +kernel
set_option maxRecDepth 1000000 in
theorem mt_308 : mthC2 308 = true := by decide +kernel
set_option maxRecDepth 1000000 in
theorem mt_309 : mthC2 309 = true := by decide +kernel
set_option maxRecDepth 1000000 in
theorem mt_310 : mthC2 310 = true := by decide +kernel
set_option maxRecDepth 1000000 in
theorem mt_311 : mthC2 311 = true := by decide +kernel
set_option maxRecDepth 1000000 in
theorem mt_312 : mthC2 312 = true := by decide +kernel
set_option maxRecDepth 1000000 in
theorem mt_313 : mthC2 313 = true := by decide +kernel
set_option maxRecDepth 1000000 in
theorem mt_314 : mthC2 314 = true := by decide +kernel
