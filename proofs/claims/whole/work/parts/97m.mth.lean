/-! Every method holds: 210 to 314. -/
set_option maxRecDepth 1000000 in
theorem mh9_210 : mthC2 210 = true := by decide +kernel
set_option maxRecDepth 1000000 in
theorem mh9_211 : mthC2 211 = true := by decide +kernel
set_option maxRecDepth 1000000 in
theorem mh9_212 : mthC2 212 = true := by decide +kernel
set_option maxRecDepth 1000000 in
theorem mh9_213 : mthC2 213 = true := by decide +kernel
set_option maxRecDepth 1000000 in
theorem mh9_214 : mthC2 214 = true := by decide +kernel
set_option maxRecDepth 1000000 in
theorem mh9_215 : mthC2 215 = true := by decide +kernel
set_option maxRecDepth 1000000 in
theorem mh9_216 : mthC2 216 = true := by decide +kernel
set_option maxRecDepth 1000000 in
theorem mh9_217 : mthC2 217 = true := by decide +kernel
set_option maxRecDepth 1000000 in
theorem mh9_218 : mthC2 218 = true := by decide +kernel
set_option maxRecDepth 1000000 in
theorem mh9_219 : mthC2 219 = true := by decide +kernel
set_option maxRecDepth 1000000 in
theorem mh9_220 : mthC2 220 = true := by decide +kernel
set_option maxRecDepth 1000000 in
theorem mh9_221 : mthC2 221 = true := by decide +kernel
set_option maxRecDepth 1000000 in
theorem mh9_222 : mthC2 222 = true := by decide +kernel
set_option maxRecDepth 1000000 in
theorem mh9_223 : mthC2 223 = true := by decide +kernel
set_option maxRecDepth 1000000 in
theorem mh9_224 : mthC2 224 = true := by decide +kernel
set_option maxRecDepth 1000000 in
theorem mh9_225 : mthC2 225 = true := by decide +kernel
set_option maxRecDepth 1000000 in
theorem mh9_226 : mthC2 226 = true := by decide +kernel
set_option maxRecDepth 1000000 in
theorem mh9_227 : mthC2 227 = true := by decide +kernel
set_option maxRecDepth 1000000 in
theorem mh9_228 : mthC2 228 = true := by decide +kernel
set_option maxRecDepth 1000000 in
theorem mh9_229 : mthC2 229 = true := by decide +kernel
set_option maxRecDepth 1000000 in
theorem mh9_230 : mthC2 230 = true := by decide +kernel
set_option maxRecDepth 1000000 in
theorem mh9_231 : mthC2 231 = true := by decide +kernel
set_option maxRecDepth 1000000 in
theorem mh9_232 : mthC2 232 = true := by decide +kernel
set_option maxRecDepth 1000000 in
theorem mh9_233 : mthC2 233 = true := by decide +kernel
set_option maxRecDepth 1000000 in
theorem mh9_234 : mthC2 234 = true := by decide +kernel
set_option maxRecDepth 1000000 in
theorem mh9_235 : mthC2 235 = true := by decide +kernel
set_option maxRecDepth 1000000 in
theorem mh9_236 : mthC2 236 = true := by decide +kernel
set_option maxRecDepth 1000000 in
theorem mh9_237 : mthC2 237 = true := by decide +kernel
set_option maxRecDepth 1000000 in
theorem mh9_238 : mthC2 238 = true := by decide +kernel
set_option maxRecDepth 1000000 in
theorem mh9_239 : mthC2 239 = true := by decide +kernel
set_option maxRecDepth 1000000 in
theorem mh9_240 : mthC2 240 = true := by decide +kernel
set_option maxRecDepth 1000000 in
theorem mh9_241 : mthC2 241 = true := by decide +kernel
set_option maxRecDepth 1000000 in
theorem mh9_242 : mthC2 242 = true := by decide +kernel
set_option maxRecDepth 1000000 in
theorem mh9_243 : mthC2 243 = true := by decide +kernel
set_option maxRecDepth 1000000 in
theorem mh9_244 : mthC2 244 = true := by decide +kernel
set_option maxRecDepth 1000000 in
theorem mh9_245 : mthC2 245 = true := by decide +kernel
set_option maxRecDepth 1000000 in
theorem mh9_246 : mthC2 246 = true := by decide +kernel
set_option maxRecDepth 1000000 in
theorem mh9_247 : mthC2 247 = true := by decide +kernel
set_option maxRecDepth 1000000 in
theorem mh9_248 : mthC2 248 = true := by decide +kernel
set_option maxRecDepth 1000000 in
theorem mh9_249 : mthC2 249 = true := by decide +kernel
set_option maxRecDepth 1000000 in
theorem mh9_250 : mthC2 250 = true := by decide +kernel
set_option maxRecDepth 1000000 in
theorem mh9_251 : mthC2 251 = true := by decide +kernel
set_option maxRecDepth 1000000 in
theorem mh9_252 : mthC2 252 = true := by decide +kernel
set_option maxRecDepth 1000000 in
theorem mh9_253 : mthC2 253 = true := by decide +kernel
set_option maxRecDepth 1000000 in
theorem mh9_254 : mthC2 254 = true := by decide +kernel
set_option maxRecDepth 1000000 in
theorem mh9_255 : mthC2 255 = true := by decide +kernel
set_option maxRecDepth 1000000 in
theorem mh9_256 : mthC2 256 = true := by decide +kernel
set_option maxRecDepth 1000000 in
theorem mh9_257 : mthC2 257 = true := by decide +kernel
set_option maxRecDepth 1000000 in
theorem mh9_258 : mthC2 258 = true := by decide +kernel
set_option maxRecDepth 1000000 in
theorem mh9_259 : mthC2 259 = true := by decide +kernel
set_option maxRecDepth 1000000 in
theorem mh9_260 : mthC2 260 = true := by decide +kernel
set_option maxRecDepth 1000000 in
theorem mh9_261 : mthC2 261 = true := by decide +kernel
set_option maxRecDepth 1000000 in
theorem mh9_262 : mthC2 262 = true := by decide +kernel
set_option maxRecDepth 1000000 in
theorem mh9_263 : mthC2 263 = true := by decide +kernel
set_option maxRecDepth 1000000 in
theorem mh9_264 : mthC2 264 = true := by decide +kernel
set_option maxRecDepth 1000000 in
theorem mh9_265 : mthC2 265 = true := by decide +kernel
set_option maxRecDepth 1000000 in
theorem mh9_266 : mthC2 266 = true := by decide +kernel
set_option maxRecDepth 1000000 in
theorem mh9_267 : mthC2 267 = true := by decide +kernel
set_option maxRecDepth 1000000 in
theorem mh9_268 : mthC2 268 = true := by decide +kernel
set_option maxRecDepth 1000000 in
theorem mh9_269 : mthC2 269 = true := by decide +kernel
set_option maxRecDepth 1000000 in
theorem mh9_270 : mthC2 270 = true := by decide +kernel
set_option maxRecDepth 1000000 in
theorem mh9_271 : mthC2 271 = true := by decide +kernel
set_option maxRecDepth 1000000 in
theorem mh9_272 : mthC2 272 = true := by decide +kernel
set_option maxRecDepth 1000000 in
theorem mh9_273 : mthC2 273 = true := by decide +kernel
set_option maxRecDepth 1000000 in
theorem mh9_274 : mthC2 274 = true := by decide +kernel
set_option maxRecDepth 1000000 in
theorem mh9_275 : mthC2 275 = true := by decide +kernel
set_option maxRecDepth 1000000 in
theorem mh9_276 : mthC2 276 = true := by decide +kernel
set_option maxRecDepth 1000000 in
theorem mh9_277 : mthC2 277 = true := by decide +kernel
set_option maxRecDepth 1000000 in
theorem mh9_278 : mthC2 278 = true := by decide +kernel
set_option maxRecDepth 1000000 in
theorem mh9_279 : mthC2 279 = true := by decide +kernel
set_option maxRecDepth 1000000 in
theorem mh9_280 : mthC2 280 = true := by decide +kernel
set_option maxRecDepth 1000000 in
theorem mh9_281 : mthC2 281 = true := by decide +kernel
set_option maxRecDepth 1000000 in
theorem mh9_282 : mthC2 282 = true := by decide +kernel
set_option maxRecDepth 1000000 in
theorem mh9_283 : mthC2 283 = true := by decide +kernel
set_option maxRecDepth 1000000 in
theorem mh9_284 : mthC2 284 = true := by decide +kernel
set_option maxRecDepth 1000000 in
theorem mh9_285 : mthC2 285 = true := by decide +kernel
set_option maxRecDepth 1000000 in
theorem mh9_286 : mthC2 286 = true := by decide +kernel
set_option maxRecDepth 1000000 in
theorem mh9_287 : mthC2 287 = true := by decide +kernel
set_option maxRecDepth 1000000 in
theorem mh9_288 : mthC2 288 = true := by decide +kernel
set_option maxRecDepth 1000000 in
theorem mh9_289 : mthC2 289 = true := by decide +kernel
set_option maxRecDepth 1000000 in
theorem mh9_290 : mthC2 290 = true := by decide +kernel
set_option maxRecDepth 1000000 in
theorem mh9_291 : mthC2 291 = true := by decide +kernel
set_option maxRecDepth 1000000 in
theorem mh9_292 : mthC2 292 = true := by decide +kernel
set_option maxRecDepth 1000000 in
theorem mh9_293 : mthC2 293 = true := by decide +kernel
set_option maxRecDepth 1000000 in
theorem mh9_294 : mthC2 294 = true := by decide +kernel
set_option maxRecDepth 1000000 in
theorem mh9_295 : mthC2 295 = true := by decide +kernel
set_option maxRecDepth 1000000 in
theorem mh9_296 : mthC2 296 = true := by decide +kernel
set_option maxRecDepth 1000000 in
theorem mh9_297 : mthC2 297 = true := by decide +kernel
set_option maxRecDepth 1000000 in
theorem mh9_298 : mthC2 298 = true := by decide +kernel
set_option maxRecDepth 1000000 in
theorem mh9_299 : mthC2 299 = true := by decide +kernel
set_option maxRecDepth 1000000 in
theorem mh9_300 : mthC2 300 = true := by decide +kernel
set_option maxRecDepth 1000000 in
theorem mh9_301 : mthC2 301 = true := by decide +kernel
set_option maxRecDepth 1000000 in
theorem mh9_302 : mthC2 302 = true := by decide +kernel
set_option maxRecDepth 1000000 in
theorem mh9_303 : mthC2 303 = true := by decide +kernel
set_option maxRecDepth 1000000 in
theorem mh9_304 : mthC2 304 = true := by decide +kernel
set_option maxRecDepth 1000000 in
theorem mh9_305 : mthC2 305 = true := by decide +kernel
set_option maxRecDepth 1000000 in
theorem mh9_306 : mthC2 306 = true := by decide +kernel
set_option maxRecDepth 1000000 in
theorem mh9_307 : mthC2 307 = true := by decide +kernel
set_option maxRecDepth 1000000 in
theorem mh9_308 : mthC2 308 = true := by decide +kernel
set_option maxRecDepth 1000000 in
theorem mh9_309 : mthC2 309 = true := by decide +kernel
set_option maxRecDepth 1000000 in
theorem mh9_310 : mthC2 310 = true := by decide +kernel
set_option maxRecDepth 1000000 in
theorem mh9_311 : mthC2 311 = true := by decide +kernel
set_option maxRecDepth 1000000 in
theorem mh9_312 : mthC2 312 = true := by decide +kernel
set_option maxRecDepth 1000000 in
theorem mh9_313 : mthC2 313 = true := by decide +kernel
set_option maxRecDepth 1000000 in
theorem mh9_314 : mthC2 314 = true := by decide +kernel
