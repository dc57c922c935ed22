set_option maxRecDepth 100000 in
theorem px_v215 : px_okm 215 = true := by decide +kernel
set_option maxRecDepth 100000 in
theorem px_v216 : px_okm 216 = true := by decide +kernel
set_option maxRecDepth 100000 in
theorem px_v217 : px_okm 217 = true := by decide +kernel
set_option maxRecDepth 100000 in
theorem px_v218 : px_okm 218 = true := by decide +kernel
set_option maxRecDepth 100000 in
theorem px_v219 : px_okm 219 = true := by decide +kernel
set_option maxRecDepth 100000 in
theorem px_v220 : px_okm 220 = true := by decide +kernel
set_option maxRecDepth 100000 in
theorem px_v221 : px_okm 221 = true := by decide +kernel
set_option maxRecDepth 100000 in
theorem px_v222 : px_okm 222 = true := by decide +kernel
set_option maxRecDepth 100000 in
theorem px_v223 : px_okm 223 = true := by decide +kernel
set_option maxRecDepth 100000 in
theorem px_v224 : px_okm 224 = true := by decide +kernel
set_option maxRecDepth 100000 in
theorem px_v225 : px_okm 225 = true := by decide +kernel
set_option maxRecDepth 100000 in
theorem px_v226 : px_okm 226 = true := by decide +kernel
set_option maxRecDepth 100000 in
theorem px_v227 : px_okm 227 = true := by decide +kernel
set_option maxRecDepth 100000 in
theorem px_v228 : px_okm 228 = true := by decide +kernel
set_option maxRecDepth 100000 in
theorem px_v229 : px_okm 229 = true := by decide +kernel
set_option maxRecDepth 100000 in
theorem px_v230 : px_okm 230 = true := by decide +kernel
set_option maxRecDepth 100000 in
theorem px_v231 : px_okm 231 = true := by decide +kernel
set_option maxRecDepth 100000 in
theorem px_v232 : px_okm 232 = true := by decide +kernel
set_option maxRecDepth 100000 in
theorem px_v233 : px_okm 233 = true := by decide +kernel
set_option maxRecDepth 100000 in
theorem px_v234 : px_okm 234 = true := by decide +kernel
set_option maxRecDepth 100000 in
theorem px_v235 : px_okm 235 = true := by decide +kernel
set_option maxRecDepth 100000 in
theorem px_v236 : px_okm 236 = true := by decide +kernel
set_option maxRecDepth 100000 in
theorem px_v237 : px_okm 237 = true := by decide +kernel
set_option maxRecDepth 100000 in
theorem px_v238 : px_okm 238 = true := by decide +kernel
set_option maxRecDepth 100000 in
theorem px_v239 : px_okm 239 = true := by decide +kernel
set_option maxRecDepth 100000 in
theorem px_v240 : px_okm 240 = true := by decide +kernel
set_option maxRecDepth 100000 in
theorem px_v241 : px_okm 241 = true := by decide +kernel
set_option maxRecDepth 100000 in
theorem px_v242 : px_okm 242 = true := by decide +kernel
set_option maxRecDepth 100000 in
theorem px_v243 : px_okm 243 = true := by decide +kernel
set_option maxRecDepth 100000 in
theorem px_v244 : px_okm 244 = true := by decide +kernel
set_option maxRecDepth 100000 in
theorem px_v245 : px_okm 245 = true := by decide +kernel
set_option maxRecDepth 100000 in
theorem px_v246 : px_okm 246 = true := by decide +kernel
set_option maxRecDepth 100000 in
theorem px_v247 : px_okm 247 = true := by decide +kernel
set_option maxRecDepth 100000 in
theorem px_v248 : px_okm 248 = true := by decide +kernel
set_option maxRecDepth 100000 in
theorem px_v249 : px_okm 249 = true := by decide +kernel
set_option maxRecDepth 100000 in
theorem px_v250 : px_okm 250 = true := by decide +kernel
set_option maxRecDepth 100000 in
theorem px_v251 : px_okm 251 = true := by decide +kernel
set_option maxRecDepth 100000 in
theorem px_v252 : px_okm 252 = true := by decide +kernel
set_option maxRecDepth 100000 in
theorem px_v253 : px_okm 253 = true := by decide +kernel
set_option maxRecDepth 100000 in
theorem px_v254 : px_okm 254 = true := by decide +kernel
set_option maxRecDepth 100000 in
theorem px_v255 : px_okm 255 = true := by decide +kernel
set_option maxRecDepth 100000 in
theorem px_v256 : px_okm 256 = true := by decide +kernel
set_option maxRecDepth 100000 in
theorem px_v257 : px_okm 257 = true := by decide +kernel
set_option maxRecDepth 100000 in
theorem px_v258 : px_okm 258 = true := by decide +kernel
set_option maxRecDepth 100000 in
theorem px_v259 : px_okm 259 = true := by decide +kernel
set_option maxRecDepth 100000 in
theorem px_v260 : px_okm 260 = true := by decide +kernel
set_option maxRecDepth 100000 in
theorem px_v261 : px_okm 261 = true := by decide +kernel
set_option maxRecDepth 100000 in
theorem px_v262 : px_okm 262 = true := by decide +kernel
set_option maxRecDepth 100000 in
theorem px_v263 : px_okm 263 = true := by decide +kernel
set_option maxRecDepth 100000 in
theorem px_v264 : px_okm 264 = true := by decide +kernel
set_option maxRecDepth 100000 in
theorem px_v265 : px_okm 265 = true := by decide +kernel
set_option maxRecDepth 100000 in
theorem px_v266 : px_okm 266 = true := by decide +kernel
set_option maxRecDepth 100000 in
theorem px_v267 : px_okm 267 = true := by decide +kernel
set_option maxRecDepth 100000 in
theorem px_v268 : px_okm 268 = true := by decide +kernel
set_option maxRecDepth 100000 in
theorem px_v269 : px_okm 269 = true := by decide +kernel
set_option maxRecDepth 100000 in
theorem px_v270 : px_okm 270 = true := by decide +kernel
set_option maxRecDepth 100000 in
theorem px_v271 : px_okm 271 = true := by decide +kernel
set_option maxRecDepth 100000 in
theorem px_v272 : px_okm 272 = true := by decide +kernel
set_option maxRecDepth 100000 in
theorem px_v273 : px_okm 273 = true := by decide +kernel
set_option maxRecDepth 100000 in
theorem px_v274 : px_okm 274 = true := by decide +kernel
set_option maxRecDepth 100000 in
theorem px_v275 : px_okm 275 = true := by decide +kernel
set_option maxRecDepth 100000 in
theorem px_v276 : px_okm 276 = true := by decide +kernel
set_option maxRecDepth 100000 in
theorem px_v277 : px_okm 277 = true := by decide +kernel
set_option maxRecDepth 100000 in
theorem px_v278 : px_okm 278 = true := by decide +kernel
set_option maxRecDepth 100000 in
theorem px_v279 : px_okm 279 = true := by decide +kernel
set_option maxRecDepth 100000 in
theorem px_v280 : px_okm 280 = true := by decide +kernel
set_option maxRecDepth 100000 in
theorem px_v281 : px_okm 281 = true := by decide +kernel
set_option maxRecDepth 100000 in
theorem px_v283 : px_okm 283 = true := by decide +kernel
set_option maxRecDepth 100000 in
theorem px_v284 : px_okm 284 = true := by decide +kernel
set_option maxRecDepth 100000 in
theorem px_v285 : px_okm 285 = true := by decide +kernel
set_option maxRecDepth 100000 in
theorem px_v286 : px_okm 286 = true := by decide +kernel
set_option maxRecDepth 100000 in
theorem px_v287 : px_okm 287 = true := by decide +kernel
set_option maxRecDepth 100000 in
theorem px_v288 : px_okm 288 = true := by decide +kernel
set_option maxRecDepth 100000 in
theorem px_v289 : px_okm 289 = true := by decide +kernel
