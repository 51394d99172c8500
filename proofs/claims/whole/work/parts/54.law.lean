/-! THE CLAIM OUT OF ONE WALK OF THE LAW'S BODY. Your part is whole_start (and what it stands on); all else here is the same for every law, but numbers. -/
def R_law : String := "BuildCounterLaw"
def lw_P (b : Addr) (xs : List Int32) (args : Array Value) (s : State) : Prop := args = #[.ref b] ∧ s.IntsAt b xs ∧ xs.length ≤ 4096 ∧ (Jvm.Cond.and given_1 narrow_1).before args s = true
def lw_Q (_ : Array Value) (s : State) (o : Outcome) (t : State) : Prop := o = .returned (some (.int 1)) ∧ Framed s o t [] 600000 7302250
def lw_Z (below : List Frame) (a : Array Value) (s : State) : State → Prop := fun t => ∃ o, t.status = .running ∧ Ended t below o ∧ lw_Q a s o t
/-- the law's own end, with 1 on the stack, nothing written that was there before, its room as the claim has it -/
theorem lw_ret {p : Program} {l : Launch} {e : Env} {s : State} {m : MethodId} {below : List Frame} {meth : Method} {c : Code} {b : Nat} (hx : p.tables.exec = Jvm.exec) (hb : c.code = code) (hr : meth.sig.returnType = ret) (hlocks : meth.locks = false) {pc : Nat} {H : Heap} {ls : Array Slot} (hdg : decode code pc = .ok (.ireturn, 1)) : W p l e room_1 s m #[Value.ref b] below meth c H [] 600000 7302250 (lw_Z below #[Value.ref b] s) (F0 m pc ls [.int 1]) := by
  intro T hT X
  obtain ⟨fs, hret, hrun, hended, hW, hframe⟩ := X.leave (v := some (.int 1)) (hlocks := hlocks) (fun h => by rw [hr] at h; cases h)
  have hmeth' : T.vm.method? m = some meth := X.method'
  refine ⟨T.setFrames fs, ?_, .returned (some (.int 1)), hrun, hended, rfl, ⟨_, rfl⟩, hW, hframe⟩
  jvm_step X.here [X.here.top, hx, hb, hdg, hmeth', hr, ret, narrow_b1]
  (try refine ⟨rfl, ?_⟩); (try refine ⟨rfl, ?_⟩)
  first | (intro acts; rw [hret _ acts rfl rfl rfl]) | rw [hret _ _ rfl rfl rfl]
  exact Steps.refl _
/-- what holds at the law's entry: the machine, the code, the tables' words (any of lw_tbl by 'hts w (by decide +kernel)'), the script of L ints xs at the cell b, what the Statement gives of the start (any of its parts by flat_of_before) -/
def lw_At (p : Program) (s : State) (m : MethodId) (meth : Method) (c : Code) (b L : Nat) (xs : Nat → Int32) : Prop :=
  p.tables.exec = Jvm.exec ∧ c.code = code ∧ meth.sig.returnType = ret ∧ c.maxLocals = 4 ∧ s.vm.findClass R_law = some m.cls ∧ (∀ w ∈ lw_tbl, w.before #[Value.ref b] s = true) ∧ va_X b L xs s s.heap ∧ b < s.heap.size ∧ meth.locks = false ∧ (Jvm.Cond.and given_1 narrow_1).before #[Value.ref b] s = true
theorem d_L_law_0 : decode code 0 = .ok (.new 7, 3) := by decide +kernel
theorem d_L_law_3 : decode code 3 = .ok (.dup, 1) := by decide +kernel
theorem d_L_law_4 : decode code 4 = .ok (.invokespecial 9, 3) := by decide +kernel
theorem d_L_law_7 : decode code 7 = .ok (.astore_n 1, 1) := by decide +kernel
theorem d_L_law_8 : decode code 8 = .ok (.new 10, 3) := by decide +kernel
theorem d_L_law_11 : decode code 11 = .ok (.dup, 1) := by decide +kernel
theorem d_L_law_12 : decode code 12 = .ok (.invokespecial 12, 3) := by decide +kernel
theorem d_L_law_15 : decode code 15 = .ok (.astore_n 2, 1) := by decide +kernel
theorem d_L_law_16 : decode code 16 = .ok (.iconst 0, 1) := by decide +kernel
theorem d_L_law_17 : decode code 17 = .ok (.istore_n 3, 1) := by decide +kernel
theorem d_L_law_18 : decode code 18 = .ok (.iload_n 3, 1) := by decide +kernel
theorem d_L_law_19 : decode code 19 = .ok (.aload_n 0, 1) := by decide +kernel
theorem d_L_law_20 : decode code 20 = .ok (.arraylength, 1) := by decide +kernel
theorem d_L_law_21 : decode code 21 = .ok (.bipush 8, 2) := by decide +kernel
theorem d_L_law_23 : decode code 23 = .ok (.isub, 1) := by decide +kernel
theorem d_L_law_24 : decode code 24 = .ok (.if_icmp .gt 738, 3) := by decide +kernel
theorem d_L_law_27 : decode code 27 = .ok (.aload_n 0, 1) := by decide +kernel
theorem d_L_law_28 : decode code 28 = .ok (.iload_n 3, 1) := by decide +kernel
theorem d_L_law_29 : decode code 29 = .ok (.iaload, 1) := by decide +kernel
theorem d_L_law_30 : decode code 30 = .ok (.bipush 15, 2) := by decide +kernel
theorem d_L_law_32 : decode code 32 = .ok (.iand, 1) := by decide +kernel
theorem d_L_law_33 : decode code 33 = .ok (.tableswitch 723 0 15 #[79, 112, 135, 158, 191, 224, 247, 374, 437, 480, 554, 587, 610, 643, 676, 700], 79) := by decide +kernel
theorem d_L_law_112 : decode code 112 = .ok (.aload_n 1, 1) := by decide +kernel
theorem d_L_law_113 : decode code 113 = .ok (.aload_n 0, 1) := by decide +kernel
theorem d_L_law_114 : decode code 114 = .ok (.iload_n 3, 1) := by decide +kernel
theorem d_L_law_115 : decode code 115 = .ok (.iconst 1, 1) := by decide +kernel
theorem d_L_law_116 : decode code 116 = .ok (.iadd, 1) := by decide +kernel
theorem d_L_law_117 : decode code 117 = .ok (.iaload, 1) := by decide +kernel
theorem d_L_law_118 : decode code 118 = .ok (.aload_n 0, 1) := by decide +kernel
theorem d_L_law_119 : decode code 119 = .ok (.iload_n 3, 1) := by decide +kernel
theorem d_L_law_120 : decode code 120 = .ok (.iconst 2, 1) := by decide +kernel
theorem d_L_law_121 : decode code 121 = .ok (.iadd, 1) := by decide +kernel
theorem d_L_law_122 : decode code 122 = .ok (.iaload, 1) := by decide +kernel
theorem d_L_law_123 : decode code 123 = .ok (.invokevirtual 13, 3) := by decide +kernel
theorem d_L_law_126 : decode code 126 = .ok (.aload_n 2, 1) := by decide +kernel
theorem d_L_law_127 : decode code 127 = .ok (.aload_n 0, 1) := by decide +kernel
theorem d_L_law_128 : decode code 128 = .ok (.iload_n 3, 1) := by decide +kernel
theorem d_L_law_129 : decode code 129 = .ok (.iconst 1, 1) := by decide +kernel
theorem d_L_law_130 : decode code 130 = .ok (.iadd, 1) := by decide +kernel
theorem d_L_law_131 : decode code 131 = .ok (.iaload, 1) := by decide +kernel
theorem d_L_law_132 : decode code 132 = .ok (.aload_n 0, 1) := by decide +kernel
theorem d_L_law_133 : decode code 133 = .ok (.iload_n 3, 1) := by decide +kernel
theorem d_L_law_134 : decode code 134 = .ok (.iconst 2, 1) := by decide +kernel
theorem d_L_law_135 : decode code 135 = .ok (.iadd, 1) := by decide +kernel
theorem d_L_law_136 : decode code 136 = .ok (.iaload, 1) := by decide +kernel
theorem d_L_law_137 : decode code 137 = .ok (.invokevirtual 17, 3) := by decide +kernel
theorem d_L_law_140 : decode code 140 = .ok (.if_icmp .eq 616, 3) := by decide +kernel
theorem d_L_law_143 : decode code 143 = .ok (.iconst 0, 1) := by decide +kernel
theorem d_L_law_144 : decode code 144 = .ok (.ireturn, 1) := by decide +kernel
theorem d_L_law_145 : decode code 145 = .ok (.aload_n 1, 1) := by decide +kernel
theorem d_L_law_146 : decode code 146 = .ok (.aload_n 0, 1) := by decide +kernel
theorem d_L_law_147 : decode code 147 = .ok (.iload_n 3, 1) := by decide +kernel
theorem d_L_law_148 : decode code 148 = .ok (.iconst 1, 1) := by decide +kernel
theorem d_L_law_149 : decode code 149 = .ok (.iadd, 1) := by decide +kernel
theorem d_L_law_150 : decode code 150 = .ok (.iaload, 1) := by decide +kernel
theorem d_L_law_151 : decode code 151 = .ok (.invokevirtual 18, 3) := by decide +kernel
theorem d_L_law_154 : decode code 154 = .ok (.aload_n 2, 1) := by decide +kernel
theorem d_L_law_155 : decode code 155 = .ok (.aload_n 0, 1) := by decide +kernel
theorem d_L_law_156 : decode code 156 = .ok (.iload_n 3, 1) := by decide +kernel
theorem d_L_law_157 : decode code 157 = .ok (.iconst 1, 1) := by decide +kernel
theorem d_L_law_158 : decode code 158 = .ok (.iadd, 1) := by decide +kernel
theorem d_L_law_159 : decode code 159 = .ok (.iaload, 1) := by decide +kernel
theorem d_L_law_160 : decode code 160 = .ok (.invokevirtual 22, 3) := by decide +kernel
theorem d_L_law_163 : decode code 163 = .ok (.if_icmp .eq 593, 3) := by decide +kernel
theorem d_L_law_166 : decode code 166 = .ok (.iconst 0, 1) := by decide +kernel
theorem d_L_law_167 : decode code 167 = .ok (.ireturn, 1) := by decide +kernel
theorem d_L_law_168 : decode code 168 = .ok (.aload_n 1, 1) := by decide +kernel
theorem d_L_law_169 : decode code 169 = .ok (.aload_n 0, 1) := by decide +kernel
theorem d_L_law_170 : decode code 170 = .ok (.iload_n 3, 1) := by decide +kernel
theorem d_L_law_171 : decode code 171 = .ok (.iconst 1, 1) := by decide +kernel
theorem d_L_law_172 : decode code 172 = .ok (.iadd, 1) := by decide +kernel
theorem d_L_law_173 : decode code 173 = .ok (.iaload, 1) := by decide +kernel
theorem d_L_law_174 : decode code 174 = .ok (.invokevirtual 23, 3) := by decide +kernel
theorem d_L_law_177 : decode code 177 = .ok (.aload_n 2, 1) := by decide +kernel
theorem d_L_law_178 : decode code 178 = .ok (.aload_n 0, 1) := by decide +kernel
theorem d_L_law_179 : decode code 179 = .ok (.iload_n 3, 1) := by decide +kernel
theorem d_L_law_180 : decode code 180 = .ok (.iconst 1, 1) := by decide +kernel
theorem d_L_law_181 : decode code 181 = .ok (.iadd, 1) := by decide +kernel
theorem d_L_law_182 : decode code 182 = .ok (.iaload, 1) := by decide +kernel
theorem d_L_law_183 : decode code 183 = .ok (.invokevirtual 26, 3) := by decide +kernel
theorem d_L_law_186 : decode code 186 = .ok (.if_icmp .eq 570, 3) := by decide +kernel
theorem d_L_law_189 : decode code 189 = .ok (.iconst 0, 1) := by decide +kernel
theorem d_L_law_190 : decode code 190 = .ok (.ireturn, 1) := by decide +kernel
theorem d_L_law_191 : decode code 191 = .ok (.aload_n 1, 1) := by decide +kernel
theorem d_L_law_192 : decode code 192 = .ok (.aload_n 0, 1) := by decide +kernel
theorem d_L_law_193 : decode code 193 = .ok (.iload_n 3, 1) := by decide +kernel
theorem d_L_law_194 : decode code 194 = .ok (.iconst 1, 1) := by decide +kernel
theorem d_L_law_195 : decode code 195 = .ok (.iadd, 1) := by decide +kernel
theorem d_L_law_196 : decode code 196 = .ok (.iaload, 1) := by decide +kernel
theorem d_L_law_197 : decode code 197 = .ok (.aload_n 0, 1) := by decide +kernel
theorem d_L_law_198 : decode code 198 = .ok (.iload_n 3, 1) := by decide +kernel
theorem d_L_law_199 : decode code 199 = .ok (.iconst 2, 1) := by decide +kernel
theorem d_L_law_200 : decode code 200 = .ok (.iadd, 1) := by decide +kernel
theorem d_L_law_201 : decode code 201 = .ok (.iaload, 1) := by decide +kernel
theorem d_L_law_202 : decode code 202 = .ok (.invokevirtual 27, 3) := by decide +kernel
theorem d_L_law_205 : decode code 205 = .ok (.aload_n 2, 1) := by decide +kernel
theorem d_L_law_206 : decode code 206 = .ok (.aload_n 0, 1) := by decide +kernel
theorem d_L_law_207 : decode code 207 = .ok (.iload_n 3, 1) := by decide +kernel
theorem d_L_law_208 : decode code 208 = .ok (.iconst 1, 1) := by decide +kernel
theorem d_L_law_209 : decode code 209 = .ok (.iadd, 1) := by decide +kernel
theorem d_L_law_210 : decode code 210 = .ok (.iaload, 1) := by decide +kernel
theorem d_L_law_211 : decode code 211 = .ok (.aload_n 0, 1) := by decide +kernel
theorem d_L_law_212 : decode code 212 = .ok (.iload_n 3, 1) := by decide +kernel
theorem d_L_law_213 : decode code 213 = .ok (.iconst 2, 1) := by decide +kernel
theorem d_L_law_214 : decode code 214 = .ok (.iadd, 1) := by decide +kernel
theorem d_L_law_215 : decode code 215 = .ok (.iaload, 1) := by decide +kernel
theorem d_L_law_216 : decode code 216 = .ok (.invokevirtual 30, 3) := by decide +kernel
theorem d_L_law_219 : decode code 219 = .ok (.if_icmp .eq 537, 3) := by decide +kernel
theorem d_L_law_222 : decode code 222 = .ok (.iconst 0, 1) := by decide +kernel
theorem d_L_law_223 : decode code 223 = .ok (.ireturn, 1) := by decide +kernel
theorem d_L_law_224 : decode code 224 = .ok (.aload_n 1, 1) := by decide +kernel
theorem d_L_law_225 : decode code 225 = .ok (.aload_n 0, 1) := by decide +kernel
theorem d_L_law_226 : decode code 226 = .ok (.iload_n 3, 1) := by decide +kernel
theorem d_L_law_227 : decode code 227 = .ok (.iconst 1, 1) := by decide +kernel
theorem d_L_law_228 : decode code 228 = .ok (.iadd, 1) := by decide +kernel
theorem d_L_law_229 : decode code 229 = .ok (.iaload, 1) := by decide +kernel
theorem d_L_law_230 : decode code 230 = .ok (.aload_n 0, 1) := by decide +kernel
theorem d_L_law_231 : decode code 231 = .ok (.iload_n 3, 1) := by decide +kernel
theorem d_L_law_232 : decode code 232 = .ok (.iconst 2, 1) := by decide +kernel
theorem d_L_law_233 : decode code 233 = .ok (.iadd, 1) := by decide +kernel
theorem d_L_law_234 : decode code 234 = .ok (.iaload, 1) := by decide +kernel
theorem d_L_law_235 : decode code 235 = .ok (.invokevirtual 31, 3) := by decide +kernel
theorem d_L_law_238 : decode code 238 = .ok (.aload_n 2, 1) := by decide +kernel
theorem d_L_law_239 : decode code 239 = .ok (.aload_n 0, 1) := by decide +kernel
theorem d_L_law_240 : decode code 240 = .ok (.iload_n 3, 1) := by decide +kernel
theorem d_L_law_241 : decode code 241 = .ok (.iconst 1, 1) := by decide +kernel
theorem d_L_law_242 : decode code 242 = .ok (.iadd, 1) := by decide +kernel
theorem d_L_law_243 : decode code 243 = .ok (.iaload, 1) := by decide +kernel
theorem d_L_law_244 : decode code 244 = .ok (.aload_n 0, 1) := by decide +kernel
theorem d_L_law_245 : decode code 245 = .ok (.iload_n 3, 1) := by decide +kernel
theorem d_L_law_246 : decode code 246 = .ok (.iconst 2, 1) := by decide +kernel
theorem d_L_law_247 : decode code 247 = .ok (.iadd, 1) := by decide +kernel
theorem d_L_law_248 : decode code 248 = .ok (.iaload, 1) := by decide +kernel
theorem d_L_law_249 : decode code 249 = .ok (.invokevirtual 34, 3) := by decide +kernel
theorem d_L_law_252 : decode code 252 = .ok (.if_icmp .eq 504, 3) := by decide +kernel
theorem d_L_law_255 : decode code 255 = .ok (.iconst 0, 1) := by decide +kernel
theorem d_L_law_256 : decode code 256 = .ok (.ireturn, 1) := by decide +kernel
theorem d_L_law_257 : decode code 257 = .ok (.aload_n 1, 1) := by decide +kernel
theorem d_L_law_258 : decode code 258 = .ok (.aload_n 0, 1) := by decide +kernel
theorem d_L_law_259 : decode code 259 = .ok (.iload_n 3, 1) := by decide +kernel
theorem d_L_law_260 : decode code 260 = .ok (.iconst 1, 1) := by decide +kernel
theorem d_L_law_261 : decode code 261 = .ok (.iadd, 1) := by decide +kernel
theorem d_L_law_262 : decode code 262 = .ok (.iaload, 1) := by decide +kernel
theorem d_L_law_263 : decode code 263 = .ok (.invokevirtual 35, 3) := by decide +kernel
theorem d_L_law_266 : decode code 266 = .ok (.aload_n 2, 1) := by decide +kernel
theorem d_L_law_267 : decode code 267 = .ok (.aload_n 0, 1) := by decide +kernel
theorem d_L_law_268 : decode code 268 = .ok (.iload_n 3, 1) := by decide +kernel
theorem d_L_law_269 : decode code 269 = .ok (.iconst 1, 1) := by decide +kernel
theorem d_L_law_270 : decode code 270 = .ok (.iadd, 1) := by decide +kernel
theorem d_L_law_271 : decode code 271 = .ok (.iaload, 1) := by decide +kernel
theorem d_L_law_272 : decode code 272 = .ok (.invokevirtual 38, 3) := by decide +kernel
theorem d_L_law_275 : decode code 275 = .ok (.if_icmp .eq 481, 3) := by decide +kernel
theorem d_L_law_278 : decode code 278 = .ok (.iconst 0, 1) := by decide +kernel
theorem d_L_law_279 : decode code 279 = .ok (.ireturn, 1) := by decide +kernel
theorem d_L_law_280 : decode code 280 = .ok (.aload_n 1, 1) := by decide +kernel
theorem d_L_law_281 : decode code 281 = .ok (.aload_n 0, 1) := by decide +kernel
theorem d_L_law_282 : decode code 282 = .ok (.iload_n 3, 1) := by decide +kernel
theorem d_L_law_283 : decode code 283 = .ok (.iconst 1, 1) := by decide +kernel
theorem d_L_law_284 : decode code 284 = .ok (.iadd, 1) := by decide +kernel
theorem d_L_law_285 : decode code 285 = .ok (.iaload, 1) := by decide +kernel
theorem d_L_law_286 : decode code 286 = .ok (.aload_n 0, 1) := by decide +kernel
theorem d_L_law_287 : decode code 287 = .ok (.iload_n 3, 1) := by decide +kernel
theorem d_L_law_288 : decode code 288 = .ok (.iconst 2, 1) := by decide +kernel
theorem d_L_law_289 : decode code 289 = .ok (.iadd, 1) := by decide +kernel
theorem d_L_law_290 : decode code 290 = .ok (.iaload, 1) := by decide +kernel
theorem d_L_law_291 : decode code 291 = .ok (.aload_n 0, 1) := by decide +kernel
theorem d_L_law_292 : decode code 292 = .ok (.iload_n 3, 1) := by decide +kernel
theorem d_L_law_293 : decode code 293 = .ok (.iconst 3, 1) := by decide +kernel
theorem d_L_law_294 : decode code 294 = .ok (.iadd, 1) := by decide +kernel
theorem d_L_law_295 : decode code 295 = .ok (.iaload, 1) := by decide +kernel
theorem d_L_law_296 : decode code 296 = .ok (.aload_n 0, 1) := by decide +kernel
theorem d_L_law_297 : decode code 297 = .ok (.iload_n 3, 1) := by decide +kernel
theorem d_L_law_298 : decode code 298 = .ok (.iconst 4, 1) := by decide +kernel
theorem d_L_law_299 : decode code 299 = .ok (.iadd, 1) := by decide +kernel
theorem d_L_law_300 : decode code 300 = .ok (.iaload, 1) := by decide +kernel
theorem d_L_law_301 : decode code 301 = .ok (.i2l, 1) := by decide +kernel
theorem d_L_law_302 : decode code 302 = .ok (.bipush 32, 2) := by decide +kernel
theorem d_L_law_304 : decode code 304 = .ok (.lshl, 1) := by decide +kernel
theorem d_L_law_305 : decode code 305 = .ok (.aload_n 0, 1) := by decide +kernel
theorem d_L_law_306 : decode code 306 = .ok (.iload_n 3, 1) := by decide +kernel
theorem d_L_law_307 : decode code 307 = .ok (.iconst 5, 1) := by decide +kernel
theorem d_L_law_308 : decode code 308 = .ok (.iadd, 1) := by decide +kernel
theorem d_L_law_309 : decode code 309 = .ok (.iaload, 1) := by decide +kernel
theorem d_L_law_310 : decode code 310 = .ok (.i2l, 1) := by decide +kernel
theorem d_L_law_311 : decode code 311 = .ok (.ldc2_w 39, 3) := by decide +kernel
theorem d_L_law_314 : decode code 314 = .ok (.land, 1) := by decide +kernel
theorem d_L_law_315 : decode code 315 = .ok (.lor, 1) := by decide +kernel
theorem d_L_law_316 : decode code 316 = .ok (.aload_n 0, 1) := by decide +kernel
theorem d_L_law_317 : decode code 317 = .ok (.iload_n 3, 1) := by decide +kernel
theorem d_L_law_318 : decode code 318 = .ok (.bipush 6, 2) := by decide +kernel
theorem d_L_law_320 : decode code 320 = .ok (.iadd, 1) := by decide +kernel
theorem d_L_law_321 : decode code 321 = .ok (.iaload, 1) := by decide +kernel
theorem d_L_law_322 : decode code 322 = .ok (.i2l, 1) := by decide +kernel
theorem d_L_law_323 : decode code 323 = .ok (.bipush 32, 2) := by decide +kernel
theorem d_L_law_325 : decode code 325 = .ok (.lshl, 1) := by decide +kernel
theorem d_L_law_326 : decode code 326 = .ok (.aload_n 0, 1) := by decide +kernel
theorem d_L_law_327 : decode code 327 = .ok (.iload_n 3, 1) := by decide +kernel
theorem d_L_law_328 : decode code 328 = .ok (.bipush 7, 2) := by decide +kernel
theorem d_L_law_330 : decode code 330 = .ok (.iadd, 1) := by decide +kernel
theorem d_L_law_331 : decode code 331 = .ok (.iaload, 1) := by decide +kernel
theorem d_L_law_332 : decode code 332 = .ok (.i2l, 1) := by decide +kernel
theorem d_L_law_333 : decode code 333 = .ok (.ldc2_w 39, 3) := by decide +kernel
theorem d_L_law_336 : decode code 336 = .ok (.land, 1) := by decide +kernel
theorem d_L_law_337 : decode code 337 = .ok (.lor, 1) := by decide +kernel
theorem d_L_law_338 : decode code 338 = .ok (.invokevirtual 41, 3) := by decide +kernel
theorem d_L_law_341 : decode code 341 = .ok (.aload_n 2, 1) := by decide +kernel
theorem d_L_law_342 : decode code 342 = .ok (.aload_n 0, 1) := by decide +kernel
theorem d_L_law_343 : decode code 343 = .ok (.iload_n 3, 1) := by decide +kernel
theorem d_L_law_344 : decode code 344 = .ok (.iconst 1, 1) := by decide +kernel
theorem d_L_law_345 : decode code 345 = .ok (.iadd, 1) := by decide +kernel
theorem d_L_law_346 : decode code 346 = .ok (.iaload, 1) := by decide +kernel
theorem d_L_law_347 : decode code 347 = .ok (.aload_n 0, 1) := by decide +kernel
theorem d_L_law_348 : decode code 348 = .ok (.iload_n 3, 1) := by decide +kernel
theorem d_L_law_349 : decode code 349 = .ok (.iconst 2, 1) := by decide +kernel
theorem d_L_law_350 : decode code 350 = .ok (.iadd, 1) := by decide +kernel
theorem d_L_law_351 : decode code 351 = .ok (.iaload, 1) := by decide +kernel
theorem d_L_law_352 : decode code 352 = .ok (.aload_n 0, 1) := by decide +kernel
theorem d_L_law_353 : decode code 353 = .ok (.iload_n 3, 1) := by decide +kernel
theorem d_L_law_354 : decode code 354 = .ok (.iconst 3, 1) := by decide +kernel
theorem d_L_law_355 : decode code 355 = .ok (.iadd, 1) := by decide +kernel
theorem d_L_law_356 : decode code 356 = .ok (.iaload, 1) := by decide +kernel
theorem d_L_law_357 : decode code 357 = .ok (.aload_n 0, 1) := by decide +kernel
theorem d_L_law_358 : decode code 358 = .ok (.iload_n 3, 1) := by decide +kernel
theorem d_L_law_359 : decode code 359 = .ok (.iconst 4, 1) := by decide +kernel
theorem d_L_law_360 : decode code 360 = .ok (.iadd, 1) := by decide +kernel
theorem d_L_law_361 : decode code 361 = .ok (.iaload, 1) := by decide +kernel
theorem d_L_law_362 : decode code 362 = .ok (.i2l, 1) := by decide +kernel
theorem d_L_law_363 : decode code 363 = .ok (.bipush 32, 2) := by decide +kernel
theorem d_L_law_365 : decode code 365 = .ok (.lshl, 1) := by decide +kernel
theorem d_L_law_366 : decode code 366 = .ok (.aload_n 0, 1) := by decide +kernel
theorem d_L_law_367 : decode code 367 = .ok (.iload_n 3, 1) := by decide +kernel
theorem d_L_law_368 : decode code 368 = .ok (.iconst 5, 1) := by decide +kernel
theorem d_L_law_369 : decode code 369 = .ok (.iadd, 1) := by decide +kernel
theorem d_L_law_370 : decode code 370 = .ok (.iaload, 1) := by decide +kernel
theorem d_L_law_371 : decode code 371 = .ok (.i2l, 1) := by decide +kernel
theorem d_L_law_372 : decode code 372 = .ok (.ldc2_w 39, 3) := by decide +kernel
theorem d_L_law_375 : decode code 375 = .ok (.land, 1) := by decide +kernel
theorem d_L_law_376 : decode code 376 = .ok (.lor, 1) := by decide +kernel
theorem d_L_law_377 : decode code 377 = .ok (.aload_n 0, 1) := by decide +kernel
theorem d_L_law_378 : decode code 378 = .ok (.iload_n 3, 1) := by decide +kernel
theorem d_L_law_379 : decode code 379 = .ok (.bipush 6, 2) := by decide +kernel
theorem d_L_law_381 : decode code 381 = .ok (.iadd, 1) := by decide +kernel
theorem d_L_law_382 : decode code 382 = .ok (.iaload, 1) := by decide +kernel
theorem d_L_law_383 : decode code 383 = .ok (.i2l, 1) := by decide +kernel
theorem d_L_law_384 : decode code 384 = .ok (.bipush 32, 2) := by decide +kernel
theorem d_L_law_386 : decode code 386 = .ok (.lshl, 1) := by decide +kernel
theorem d_L_law_387 : decode code 387 = .ok (.aload_n 0, 1) := by decide +kernel
theorem d_L_law_388 : decode code 388 = .ok (.iload_n 3, 1) := by decide +kernel
theorem d_L_law_389 : decode code 389 = .ok (.bipush 7, 2) := by decide +kernel
theorem d_L_law_391 : decode code 391 = .ok (.iadd, 1) := by decide +kernel
theorem d_L_law_392 : decode code 392 = .ok (.iaload, 1) := by decide +kernel
theorem d_L_law_393 : decode code 393 = .ok (.i2l, 1) := by decide +kernel
theorem d_L_law_394 : decode code 394 = .ok (.ldc2_w 39, 3) := by decide +kernel
theorem d_L_law_397 : decode code 397 = .ok (.land, 1) := by decide +kernel
theorem d_L_law_398 : decode code 398 = .ok (.lor, 1) := by decide +kernel
theorem d_L_law_399 : decode code 399 = .ok (.invokevirtual 45, 3) := by decide +kernel
theorem d_L_law_402 : decode code 402 = .ok (.if_icmp .eq 354, 3) := by decide +kernel
theorem d_L_law_405 : decode code 405 = .ok (.iconst 0, 1) := by decide +kernel
theorem d_L_law_406 : decode code 406 = .ok (.ireturn, 1) := by decide +kernel
theorem d_L_law_407 : decode code 407 = .ok (.aload_n 1, 1) := by decide +kernel
theorem d_L_law_408 : decode code 408 = .ok (.aload_n 0, 1) := by decide +kernel
theorem d_L_law_409 : decode code 409 = .ok (.iload_n 3, 1) := by decide +kernel
theorem d_L_law_410 : decode code 410 = .ok (.iconst 1, 1) := by decide +kernel
theorem d_L_law_411 : decode code 411 = .ok (.iadd, 1) := by decide +kernel
theorem d_L_law_412 : decode code 412 = .ok (.iaload, 1) := by decide +kernel
theorem d_L_law_413 : decode code 413 = .ok (.aload_n 0, 1) := by decide +kernel
theorem d_L_law_414 : decode code 414 = .ok (.iload_n 3, 1) := by decide +kernel
theorem d_L_law_415 : decode code 415 = .ok (.iconst 2, 1) := by decide +kernel
theorem d_L_law_416 : decode code 416 = .ok (.iadd, 1) := by decide +kernel
theorem d_L_law_417 : decode code 417 = .ok (.iaload, 1) := by decide +kernel
theorem d_L_law_418 : decode code 418 = .ok (.i2l, 1) := by decide +kernel
theorem d_L_law_419 : decode code 419 = .ok (.bipush 32, 2) := by decide +kernel
theorem d_L_law_421 : decode code 421 = .ok (.lshl, 1) := by decide +kernel
theorem d_L_law_422 : decode code 422 = .ok (.aload_n 0, 1) := by decide +kernel
theorem d_L_law_423 : decode code 423 = .ok (.iload_n 3, 1) := by decide +kernel
theorem d_L_law_424 : decode code 424 = .ok (.iconst 3, 1) := by decide +kernel
theorem d_L_law_425 : decode code 425 = .ok (.iadd, 1) := by decide +kernel
theorem d_L_law_426 : decode code 426 = .ok (.iaload, 1) := by decide +kernel
theorem d_L_law_427 : decode code 427 = .ok (.i2l, 1) := by decide +kernel
theorem d_L_law_428 : decode code 428 = .ok (.ldc2_w 39, 3) := by decide +kernel
theorem d_L_law_431 : decode code 431 = .ok (.land, 1) := by decide +kernel
theorem d_L_law_432 : decode code 432 = .ok (.lor, 1) := by decide +kernel
theorem d_L_law_433 : decode code 433 = .ok (.invokevirtual 46, 3) := by decide +kernel
theorem d_L_law_436 : decode code 436 = .ok (.aload_n 2, 1) := by decide +kernel
theorem d_L_law_437 : decode code 437 = .ok (.aload_n 0, 1) := by decide +kernel
theorem d_L_law_438 : decode code 438 = .ok (.iload_n 3, 1) := by decide +kernel
theorem d_L_law_439 : decode code 439 = .ok (.iconst 1, 1) := by decide +kernel
theorem d_L_law_440 : decode code 440 = .ok (.iadd, 1) := by decide +kernel
theorem d_L_law_441 : decode code 441 = .ok (.iaload, 1) := by decide +kernel
theorem d_L_law_442 : decode code 442 = .ok (.aload_n 0, 1) := by decide +kernel
theorem d_L_law_443 : decode code 443 = .ok (.iload_n 3, 1) := by decide +kernel
theorem d_L_law_444 : decode code 444 = .ok (.iconst 2, 1) := by decide +kernel
theorem d_L_law_445 : decode code 445 = .ok (.iadd, 1) := by decide +kernel
theorem d_L_law_446 : decode code 446 = .ok (.iaload, 1) := by decide +kernel
theorem d_L_law_447 : decode code 447 = .ok (.i2l, 1) := by decide +kernel
theorem d_L_law_448 : decode code 448 = .ok (.bipush 32, 2) := by decide +kernel
theorem d_L_law_450 : decode code 450 = .ok (.lshl, 1) := by decide +kernel
theorem d_L_law_451 : decode code 451 = .ok (.aload_n 0, 1) := by decide +kernel
theorem d_L_law_452 : decode code 452 = .ok (.iload_n 3, 1) := by decide +kernel
theorem d_L_law_453 : decode code 453 = .ok (.iconst 3, 1) := by decide +kernel
theorem d_L_law_454 : decode code 454 = .ok (.iadd, 1) := by decide +kernel
theorem d_L_law_455 : decode code 455 = .ok (.iaload, 1) := by decide +kernel
theorem d_L_law_456 : decode code 456 = .ok (.i2l, 1) := by decide +kernel
theorem d_L_law_457 : decode code 457 = .ok (.ldc2_w 39, 3) := by decide +kernel
theorem d_L_law_460 : decode code 460 = .ok (.land, 1) := by decide +kernel
theorem d_L_law_461 : decode code 461 = .ok (.lor, 1) := by decide +kernel
theorem d_L_law_462 : decode code 462 = .ok (.invokevirtual 50, 3) := by decide +kernel
theorem d_L_law_465 : decode code 465 = .ok (.if_icmp .eq 291, 3) := by decide +kernel
theorem d_L_law_468 : decode code 468 = .ok (.iconst 0, 1) := by decide +kernel
theorem d_L_law_469 : decode code 469 = .ok (.ireturn, 1) := by decide +kernel
theorem d_L_law_470 : decode code 470 = .ok (.aload_n 1, 1) := by decide +kernel
theorem d_L_law_471 : decode code 471 = .ok (.aload_n 0, 1) := by decide +kernel
theorem d_L_law_472 : decode code 472 = .ok (.iload_n 3, 1) := by decide +kernel
theorem d_L_law_473 : decode code 473 = .ok (.iconst 1, 1) := by decide +kernel
theorem d_L_law_474 : decode code 474 = .ok (.iadd, 1) := by decide +kernel
theorem d_L_law_475 : decode code 475 = .ok (.iaload, 1) := by decide +kernel
theorem d_L_law_476 : decode code 476 = .ok (.aload_n 0, 1) := by decide +kernel
theorem d_L_law_477 : decode code 477 = .ok (.iload_n 3, 1) := by decide +kernel
theorem d_L_law_478 : decode code 478 = .ok (.iconst 2, 1) := by decide +kernel
theorem d_L_law_479 : decode code 479 = .ok (.iadd, 1) := by decide +kernel
theorem d_L_law_480 : decode code 480 = .ok (.iaload, 1) := by decide +kernel
theorem d_L_law_481 : decode code 481 = .ok (.aload_n 0, 1) := by decide +kernel
theorem d_L_law_482 : decode code 482 = .ok (.iload_n 3, 1) := by decide +kernel
theorem d_L_law_483 : decode code 483 = .ok (.iconst 3, 1) := by decide +kernel
theorem d_L_law_484 : decode code 484 = .ok (.iadd, 1) := by decide +kernel
theorem d_L_law_485 : decode code 485 = .ok (.iaload, 1) := by decide +kernel
theorem d_L_law_486 : decode code 486 = .ok (.invokevirtual 51, 3) := by decide +kernel
theorem d_L_law_489 : decode code 489 = .ok (.aload_n 2, 1) := by decide +kernel
theorem d_L_law_490 : decode code 490 = .ok (.aload_n 0, 1) := by decide +kernel
theorem d_L_law_491 : decode code 491 = .ok (.iload_n 3, 1) := by decide +kernel
theorem d_L_law_492 : decode code 492 = .ok (.iconst 1, 1) := by decide +kernel
theorem d_L_law_493 : decode code 493 = .ok (.iadd, 1) := by decide +kernel
theorem d_L_law_494 : decode code 494 = .ok (.iaload, 1) := by decide +kernel
theorem d_L_law_495 : decode code 495 = .ok (.aload_n 0, 1) := by decide +kernel
theorem d_L_law_496 : decode code 496 = .ok (.iload_n 3, 1) := by decide +kernel
theorem d_L_law_497 : decode code 497 = .ok (.iconst 2, 1) := by decide +kernel
theorem d_L_law_498 : decode code 498 = .ok (.iadd, 1) := by decide +kernel
theorem d_L_law_499 : decode code 499 = .ok (.iaload, 1) := by decide +kernel
theorem d_L_law_500 : decode code 500 = .ok (.aload_n 0, 1) := by decide +kernel
theorem d_L_law_501 : decode code 501 = .ok (.iload_n 3, 1) := by decide +kernel
theorem d_L_law_502 : decode code 502 = .ok (.iconst 3, 1) := by decide +kernel
theorem d_L_law_503 : decode code 503 = .ok (.iadd, 1) := by decide +kernel
theorem d_L_law_504 : decode code 504 = .ok (.iaload, 1) := by decide +kernel
theorem d_L_law_505 : decode code 505 = .ok (.invokevirtual 55, 3) := by decide +kernel
theorem d_L_law_508 : decode code 508 = .ok (.if_icmp .eq 248, 3) := by decide +kernel
theorem d_L_law_511 : decode code 511 = .ok (.iconst 0, 1) := by decide +kernel
theorem d_L_law_512 : decode code 512 = .ok (.ireturn, 1) := by decide +kernel
theorem d_L_law_513 : decode code 513 = .ok (.aload_n 1, 1) := by decide +kernel
theorem d_L_law_514 : decode code 514 = .ok (.aload_n 0, 1) := by decide +kernel
theorem d_L_law_515 : decode code 515 = .ok (.iload_n 3, 1) := by decide +kernel
theorem d_L_law_516 : decode code 516 = .ok (.iconst 1, 1) := by decide +kernel
theorem d_L_law_517 : decode code 517 = .ok (.iadd, 1) := by decide +kernel
theorem d_L_law_518 : decode code 518 = .ok (.iaload, 1) := by decide +kernel
theorem d_L_law_519 : decode code 519 = .ok (.aload_n 0, 1) := by decide +kernel
theorem d_L_law_520 : decode code 520 = .ok (.iload_n 3, 1) := by decide +kernel
theorem d_L_law_521 : decode code 521 = .ok (.iconst 2, 1) := by decide +kernel
theorem d_L_law_522 : decode code 522 = .ok (.iadd, 1) := by decide +kernel
theorem d_L_law_523 : decode code 523 = .ok (.iaload, 1) := by decide +kernel
theorem d_L_law_524 : decode code 524 = .ok (.aload_n 0, 1) := by decide +kernel
theorem d_L_law_525 : decode code 525 = .ok (.iload_n 3, 1) := by decide +kernel
theorem d_L_law_526 : decode code 526 = .ok (.iconst 3, 1) := by decide +kernel
theorem d_L_law_527 : decode code 527 = .ok (.iadd, 1) := by decide +kernel
theorem d_L_law_528 : decode code 528 = .ok (.iaload, 1) := by decide +kernel
theorem d_L_law_529 : decode code 529 = .ok (.i2l, 1) := by decide +kernel
theorem d_L_law_530 : decode code 530 = .ok (.bipush 32, 2) := by decide +kernel
theorem d_L_law_532 : decode code 532 = .ok (.lshl, 1) := by decide +kernel
theorem d_L_law_533 : decode code 533 = .ok (.aload_n 0, 1) := by decide +kernel
theorem d_L_law_534 : decode code 534 = .ok (.iload_n 3, 1) := by decide +kernel
theorem d_L_law_535 : decode code 535 = .ok (.iconst 4, 1) := by decide +kernel
theorem d_L_law_536 : decode code 536 = .ok (.iadd, 1) := by decide +kernel
theorem d_L_law_537 : decode code 537 = .ok (.iaload, 1) := by decide +kernel
theorem d_L_law_538 : decode code 538 = .ok (.i2l, 1) := by decide +kernel
theorem d_L_law_539 : decode code 539 = .ok (.ldc2_w 39, 3) := by decide +kernel
theorem d_L_law_542 : decode code 542 = .ok (.land, 1) := by decide +kernel
theorem d_L_law_543 : decode code 543 = .ok (.lor, 1) := by decide +kernel
theorem d_L_law_544 : decode code 544 = .ok (.invokevirtual 56, 3) := by decide +kernel
theorem d_L_law_547 : decode code 547 = .ok (.aload_n 2, 1) := by decide +kernel
theorem d_L_law_548 : decode code 548 = .ok (.aload_n 0, 1) := by decide +kernel
theorem d_L_law_549 : decode code 549 = .ok (.iload_n 3, 1) := by decide +kernel
theorem d_L_law_550 : decode code 550 = .ok (.iconst 1, 1) := by decide +kernel
theorem d_L_law_551 : decode code 551 = .ok (.iadd, 1) := by decide +kernel
theorem d_L_law_552 : decode code 552 = .ok (.iaload, 1) := by decide +kernel
theorem d_L_law_553 : decode code 553 = .ok (.aload_n 0, 1) := by decide +kernel
theorem d_L_law_554 : decode code 554 = .ok (.iload_n 3, 1) := by decide +kernel
theorem d_L_law_555 : decode code 555 = .ok (.iconst 2, 1) := by decide +kernel
theorem d_L_law_556 : decode code 556 = .ok (.iadd, 1) := by decide +kernel
theorem d_L_law_557 : decode code 557 = .ok (.iaload, 1) := by decide +kernel
theorem d_L_law_558 : decode code 558 = .ok (.aload_n 0, 1) := by decide +kernel
theorem d_L_law_559 : decode code 559 = .ok (.iload_n 3, 1) := by decide +kernel
theorem d_L_law_560 : decode code 560 = .ok (.iconst 3, 1) := by decide +kernel
theorem d_L_law_561 : decode code 561 = .ok (.iadd, 1) := by decide +kernel
theorem d_L_law_562 : decode code 562 = .ok (.iaload, 1) := by decide +kernel
theorem d_L_law_563 : decode code 563 = .ok (.i2l, 1) := by decide +kernel
theorem d_L_law_564 : decode code 564 = .ok (.bipush 32, 2) := by decide +kernel
theorem d_L_law_566 : decode code 566 = .ok (.lshl, 1) := by decide +kernel
theorem d_L_law_567 : decode code 567 = .ok (.aload_n 0, 1) := by decide +kernel
theorem d_L_law_568 : decode code 568 = .ok (.iload_n 3, 1) := by decide +kernel
theorem d_L_law_569 : decode code 569 = .ok (.iconst 4, 1) := by decide +kernel
theorem d_L_law_570 : decode code 570 = .ok (.iadd, 1) := by decide +kernel
theorem d_L_law_571 : decode code 571 = .ok (.iaload, 1) := by decide +kernel
theorem d_L_law_572 : decode code 572 = .ok (.i2l, 1) := by decide +kernel
theorem d_L_law_573 : decode code 573 = .ok (.ldc2_w 39, 3) := by decide +kernel
theorem d_L_law_576 : decode code 576 = .ok (.land, 1) := by decide +kernel
theorem d_L_law_577 : decode code 577 = .ok (.lor, 1) := by decide +kernel
theorem d_L_law_578 : decode code 578 = .ok (.invokevirtual 60, 3) := by decide +kernel
theorem d_L_law_581 : decode code 581 = .ok (.lcmp, 1) := by decide +kernel
theorem d_L_law_582 : decode code 582 = .ok (.ifCond .eq 174, 3) := by decide +kernel
theorem d_L_law_585 : decode code 585 = .ok (.iconst 0, 1) := by decide +kernel
theorem d_L_law_586 : decode code 586 = .ok (.ireturn, 1) := by decide +kernel
theorem d_L_law_587 : decode code 587 = .ok (.aload_n 1, 1) := by decide +kernel
theorem d_L_law_588 : decode code 588 = .ok (.aload_n 0, 1) := by decide +kernel
theorem d_L_law_589 : decode code 589 = .ok (.iload_n 3, 1) := by decide +kernel
theorem d_L_law_590 : decode code 590 = .ok (.iconst 1, 1) := by decide +kernel
theorem d_L_law_591 : decode code 591 = .ok (.iadd, 1) := by decide +kernel
theorem d_L_law_592 : decode code 592 = .ok (.iaload, 1) := by decide +kernel
theorem d_L_law_593 : decode code 593 = .ok (.aload_n 0, 1) := by decide +kernel
theorem d_L_law_594 : decode code 594 = .ok (.iload_n 3, 1) := by decide +kernel
theorem d_L_law_595 : decode code 595 = .ok (.iconst 2, 1) := by decide +kernel
theorem d_L_law_596 : decode code 596 = .ok (.iadd, 1) := by decide +kernel
theorem d_L_law_597 : decode code 597 = .ok (.iaload, 1) := by decide +kernel
theorem d_L_law_598 : decode code 598 = .ok (.invokevirtual 61, 3) := by decide +kernel
theorem d_L_law_601 : decode code 601 = .ok (.aload_n 2, 1) := by decide +kernel
theorem d_L_law_602 : decode code 602 = .ok (.aload_n 0, 1) := by decide +kernel
theorem d_L_law_603 : decode code 603 = .ok (.iload_n 3, 1) := by decide +kernel
theorem d_L_law_604 : decode code 604 = .ok (.iconst 1, 1) := by decide +kernel
theorem d_L_law_605 : decode code 605 = .ok (.iadd, 1) := by decide +kernel
theorem d_L_law_606 : decode code 606 = .ok (.iaload, 1) := by decide +kernel
theorem d_L_law_607 : decode code 607 = .ok (.aload_n 0, 1) := by decide +kernel
theorem d_L_law_608 : decode code 608 = .ok (.iload_n 3, 1) := by decide +kernel
theorem d_L_law_609 : decode code 609 = .ok (.iconst 2, 1) := by decide +kernel
theorem d_L_law_610 : decode code 610 = .ok (.iadd, 1) := by decide +kernel
theorem d_L_law_611 : decode code 611 = .ok (.iaload, 1) := by decide +kernel
theorem d_L_law_612 : decode code 612 = .ok (.invokevirtual 65, 3) := by decide +kernel
theorem d_L_law_615 : decode code 615 = .ok (.if_icmp .eq 141, 3) := by decide +kernel
theorem d_L_law_618 : decode code 618 = .ok (.iconst 0, 1) := by decide +kernel
theorem d_L_law_619 : decode code 619 = .ok (.ireturn, 1) := by decide +kernel
theorem d_L_law_620 : decode code 620 = .ok (.aload_n 1, 1) := by decide +kernel
theorem d_L_law_621 : decode code 621 = .ok (.aload_n 0, 1) := by decide +kernel
theorem d_L_law_622 : decode code 622 = .ok (.iload_n 3, 1) := by decide +kernel
theorem d_L_law_623 : decode code 623 = .ok (.iconst 1, 1) := by decide +kernel
theorem d_L_law_624 : decode code 624 = .ok (.iadd, 1) := by decide +kernel
theorem d_L_law_625 : decode code 625 = .ok (.iaload, 1) := by decide +kernel
theorem d_L_law_626 : decode code 626 = .ok (.invokevirtual 66, 3) := by decide +kernel
theorem d_L_law_629 : decode code 629 = .ok (.aload_n 2, 1) := by decide +kernel
theorem d_L_law_630 : decode code 630 = .ok (.aload_n 0, 1) := by decide +kernel
theorem d_L_law_631 : decode code 631 = .ok (.iload_n 3, 1) := by decide +kernel
theorem d_L_law_632 : decode code 632 = .ok (.iconst 1, 1) := by decide +kernel
theorem d_L_law_633 : decode code 633 = .ok (.iadd, 1) := by decide +kernel
theorem d_L_law_634 : decode code 634 = .ok (.iaload, 1) := by decide +kernel
theorem d_L_law_635 : decode code 635 = .ok (.invokevirtual 69, 3) := by decide +kernel
theorem d_L_law_638 : decode code 638 = .ok (.if_icmp .eq 118, 3) := by decide +kernel
theorem d_L_law_641 : decode code 641 = .ok (.iconst 0, 1) := by decide +kernel
theorem d_L_law_642 : decode code 642 = .ok (.ireturn, 1) := by decide +kernel
theorem d_L_law_643 : decode code 643 = .ok (.aload_n 1, 1) := by decide +kernel
theorem d_L_law_644 : decode code 644 = .ok (.aload_n 0, 1) := by decide +kernel
theorem d_L_law_645 : decode code 645 = .ok (.iload_n 3, 1) := by decide +kernel
theorem d_L_law_646 : decode code 646 = .ok (.iconst 1, 1) := by decide +kernel
theorem d_L_law_647 : decode code 647 = .ok (.iadd, 1) := by decide +kernel
theorem d_L_law_648 : decode code 648 = .ok (.iaload, 1) := by decide +kernel
theorem d_L_law_649 : decode code 649 = .ok (.aload_n 0, 1) := by decide +kernel
theorem d_L_law_650 : decode code 650 = .ok (.iload_n 3, 1) := by decide +kernel
theorem d_L_law_651 : decode code 651 = .ok (.iconst 2, 1) := by decide +kernel
theorem d_L_law_652 : decode code 652 = .ok (.iadd, 1) := by decide +kernel
theorem d_L_law_653 : decode code 653 = .ok (.iaload, 1) := by decide +kernel
theorem d_L_law_654 : decode code 654 = .ok (.invokevirtual 70, 3) := by decide +kernel
theorem d_L_law_657 : decode code 657 = .ok (.aload_n 2, 1) := by decide +kernel
theorem d_L_law_658 : decode code 658 = .ok (.aload_n 0, 1) := by decide +kernel
theorem d_L_law_659 : decode code 659 = .ok (.iload_n 3, 1) := by decide +kernel
theorem d_L_law_660 : decode code 660 = .ok (.iconst 1, 1) := by decide +kernel
theorem d_L_law_661 : decode code 661 = .ok (.iadd, 1) := by decide +kernel
theorem d_L_law_662 : decode code 662 = .ok (.iaload, 1) := by decide +kernel
theorem d_L_law_663 : decode code 663 = .ok (.aload_n 0, 1) := by decide +kernel
theorem d_L_law_664 : decode code 664 = .ok (.iload_n 3, 1) := by decide +kernel
theorem d_L_law_665 : decode code 665 = .ok (.iconst 2, 1) := by decide +kernel
theorem d_L_law_666 : decode code 666 = .ok (.iadd, 1) := by decide +kernel
theorem d_L_law_667 : decode code 667 = .ok (.iaload, 1) := by decide +kernel
theorem d_L_law_668 : decode code 668 = .ok (.invokevirtual 73, 3) := by decide +kernel
theorem d_L_law_671 : decode code 671 = .ok (.if_icmp .eq 85, 3) := by decide +kernel
theorem d_L_law_674 : decode code 674 = .ok (.iconst 0, 1) := by decide +kernel
theorem d_L_law_675 : decode code 675 = .ok (.ireturn, 1) := by decide +kernel
theorem d_L_law_676 : decode code 676 = .ok (.aload_n 1, 1) := by decide +kernel
theorem d_L_law_677 : decode code 677 = .ok (.aload_n 0, 1) := by decide +kernel
theorem d_L_law_678 : decode code 678 = .ok (.iload_n 3, 1) := by decide +kernel
theorem d_L_law_679 : decode code 679 = .ok (.iconst 1, 1) := by decide +kernel
theorem d_L_law_680 : decode code 680 = .ok (.iadd, 1) := by decide +kernel
theorem d_L_law_681 : decode code 681 = .ok (.iaload, 1) := by decide +kernel
theorem d_L_law_682 : decode code 682 = .ok (.aload_n 0, 1) := by decide +kernel
theorem d_L_law_683 : decode code 683 = .ok (.iload_n 3, 1) := by decide +kernel
theorem d_L_law_684 : decode code 684 = .ok (.iconst 2, 1) := by decide +kernel
theorem d_L_law_685 : decode code 685 = .ok (.iadd, 1) := by decide +kernel
theorem d_L_law_686 : decode code 686 = .ok (.iaload, 1) := by decide +kernel
theorem d_L_law_687 : decode code 687 = .ok (.invokevirtual 74, 3) := by decide +kernel
theorem d_L_law_690 : decode code 690 = .ok (.aload_n 2, 1) := by decide +kernel
theorem d_L_law_691 : decode code 691 = .ok (.aload_n 0, 1) := by decide +kernel
theorem d_L_law_692 : decode code 692 = .ok (.iload_n 3, 1) := by decide +kernel
theorem d_L_law_693 : decode code 693 = .ok (.iconst 1, 1) := by decide +kernel
theorem d_L_law_694 : decode code 694 = .ok (.iadd, 1) := by decide +kernel
theorem d_L_law_695 : decode code 695 = .ok (.iaload, 1) := by decide +kernel
theorem d_L_law_696 : decode code 696 = .ok (.aload_n 0, 1) := by decide +kernel
theorem d_L_law_697 : decode code 697 = .ok (.iload_n 3, 1) := by decide +kernel
theorem d_L_law_698 : decode code 698 = .ok (.iconst 2, 1) := by decide +kernel
theorem d_L_law_699 : decode code 699 = .ok (.iadd, 1) := by decide +kernel
theorem d_L_law_700 : decode code 700 = .ok (.iaload, 1) := by decide +kernel
theorem d_L_law_701 : decode code 701 = .ok (.invokevirtual 77, 3) := by decide +kernel
theorem d_L_law_704 : decode code 704 = .ok (.if_icmp .eq 52, 3) := by decide +kernel
theorem d_L_law_707 : decode code 707 = .ok (.iconst 0, 1) := by decide +kernel
theorem d_L_law_708 : decode code 708 = .ok (.ireturn, 1) := by decide +kernel
theorem d_L_law_709 : decode code 709 = .ok (.aload_n 1, 1) := by decide +kernel
theorem d_L_law_710 : decode code 710 = .ok (.aload_n 0, 1) := by decide +kernel
theorem d_L_law_711 : decode code 711 = .ok (.iload_n 3, 1) := by decide +kernel
theorem d_L_law_712 : decode code 712 = .ok (.iconst 1, 1) := by decide +kernel
theorem d_L_law_713 : decode code 713 = .ok (.iadd, 1) := by decide +kernel
theorem d_L_law_714 : decode code 714 = .ok (.iaload, 1) := by decide +kernel
theorem d_L_law_715 : decode code 715 = .ok (.invokevirtual 78, 3) := by decide +kernel
theorem d_L_law_718 : decode code 718 = .ok (.aload_n 2, 1) := by decide +kernel
theorem d_L_law_719 : decode code 719 = .ok (.aload_n 0, 1) := by decide +kernel
theorem d_L_law_720 : decode code 720 = .ok (.iload_n 3, 1) := by decide +kernel
theorem d_L_law_721 : decode code 721 = .ok (.iconst 1, 1) := by decide +kernel
theorem d_L_law_722 : decode code 722 = .ok (.iadd, 1) := by decide +kernel
theorem d_L_law_723 : decode code 723 = .ok (.iaload, 1) := by decide +kernel
theorem d_L_law_724 : decode code 724 = .ok (.invokevirtual 82, 3) := by decide +kernel
theorem d_L_law_727 : decode code 727 = .ok (.lcmp, 1) := by decide +kernel
theorem d_L_law_728 : decode code 728 = .ok (.ifCond .eq 28, 3) := by decide +kernel
theorem d_L_law_731 : decode code 731 = .ok (.iconst 0, 1) := by decide +kernel
theorem d_L_law_732 : decode code 732 = .ok (.ireturn, 1) := by decide +kernel
theorem d_L_law_733 : decode code 733 = .ok (.aload_n 1, 1) := by decide +kernel
theorem d_L_law_734 : decode code 734 = .ok (.aload_n 0, 1) := by decide +kernel
theorem d_L_law_735 : decode code 735 = .ok (.iload_n 3, 1) := by decide +kernel
theorem d_L_law_736 : decode code 736 = .ok (.iconst 1, 1) := by decide +kernel
theorem d_L_law_737 : decode code 737 = .ok (.iadd, 1) := by decide +kernel
theorem d_L_law_738 : decode code 738 = .ok (.iaload, 1) := by decide +kernel
theorem d_L_law_739 : decode code 739 = .ok (.invokevirtual 83, 3) := by decide +kernel
theorem d_L_law_742 : decode code 742 = .ok (.aload_n 2, 1) := by decide +kernel
theorem d_L_law_743 : decode code 743 = .ok (.aload_n 0, 1) := by decide +kernel
theorem d_L_law_744 : decode code 744 = .ok (.iload_n 3, 1) := by decide +kernel
theorem d_L_law_745 : decode code 745 = .ok (.iconst 1, 1) := by decide +kernel
theorem d_L_law_746 : decode code 746 = .ok (.iadd, 1) := by decide +kernel
theorem d_L_law_747 : decode code 747 = .ok (.iaload, 1) := by decide +kernel
theorem d_L_law_748 : decode code 748 = .ok (.invokevirtual 86, 3) := by decide +kernel
theorem d_L_law_751 : decode code 751 = .ok (.if_icmp .eq 5, 3) := by decide +kernel
theorem d_L_law_754 : decode code 754 = .ok (.iconst 0, 1) := by decide +kernel
theorem d_L_law_755 : decode code 755 = .ok (.ireturn, 1) := by decide +kernel
theorem d_L_law_756 : decode code 756 = .ok (.iinc 3 8, 3) := by decide +kernel
theorem d_L_law_759 : decode code 759 = .ok (.goto (-741), 3) := by decide +kernel
theorem d_L_law_762 : decode code 762 = .ok (.iconst 1, 1) := by decide +kernel
theorem d_L_law_763 : decode code 763 = .ok (.ireturn, 1) := by decide +kernel
set_option maxRecDepth 20000 in
theorem kw_code_X_make : Cond.code y_X_make b_X_make 4 (some .int) ∈ gG := gG_in (List.mem_append_right _ (List.mem_of_getElem? (i := 102) rfl)) rfl
set_option maxRecDepth 20000 in
theorem kw_methodLink_BuildCounterLaw_13_X_make : Cond.methodLink R_law 13 y_X_make ∈ gG := gG_in (List.mem_append_right _ (List.mem_of_getElem? (i := 99) (by decide +kernel))) rfl
set_option maxRecDepth 20000 in
theorem kw_instanceMethod_X_make : Cond.instanceMethod y_X_make ∈ gG := gG_in (List.mem_append_right _ (List.mem_of_getElem? (i := 100) (by decide +kernel))) rfl
set_option maxRecDepth 20000 in
theorem kw_selects_X_make : Cond.selects R_X y_X_make y_X_make ∈ gG := gG_in (List.mem_append_right _ (List.mem_of_getElem? (i := 101) (by decide +kernel))) rfl
set_option maxRecDepth 20000 in
theorem kw_code_M_make : Cond.code y_M_make b_M_make 4 (some .int) ∈ gG := gG_in (List.mem_append_right _ (List.mem_of_getElem? (i := 495) rfl)) rfl
set_option maxRecDepth 20000 in
theorem kw_methodLink_BuildCounterLaw_17_M_make : Cond.methodLink R_law 17 y_M_make ∈ gG := gG_in (List.mem_append_right _ (List.mem_of_getElem? (i := 492) (by decide +kernel))) rfl
set_option maxRecDepth 20000 in
theorem kw_instanceMethod_M_make : Cond.instanceMethod y_M_make ∈ gG := gG_in (List.mem_append_right _ (List.mem_of_getElem? (i := 493) (by decide +kernel))) rfl
set_option maxRecDepth 20000 in
theorem kw_selects_M_make : Cond.selects R_M y_M_make y_M_make ∈ gG := gG_in (List.mem_append_right _ (List.mem_of_getElem? (i := 494) (by decide +kernel))) rfl
set_option maxRecDepth 20000 in
theorem kw_code_X_drop : Cond.code y_X_drop b_X_drop 5 (some .int) ∈ gG := gG_in (List.mem_append_right _ (List.mem_of_getElem? (i := 175) rfl)) rfl
set_option maxRecDepth 20000 in
theorem kw_methodLink_BuildCounterLaw_18_X_drop : Cond.methodLink R_law 18 y_X_drop ∈ gG := gG_in (List.mem_append_right _ (List.mem_of_getElem? (i := 172) (by decide +kernel))) rfl
set_option maxRecDepth 20000 in
theorem kw_instanceMethod_X_drop : Cond.instanceMethod y_X_drop ∈ gG := gG_in (List.mem_append_right _ (List.mem_of_getElem? (i := 173) (by decide +kernel))) rfl
set_option maxRecDepth 20000 in
theorem kw_selects_X_drop : Cond.selects R_X y_X_drop y_X_drop ∈ gG := gG_in (List.mem_append_right _ (List.mem_of_getElem? (i := 174) (by decide +kernel))) rfl
set_option maxRecDepth 20000 in
theorem kw_code_M_drop : Cond.code y_M_drop b_M_drop 4 (some .int) ∈ gG := gG_in (List.mem_append_right _ (List.mem_of_getElem? (i := 506) rfl)) rfl
set_option maxRecDepth 20000 in
theorem kw_methodLink_BuildCounterLaw_22_M_drop : Cond.methodLink R_law 22 y_M_drop ∈ gG := gG_in (List.mem_append_right _ (List.mem_of_getElem? (i := 503) (by decide +kernel))) rfl
set_option maxRecDepth 20000 in
theorem kw_instanceMethod_M_drop : Cond.instanceMethod y_M_drop ∈ gG := gG_in (List.mem_append_right _ (List.mem_of_getElem? (i := 504) (by decide +kernel))) rfl
set_option maxRecDepth 20000 in
theorem kw_selects_M_drop : Cond.selects R_M y_M_drop y_M_drop ∈ gG := gG_in (List.mem_append_right _ (List.mem_of_getElem? (i := 505) (by decide +kernel))) rfl
set_option maxRecDepth 20000 in
theorem kw_code_X_numbers : Cond.code y_X_numbers b_X_numbers 4 (some .int) ∈ gG := gG_in (List.mem_append_right _ (List.mem_of_getElem? (i := 183) rfl)) rfl
set_option maxRecDepth 20000 in
theorem kw_methodLink_BuildCounterLaw_23_X_numbers : Cond.methodLink R_law 23 y_X_numbers ∈ gG := gG_in (List.mem_append_right _ (List.mem_of_getElem? (i := 180) (by decide +kernel))) rfl
set_option maxRecDepth 20000 in
theorem kw_instanceMethod_X_numbers : Cond.instanceMethod y_X_numbers ∈ gG := gG_in (List.mem_append_right _ (List.mem_of_getElem? (i := 181) (by decide +kernel))) rfl
set_option maxRecDepth 20000 in
theorem kw_selects_X_numbers : Cond.selects R_X y_X_numbers y_X_numbers ∈ gG := gG_in (List.mem_append_right _ (List.mem_of_getElem? (i := 182) (by decide +kernel))) rfl
set_option maxRecDepth 20000 in
theorem kw_code_M_numbers : Cond.code y_M_numbers b_M_numbers 4 (some .int) ∈ gG := gG_in (List.mem_append_right _ (List.mem_of_getElem? (i := 510) rfl)) rfl
set_option maxRecDepth 20000 in
theorem kw_methodLink_BuildCounterLaw_26_M_numbers : Cond.methodLink R_law 26 y_M_numbers ∈ gG := gG_in (List.mem_append_right _ (List.mem_of_getElem? (i := 507) (by decide +kernel))) rfl
set_option maxRecDepth 20000 in
theorem kw_instanceMethod_M_numbers : Cond.instanceMethod y_M_numbers ∈ gG := gG_in (List.mem_append_right _ (List.mem_of_getElem? (i := 508) (by decide +kernel))) rfl
set_option maxRecDepth 20000 in
theorem kw_selects_M_numbers : Cond.selects R_M y_M_numbers y_M_numbers ∈ gG := gG_in (List.mem_append_right _ (List.mem_of_getElem? (i := 509) (by decide +kernel))) rfl
set_option maxRecDepth 20000 in
theorem kw_code_X_about : Cond.code y_X_about b_X_about 4 (some .int) ∈ gG := gG_in (List.mem_append_right _ (List.mem_of_getElem? (i := 187) rfl)) rfl
set_option maxRecDepth 20000 in
theorem kw_methodLink_BuildCounterLaw_27_X_about : Cond.methodLink R_law 27 y_X_about ∈ gG := gG_in (List.mem_append_right _ (List.mem_of_getElem? (i := 184) (by decide +kernel))) rfl
set_option maxRecDepth 20000 in
theorem kw_instanceMethod_X_about : Cond.instanceMethod y_X_about ∈ gG := gG_in (List.mem_append_right _ (List.mem_of_getElem? (i := 185) (by decide +kernel))) rfl
set_option maxRecDepth 20000 in
theorem kw_selects_X_about : Cond.selects R_X y_X_about y_X_about ∈ gG := gG_in (List.mem_append_right _ (List.mem_of_getElem? (i := 186) (by decide +kernel))) rfl
set_option maxRecDepth 20000 in
theorem kw_code_M_about : Cond.code y_M_about b_M_about 5 (some .int) ∈ gG := gG_in (List.mem_append_right _ (List.mem_of_getElem? (i := 514) rfl)) rfl
set_option maxRecDepth 20000 in
theorem kw_methodLink_BuildCounterLaw_30_M_about : Cond.methodLink R_law 30 y_M_about ∈ gG := gG_in (List.mem_append_right _ (List.mem_of_getElem? (i := 511) (by decide +kernel))) rfl
set_option maxRecDepth 20000 in
theorem kw_instanceMethod_M_about : Cond.instanceMethod y_M_about ∈ gG := gG_in (List.mem_append_right _ (List.mem_of_getElem? (i := 512) (by decide +kernel))) rfl
set_option maxRecDepth 20000 in
theorem kw_selects_M_about : Cond.selects R_M y_M_about y_M_about ∈ gG := gG_in (List.mem_append_right _ (List.mem_of_getElem? (i := 513) (by decide +kernel))) rfl
set_option maxRecDepth 20000 in
theorem kw_code_X_collect : Cond.code y_X_collect b_X_collect 3 (some .int) ∈ gG := gG_in (List.mem_append_right _ (List.mem_of_getElem? (i := 195) rfl)) rfl
set_option maxRecDepth 20000 in
theorem kw_methodLink_BuildCounterLaw_31_X_collect : Cond.methodLink R_law 31 y_X_collect ∈ gG := gG_in (List.mem_append_right _ (List.mem_of_getElem? (i := 192) (by decide +kernel))) rfl
set_option maxRecDepth 20000 in
theorem kw_instanceMethod_X_collect : Cond.instanceMethod y_X_collect ∈ gG := gG_in (List.mem_append_right _ (List.mem_of_getElem? (i := 193) (by decide +kernel))) rfl
set_option maxRecDepth 20000 in
theorem kw_selects_X_collect : Cond.selects R_X y_X_collect y_X_collect ∈ gG := gG_in (List.mem_append_right _ (List.mem_of_getElem? (i := 194) (by decide +kernel))) rfl
set_option maxRecDepth 20000 in
theorem kw_code_M_collect : Cond.code y_M_collect b_M_collect 4 (some .int) ∈ gG := gG_in (List.mem_append_right _ (List.mem_of_getElem? (i := 518) rfl)) rfl
set_option maxRecDepth 20000 in
theorem kw_methodLink_BuildCounterLaw_34_M_collect : Cond.methodLink R_law 34 y_M_collect ∈ gG := gG_in (List.mem_append_right _ (List.mem_of_getElem? (i := 515) (by decide +kernel))) rfl
set_option maxRecDepth 20000 in
theorem kw_instanceMethod_M_collect : Cond.instanceMethod y_M_collect ∈ gG := gG_in (List.mem_append_right _ (List.mem_of_getElem? (i := 516) (by decide +kernel))) rfl
set_option maxRecDepth 20000 in
theorem kw_selects_M_collect : Cond.selects R_M y_M_collect y_M_collect ∈ gG := gG_in (List.mem_append_right _ (List.mem_of_getElem? (i := 517) (by decide +kernel))) rfl
set_option maxRecDepth 20000 in
theorem kw_code_X_collected : Cond.code y_X_collected b_X_collected 2 (some .int) ∈ gG := gG_in (List.mem_append_right _ (List.mem_of_getElem? (i := 220) rfl)) rfl
set_option maxRecDepth 20000 in
theorem kw_methodLink_BuildCounterLaw_35_X_collected : Cond.methodLink R_law 35 y_X_collected ∈ gG := gG_in (List.mem_append_right _ (List.mem_of_getElem? (i := 217) (by decide +kernel))) rfl
set_option maxRecDepth 20000 in
theorem kw_instanceMethod_X_collected : Cond.instanceMethod y_X_collected ∈ gG := gG_in (List.mem_append_right _ (List.mem_of_getElem? (i := 218) (by decide +kernel))) rfl
set_option maxRecDepth 20000 in
theorem kw_selects_X_collected : Cond.selects R_X y_X_collected y_X_collected ∈ gG := gG_in (List.mem_append_right _ (List.mem_of_getElem? (i := 219) (by decide +kernel))) rfl
set_option maxRecDepth 20000 in
theorem kw_code_M_collected : Cond.code y_M_collected b_M_collected 2 (some .int) ∈ gG := gG_in (List.mem_append_right _ (List.mem_of_getElem? (i := 525) rfl)) rfl
set_option maxRecDepth 20000 in
theorem kw_methodLink_BuildCounterLaw_38_M_collected : Cond.methodLink R_law 38 y_M_collected ∈ gG := gG_in (List.mem_append_right _ (List.mem_of_getElem? (i := 522) (by decide +kernel))) rfl
set_option maxRecDepth 20000 in
theorem kw_instanceMethod_M_collected : Cond.instanceMethod y_M_collected ∈ gG := gG_in (List.mem_append_right _ (List.mem_of_getElem? (i := 523) (by decide +kernel))) rfl
set_option maxRecDepth 20000 in
theorem kw_selects_M_collected : Cond.selects R_M y_M_collected y_M_collected ∈ gG := gG_in (List.mem_append_right _ (List.mem_of_getElem? (i := 524) (by decide +kernel))) rfl
set_option maxRecDepth 20000 in
theorem kw_code_X_define : Cond.code y_X_define b_X_define 8 (some .boolean) ∈ gG := gG_in (List.mem_append_right _ (List.mem_of_getElem? (i := 224) rfl)) rfl
set_option maxRecDepth 20000 in
theorem kw_methodLink_BuildCounterLaw_41_X_define : Cond.methodLink R_law 41 y_X_define ∈ gG := gG_in (List.mem_append_right _ (List.mem_of_getElem? (i := 221) (by decide +kernel))) rfl
set_option maxRecDepth 20000 in
theorem kw_instanceMethod_X_define : Cond.instanceMethod y_X_define ∈ gG := gG_in (List.mem_append_right _ (List.mem_of_getElem? (i := 222) (by decide +kernel))) rfl
set_option maxRecDepth 20000 in
theorem kw_selects_X_define : Cond.selects R_X y_X_define y_X_define ∈ gG := gG_in (List.mem_append_right _ (List.mem_of_getElem? (i := 223) (by decide +kernel))) rfl
set_option maxRecDepth 20000 in
theorem kw_code_M_define : Cond.code y_M_define b_M_define 8 (some .boolean) ∈ gG := gG_in (List.mem_append_right _ (List.mem_of_getElem? (i := 529) rfl)) rfl
set_option maxRecDepth 20000 in
theorem kw_methodLink_BuildCounterLaw_45_M_define : Cond.methodLink R_law 45 y_M_define ∈ gG := gG_in (List.mem_append_right _ (List.mem_of_getElem? (i := 526) (by decide +kernel))) rfl
set_option maxRecDepth 20000 in
theorem kw_instanceMethod_M_define : Cond.instanceMethod y_M_define ∈ gG := gG_in (List.mem_append_right _ (List.mem_of_getElem? (i := 527) (by decide +kernel))) rfl
set_option maxRecDepth 20000 in
theorem kw_selects_M_define : Cond.selects R_M y_M_define y_M_define ∈ gG := gG_in (List.mem_append_right _ (List.mem_of_getElem? (i := 528) (by decide +kernel))) rfl
set_option maxRecDepth 20000 in
theorem kw_code_X_answer : Cond.code y_X_answer b_X_answer 5 (some .int) ∈ gG := gG_in (List.mem_append_right _ (List.mem_of_getElem? (i := 275) rfl)) rfl
set_option maxRecDepth 20000 in
theorem kw_methodLink_BuildCounterLaw_46_X_answer : Cond.methodLink R_law 46 y_X_answer ∈ gG := gG_in (List.mem_append_right _ (List.mem_of_getElem? (i := 272) (by decide +kernel))) rfl
set_option maxRecDepth 20000 in
theorem kw_instanceMethod_X_answer : Cond.instanceMethod y_X_answer ∈ gG := gG_in (List.mem_append_right _ (List.mem_of_getElem? (i := 273) (by decide +kernel))) rfl
set_option maxRecDepth 20000 in
theorem kw_selects_X_answer : Cond.selects R_X y_X_answer y_X_answer ∈ gG := gG_in (List.mem_append_right _ (List.mem_of_getElem? (i := 274) (by decide +kernel))) rfl
set_option maxRecDepth 20000 in
theorem kw_code_M_answer : Cond.code y_M_answer b_M_answer 4 (some .int) ∈ gG := gG_in (List.mem_append_right _ (List.mem_of_getElem? (i := 533) rfl)) rfl
set_option maxRecDepth 20000 in
theorem kw_methodLink_BuildCounterLaw_50_M_answer : Cond.methodLink R_law 50 y_M_answer ∈ gG := gG_in (List.mem_append_right _ (List.mem_of_getElem? (i := 530) (by decide +kernel))) rfl
set_option maxRecDepth 20000 in
theorem kw_instanceMethod_M_answer : Cond.instanceMethod y_M_answer ∈ gG := gG_in (List.mem_append_right _ (List.mem_of_getElem? (i := 531) (by decide +kernel))) rfl
set_option maxRecDepth 20000 in
theorem kw_selects_M_answer : Cond.selects R_M y_M_answer y_M_answer ∈ gG := gG_in (List.mem_append_right _ (List.mem_of_getElem? (i := 532) (by decide +kernel))) rfl
set_option maxRecDepth 20000 in
theorem kw_code_X_fails : Cond.code y_X_fails b_X_fails 5 (some .boolean) ∈ gG := gG_in (List.mem_append_right _ (List.mem_of_getElem? (i := 287) rfl)) rfl
set_option maxRecDepth 20000 in
theorem kw_methodLink_BuildCounterLaw_51_X_fails : Cond.methodLink R_law 51 y_X_fails ∈ gG := gG_in (List.mem_append_right _ (List.mem_of_getElem? (i := 284) (by decide +kernel))) rfl
set_option maxRecDepth 20000 in
theorem kw_instanceMethod_X_fails : Cond.instanceMethod y_X_fails ∈ gG := gG_in (List.mem_append_right _ (List.mem_of_getElem? (i := 285) (by decide +kernel))) rfl
set_option maxRecDepth 20000 in
theorem kw_selects_X_fails : Cond.selects R_X y_X_fails y_X_fails ∈ gG := gG_in (List.mem_append_right _ (List.mem_of_getElem? (i := 286) (by decide +kernel))) rfl
set_option maxRecDepth 20000 in
theorem kw_code_M_fails : Cond.code y_M_fails b_M_fails 4 (some .boolean) ∈ gG := gG_in (List.mem_append_right _ (List.mem_of_getElem? (i := 541) rfl)) rfl
set_option maxRecDepth 20000 in
theorem kw_methodLink_BuildCounterLaw_55_M_fails : Cond.methodLink R_law 55 y_M_fails ∈ gG := gG_in (List.mem_append_right _ (List.mem_of_getElem? (i := 538) (by decide +kernel))) rfl
set_option maxRecDepth 20000 in
theorem kw_instanceMethod_M_fails : Cond.instanceMethod y_M_fails ∈ gG := gG_in (List.mem_append_right _ (List.mem_of_getElem? (i := 539) (by decide +kernel))) rfl
set_option maxRecDepth 20000 in
theorem kw_selects_M_fails : Cond.selects R_M y_M_fails y_M_fails ∈ gG := gG_in (List.mem_append_right _ (List.mem_of_getElem? (i := 540) (by decide +kernel))) rfl
set_option maxRecDepth 20000 in
theorem kw_code_X_call : Cond.code y_X_call b_X_call 12 (some .long) ∈ gG := gG_in (List.mem_append_right _ (List.mem_of_getElem? (i := 291) rfl)) rfl
set_option maxRecDepth 20000 in
theorem kw_methodLink_BuildCounterLaw_56_X_call : Cond.methodLink R_law 56 y_X_call ∈ gG := gG_in (List.mem_append_right _ (List.mem_of_getElem? (i := 288) (by decide +kernel))) rfl
set_option maxRecDepth 20000 in
theorem kw_instanceMethod_X_call : Cond.instanceMethod y_X_call ∈ gG := gG_in (List.mem_append_right _ (List.mem_of_getElem? (i := 289) (by decide +kernel))) rfl
set_option maxRecDepth 20000 in
theorem kw_selects_X_call : Cond.selects R_X y_X_call y_X_call ∈ gG := gG_in (List.mem_append_right _ (List.mem_of_getElem? (i := 290) (by decide +kernel))) rfl
set_option maxRecDepth 20000 in
theorem kw_code_M_call : Cond.code y_M_call b_M_call 12 (some .long) ∈ gG := gG_in (List.mem_append_right _ (List.mem_of_getElem? (i := 545) rfl)) rfl
set_option maxRecDepth 20000 in
theorem kw_methodLink_BuildCounterLaw_60_M_call : Cond.methodLink R_law 60 y_M_call ∈ gG := gG_in (List.mem_append_right _ (List.mem_of_getElem? (i := 542) (by decide +kernel))) rfl
set_option maxRecDepth 20000 in
theorem kw_instanceMethod_M_call : Cond.instanceMethod y_M_call ∈ gG := gG_in (List.mem_append_right _ (List.mem_of_getElem? (i := 543) (by decide +kernel))) rfl
set_option maxRecDepth 20000 in
theorem kw_selects_M_call : Cond.selects R_M y_M_call y_M_call ∈ gG := gG_in (List.mem_append_right _ (List.mem_of_getElem? (i := 544) (by decide +kernel))) rfl
set_option maxRecDepth 20000 in
theorem kw_code_X_build : Cond.code y_X_build b_X_build 4 (some .boolean) ∈ gG := gG_in (List.mem_append_right _ (List.mem_of_getElem? (i := 342) rfl)) rfl
set_option maxRecDepth 20000 in
theorem kw_methodLink_BuildCounterLaw_61_X_build : Cond.methodLink R_law 61 y_X_build ∈ gG := gG_in (List.mem_append_right _ (List.mem_of_getElem? (i := 339) (by decide +kernel))) rfl
set_option maxRecDepth 20000 in
theorem kw_instanceMethod_X_build : Cond.instanceMethod y_X_build ∈ gG := gG_in (List.mem_append_right _ (List.mem_of_getElem? (i := 340) (by decide +kernel))) rfl
set_option maxRecDepth 20000 in
theorem kw_selects_X_build : Cond.selects R_X y_X_build y_X_build ∈ gG := gG_in (List.mem_append_right _ (List.mem_of_getElem? (i := 341) (by decide +kernel))) rfl
set_option maxRecDepth 20000 in
theorem kw_code_M_build : Cond.code y_M_build b_M_build 3 (some .boolean) ∈ gG := gG_in (List.mem_append_right _ (List.mem_of_getElem? (i := 568) rfl)) rfl
set_option maxRecDepth 20000 in
theorem kw_methodLink_BuildCounterLaw_65_M_build : Cond.methodLink R_law 65 y_M_build ∈ gG := gG_in (List.mem_append_right _ (List.mem_of_getElem? (i := 565) (by decide +kernel))) rfl
set_option maxRecDepth 20000 in
theorem kw_instanceMethod_M_build : Cond.instanceMethod y_M_build ∈ gG := gG_in (List.mem_append_right _ (List.mem_of_getElem? (i := 566) (by decide +kernel))) rfl
set_option maxRecDepth 20000 in
theorem kw_selects_M_build : Cond.selects R_M y_M_build y_M_build ∈ gG := gG_in (List.mem_append_right _ (List.mem_of_getElem? (i := 567) (by decide +kernel))) rfl
set_option maxRecDepth 20000 in
theorem kw_code_X_turn : Cond.code y_X_turn b_X_turn 9 (some .int) ∈ gG := gG_in (List.mem_append_right _ (List.mem_of_getElem? (i := 354) rfl)) rfl
set_option maxRecDepth 20000 in
theorem kw_methodLink_BuildCounterLaw_66_X_turn : Cond.methodLink R_law 66 y_X_turn ∈ gG := gG_in (List.mem_append_right _ (List.mem_of_getElem? (i := 351) (by decide +kernel))) rfl
set_option maxRecDepth 20000 in
theorem kw_instanceMethod_X_turn : Cond.instanceMethod y_X_turn ∈ gG := gG_in (List.mem_append_right _ (List.mem_of_getElem? (i := 352) (by decide +kernel))) rfl
set_option maxRecDepth 20000 in
theorem kw_selects_X_turn : Cond.selects R_X y_X_turn y_X_turn ∈ gG := gG_in (List.mem_append_right _ (List.mem_of_getElem? (i := 353) (by decide +kernel))) rfl
set_option maxRecDepth 20000 in
theorem kw_code_M_turn : Cond.code y_M_turn b_M_turn 5 (some .int) ∈ gG := gG_in (List.mem_append_right _ (List.mem_of_getElem? (i := 576) rfl)) rfl
set_option maxRecDepth 20000 in
theorem kw_methodLink_BuildCounterLaw_69_M_turn : Cond.methodLink R_law 69 y_M_turn ∈ gG := gG_in (List.mem_append_right _ (List.mem_of_getElem? (i := 573) (by decide +kernel))) rfl
set_option maxRecDepth 20000 in
theorem kw_instanceMethod_M_turn : Cond.instanceMethod y_M_turn ∈ gG := gG_in (List.mem_append_right _ (List.mem_of_getElem? (i := 574) (by decide +kernel))) rfl
set_option maxRecDepth 20000 in
theorem kw_selects_M_turn : Cond.selects R_M y_M_turn y_M_turn ∈ gG := gG_in (List.mem_append_right _ (List.mem_of_getElem? (i := 575) (by decide +kernel))) rfl
set_option maxRecDepth 20000 in
theorem kw_code_X_building : Cond.code y_X_building b_X_building 4 (some .int) ∈ gG := gG_in (List.mem_append_right _ (List.mem_of_getElem? (i := 377) rfl)) rfl
set_option maxRecDepth 20000 in
theorem kw_methodLink_BuildCounterLaw_70_X_building : Cond.methodLink R_law 70 y_X_building ∈ gG := gG_in (List.mem_append_right _ (List.mem_of_getElem? (i := 374) (by decide +kernel))) rfl
set_option maxRecDepth 20000 in
theorem kw_instanceMethod_X_building : Cond.instanceMethod y_X_building ∈ gG := gG_in (List.mem_append_right _ (List.mem_of_getElem? (i := 375) (by decide +kernel))) rfl
set_option maxRecDepth 20000 in
theorem kw_selects_X_building : Cond.selects R_X y_X_building y_X_building ∈ gG := gG_in (List.mem_append_right _ (List.mem_of_getElem? (i := 376) (by decide +kernel))) rfl
set_option maxRecDepth 20000 in
theorem kw_code_M_building : Cond.code y_M_building b_M_building 3 (some .int) ∈ gG := gG_in (List.mem_append_right _ (List.mem_of_getElem? (i := 584) rfl)) rfl
set_option maxRecDepth 20000 in
theorem kw_methodLink_BuildCounterLaw_73_M_building : Cond.methodLink R_law 73 y_M_building ∈ gG := gG_in (List.mem_append_right _ (List.mem_of_getElem? (i := 581) (by decide +kernel))) rfl
set_option maxRecDepth 20000 in
theorem kw_instanceMethod_M_building : Cond.instanceMethod y_M_building ∈ gG := gG_in (List.mem_append_right _ (List.mem_of_getElem? (i := 582) (by decide +kernel))) rfl
set_option maxRecDepth 20000 in
theorem kw_selects_M_building : Cond.selects R_M y_M_building y_M_building ∈ gG := gG_in (List.mem_append_right _ (List.mem_of_getElem? (i := 583) (by decide +kernel))) rfl
set_option maxRecDepth 20000 in
theorem kw_code_X_told : Cond.code y_X_told b_X_told 4 (some .int) ∈ gG := gG_in (List.mem_append_right _ (List.mem_of_getElem? (i := 381) rfl)) rfl
set_option maxRecDepth 20000 in
theorem kw_methodLink_BuildCounterLaw_74_X_told : Cond.methodLink R_law 74 y_X_told ∈ gG := gG_in (List.mem_append_right _ (List.mem_of_getElem? (i := 378) (by decide +kernel))) rfl
set_option maxRecDepth 20000 in
theorem kw_instanceMethod_X_told : Cond.instanceMethod y_X_told ∈ gG := gG_in (List.mem_append_right _ (List.mem_of_getElem? (i := 379) (by decide +kernel))) rfl
set_option maxRecDepth 20000 in
theorem kw_selects_X_told : Cond.selects R_X y_X_told y_X_told ∈ gG := gG_in (List.mem_append_right _ (List.mem_of_getElem? (i := 380) (by decide +kernel))) rfl
set_option maxRecDepth 20000 in
theorem kw_code_M_told : Cond.code y_M_told b_M_told 4 (some .int) ∈ gG := gG_in (List.mem_append_right _ (List.mem_of_getElem? (i := 588) rfl)) rfl
set_option maxRecDepth 20000 in
theorem kw_methodLink_BuildCounterLaw_77_M_told : Cond.methodLink R_law 77 y_M_told ∈ gG := gG_in (List.mem_append_right _ (List.mem_of_getElem? (i := 585) (by decide +kernel))) rfl
set_option maxRecDepth 20000 in
theorem kw_instanceMethod_M_told : Cond.instanceMethod y_M_told ∈ gG := gG_in (List.mem_append_right _ (List.mem_of_getElem? (i := 586) (by decide +kernel))) rfl
set_option maxRecDepth 20000 in
theorem kw_selects_M_told : Cond.selects R_M y_M_told y_M_told ∈ gG := gG_in (List.mem_append_right _ (List.mem_of_getElem? (i := 587) (by decide +kernel))) rfl
set_option maxRecDepth 20000 in
theorem kw_code_X_value : Cond.code y_X_value b_X_value 3 (some .long) ∈ gG := gG_in (List.mem_append_right _ (List.mem_of_getElem? (i := 389) rfl)) rfl
set_option maxRecDepth 20000 in
theorem kw_methodLink_BuildCounterLaw_78_X_value : Cond.methodLink R_law 78 y_X_value ∈ gG := gG_in (List.mem_append_right _ (List.mem_of_getElem? (i := 386) (by decide +kernel))) rfl
set_option maxRecDepth 20000 in
theorem kw_instanceMethod_X_value : Cond.instanceMethod y_X_value ∈ gG := gG_in (List.mem_append_right _ (List.mem_of_getElem? (i := 387) (by decide +kernel))) rfl
set_option maxRecDepth 20000 in
theorem kw_selects_X_value : Cond.selects R_X y_X_value y_X_value ∈ gG := gG_in (List.mem_append_right _ (List.mem_of_getElem? (i := 388) (by decide +kernel))) rfl
set_option maxRecDepth 20000 in
theorem kw_code_M_value : Cond.code y_M_value b_M_value 2 (some .long) ∈ gG := gG_in (List.mem_append_right _ (List.mem_of_getElem? (i := 600) rfl)) rfl
set_option maxRecDepth 20000 in
theorem kw_methodLink_BuildCounterLaw_82_M_value : Cond.methodLink R_law 82 y_M_value ∈ gG := gG_in (List.mem_append_right _ (List.mem_of_getElem? (i := 597) (by decide +kernel))) rfl
set_option maxRecDepth 20000 in
theorem kw_instanceMethod_M_value : Cond.instanceMethod y_M_value ∈ gG := gG_in (List.mem_append_right _ (List.mem_of_getElem? (i := 598) (by decide +kernel))) rfl
set_option maxRecDepth 20000 in
theorem kw_selects_M_value : Cond.selects R_M y_M_value y_M_value ∈ gG := gG_in (List.mem_append_right _ (List.mem_of_getElem? (i := 599) (by decide +kernel))) rfl
set_option maxRecDepth 20000 in
theorem kw_code_X_count : Cond.code y_X_count b_X_count 2 (some .int) ∈ gG := gG_in (List.mem_append_right _ (List.mem_of_getElem? (i := 393) rfl)) rfl
set_option maxRecDepth 20000 in
theorem kw_methodLink_BuildCounterLaw_83_X_count : Cond.methodLink R_law 83 y_X_count ∈ gG := gG_in (List.mem_append_right _ (List.mem_of_getElem? (i := 390) (by decide +kernel))) rfl
set_option maxRecDepth 20000 in
theorem kw_instanceMethod_X_count : Cond.instanceMethod y_X_count ∈ gG := gG_in (List.mem_append_right _ (List.mem_of_getElem? (i := 391) (by decide +kernel))) rfl
set_option maxRecDepth 20000 in
theorem kw_selects_X_count : Cond.selects R_X y_X_count y_X_count ∈ gG := gG_in (List.mem_append_right _ (List.mem_of_getElem? (i := 392) (by decide +kernel))) rfl
set_option maxRecDepth 20000 in
theorem kw_code_M_count : Cond.code y_M_count b_M_count 2 (some .int) ∈ gG := gG_in (List.mem_append_right _ (List.mem_of_getElem? (i := 604) rfl)) rfl
set_option maxRecDepth 20000 in
theorem kw_methodLink_BuildCounterLaw_86_M_count : Cond.methodLink R_law 86 y_M_count ∈ gG := gG_in (List.mem_append_right _ (List.mem_of_getElem? (i := 601) (by decide +kernel))) rfl
set_option maxRecDepth 20000 in
theorem kw_instanceMethod_M_count : Cond.instanceMethod y_M_count ∈ gG := gG_in (List.mem_append_right _ (List.mem_of_getElem? (i := 602) (by decide +kernel))) rfl
set_option maxRecDepth 20000 in
theorem kw_selects_M_count : Cond.selects R_M y_M_count y_M_count ∈ gG := gG_in (List.mem_append_right _ (List.mem_of_getElem? (i := 603) (by decide +kernel))) rfl
set_option maxRecDepth 20000 in
theorem kw_constantLong_BuildCounterLaw_39_4294967295 : Cond.constantLong R_law 39 (4294967295) ∈ gG := gG_in (List.mem_append_right _ (List.mem_of_getElem? (i := 605) (by decide +kernel))) rfl
set_option maxRecDepth 20000 in
theorem kw_classLink_BuildCounterLaw_7_BuildCounter : Cond.classLink R_law 7 R_X ∈ gG := gG_in (List.mem_append_right _ (List.mem_of_getElem? (i := 8) (by decide +kernel))) rfl
set_option maxRecDepth 20000 in
theorem kw_classLink_BuildCounterLaw_10_M : Cond.classLink R_law 10 R_M ∈ gG := gG_in (List.mem_append_right _ (List.mem_of_getElem? (i := 394) (by decide +kernel))) rfl
set_option maxRecDepth 20000 in
theorem kw_instantiable_5 : Cond.instantiable R_X 5 ∈ gG := gG_in (List.mem_append_right _ (List.mem_of_getElem? (i := 9) (by decide +kernel))) rfl
set_option maxRecDepth 20000 in
theorem kw_instantiable_M_30 : Cond.instantiable R_M 30 ∈ gG := gG_in (List.mem_append_right _ (List.mem_of_getElem? (i := 395) (by decide +kernel))) rfl
set_option maxRecDepth 20000 in
theorem kw_methodLink_BuildCounterLaw_9_X_init : Cond.methodLink R_law 9 y_X_init ∈ gG := gG_in (List.mem_append_right _ (List.mem_of_getElem? (i := 10) (by decide +kernel))) rfl
set_option maxRecDepth 20000 in
theorem kw_instanceMethod_X_init : Cond.instanceMethod y_X_init ∈ gG := gG_in (List.mem_append_right _ (List.mem_of_getElem? (i := 11) (by decide +kernel))) rfl
set_option maxRecDepth 20000 in
theorem kw_code_X_init : Cond.code y_X_init b_X_init 1 none ∈ gG := gG_in (List.mem_append_right _ (List.mem_of_getElem? (i := 12) rfl)) rfl
set_option maxRecDepth 20000 in
theorem kw_methodLink_BuildCounterLaw_12_M_init : Cond.methodLink R_law 12 y_M_init ∈ gG := gG_in (List.mem_append_right _ (List.mem_of_getElem? (i := 396) (by decide +kernel))) rfl
set_option maxRecDepth 20000 in
theorem kw_instanceMethod_M_init : Cond.instanceMethod y_M_init ∈ gG := gG_in (List.mem_append_right _ (List.mem_of_getElem? (i := 397) (by decide +kernel))) rfl
set_option maxRecDepth 20000 in
theorem kw_code_M_init : Cond.code y_M_init b_M_init 1 none ∈ gG := gG_in (List.mem_append_right _ (List.mem_of_getElem? (i := 398) rfl)) rfl
section LAWCALLS
variable {p : Program} {l : Launch} {e : Env} {R : Room} {s : State} {m : MethodId} {args : Array Value} {below : List Frame} {meth : Method} {c : Code} {H : Heap} {locs : List Loc} {cells slots : Nat} {Q : State → Prop}
variable {cc : ByteArray} {pc : Nat} {ls : Array Slot} {rest : List Value} {G : mG} {τ : mTau} {μ : mMem}
variable {nL : Nat}
theorem mw_callx {v : Value} {μ' : mMem} {st0 : List Value} {a : Array Value} {mc ms : Nat} (hM : mw G τ μ H locs) (hr : va_Run p l e R s m args below meth c H locs cells slots mc ms (F0 m pc ls st0) rest (mQx G τ (some v) μ' a) (fun q => G.2.2.1 ≤ q))
    (kk : ∀ (τ' : mTau) (H1 : Heap) (locs1 : List Loc), mExt τ τ' → mLv τ' μ' → mw G τ' μ' H1 locs1 → W p l e R s m args below meth c H1 locs1 (cells + mc) (slots + ms) Q (F0 m (pc + 3) ls (v :: rest))) : W p l e R s m args below meth c H locs cells slots Q (F0 m pc ls st0) := by
  intro T hT X
  obtain ⟨v1, st₀, t, T', L, h0, X', hL, e1, e2, ⟨hv, τ', hx, hlv, hm⟩, st⟩ := hr T hT X
  cases hv
  obtain ⟨t2, a1, b1⟩ := kk τ' T'.heap (locs ++ L) hx hlv ⟨by rw [e1]; exact hm.1, by rw [e1]; exact hm.2.1, fun q hq => by
    rcases List.mem_append.mp hq with h | h
    · exact hM.2.2.1 q h
    · exact hL q h, by rw [e1]; exact hm.2.2.2⟩ T' rfl X'
  exact ⟨t2, st t2 a1, b1⟩
theorem q_L_13 (hx : p.tables.exec = Jvm.exec) (hb : c.code = cc) (hml : c.maxLocals = nL) (hown : s.vm.findClass R_law = some m.cls) (hts : ∀ w ∈ gG, w.before args s = true) (hT : mT G s) (hM : mw G τ μ H locs) {a1 : Int32} {a2 : Int32} (hl : τ.2 0 0) {r : Int32} {μ2 : mMem} (hMet : Met l y_X_make w_X_make r_X_make (mPc G τ μ [.ref (τ.1 0 0), .int a1, .int a2]) (mQx G τ (some (.int r)) μ2) 5 28 (fun q => G.2.2.1 ≤ q)) (hR : r_X_make.frames + 1 ≤ R.frames ∧ 8 + (4 + 11) + r_X_make.locals ≤ R.locals) (hf : cells + 5 ≤ R.cells ∧ slots + 28 ≤ R.slots) (hW : 2 * (F0 m pc ls (.int a2 :: .int a1 :: .ref (τ.1 0 0) :: rest)).monitorRoom + (rest.map fun v => v.category).sum ≤ 8) (hsz : ls.size = nL) (hdg : decode cc pc = .ok (.invokevirtual 13, 3)) (kk : ∀ (τ' : mTau) (H1 : Heap) (locs1 : List Loc), mExt τ τ' → mLv τ' μ2 → mw G τ' μ2 H1 locs1 → W p l e R s m args below meth c H1 locs1 (cells + 5) (slots + 28) Q (F0 m (pc + 3) ls (.int r :: rest))) : W p l e R s m args below meth c H locs cells slots Q (F0 m pc ls (.int a2 :: .int a1 :: .ref (τ.1 0 0) :: rest)) :=
  mw_callx hM (va_runV (As := [.int a1, .int a2]) (rest := rest) ⟨hx, hb, hml, hown, hts⟩ hMet ⟨(callB_of 2 hts (gG_self kw_code_X_make) rfl rfl rfl (hts _ kw_initialized_BuildCounter) (hts _ kw_methodLink_BuildCounterLaw_13_X_make) (by decide +kernel) hR), hts _ kw_instanceMethod_X_make, hts _ kw_selects_X_make⟩ ⟨mPc.blind, mw_recv hT hM hl rfl rfl, mPc.pre hT hM⟩ rfl rfl hsz rfl hW hdg hf) kk
theorem q_L_17 (hx : p.tables.exec = Jvm.exec) (hb : c.code = cc) (hml : c.maxLocals = nL) (hown : s.vm.findClass R_law = some m.cls) (hts : ∀ w ∈ gG, w.before args s = true) (hT : mT G s) (hM : mw G τ μ H locs) {a1 : Int32} {a2 : Int32} (hl : τ.2 20 0) {r : Int32} {μ2 : mMem} (hMet : Met l y_M_make w_M_make r_M_make (mPc G τ μ [.ref (τ.1 20 0), .int a1, .int a2]) (mQ G τ (some (.int r)) μ2) 0 0 (fun q => G.2.2.1 ≤ q)) (hR : r_M_make.frames + 1 ≤ R.frames ∧ 8 + (4 + 11) + r_M_make.locals ≤ R.locals) (hf : cells ≤ R.cells ∧ slots ≤ R.slots) (hW : 2 * (F0 m pc ls (.int a2 :: .int a1 :: .ref (τ.1 20 0) :: rest)).monitorRoom + (rest.map fun v => v.category).sum ≤ 8) (hsz : ls.size = nL) (hdg : decode cc pc = .ok (.invokevirtual 17, 3)) (kk : ∀ (H1 : Heap) (locs1 : List Loc), mw G τ μ2 H1 locs1 → W p l e R s m args below meth c H1 locs1 cells slots Q (F0 m (pc + 3) ls (.int r :: rest))) : W p l e R s m args below meth c H locs cells slots Q (F0 m pc ls (.int a2 :: .int a1 :: .ref (τ.1 20 0) :: rest)) :=
  mw_call hM (va_runV (As := [.int a1, .int a2]) (rest := rest) ⟨hx, hb, hml, hown, hts⟩ hMet ⟨(callB_of 2 hts (gG_self kw_code_M_make) rfl rfl rfl (hts _ kw_initialized_M) (hts _ kw_methodLink_BuildCounterLaw_17_M_make) (by decide +kernel) hR), hts _ kw_instanceMethod_M_make, hts _ kw_selects_M_make⟩ ⟨mPc.blind, mw_recv hT hM hl rfl rfl, mPc.pre hT hM⟩ rfl rfl hsz rfl hW hdg hf) kk
theorem q_L_18 (hx : p.tables.exec = Jvm.exec) (hb : c.code = cc) (hml : c.maxLocals = nL) (hown : s.vm.findClass R_law = some m.cls) (hts : ∀ w ∈ gG, w.before args s = true) (hT : mT G s) (hM : mw G τ μ H locs) {a1 : Int32} (hl : τ.2 0 0) {r : Int32} {μ2 : mMem} (hMet : Met l y_X_drop w_X_drop r_X_drop (mPc G τ μ [.ref (τ.1 0 0), .int a1]) (mQ G τ (some (.int r)) μ2) 0 0 (fun q => G.2.2.1 ≤ q)) (hR : r_X_drop.frames + 1 ≤ R.frames ∧ 8 + (5 + 11) + r_X_drop.locals ≤ R.locals) (hf : cells ≤ R.cells ∧ slots ≤ R.slots) (hW : 2 * (F0 m pc ls (.int a1 :: .ref (τ.1 0 0) :: rest)).monitorRoom + (rest.map fun v => v.category).sum ≤ 8) (hsz : ls.size = nL) (hdg : decode cc pc = .ok (.invokevirtual 18, 3)) (kk : ∀ (H1 : Heap) (locs1 : List Loc), mw G τ μ2 H1 locs1 → W p l e R s m args below meth c H1 locs1 cells slots Q (F0 m (pc + 3) ls (.int r :: rest))) : W p l e R s m args below meth c H locs cells slots Q (F0 m pc ls (.int a1 :: .ref (τ.1 0 0) :: rest)) :=
  mw_call hM (va_runV (As := [.int a1]) (rest := rest) ⟨hx, hb, hml, hown, hts⟩ hMet ⟨(callB_of 1 hts (gG_self kw_code_X_drop) rfl rfl rfl (hts _ kw_initialized_BuildCounter) (hts _ kw_methodLink_BuildCounterLaw_18_X_drop) (by decide +kernel) hR), hts _ kw_instanceMethod_X_drop, hts _ kw_selects_X_drop⟩ ⟨mPc.blind, mw_recv hT hM hl rfl rfl, mPc.pre hT hM⟩ rfl rfl hsz rfl hW hdg hf) kk
theorem q_L_22 (hx : p.tables.exec = Jvm.exec) (hb : c.code = cc) (hml : c.maxLocals = nL) (hown : s.vm.findClass R_law = some m.cls) (hts : ∀ w ∈ gG, w.before args s = true) (hT : mT G s) (hM : mw G τ μ H locs) {a1 : Int32} (hl : τ.2 20 0) {r : Int32} {μ2 : mMem} (hMet : Met l y_M_drop w_M_drop r_M_drop (mPc G τ μ [.ref (τ.1 20 0), .int a1]) (mQ G τ (some (.int r)) μ2) 0 0 (fun q => G.2.2.1 ≤ q)) (hR : r_M_drop.frames + 1 ≤ R.frames ∧ 8 + (4 + 11) + r_M_drop.locals ≤ R.locals) (hf : cells ≤ R.cells ∧ slots ≤ R.slots) (hW : 2 * (F0 m pc ls (.int a1 :: .ref (τ.1 20 0) :: rest)).monitorRoom + (rest.map fun v => v.category).sum ≤ 8) (hsz : ls.size = nL) (hdg : decode cc pc = .ok (.invokevirtual 22, 3)) (kk : ∀ (H1 : Heap) (locs1 : List Loc), mw G τ μ2 H1 locs1 → W p l e R s m args below meth c H1 locs1 cells slots Q (F0 m (pc + 3) ls (.int r :: rest))) : W p l e R s m args below meth c H locs cells slots Q (F0 m pc ls (.int a1 :: .ref (τ.1 20 0) :: rest)) :=
  mw_call hM (va_runV (As := [.int a1]) (rest := rest) ⟨hx, hb, hml, hown, hts⟩ hMet ⟨(callB_of 1 hts (gG_self kw_code_M_drop) rfl rfl rfl (hts _ kw_initialized_M) (hts _ kw_methodLink_BuildCounterLaw_22_M_drop) (by decide +kernel) hR), hts _ kw_instanceMethod_M_drop, hts _ kw_selects_M_drop⟩ ⟨mPc.blind, mw_recv hT hM hl rfl rfl, mPc.pre hT hM⟩ rfl rfl hsz rfl hW hdg hf) kk
theorem q_L_23 (hx : p.tables.exec = Jvm.exec) (hb : c.code = cc) (hml : c.maxLocals = nL) (hown : s.vm.findClass R_law = some m.cls) (hts : ∀ w ∈ gG, w.before args s = true) (hT : mT G s) (hM : mw G τ μ H locs) {a1 : Int32} (hl : τ.2 0 0) {r : Int32} {μ2 : mMem} (hMet : Met l y_X_numbers w_X_numbers r_X_numbers (mPc G τ μ [.ref (τ.1 0 0), .int a1]) (mQ G τ (some (.int r)) μ2) 0 0 (fun q => G.2.2.1 ≤ q)) (hR : r_X_numbers.frames + 1 ≤ R.frames ∧ 8 + (4 + 11) + r_X_numbers.locals ≤ R.locals) (hf : cells ≤ R.cells ∧ slots ≤ R.slots) (hW : 2 * (F0 m pc ls (.int a1 :: .ref (τ.1 0 0) :: rest)).monitorRoom + (rest.map fun v => v.category).sum ≤ 8) (hsz : ls.size = nL) (hdg : decode cc pc = .ok (.invokevirtual 23, 3)) (kk : ∀ (H1 : Heap) (locs1 : List Loc), mw G τ μ2 H1 locs1 → W p l e R s m args below meth c H1 locs1 cells slots Q (F0 m (pc + 3) ls (.int r :: rest))) : W p l e R s m args below meth c H locs cells slots Q (F0 m pc ls (.int a1 :: .ref (τ.1 0 0) :: rest)) :=
  mw_call hM (va_runV (As := [.int a1]) (rest := rest) ⟨hx, hb, hml, hown, hts⟩ hMet ⟨(callB_of 1 hts (gG_self kw_code_X_numbers) rfl rfl rfl (hts _ kw_initialized_BuildCounter) (hts _ kw_methodLink_BuildCounterLaw_23_X_numbers) (by decide +kernel) hR), hts _ kw_instanceMethod_X_numbers, hts _ kw_selects_X_numbers⟩ ⟨mPc.blind, mw_recv hT hM hl rfl rfl, mPc.pre hT hM⟩ rfl rfl hsz rfl hW hdg hf) kk
theorem q_L_26 (hx : p.tables.exec = Jvm.exec) (hb : c.code = cc) (hml : c.maxLocals = nL) (hown : s.vm.findClass R_law = some m.cls) (hts : ∀ w ∈ gG, w.before args s = true) (hT : mT G s) (hM : mw G τ μ H locs) {a1 : Int32} (hl : τ.2 20 0) {r : Int32} {μ2 : mMem} (hMet : Met l y_M_numbers w_M_numbers r_M_numbers (mPc G τ μ [.ref (τ.1 20 0), .int a1]) (mQ G τ (some (.int r)) μ2) 0 0 (fun q => G.2.2.1 ≤ q)) (hR : r_M_numbers.frames + 1 ≤ R.frames ∧ 8 + (4 + 11) + r_M_numbers.locals ≤ R.locals) (hf : cells ≤ R.cells ∧ slots ≤ R.slots) (hW : 2 * (F0 m pc ls (.int a1 :: .ref (τ.1 20 0) :: rest)).monitorRoom + (rest.map fun v => v.category).sum ≤ 8) (hsz : ls.size = nL) (hdg : decode cc pc = .ok (.invokevirtual 26, 3)) (kk : ∀ (H1 : Heap) (locs1 : List Loc), mw G τ μ2 H1 locs1 → W p l e R s m args below meth c H1 locs1 cells slots Q (F0 m (pc + 3) ls (.int r :: rest))) : W p l e R s m args below meth c H locs cells slots Q (F0 m pc ls (.int a1 :: .ref (τ.1 20 0) :: rest)) :=
  mw_call hM (va_runV (As := [.int a1]) (rest := rest) ⟨hx, hb, hml, hown, hts⟩ hMet ⟨(callB_of 1 hts (gG_self kw_code_M_numbers) rfl rfl rfl (hts _ kw_initialized_M) (hts _ kw_methodLink_BuildCounterLaw_26_M_numbers) (by decide +kernel) hR), hts _ kw_instanceMethod_M_numbers, hts _ kw_selects_M_numbers⟩ ⟨mPc.blind, mw_recv hT hM hl rfl rfl, mPc.pre hT hM⟩ rfl rfl hsz rfl hW hdg hf) kk
theorem q_L_27 (hx : p.tables.exec = Jvm.exec) (hb : c.code = cc) (hml : c.maxLocals = nL) (hown : s.vm.findClass R_law = some m.cls) (hts : ∀ w ∈ gG, w.before args s = true) (hT : mT G s) (hM : mw G τ μ H locs) {a1 : Int32} {a2 : Int32} (hl : τ.2 0 0) {r : Int32} {μ2 : mMem} (hMet : Met l y_X_about w_X_about r_X_about (mPc G τ μ [.ref (τ.1 0 0), .int a1, .int a2]) (mQ G τ (some (.int r)) μ2) 0 0 (fun q => G.2.2.1 ≤ q)) (hR : r_X_about.frames + 1 ≤ R.frames ∧ 8 + (4 + 11) + r_X_about.locals ≤ R.locals) (hf : cells ≤ R.cells ∧ slots ≤ R.slots) (hW : 2 * (F0 m pc ls (.int a2 :: .int a1 :: .ref (τ.1 0 0) :: rest)).monitorRoom + (rest.map fun v => v.category).sum ≤ 8) (hsz : ls.size = nL) (hdg : decode cc pc = .ok (.invokevirtual 27, 3)) (kk : ∀ (H1 : Heap) (locs1 : List Loc), mw G τ μ2 H1 locs1 → W p l e R s m args below meth c H1 locs1 cells slots Q (F0 m (pc + 3) ls (.int r :: rest))) : W p l e R s m args below meth c H locs cells slots Q (F0 m pc ls (.int a2 :: .int a1 :: .ref (τ.1 0 0) :: rest)) :=
  mw_call hM (va_runV (As := [.int a1, .int a2]) (rest := rest) ⟨hx, hb, hml, hown, hts⟩ hMet ⟨(callB_of 2 hts (gG_self kw_code_X_about) rfl rfl rfl (hts _ kw_initialized_BuildCounter) (hts _ kw_methodLink_BuildCounterLaw_27_X_about) (by decide +kernel) hR), hts _ kw_instanceMethod_X_about, hts _ kw_selects_X_about⟩ ⟨mPc.blind, mw_recv hT hM hl rfl rfl, mPc.pre hT hM⟩ rfl rfl hsz rfl hW hdg hf) kk
theorem q_L_30 (hx : p.tables.exec = Jvm.exec) (hb : c.code = cc) (hml : c.maxLocals = nL) (hown : s.vm.findClass R_law = some m.cls) (hts : ∀ w ∈ gG, w.before args s = true) (hT : mT G s) (hM : mw G τ μ H locs) {a1 : Int32} {a2 : Int32} (hl : τ.2 20 0) {r : Int32} {μ2 : mMem} (hMet : Met l y_M_about w_M_about r_M_about (mPc G τ μ [.ref (τ.1 20 0), .int a1, .int a2]) (mQ G τ (some (.int r)) μ2) 0 0 (fun q => G.2.2.1 ≤ q)) (hR : r_M_about.frames + 1 ≤ R.frames ∧ 8 + (5 + 11) + r_M_about.locals ≤ R.locals) (hf : cells ≤ R.cells ∧ slots ≤ R.slots) (hW : 2 * (F0 m pc ls (.int a2 :: .int a1 :: .ref (τ.1 20 0) :: rest)).monitorRoom + (rest.map fun v => v.category).sum ≤ 8) (hsz : ls.size = nL) (hdg : decode cc pc = .ok (.invokevirtual 30, 3)) (kk : ∀ (H1 : Heap) (locs1 : List Loc), mw G τ μ2 H1 locs1 → W p l e R s m args below meth c H1 locs1 cells slots Q (F0 m (pc + 3) ls (.int r :: rest))) : W p l e R s m args below meth c H locs cells slots Q (F0 m pc ls (.int a2 :: .int a1 :: .ref (τ.1 20 0) :: rest)) :=
  mw_call hM (va_runV (As := [.int a1, .int a2]) (rest := rest) ⟨hx, hb, hml, hown, hts⟩ hMet ⟨(callB_of 2 hts (gG_self kw_code_M_about) rfl rfl rfl (hts _ kw_initialized_M) (hts _ kw_methodLink_BuildCounterLaw_30_M_about) (by decide +kernel) hR), hts _ kw_instanceMethod_M_about, hts _ kw_selects_M_about⟩ ⟨mPc.blind, mw_recv hT hM hl rfl rfl, mPc.pre hT hM⟩ rfl rfl hsz rfl hW hdg hf) kk
theorem q_L_31 (hx : p.tables.exec = Jvm.exec) (hb : c.code = cc) (hml : c.maxLocals = nL) (hown : s.vm.findClass R_law = some m.cls) (hts : ∀ w ∈ gG, w.before args s = true) (hT : mT G s) (hM : mw G τ μ H locs) {a1 : Int32} {a2 : Int32} (hl : τ.2 0 0) {r : Int32} {μ2 : mMem} (hMet : Met l y_X_collect w_X_collect r_X_collect (mPc G τ μ [.ref (τ.1 0 0), .int a1, .int a2]) (mQ G τ (some (.int r)) μ2) 0 0 (fun q => G.2.2.1 ≤ q)) (hR : r_X_collect.frames + 1 ≤ R.frames ∧ 8 + (3 + 11) + r_X_collect.locals ≤ R.locals) (hf : cells ≤ R.cells ∧ slots ≤ R.slots) (hW : 2 * (F0 m pc ls (.int a2 :: .int a1 :: .ref (τ.1 0 0) :: rest)).monitorRoom + (rest.map fun v => v.category).sum ≤ 8) (hsz : ls.size = nL) (hdg : decode cc pc = .ok (.invokevirtual 31, 3)) (kk : ∀ (H1 : Heap) (locs1 : List Loc), mw G τ μ2 H1 locs1 → W p l e R s m args below meth c H1 locs1 cells slots Q (F0 m (pc + 3) ls (.int r :: rest))) : W p l e R s m args below meth c H locs cells slots Q (F0 m pc ls (.int a2 :: .int a1 :: .ref (τ.1 0 0) :: rest)) :=
  mw_call hM (va_runV (As := [.int a1, .int a2]) (rest := rest) ⟨hx, hb, hml, hown, hts⟩ hMet ⟨(callB_of 2 hts (gG_self kw_code_X_collect) rfl rfl rfl (hts _ kw_initialized_BuildCounter) (hts _ kw_methodLink_BuildCounterLaw_31_X_collect) (by decide +kernel) hR), hts _ kw_instanceMethod_X_collect, hts _ kw_selects_X_collect⟩ ⟨mPc.blind, mw_recv hT hM hl rfl rfl, mPc.pre hT hM⟩ rfl rfl hsz rfl hW hdg hf) kk
theorem q_L_34 (hx : p.tables.exec = Jvm.exec) (hb : c.code = cc) (hml : c.maxLocals = nL) (hown : s.vm.findClass R_law = some m.cls) (hts : ∀ w ∈ gG, w.before args s = true) (hT : mT G s) (hM : mw G τ μ H locs) {a1 : Int32} {a2 : Int32} (hl : τ.2 20 0) {r : Int32} {μ2 : mMem} (hMet : Met l y_M_collect w_M_collect r_M_collect (mPc G τ μ [.ref (τ.1 20 0), .int a1, .int a2]) (mQ G τ (some (.int r)) μ2) 0 0 (fun q => G.2.2.1 ≤ q)) (hR : r_M_collect.frames + 1 ≤ R.frames ∧ 8 + (4 + 11) + r_M_collect.locals ≤ R.locals) (hf : cells ≤ R.cells ∧ slots ≤ R.slots) (hW : 2 * (F0 m pc ls (.int a2 :: .int a1 :: .ref (τ.1 20 0) :: rest)).monitorRoom + (rest.map fun v => v.category).sum ≤ 8) (hsz : ls.size = nL) (hdg : decode cc pc = .ok (.invokevirtual 34, 3)) (kk : ∀ (H1 : Heap) (locs1 : List Loc), mw G τ μ2 H1 locs1 → W p l e R s m args below meth c H1 locs1 cells slots Q (F0 m (pc + 3) ls (.int r :: rest))) : W p l e R s m args below meth c H locs cells slots Q (F0 m pc ls (.int a2 :: .int a1 :: .ref (τ.1 20 0) :: rest)) :=
  mw_call hM (va_runV (As := [.int a1, .int a2]) (rest := rest) ⟨hx, hb, hml, hown, hts⟩ hMet ⟨(callB_of 2 hts (gG_self kw_code_M_collect) rfl rfl rfl (hts _ kw_initialized_M) (hts _ kw_methodLink_BuildCounterLaw_34_M_collect) (by decide +kernel) hR), hts _ kw_instanceMethod_M_collect, hts _ kw_selects_M_collect⟩ ⟨mPc.blind, mw_recv hT hM hl rfl rfl, mPc.pre hT hM⟩ rfl rfl hsz rfl hW hdg hf) kk
theorem q_L_35 (hx : p.tables.exec = Jvm.exec) (hb : c.code = cc) (hml : c.maxLocals = nL) (hown : s.vm.findClass R_law = some m.cls) (hts : ∀ w ∈ gG, w.before args s = true) (hT : mT G s) (hM : mw G τ μ H locs) {a1 : Int32} (hl : τ.2 0 0) {r : Int32} {μ2 : mMem} (hMet : Met l y_X_collected w_X_collected r_X_collected (mPc G τ μ [.ref (τ.1 0 0), .int a1]) (mQ G τ (some (.int r)) μ2) 0 0 (fun q => G.2.2.1 ≤ q)) (hR : r_X_collected.frames + 1 ≤ R.frames ∧ 8 + (2 + 11) + r_X_collected.locals ≤ R.locals) (hf : cells ≤ R.cells ∧ slots ≤ R.slots) (hW : 2 * (F0 m pc ls (.int a1 :: .ref (τ.1 0 0) :: rest)).monitorRoom + (rest.map fun v => v.category).sum ≤ 8) (hsz : ls.size = nL) (hdg : decode cc pc = .ok (.invokevirtual 35, 3)) (kk : ∀ (H1 : Heap) (locs1 : List Loc), mw G τ μ2 H1 locs1 → W p l e R s m args below meth c H1 locs1 cells slots Q (F0 m (pc + 3) ls (.int r :: rest))) : W p l e R s m args below meth c H locs cells slots Q (F0 m pc ls (.int a1 :: .ref (τ.1 0 0) :: rest)) :=
  mw_call hM (va_runV (As := [.int a1]) (rest := rest) ⟨hx, hb, hml, hown, hts⟩ hMet ⟨(callB_of 1 hts (gG_self kw_code_X_collected) rfl rfl rfl (hts _ kw_initialized_BuildCounter) (hts _ kw_methodLink_BuildCounterLaw_35_X_collected) (by decide +kernel) hR), hts _ kw_instanceMethod_X_collected, hts _ kw_selects_X_collected⟩ ⟨mPc.blind, mw_recv hT hM hl rfl rfl, mPc.pre hT hM⟩ rfl rfl hsz rfl hW hdg hf) kk
theorem q_L_38 (hx : p.tables.exec = Jvm.exec) (hb : c.code = cc) (hml : c.maxLocals = nL) (hown : s.vm.findClass R_law = some m.cls) (hts : ∀ w ∈ gG, w.before args s = true) (hT : mT G s) (hM : mw G τ μ H locs) {a1 : Int32} (hl : τ.2 20 0) {r : Int32} {μ2 : mMem} (hMet : Met l y_M_collected w_M_collected r_M_collected (mPc G τ μ [.ref (τ.1 20 0), .int a1]) (mQ G τ (some (.int r)) μ2) 0 0 (fun q => G.2.2.1 ≤ q)) (hR : r_M_collected.frames + 1 ≤ R.frames ∧ 8 + (2 + 11) + r_M_collected.locals ≤ R.locals) (hf : cells ≤ R.cells ∧ slots ≤ R.slots) (hW : 2 * (F0 m pc ls (.int a1 :: .ref (τ.1 20 0) :: rest)).monitorRoom + (rest.map fun v => v.category).sum ≤ 8) (hsz : ls.size = nL) (hdg : decode cc pc = .ok (.invokevirtual 38, 3)) (kk : ∀ (H1 : Heap) (locs1 : List Loc), mw G τ μ2 H1 locs1 → W p l e R s m args below meth c H1 locs1 cells slots Q (F0 m (pc + 3) ls (.int r :: rest))) : W p l e R s m args below meth c H locs cells slots Q (F0 m pc ls (.int a1 :: .ref (τ.1 20 0) :: rest)) :=
  mw_call hM (va_runV (As := [.int a1]) (rest := rest) ⟨hx, hb, hml, hown, hts⟩ hMet ⟨(callB_of 1 hts (gG_self kw_code_M_collected) rfl rfl rfl (hts _ kw_initialized_M) (hts _ kw_methodLink_BuildCounterLaw_38_M_collected) (by decide +kernel) hR), hts _ kw_instanceMethod_M_collected, hts _ kw_selects_M_collected⟩ ⟨mPc.blind, mw_recv hT hM hl rfl rfl, mPc.pre hT hM⟩ rfl rfl hsz rfl hW hdg hf) kk
theorem q_L_41 (hx : p.tables.exec = Jvm.exec) (hb : c.code = cc) (hml : c.maxLocals = nL) (hown : s.vm.findClass R_law = some m.cls) (hts : ∀ w ∈ gG, w.before args s = true) (hT : mT G s) (hM : mw G τ μ H locs) {a1 : Int32} {a2 : Int32} {a3 : Int32} {a4 : Int64} {a5 : Int64} (hl : τ.2 0 0) {r : Int32} {μ2 : mMem} (hMet : Met l y_X_define w_X_define r_X_define (mPc G τ μ [.ref (τ.1 0 0), .int a1, .int a2, .int a3, .long a4, .long a5]) (mQx G τ (some (.int r)) μ2) 2 14 (fun q => G.2.2.1 ≤ q)) (hR : r_X_define.frames + 1 ≤ R.frames ∧ 8 + (8 + 11) + r_X_define.locals ≤ R.locals) (hf : cells + 2 ≤ R.cells ∧ slots + 14 ≤ R.slots) (hW : 2 * (F0 m pc ls (.long a5 :: .long a4 :: .int a3 :: .int a2 :: .int a1 :: .ref (τ.1 0 0) :: rest)).monitorRoom + (rest.map fun v => v.category).sum ≤ 8) (hsz : ls.size = nL) (hdg : decode cc pc = .ok (.invokevirtual 41, 3)) (kk : ∀ (τ' : mTau) (H1 : Heap) (locs1 : List Loc), mExt τ τ' → mLv τ' μ2 → mw G τ' μ2 H1 locs1 → W p l e R s m args below meth c H1 locs1 (cells + 2) (slots + 14) Q (F0 m (pc + 3) ls (.int r :: rest))) : W p l e R s m args below meth c H locs cells slots Q (F0 m pc ls (.long a5 :: .long a4 :: .int a3 :: .int a2 :: .int a1 :: .ref (τ.1 0 0) :: rest)) :=
  mw_callx hM (va_runV (As := [.int a1, .int a2, .int a3, .long a4, .long a5]) (rest := rest) ⟨hx, hb, hml, hown, hts⟩ hMet ⟨(callB_of 5 hts (gG_self kw_code_X_define) rfl rfl rfl (hts _ kw_initialized_BuildCounter) (hts _ kw_methodLink_BuildCounterLaw_41_X_define) (by decide +kernel) hR), hts _ kw_instanceMethod_X_define, hts _ kw_selects_X_define⟩ ⟨mPc.blind, mw_recv hT hM hl rfl rfl, mPc.pre hT hM⟩ rfl rfl hsz rfl hW hdg hf) kk
theorem q_L_45 (hx : p.tables.exec = Jvm.exec) (hb : c.code = cc) (hml : c.maxLocals = nL) (hown : s.vm.findClass R_law = some m.cls) (hts : ∀ w ∈ gG, w.before args s = true) (hT : mT G s) (hM : mw G τ μ H locs) {a1 : Int32} {a2 : Int32} {a3 : Int32} {a4 : Int64} {a5 : Int64} (hl : τ.2 20 0) {r : Int32} {μ2 : mMem} (hMet : Met l y_M_define w_M_define r_M_define (mPc G τ μ [.ref (τ.1 20 0), .int a1, .int a2, .int a3, .long a4, .long a5]) (mQ G τ (some (.int r)) μ2) 0 0 (fun q => G.2.2.1 ≤ q)) (hR : r_M_define.frames + 1 ≤ R.frames ∧ 8 + (8 + 11) + r_M_define.locals ≤ R.locals) (hf : cells ≤ R.cells ∧ slots ≤ R.slots) (hW : 2 * (F0 m pc ls (.long a5 :: .long a4 :: .int a3 :: .int a2 :: .int a1 :: .ref (τ.1 20 0) :: rest)).monitorRoom + (rest.map fun v => v.category).sum ≤ 8) (hsz : ls.size = nL) (hdg : decode cc pc = .ok (.invokevirtual 45, 3)) (kk : ∀ (H1 : Heap) (locs1 : List Loc), mw G τ μ2 H1 locs1 → W p l e R s m args below meth c H1 locs1 cells slots Q (F0 m (pc + 3) ls (.int r :: rest))) : W p l e R s m args below meth c H locs cells slots Q (F0 m pc ls (.long a5 :: .long a4 :: .int a3 :: .int a2 :: .int a1 :: .ref (τ.1 20 0) :: rest)) :=
  mw_call hM (va_runV (As := [.int a1, .int a2, .int a3, .long a4, .long a5]) (rest := rest) ⟨hx, hb, hml, hown, hts⟩ hMet ⟨(callB_of 5 hts (gG_self kw_code_M_define) rfl rfl rfl (hts _ kw_initialized_M) (hts _ kw_methodLink_BuildCounterLaw_45_M_define) (by decide +kernel) hR), hts _ kw_instanceMethod_M_define, hts _ kw_selects_M_define⟩ ⟨mPc.blind, mw_recv hT hM hl rfl rfl, mPc.pre hT hM⟩ rfl rfl hsz rfl hW hdg hf) kk
theorem q_L_46 (hx : p.tables.exec = Jvm.exec) (hb : c.code = cc) (hml : c.maxLocals = nL) (hown : s.vm.findClass R_law = some m.cls) (hts : ∀ w ∈ gG, w.before args s = true) (hT : mT G s) (hM : mw G τ μ H locs) {a1 : Int32} {a2 : Int64} (hl : τ.2 0 0) {r : Int32} {μ2 : mMem} (hMet : Met l y_X_answer w_X_answer r_X_answer (mPc G τ μ [.ref (τ.1 0 0), .int a1, .long a2]) (mQ G τ (some (.int r)) μ2) 0 0 (fun q => G.2.2.1 ≤ q)) (hR : r_X_answer.frames + 1 ≤ R.frames ∧ 8 + (5 + 11) + r_X_answer.locals ≤ R.locals) (hf : cells ≤ R.cells ∧ slots ≤ R.slots) (hW : 2 * (F0 m pc ls (.long a2 :: .int a1 :: .ref (τ.1 0 0) :: rest)).monitorRoom + (rest.map fun v => v.category).sum ≤ 8) (hsz : ls.size = nL) (hdg : decode cc pc = .ok (.invokevirtual 46, 3)) (kk : ∀ (H1 : Heap) (locs1 : List Loc), mw G τ μ2 H1 locs1 → W p l e R s m args below meth c H1 locs1 cells slots Q (F0 m (pc + 3) ls (.int r :: rest))) : W p l e R s m args below meth c H locs cells slots Q (F0 m pc ls (.long a2 :: .int a1 :: .ref (τ.1 0 0) :: rest)) :=
  mw_call hM (va_runV (As := [.int a1, .long a2]) (rest := rest) ⟨hx, hb, hml, hown, hts⟩ hMet ⟨(callB_of 2 hts (gG_self kw_code_X_answer) rfl rfl rfl (hts _ kw_initialized_BuildCounter) (hts _ kw_methodLink_BuildCounterLaw_46_X_answer) (by decide +kernel) hR), hts _ kw_instanceMethod_X_answer, hts _ kw_selects_X_answer⟩ ⟨mPc.blind, mw_recv hT hM hl rfl rfl, mPc.pre hT hM⟩ rfl rfl hsz rfl hW hdg hf) kk
theorem q_L_50 (hx : p.tables.exec = Jvm.exec) (hb : c.code = cc) (hml : c.maxLocals = nL) (hown : s.vm.findClass R_law = some m.cls) (hts : ∀ w ∈ gG, w.before args s = true) (hT : mT G s) (hM : mw G τ μ H locs) {a1 : Int32} {a2 : Int64} (hl : τ.2 20 0) {r : Int32} {μ2 : mMem} (hMet : Met l y_M_answer w_M_answer r_M_answer (mPc G τ μ [.ref (τ.1 20 0), .int a1, .long a2]) (mQ G τ (some (.int r)) μ2) 0 0 (fun q => G.2.2.1 ≤ q)) (hR : r_M_answer.frames + 1 ≤ R.frames ∧ 8 + (4 + 11) + r_M_answer.locals ≤ R.locals) (hf : cells ≤ R.cells ∧ slots ≤ R.slots) (hW : 2 * (F0 m pc ls (.long a2 :: .int a1 :: .ref (τ.1 20 0) :: rest)).monitorRoom + (rest.map fun v => v.category).sum ≤ 8) (hsz : ls.size = nL) (hdg : decode cc pc = .ok (.invokevirtual 50, 3)) (kk : ∀ (H1 : Heap) (locs1 : List Loc), mw G τ μ2 H1 locs1 → W p l e R s m args below meth c H1 locs1 cells slots Q (F0 m (pc + 3) ls (.int r :: rest))) : W p l e R s m args below meth c H locs cells slots Q (F0 m pc ls (.long a2 :: .int a1 :: .ref (τ.1 20 0) :: rest)) :=
  mw_call hM (va_runV (As := [.int a1, .long a2]) (rest := rest) ⟨hx, hb, hml, hown, hts⟩ hMet ⟨(callB_of 2 hts (gG_self kw_code_M_answer) rfl rfl rfl (hts _ kw_initialized_M) (hts _ kw_methodLink_BuildCounterLaw_50_M_answer) (by decide +kernel) hR), hts _ kw_instanceMethod_M_answer, hts _ kw_selects_M_answer⟩ ⟨mPc.blind, mw_recv hT hM hl rfl rfl, mPc.pre hT hM⟩ rfl rfl hsz rfl hW hdg hf) kk
theorem q_L_51 (hx : p.tables.exec = Jvm.exec) (hb : c.code = cc) (hml : c.maxLocals = nL) (hown : s.vm.findClass R_law = some m.cls) (hts : ∀ w ∈ gG, w.before args s = true) (hT : mT G s) (hM : mw G τ μ H locs) {a1 : Int32} {a2 : Int32} {a3 : Int32} (hl : τ.2 0 0) {r : Int32} {μ2 : mMem} (hMet : Met l y_X_fails w_X_fails r_X_fails (mPc G τ μ [.ref (τ.1 0 0), .int a1, .int a2, .int a3]) (mQ G τ (some (.int r)) μ2) 0 0 (fun q => G.2.2.1 ≤ q)) (hR : r_X_fails.frames + 1 ≤ R.frames ∧ 8 + (5 + 11) + r_X_fails.locals ≤ R.locals) (hf : cells ≤ R.cells ∧ slots ≤ R.slots) (hW : 2 * (F0 m pc ls (.int a3 :: .int a2 :: .int a1 :: .ref (τ.1 0 0) :: rest)).monitorRoom + (rest.map fun v => v.category).sum ≤ 8) (hsz : ls.size = nL) (hdg : decode cc pc = .ok (.invokevirtual 51, 3)) (kk : ∀ (H1 : Heap) (locs1 : List Loc), mw G τ μ2 H1 locs1 → W p l e R s m args below meth c H1 locs1 cells slots Q (F0 m (pc + 3) ls (.int r :: rest))) : W p l e R s m args below meth c H locs cells slots Q (F0 m pc ls (.int a3 :: .int a2 :: .int a1 :: .ref (τ.1 0 0) :: rest)) :=
  mw_call hM (va_runV (As := [.int a1, .int a2, .int a3]) (rest := rest) ⟨hx, hb, hml, hown, hts⟩ hMet ⟨(callB_of 3 hts (gG_self kw_code_X_fails) rfl rfl rfl (hts _ kw_initialized_BuildCounter) (hts _ kw_methodLink_BuildCounterLaw_51_X_fails) (by decide +kernel) hR), hts _ kw_instanceMethod_X_fails, hts _ kw_selects_X_fails⟩ ⟨mPc.blind, mw_recv hT hM hl rfl rfl, mPc.pre hT hM⟩ rfl rfl hsz rfl hW hdg hf) kk
theorem q_L_55 (hx : p.tables.exec = Jvm.exec) (hb : c.code = cc) (hml : c.maxLocals = nL) (hown : s.vm.findClass R_law = some m.cls) (hts : ∀ w ∈ gG, w.before args s = true) (hT : mT G s) (hM : mw G τ μ H locs) {a1 : Int32} {a2 : Int32} {a3 : Int32} (hl : τ.2 20 0) {r : Int32} {μ2 : mMem} (hMet : Met l y_M_fails w_M_fails r_M_fails (mPc G τ μ [.ref (τ.1 20 0), .int a1, .int a2, .int a3]) (mQ G τ (some (.int r)) μ2) 0 0 (fun q => G.2.2.1 ≤ q)) (hR : r_M_fails.frames + 1 ≤ R.frames ∧ 8 + (4 + 11) + r_M_fails.locals ≤ R.locals) (hf : cells ≤ R.cells ∧ slots ≤ R.slots) (hW : 2 * (F0 m pc ls (.int a3 :: .int a2 :: .int a1 :: .ref (τ.1 20 0) :: rest)).monitorRoom + (rest.map fun v => v.category).sum ≤ 8) (hsz : ls.size = nL) (hdg : decode cc pc = .ok (.invokevirtual 55, 3)) (kk : ∀ (H1 : Heap) (locs1 : List Loc), mw G τ μ2 H1 locs1 → W p l e R s m args below meth c H1 locs1 cells slots Q (F0 m (pc + 3) ls (.int r :: rest))) : W p l e R s m args below meth c H locs cells slots Q (F0 m pc ls (.int a3 :: .int a2 :: .int a1 :: .ref (τ.1 20 0) :: rest)) :=
  mw_call hM (va_runV (As := [.int a1, .int a2, .int a3]) (rest := rest) ⟨hx, hb, hml, hown, hts⟩ hMet ⟨(callB_of 3 hts (gG_self kw_code_M_fails) rfl rfl rfl (hts _ kw_initialized_M) (hts _ kw_methodLink_BuildCounterLaw_55_M_fails) (by decide +kernel) hR), hts _ kw_instanceMethod_M_fails, hts _ kw_selects_M_fails⟩ ⟨mPc.blind, mw_recv hT hM hl rfl rfl, mPc.pre hT hM⟩ rfl rfl hsz rfl hW hdg hf) kk
theorem q_L_56 (hx : p.tables.exec = Jvm.exec) (hb : c.code = cc) (hml : c.maxLocals = nL) (hown : s.vm.findClass R_law = some m.cls) (hts : ∀ w ∈ gG, w.before args s = true) (hT : mT G s) (hM : mw G τ μ H locs) {a1 : Int32} {a2 : Int32} {a3 : Int64} (hl : τ.2 0 0) {r : Int64} {μ2 : mMem} (hMet : Met l y_X_call w_X_call r_X_call (mPc G τ μ [.ref (τ.1 0 0), .int a1, .int a2, .long a3]) (mQ G τ (some (.long r)) μ2) 0 0 (fun q => G.2.2.1 ≤ q)) (hR : r_X_call.frames + 1 ≤ R.frames ∧ 8 + (12 + 11) + r_X_call.locals ≤ R.locals) (hf : cells ≤ R.cells ∧ slots ≤ R.slots) (hW : 2 * (F0 m pc ls (.long a3 :: .int a2 :: .int a1 :: .ref (τ.1 0 0) :: rest)).monitorRoom + (rest.map fun v => v.category).sum ≤ 8) (hsz : ls.size = nL) (hdg : decode cc pc = .ok (.invokevirtual 56, 3)) (kk : ∀ (H1 : Heap) (locs1 : List Loc), mw G τ μ2 H1 locs1 → W p l e R s m args below meth c H1 locs1 cells slots Q (F0 m (pc + 3) ls (.long r :: rest))) : W p l e R s m args below meth c H locs cells slots Q (F0 m pc ls (.long a3 :: .int a2 :: .int a1 :: .ref (τ.1 0 0) :: rest)) :=
  mw_call hM (va_runV (As := [.int a1, .int a2, .long a3]) (rest := rest) ⟨hx, hb, hml, hown, hts⟩ hMet ⟨(callB_of 3 hts (gG_self kw_code_X_call) rfl rfl rfl (hts _ kw_initialized_BuildCounter) (hts _ kw_methodLink_BuildCounterLaw_56_X_call) (by decide +kernel) hR), hts _ kw_instanceMethod_X_call, hts _ kw_selects_X_call⟩ ⟨mPc.blind, mw_recv hT hM hl rfl rfl, mPc.pre hT hM⟩ rfl rfl hsz rfl hW hdg hf) kk
theorem q_L_60 (hx : p.tables.exec = Jvm.exec) (hb : c.code = cc) (hml : c.maxLocals = nL) (hown : s.vm.findClass R_law = some m.cls) (hts : ∀ w ∈ gG, w.before args s = true) (hT : mT G s) (hM : mw G τ μ H locs) {a1 : Int32} {a2 : Int32} {a3 : Int64} (hl : τ.2 20 0) {r : Int64} {μ2 : mMem} (hMet : Met l y_M_call w_M_call r_M_call (mPc G τ μ [.ref (τ.1 20 0), .int a1, .int a2, .long a3]) (mQ G τ (some (.long r)) μ2) 0 0 (fun q => G.2.2.1 ≤ q)) (hR : r_M_call.frames + 1 ≤ R.frames ∧ 8 + (12 + 11) + r_M_call.locals ≤ R.locals) (hf : cells ≤ R.cells ∧ slots ≤ R.slots) (hW : 2 * (F0 m pc ls (.long a3 :: .int a2 :: .int a1 :: .ref (τ.1 20 0) :: rest)).monitorRoom + (rest.map fun v => v.category).sum ≤ 8) (hsz : ls.size = nL) (hdg : decode cc pc = .ok (.invokevirtual 60, 3)) (kk : ∀ (H1 : Heap) (locs1 : List Loc), mw G τ μ2 H1 locs1 → W p l e R s m args below meth c H1 locs1 cells slots Q (F0 m (pc + 3) ls (.long r :: rest))) : W p l e R s m args below meth c H locs cells slots Q (F0 m pc ls (.long a3 :: .int a2 :: .int a1 :: .ref (τ.1 20 0) :: rest)) :=
  mw_call hM (va_runV (As := [.int a1, .int a2, .long a3]) (rest := rest) ⟨hx, hb, hml, hown, hts⟩ hMet ⟨(callB_of 3 hts (gG_self kw_code_M_call) rfl rfl rfl (hts _ kw_initialized_M) (hts _ kw_methodLink_BuildCounterLaw_60_M_call) (by decide +kernel) hR), hts _ kw_instanceMethod_M_call, hts _ kw_selects_M_call⟩ ⟨mPc.blind, mw_recv hT hM hl rfl rfl, mPc.pre hT hM⟩ rfl rfl hsz rfl hW hdg hf) kk
theorem q_L_61 (hx : p.tables.exec = Jvm.exec) (hb : c.code = cc) (hml : c.maxLocals = nL) (hown : s.vm.findClass R_law = some m.cls) (hts : ∀ w ∈ gG, w.before args s = true) (hT : mT G s) (hM : mw G τ μ H locs) {a1 : Int32} {a2 : Int32} (hl : τ.2 0 0) {r : Int32} {μ2 : mMem} (hMet : Met l y_X_build w_X_build r_X_build (mPc G τ μ [.ref (τ.1 0 0), .int a1, .int a2]) (mQ G τ (some (.int r)) μ2) 0 0 (fun q => G.2.2.1 ≤ q)) (hR : r_X_build.frames + 1 ≤ R.frames ∧ 8 + (4 + 11) + r_X_build.locals ≤ R.locals) (hf : cells ≤ R.cells ∧ slots ≤ R.slots) (hW : 2 * (F0 m pc ls (.int a2 :: .int a1 :: .ref (τ.1 0 0) :: rest)).monitorRoom + (rest.map fun v => v.category).sum ≤ 8) (hsz : ls.size = nL) (hdg : decode cc pc = .ok (.invokevirtual 61, 3)) (kk : ∀ (H1 : Heap) (locs1 : List Loc), mw G τ μ2 H1 locs1 → W p l e R s m args below meth c H1 locs1 cells slots Q (F0 m (pc + 3) ls (.int r :: rest))) : W p l e R s m args below meth c H locs cells slots Q (F0 m pc ls (.int a2 :: .int a1 :: .ref (τ.1 0 0) :: rest)) :=
  mw_call hM (va_runV (As := [.int a1, .int a2]) (rest := rest) ⟨hx, hb, hml, hown, hts⟩ hMet ⟨(callB_of 2 hts (gG_self kw_code_X_build) rfl rfl rfl (hts _ kw_initialized_BuildCounter) (hts _ kw_methodLink_BuildCounterLaw_61_X_build) (by decide +kernel) hR), hts _ kw_instanceMethod_X_build, hts _ kw_selects_X_build⟩ ⟨mPc.blind, mw_recv hT hM hl rfl rfl, mPc.pre hT hM⟩ rfl rfl hsz rfl hW hdg hf) kk
theorem q_L_65 (hx : p.tables.exec = Jvm.exec) (hb : c.code = cc) (hml : c.maxLocals = nL) (hown : s.vm.findClass R_law = some m.cls) (hts : ∀ w ∈ gG, w.before args s = true) (hT : mT G s) (hM : mw G τ μ H locs) {a1 : Int32} {a2 : Int32} (hl : τ.2 20 0) {r : Int32} {μ2 : mMem} (hMet : Met l y_M_build w_M_build r_M_build (mPc G τ μ [.ref (τ.1 20 0), .int a1, .int a2]) (mQ G τ (some (.int r)) μ2) 0 0 (fun q => G.2.2.1 ≤ q)) (hR : r_M_build.frames + 1 ≤ R.frames ∧ 8 + (3 + 11) + r_M_build.locals ≤ R.locals) (hf : cells ≤ R.cells ∧ slots ≤ R.slots) (hW : 2 * (F0 m pc ls (.int a2 :: .int a1 :: .ref (τ.1 20 0) :: rest)).monitorRoom + (rest.map fun v => v.category).sum ≤ 8) (hsz : ls.size = nL) (hdg : decode cc pc = .ok (.invokevirtual 65, 3)) (kk : ∀ (H1 : Heap) (locs1 : List Loc), mw G τ μ2 H1 locs1 → W p l e R s m args below meth c H1 locs1 cells slots Q (F0 m (pc + 3) ls (.int r :: rest))) : W p l e R s m args below meth c H locs cells slots Q (F0 m pc ls (.int a2 :: .int a1 :: .ref (τ.1 20 0) :: rest)) :=
  mw_call hM (va_runV (As := [.int a1, .int a2]) (rest := rest) ⟨hx, hb, hml, hown, hts⟩ hMet ⟨(callB_of 2 hts (gG_self kw_code_M_build) rfl rfl rfl (hts _ kw_initialized_M) (hts _ kw_methodLink_BuildCounterLaw_65_M_build) (by decide +kernel) hR), hts _ kw_instanceMethod_M_build, hts _ kw_selects_M_build⟩ ⟨mPc.blind, mw_recv hT hM hl rfl rfl, mPc.pre hT hM⟩ rfl rfl hsz rfl hW hdg hf) kk
theorem q_L_66 (hx : p.tables.exec = Jvm.exec) (hb : c.code = cc) (hml : c.maxLocals = nL) (hown : s.vm.findClass R_law = some m.cls) (hts : ∀ w ∈ gG, w.before args s = true) (hT : mT G s) (hM : mw G τ μ H locs) {a1 : Int32} (hl : τ.2 0 0) {r : Int32} {μ2 : mMem} (hMet : Met l y_X_turn w_X_turn r_X_turn (mPc G τ μ [.ref (τ.1 0 0), .int a1]) (mQ G τ (some (.int r)) μ2) 0 0 (fun q => G.2.2.1 ≤ q)) (hR : r_X_turn.frames + 1 ≤ R.frames ∧ 8 + (9 + 11) + r_X_turn.locals ≤ R.locals) (hf : cells ≤ R.cells ∧ slots ≤ R.slots) (hW : 2 * (F0 m pc ls (.int a1 :: .ref (τ.1 0 0) :: rest)).monitorRoom + (rest.map fun v => v.category).sum ≤ 8) (hsz : ls.size = nL) (hdg : decode cc pc = .ok (.invokevirtual 66, 3)) (kk : ∀ (H1 : Heap) (locs1 : List Loc), mw G τ μ2 H1 locs1 → W p l e R s m args below meth c H1 locs1 cells slots Q (F0 m (pc + 3) ls (.int r :: rest))) : W p l e R s m args below meth c H locs cells slots Q (F0 m pc ls (.int a1 :: .ref (τ.1 0 0) :: rest)) :=
  mw_call hM (va_runV (As := [.int a1]) (rest := rest) ⟨hx, hb, hml, hown, hts⟩ hMet ⟨(callB_of 1 hts (gG_self kw_code_X_turn) rfl rfl rfl (hts _ kw_initialized_BuildCounter) (hts _ kw_methodLink_BuildCounterLaw_66_X_turn) (by decide +kernel) hR), hts _ kw_instanceMethod_X_turn, hts _ kw_selects_X_turn⟩ ⟨mPc.blind, mw_recv hT hM hl rfl rfl, mPc.pre hT hM⟩ rfl rfl hsz rfl hW hdg hf) kk
theorem q_L_69 (hx : p.tables.exec = Jvm.exec) (hb : c.code = cc) (hml : c.maxLocals = nL) (hown : s.vm.findClass R_law = some m.cls) (hts : ∀ w ∈ gG, w.before args s = true) (hT : mT G s) (hM : mw G τ μ H locs) {a1 : Int32} (hl : τ.2 20 0) {r : Int32} {μ2 : mMem} (hMet : Met l y_M_turn w_M_turn r_M_turn (mPc G τ μ [.ref (τ.1 20 0), .int a1]) (mQ G τ (some (.int r)) μ2) 0 0 (fun q => G.2.2.1 ≤ q)) (hR : r_M_turn.frames + 1 ≤ R.frames ∧ 8 + (5 + 11) + r_M_turn.locals ≤ R.locals) (hf : cells ≤ R.cells ∧ slots ≤ R.slots) (hW : 2 * (F0 m pc ls (.int a1 :: .ref (τ.1 20 0) :: rest)).monitorRoom + (rest.map fun v => v.category).sum ≤ 8) (hsz : ls.size = nL) (hdg : decode cc pc = .ok (.invokevirtual 69, 3)) (kk : ∀ (H1 : Heap) (locs1 : List Loc), mw G τ μ2 H1 locs1 → W p l e R s m args below meth c H1 locs1 cells slots Q (F0 m (pc + 3) ls (.int r :: rest))) : W p l e R s m args below meth c H locs cells slots Q (F0 m pc ls (.int a1 :: .ref (τ.1 20 0) :: rest)) :=
  mw_call hM (va_runV (As := [.int a1]) (rest := rest) ⟨hx, hb, hml, hown, hts⟩ hMet ⟨(callB_of 1 hts (gG_self kw_code_M_turn) rfl rfl rfl (hts _ kw_initialized_M) (hts _ kw_methodLink_BuildCounterLaw_69_M_turn) (by decide +kernel) hR), hts _ kw_instanceMethod_M_turn, hts _ kw_selects_M_turn⟩ ⟨mPc.blind, mw_recv hT hM hl rfl rfl, mPc.pre hT hM⟩ rfl rfl hsz rfl hW hdg hf) kk
theorem q_L_70 (hx : p.tables.exec = Jvm.exec) (hb : c.code = cc) (hml : c.maxLocals = nL) (hown : s.vm.findClass R_law = some m.cls) (hts : ∀ w ∈ gG, w.before args s = true) (hT : mT G s) (hM : mw G τ μ H locs) {a1 : Int32} {a2 : Int32} (hl : τ.2 0 0) {r : Int32} {μ2 : mMem} (hMet : Met l y_X_building w_X_building r_X_building (mPc G τ μ [.ref (τ.1 0 0), .int a1, .int a2]) (mQ G τ (some (.int r)) μ2) 0 0 (fun q => G.2.2.1 ≤ q)) (hR : r_X_building.frames + 1 ≤ R.frames ∧ 8 + (4 + 11) + r_X_building.locals ≤ R.locals) (hf : cells ≤ R.cells ∧ slots ≤ R.slots) (hW : 2 * (F0 m pc ls (.int a2 :: .int a1 :: .ref (τ.1 0 0) :: rest)).monitorRoom + (rest.map fun v => v.category).sum ≤ 8) (hsz : ls.size = nL) (hdg : decode cc pc = .ok (.invokevirtual 70, 3)) (kk : ∀ (H1 : Heap) (locs1 : List Loc), mw G τ μ2 H1 locs1 → W p l e R s m args below meth c H1 locs1 cells slots Q (F0 m (pc + 3) ls (.int r :: rest))) : W p l e R s m args below meth c H locs cells slots Q (F0 m pc ls (.int a2 :: .int a1 :: .ref (τ.1 0 0) :: rest)) :=
  mw_call hM (va_runV (As := [.int a1, .int a2]) (rest := rest) ⟨hx, hb, hml, hown, hts⟩ hMet ⟨(callB_of 2 hts (gG_self kw_code_X_building) rfl rfl rfl (hts _ kw_initialized_BuildCounter) (hts _ kw_methodLink_BuildCounterLaw_70_X_building) (by decide +kernel) hR), hts _ kw_instanceMethod_X_building, hts _ kw_selects_X_building⟩ ⟨mPc.blind, mw_recv hT hM hl rfl rfl, mPc.pre hT hM⟩ rfl rfl hsz rfl hW hdg hf) kk
theorem q_L_73 (hx : p.tables.exec = Jvm.exec) (hb : c.code = cc) (hml : c.maxLocals = nL) (hown : s.vm.findClass R_law = some m.cls) (hts : ∀ w ∈ gG, w.before args s = true) (hT : mT G s) (hM : mw G τ μ H locs) {a1 : Int32} {a2 : Int32} (hl : τ.2 20 0) {r : Int32} {μ2 : mMem} (hMet : Met l y_M_building w_M_building r_M_building (mPc G τ μ [.ref (τ.1 20 0), .int a1, .int a2]) (mQ G τ (some (.int r)) μ2) 0 0 (fun q => G.2.2.1 ≤ q)) (hR : r_M_building.frames + 1 ≤ R.frames ∧ 8 + (3 + 11) + r_M_building.locals ≤ R.locals) (hf : cells ≤ R.cells ∧ slots ≤ R.slots) (hW : 2 * (F0 m pc ls (.int a2 :: .int a1 :: .ref (τ.1 20 0) :: rest)).monitorRoom + (rest.map fun v => v.category).sum ≤ 8) (hsz : ls.size = nL) (hdg : decode cc pc = .ok (.invokevirtual 73, 3)) (kk : ∀ (H1 : Heap) (locs1 : List Loc), mw G τ μ2 H1 locs1 → W p l e R s m args below meth c H1 locs1 cells slots Q (F0 m (pc + 3) ls (.int r :: rest))) : W p l e R s m args below meth c H locs cells slots Q (F0 m pc ls (.int a2 :: .int a1 :: .ref (τ.1 20 0) :: rest)) :=
  mw_call hM (va_runV (As := [.int a1, .int a2]) (rest := rest) ⟨hx, hb, hml, hown, hts⟩ hMet ⟨(callB_of 2 hts (gG_self kw_code_M_building) rfl rfl rfl (hts _ kw_initialized_M) (hts _ kw_methodLink_BuildCounterLaw_73_M_building) (by decide +kernel) hR), hts _ kw_instanceMethod_M_building, hts _ kw_selects_M_building⟩ ⟨mPc.blind, mw_recv hT hM hl rfl rfl, mPc.pre hT hM⟩ rfl rfl hsz rfl hW hdg hf) kk
theorem q_L_74 (hx : p.tables.exec = Jvm.exec) (hb : c.code = cc) (hml : c.maxLocals = nL) (hown : s.vm.findClass R_law = some m.cls) (hts : ∀ w ∈ gG, w.before args s = true) (hT : mT G s) (hM : mw G τ μ H locs) {a1 : Int32} {a2 : Int32} (hl : τ.2 0 0) {r : Int32} {μ2 : mMem} (hMet : Met l y_X_told w_X_told r_X_told (mPc G τ μ [.ref (τ.1 0 0), .int a1, .int a2]) (mQ G τ (some (.int r)) μ2) 0 0 (fun q => G.2.2.1 ≤ q)) (hR : r_X_told.frames + 1 ≤ R.frames ∧ 8 + (4 + 11) + r_X_told.locals ≤ R.locals) (hf : cells ≤ R.cells ∧ slots ≤ R.slots) (hW : 2 * (F0 m pc ls (.int a2 :: .int a1 :: .ref (τ.1 0 0) :: rest)).monitorRoom + (rest.map fun v => v.category).sum ≤ 8) (hsz : ls.size = nL) (hdg : decode cc pc = .ok (.invokevirtual 74, 3)) (kk : ∀ (H1 : Heap) (locs1 : List Loc), mw G τ μ2 H1 locs1 → W p l e R s m args below meth c H1 locs1 cells slots Q (F0 m (pc + 3) ls (.int r :: rest))) : W p l e R s m args below meth c H locs cells slots Q (F0 m pc ls (.int a2 :: .int a1 :: .ref (τ.1 0 0) :: rest)) :=
  mw_call hM (va_runV (As := [.int a1, .int a2]) (rest := rest) ⟨hx, hb, hml, hown, hts⟩ hMet ⟨(callB_of 2 hts (gG_self kw_code_X_told) rfl rfl rfl (hts _ kw_initialized_BuildCounter) (hts _ kw_methodLink_BuildCounterLaw_74_X_told) (by decide +kernel) hR), hts _ kw_instanceMethod_X_told, hts _ kw_selects_X_told⟩ ⟨mPc.blind, mw_recv hT hM hl rfl rfl, mPc.pre hT hM⟩ rfl rfl hsz rfl hW hdg hf) kk
theorem q_L_77 (hx : p.tables.exec = Jvm.exec) (hb : c.code = cc) (hml : c.maxLocals = nL) (hown : s.vm.findClass R_law = some m.cls) (hts : ∀ w ∈ gG, w.before args s = true) (hT : mT G s) (hM : mw G τ μ H locs) {a1 : Int32} {a2 : Int32} (hl : τ.2 20 0) {r : Int32} {μ2 : mMem} (hMet : Met l y_M_told w_M_told r_M_told (mPc G τ μ [.ref (τ.1 20 0), .int a1, .int a2]) (mQ G τ (some (.int r)) μ2) 0 0 (fun q => G.2.2.1 ≤ q)) (hR : r_M_told.frames + 1 ≤ R.frames ∧ 8 + (4 + 11) + r_M_told.locals ≤ R.locals) (hf : cells ≤ R.cells ∧ slots ≤ R.slots) (hW : 2 * (F0 m pc ls (.int a2 :: .int a1 :: .ref (τ.1 20 0) :: rest)).monitorRoom + (rest.map fun v => v.category).sum ≤ 8) (hsz : ls.size = nL) (hdg : decode cc pc = .ok (.invokevirtual 77, 3)) (kk : ∀ (H1 : Heap) (locs1 : List Loc), mw G τ μ2 H1 locs1 → W p l e R s m args below meth c H1 locs1 cells slots Q (F0 m (pc + 3) ls (.int r :: rest))) : W p l e R s m args below meth c H locs cells slots Q (F0 m pc ls (.int a2 :: .int a1 :: .ref (τ.1 20 0) :: rest)) :=
  mw_call hM (va_runV (As := [.int a1, .int a2]) (rest := rest) ⟨hx, hb, hml, hown, hts⟩ hMet ⟨(callB_of 2 hts (gG_self kw_code_M_told) rfl rfl rfl (hts _ kw_initialized_M) (hts _ kw_methodLink_BuildCounterLaw_77_M_told) (by decide +kernel) hR), hts _ kw_instanceMethod_M_told, hts _ kw_selects_M_told⟩ ⟨mPc.blind, mw_recv hT hM hl rfl rfl, mPc.pre hT hM⟩ rfl rfl hsz rfl hW hdg hf) kk
theorem q_L_78 (hx : p.tables.exec = Jvm.exec) (hb : c.code = cc) (hml : c.maxLocals = nL) (hown : s.vm.findClass R_law = some m.cls) (hts : ∀ w ∈ gG, w.before args s = true) (hT : mT G s) (hM : mw G τ μ H locs) {a1 : Int32} (hl : τ.2 0 0) {r : Int64} {μ2 : mMem} (hMet : Met l y_X_value w_X_value r_X_value (mPc G τ μ [.ref (τ.1 0 0), .int a1]) (mQ G τ (some (.long r)) μ2) 0 0 (fun q => G.2.2.1 ≤ q)) (hR : r_X_value.frames + 1 ≤ R.frames ∧ 8 + (3 + 11) + r_X_value.locals ≤ R.locals) (hf : cells ≤ R.cells ∧ slots ≤ R.slots) (hW : 2 * (F0 m pc ls (.int a1 :: .ref (τ.1 0 0) :: rest)).monitorRoom + (rest.map fun v => v.category).sum ≤ 8) (hsz : ls.size = nL) (hdg : decode cc pc = .ok (.invokevirtual 78, 3)) (kk : ∀ (H1 : Heap) (locs1 : List Loc), mw G τ μ2 H1 locs1 → W p l e R s m args below meth c H1 locs1 cells slots Q (F0 m (pc + 3) ls (.long r :: rest))) : W p l e R s m args below meth c H locs cells slots Q (F0 m pc ls (.int a1 :: .ref (τ.1 0 0) :: rest)) :=
  mw_call hM (va_runV (As := [.int a1]) (rest := rest) ⟨hx, hb, hml, hown, hts⟩ hMet ⟨(callB_of 1 hts (gG_self kw_code_X_value) rfl rfl rfl (hts _ kw_initialized_BuildCounter) (hts _ kw_methodLink_BuildCounterLaw_78_X_value) (by decide +kernel) hR), hts _ kw_instanceMethod_X_value, hts _ kw_selects_X_value⟩ ⟨mPc.blind, mw_recv hT hM hl rfl rfl, mPc.pre hT hM⟩ rfl rfl hsz rfl hW hdg hf) kk
theorem q_L_82 (hx : p.tables.exec = Jvm.exec) (hb : c.code = cc) (hml : c.maxLocals = nL) (hown : s.vm.findClass R_law = some m.cls) (hts : ∀ w ∈ gG, w.before args s = true) (hT : mT G s) (hM : mw G τ μ H locs) {a1 : Int32} (hl : τ.2 20 0) {r : Int64} {μ2 : mMem} (hMet : Met l y_M_value w_M_value r_M_value (mPc G τ μ [.ref (τ.1 20 0), .int a1]) (mQ G τ (some (.long r)) μ2) 0 0 (fun q => G.2.2.1 ≤ q)) (hR : r_M_value.frames + 1 ≤ R.frames ∧ 8 + (2 + 11) + r_M_value.locals ≤ R.locals) (hf : cells ≤ R.cells ∧ slots ≤ R.slots) (hW : 2 * (F0 m pc ls (.int a1 :: .ref (τ.1 20 0) :: rest)).monitorRoom + (rest.map fun v => v.category).sum ≤ 8) (hsz : ls.size = nL) (hdg : decode cc pc = .ok (.invokevirtual 82, 3)) (kk : ∀ (H1 : Heap) (locs1 : List Loc), mw G τ μ2 H1 locs1 → W p l e R s m args below meth c H1 locs1 cells slots Q (F0 m (pc + 3) ls (.long r :: rest))) : W p l e R s m args below meth c H locs cells slots Q (F0 m pc ls (.int a1 :: .ref (τ.1 20 0) :: rest)) :=
  mw_call hM (va_runV (As := [.int a1]) (rest := rest) ⟨hx, hb, hml, hown, hts⟩ hMet ⟨(callB_of 1 hts (gG_self kw_code_M_value) rfl rfl rfl (hts _ kw_initialized_M) (hts _ kw_methodLink_BuildCounterLaw_82_M_value) (by decide +kernel) hR), hts _ kw_instanceMethod_M_value, hts _ kw_selects_M_value⟩ ⟨mPc.blind, mw_recv hT hM hl rfl rfl, mPc.pre hT hM⟩ rfl rfl hsz rfl hW hdg hf) kk
theorem q_L_83 (hx : p.tables.exec = Jvm.exec) (hb : c.code = cc) (hml : c.maxLocals = nL) (hown : s.vm.findClass R_law = some m.cls) (hts : ∀ w ∈ gG, w.before args s = true) (hT : mT G s) (hM : mw G τ μ H locs) {a1 : Int32} (hl : τ.2 0 0) {r : Int32} {μ2 : mMem} (hMet : Met l y_X_count w_X_count r_X_count (mPc G τ μ [.ref (τ.1 0 0), .int a1]) (mQ G τ (some (.int r)) μ2) 0 0 (fun q => G.2.2.1 ≤ q)) (hR : r_X_count.frames + 1 ≤ R.frames ∧ 8 + (2 + 11) + r_X_count.locals ≤ R.locals) (hf : cells ≤ R.cells ∧ slots ≤ R.slots) (hW : 2 * (F0 m pc ls (.int a1 :: .ref (τ.1 0 0) :: rest)).monitorRoom + (rest.map fun v => v.category).sum ≤ 8) (hsz : ls.size = nL) (hdg : decode cc pc = .ok (.invokevirtual 83, 3)) (kk : ∀ (H1 : Heap) (locs1 : List Loc), mw G τ μ2 H1 locs1 → W p l e R s m args below meth c H1 locs1 cells slots Q (F0 m (pc + 3) ls (.int r :: rest))) : W p l e R s m args below meth c H locs cells slots Q (F0 m pc ls (.int a1 :: .ref (τ.1 0 0) :: rest)) :=
  mw_call hM (va_runV (As := [.int a1]) (rest := rest) ⟨hx, hb, hml, hown, hts⟩ hMet ⟨(callB_of 1 hts (gG_self kw_code_X_count) rfl rfl rfl (hts _ kw_initialized_BuildCounter) (hts _ kw_methodLink_BuildCounterLaw_83_X_count) (by decide +kernel) hR), hts _ kw_instanceMethod_X_count, hts _ kw_selects_X_count⟩ ⟨mPc.blind, mw_recv hT hM hl rfl rfl, mPc.pre hT hM⟩ rfl rfl hsz rfl hW hdg hf) kk
theorem q_L_86 (hx : p.tables.exec = Jvm.exec) (hb : c.code = cc) (hml : c.maxLocals = nL) (hown : s.vm.findClass R_law = some m.cls) (hts : ∀ w ∈ gG, w.before args s = true) (hT : mT G s) (hM : mw G τ μ H locs) {a1 : Int32} (hl : τ.2 20 0) {r : Int32} {μ2 : mMem} (hMet : Met l y_M_count w_M_count r_M_count (mPc G τ μ [.ref (τ.1 20 0), .int a1]) (mQ G τ (some (.int r)) μ2) 0 0 (fun q => G.2.2.1 ≤ q)) (hR : r_M_count.frames + 1 ≤ R.frames ∧ 8 + (2 + 11) + r_M_count.locals ≤ R.locals) (hf : cells ≤ R.cells ∧ slots ≤ R.slots) (hW : 2 * (F0 m pc ls (.int a1 :: .ref (τ.1 20 0) :: rest)).monitorRoom + (rest.map fun v => v.category).sum ≤ 8) (hsz : ls.size = nL) (hdg : decode cc pc = .ok (.invokevirtual 86, 3)) (kk : ∀ (H1 : Heap) (locs1 : List Loc), mw G τ μ2 H1 locs1 → W p l e R s m args below meth c H1 locs1 cells slots Q (F0 m (pc + 3) ls (.int r :: rest))) : W p l e R s m args below meth c H locs cells slots Q (F0 m pc ls (.int a1 :: .ref (τ.1 20 0) :: rest)) :=
  mw_call hM (va_runV (As := [.int a1]) (rest := rest) ⟨hx, hb, hml, hown, hts⟩ hMet ⟨(callB_of 1 hts (gG_self kw_code_M_count) rfl rfl rfl (hts _ kw_initialized_M) (hts _ kw_methodLink_BuildCounterLaw_86_M_count) (by decide +kernel) hR), hts _ kw_instanceMethod_M_count, hts _ kw_selects_M_count⟩ ⟨mPc.blind, mw_recv hT hM hl rfl rfl, mPc.pre hT hM⟩ rfl rfl hsz rfl hW hdg hf) kk
end LAWCALLS
theorem lawS {G : mG} {τ : mTau} {μ : mMem} {H : Heap} {locs : List Loc} {s : State} (hG : G.2.2.1 = s.heap.size ∧ G.2.2.2 = s.heap) (hM : mw G τ μ H locs) : va_S (fun q : Nat => s.heap.size ≤ q) s.heap H locs := by
  obtain ⟨e1, e2⟩ := hG
  obtain ⟨h1, h2, h3, -⟩ := hM
  rw [e1] at h1 h2 h3
  rw [e2] at h2
  exact ⟨h1, fun q hq _ => h2 q hq, h3⟩
theorem scr_1 {x : Int32} {L : Nat} (h0 : 0 ≤ x.toInt) (h8 : x.toInt + 8 ≤ L) (hL : L ≤ 4096) : vp_in (x + (1 : Int32)) L := by
  have e : (1 : Int32).toInt = 1 := rfl
  have h := sm_add (x := x) (y := 1) (by omega) (by omega)
  exact vp_in_iff.mpr ⟨by omega, by omega⟩
theorem scr_2 {x : Int32} {L : Nat} (h0 : 0 ≤ x.toInt) (h8 : x.toInt + 8 ≤ L) (hL : L ≤ 4096) : vp_in (x + (2 : Int32)) L := by
  have e : (2 : Int32).toInt = 2 := rfl
  have h := sm_add (x := x) (y := 2) (by omega) (by omega)
  exact vp_in_iff.mpr ⟨by omega, by omega⟩
theorem scr_3 {x : Int32} {L : Nat} (h0 : 0 ≤ x.toInt) (h8 : x.toInt + 8 ≤ L) (hL : L ≤ 4096) : vp_in (x + (3 : Int32)) L := by
  have e : (3 : Int32).toInt = 3 := rfl
  have h := sm_add (x := x) (y := 3) (by omega) (by omega)
  exact vp_in_iff.mpr ⟨by omega, by omega⟩
theorem scr_4 {x : Int32} {L : Nat} (h0 : 0 ≤ x.toInt) (h8 : x.toInt + 8 ≤ L) (hL : L ≤ 4096) : vp_in (x + (4 : Int32)) L := by
  have e : (4 : Int32).toInt = 4 := rfl
  have h := sm_add (x := x) (y := 4) (by omega) (by omega)
  exact vp_in_iff.mpr ⟨by omega, by omega⟩
theorem scr_5 {x : Int32} {L : Nat} (h0 : 0 ≤ x.toInt) (h8 : x.toInt + 8 ≤ L) (hL : L ≤ 4096) : vp_in (x + (5 : Int32)) L := by
  have e : (5 : Int32).toInt = 5 := rfl
  have h := sm_add (x := x) (y := 5) (by omega) (by omega)
  exact vp_in_iff.mpr ⟨by omega, by omega⟩
theorem scr_6 {x : Int32} {L : Nat} (h0 : 0 ≤ x.toInt) (h8 : x.toInt + 8 ≤ L) (hL : L ≤ 4096) : vp_in (x + (6 : Int32)) L := by
  have e : (6 : Int32).toInt = 6 := rfl
  have h := sm_add (x := x) (y := 6) (by omega) (by omega)
  exact vp_in_iff.mpr ⟨by omega, by omega⟩
theorem scr_7 {x : Int32} {L : Nat} (h0 : 0 ≤ x.toInt) (h8 : x.toInt + 8 ≤ L) (hL : L ≤ 4096) : vp_in (x + (7 : Int32)) L := by
  have e : (7 : Int32).toInt = 7 := rfl
  have h := sm_add (x := x) (y := 7) (by omega) (by omega)
  exact vp_in_iff.mpr ⟨by omega, by omega⟩
