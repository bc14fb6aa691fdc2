def R_law : String := "HalfGamesLaw"
def lw_P (b : Addr) (xs : List Int32) (args : Array Value) (s : State) : Prop := args = #[.ref b] ∧ s.IntsAt b xs ∧ xs.length ≤ 3072 ∧ (Jvm.Cond.and given_1 narrow_1).before args s = true
def lw_Q (_ : Array Value) (s : State) (o : Outcome) (t : State) : Prop := o = .returned (some (.int 1)) ∧ Framed s o t [] 600000 7302250
def lw_Z (below : List Frame) (a : Array Value) (s : State) : State → Prop := fun t => ∃ o, t.status = .running ∧ Ended t below o ∧ lw_Q a s o t
/-- the law's own end, with 1 on the stack, nothing written that was there before, its room as the claim has it -/
theorem lw_ret {p : Program} {l : Launch} {e : Env} {s : State} {m : MethodId} {below : List Frame} {meth : Method} {c : Code} {b : Nat} (hx : p.tables.exec = Jvm.exec) (hb : c.code = code) (hr : meth.sig.returnType = ret) (hlocks : meth.locks = false) {pc : Nat} {H : Heap} {ls : Array Slot} (hdg : decode code pc = .ok (.ireturn, 1)) : W p l e room_1 s m #[Value.ref b] below meth c H [] 600000 7302250 (lw_Z below #[Value.ref b] s) (F0 m pc ls [.int 1]) := by
  intro T hT X
  obtain ⟨fs, hret, hrun, hended, hW, hframe⟩ := X.leave (v := some (.int 1)) (hlocks := hlocks) (fun h => by rw [hr] at h; cases h)
  have hmeth' : T.vm.method? m = some meth := X.method'
  refine ⟨T.setFrames fs, ?_, .returned (some (.int 1)), hrun, hended, rfl, ⟨_, rfl⟩, hW, hframe⟩
  jvm_step X.here [X.here.top, hx, hb, hdg, hmeth', hr, ret, narrow_b1]
  (try refine ⟨rfl, ?_⟩); (try refine ⟨rfl, ?_⟩)
  first | (intro acts; rw [hret _ acts rfl rfl rfl]) | rw [hret _ _ rfl rfl rfl]
  exact Steps.refl _
/-- what holds at the law's entry: the machine, the code, the tables' words (any of lw_tbl by 'hts w (by decide +kernel)'), the script of L ints xs at the cell b, what the Statement gives of the start (any of its parts by flat_of_before) -/
def lw_At (p : Program) (s : State) (m : MethodId) (meth : Method) (c : Code) (b L : Nat) (xs : Nat → Int32) : Prop :=
  p.tables.exec = Jvm.exec ∧ c.code = code ∧ meth.sig.returnType = ret ∧ c.maxLocals = 4 ∧ s.vm.findClass R_law = some m.cls ∧ (∀ w ∈ lw_tbl, w.before #[Value.ref b] s = true) ∧ va_X b L xs s s.heap ∧ b < s.heap.size ∧ meth.locks = false ∧ (Jvm.Cond.and given_1 narrow_1).before #[Value.ref b] s = true
theorem ii_6 (x : Int32) : x + Int32.ofInt 6 = x + 6 := by rw [show Int32.ofInt 6 = 6 from by decide]
/-- the law's script, which no cell of the world is -/
def gZ (E : gE) (w : wT) (b LL : Nat) (xs : Nat → Int32) : Prop := va_X b LL xs (eS E) (eS E).heap ∧ b < (eS E).heap.size ∧ ¬ inA w b ∧ (eQ E = lw_Z (eB E) (eA E) (eS E) ∧ eA E = #[Value.ref b] ∧ eR E = room_1) ∧ (eMe E).sig.returnType = ret ∧ (eMe E).locks = false ∧ (∀ k, k < NC → (eS E).heap.size ≤ w.1 k) ∧ eCe E ≤ 600000 ∧ eSl E ≤ 7302250
theorem g_sld {E : gE} {w : wT} {cc : ByteArray} {nL : Nat} {own : String} {h : Nat} {σ : St} {pc n : Nat} {L : List (Option Value)} {st : List Value} (X : gC E w cc nL own h) {b LL : Nat} {xs : Nat → Int32} (Z : gZ E w b LL xs) {i : Int32} (hin : vp_in i LL) (hd : decode cc pc = .ok (.iaload, 1)) (hp : pc + 1 = n) (k : gW E w nL σ n L (.int (xs i.toNatClampNeg) :: st)) : gW E w nL σ pc L (.int i :: .ref b :: st) := fun H locs ls a b1 c => va_sld X.1 X.2.1 Z.1 Z.2.1 Z.2.2.1 c hin hd (by rw [hp]; exact k H locs ls a b1 c)
theorem g_slen {E : gE} {w : wT} {cc : ByteArray} {nL : Nat} {own : String} {h : Nat} {σ : St} {pc n : Nat} {L : List (Option Value)} {st : List Value} (X : gC E w cc nL own h) {b LL : Nat} {xs : Nat → Int32} (Z : gZ E w b LL xs) (hd : decode cc pc = .ok (.arraylength, 1)) (hp : pc + 1 = n) (k : gW E w nL σ n L (.int (Int32.ofNat LL) :: st)) : gW E w nL σ pc L (.ref b :: st) := fun H locs ls a b1 c => va_slen X.1 X.2.1 Z.1 Z.2.1 Z.2.2.1 c hd (by rw [hp]; exact k H locs ls a b1 c)
theorem g_lawret {E : gE} {w : wT} {nL : Nat} {h : Nat} {σ : St} {pc : Nat} {L : List (Option Value)} (X : gC E w code nL RL h) {b LL : Nat} {xs : Nat → Int32} (Z : gZ E w b LL xs) (hd : decode code pc = .ok (.ireturn, 1)) : gW E w nL σ pc L [.int 1] := fun H locs ls a b1 c => by
  obtain ⟨-, -, -, ⟨hQ, hA, hR⟩, hr, hlk, hw, h1, h2⟩ := Z
  refine va_forget (fun q hq => ?_) ?_
  · obtain ⟨k, hk, e⟩ := c.2.2 q hq
    rw [e]
    exact hw k hk
  · refine W.widen (k := 600000) (n := 7302250) h1 h2 ?_
    rw [hQ, hA, hR]
    exact lw_ret X.1 X.2.1 hr hlk hd
theorem dL_law_0 : decode cL_law 0 = .ok (.new 7, 3) := by decide +kernel
theorem dL_law_3 : decode cL_law 3 = .ok (.dup, 1) := by decide +kernel
theorem dL_law_4 : decode cL_law 4 = .ok (.invokespecial 9, 3) := by decide +kernel
theorem dL_law_7 : decode cL_law 7 = .ok (.astore_n 1, 1) := by decide +kernel
theorem dL_law_8 : decode cL_law 8 = .ok (.new 10, 3) := by decide +kernel
theorem dL_law_11 : decode cL_law 11 = .ok (.dup, 1) := by decide +kernel
theorem dL_law_12 : decode cL_law 12 = .ok (.invokespecial 12, 3) := by decide +kernel
theorem dL_law_15 : decode cL_law 15 = .ok (.astore_n 2, 1) := by decide +kernel
theorem dL_law_16 : decode cL_law 16 = .ok (.iconst 0, 1) := by decide +kernel
theorem dL_law_17 : decode cL_law 17 = .ok (.istore_n 3, 1) := by decide +kernel
theorem dL_law_18 : decode cL_law 18 = .ok (.iload_n 3, 1) := by decide +kernel
theorem dL_law_19 : decode cL_law 19 = .ok (.aload_n 0, 1) := by decide +kernel
theorem dL_law_20 : decode cL_law 20 = .ok (.arraylength, 1) := by decide +kernel
theorem dL_law_21 : decode cL_law 21 = .ok (.bipush 6, 2) := by decide +kernel
theorem dL_law_23 : decode cL_law 23 = .ok (.isub, 1) := by decide +kernel
theorem dL_law_24 : decode cL_law 24 = .ok (.if_icmp .gt 1039, 3) := by decide +kernel
theorem dL_law_27 : decode cL_law 27 = .ok (.aload_n 0, 1) := by decide +kernel
theorem dL_law_28 : decode cL_law 28 = .ok (.iload_n 3, 1) := by decide +kernel
theorem dL_law_29 : decode cL_law 29 = .ok (.iaload, 1) := by decide +kernel
theorem dL_law_30 : decode cL_law 30 = .ok (.bipush 31, 2) := by decide +kernel
theorem dL_law_32 : decode cL_law 32 = .ok (.iand, 1) := by decide +kernel
theorem dL_law_33 : decode cL_law 33 = .ok (.tableswitch 1024 0 28 #[131, 175, 219, 283, 307, 371, 385, 398, 432, 466, 490, 534, 568, 582, 616, 650, 674, 708, 732, 766, 790, 814, 848, 872, 896, 930, 964, 987, 1011], 131) := by decide +kernel
theorem dL_law_164 : decode cL_law 164 = .ok (.aload_n 1, 1) := by decide +kernel
theorem dL_law_165 : decode cL_law 165 = .ok (.aload_n 0, 1) := by decide +kernel
theorem dL_law_166 : decode cL_law 166 = .ok (.iload_n 3, 1) := by decide +kernel
theorem dL_law_167 : decode cL_law 167 = .ok (.iconst 1, 1) := by decide +kernel
theorem dL_law_168 : decode cL_law 168 = .ok (.iadd, 1) := by decide +kernel
theorem dL_law_169 : decode cL_law 169 = .ok (.iaload, 1) := by decide +kernel
theorem dL_law_170 : decode cL_law 170 = .ok (.aload_n 0, 1) := by decide +kernel
theorem dL_law_171 : decode cL_law 171 = .ok (.iload_n 3, 1) := by decide +kernel
theorem dL_law_172 : decode cL_law 172 = .ok (.iconst 2, 1) := by decide +kernel
theorem dL_law_173 : decode cL_law 173 = .ok (.iadd, 1) := by decide +kernel
theorem dL_law_174 : decode cL_law 174 = .ok (.iaload, 1) := by decide +kernel
theorem dL_law_175 : decode cL_law 175 = .ok (.aload_n 0, 1) := by decide +kernel
theorem dL_law_176 : decode cL_law 176 = .ok (.iload_n 3, 1) := by decide +kernel
theorem dL_law_177 : decode cL_law 177 = .ok (.iconst 3, 1) := by decide +kernel
theorem dL_law_178 : decode cL_law 178 = .ok (.iadd, 1) := by decide +kernel
theorem dL_law_179 : decode cL_law 179 = .ok (.iaload, 1) := by decide +kernel
theorem dL_law_180 : decode cL_law 180 = .ok (.invokevirtual 13, 3) := by decide +kernel
theorem dL_law_183 : decode cL_law 183 = .ok (.aload_n 2, 1) := by decide +kernel
theorem dL_law_184 : decode cL_law 184 = .ok (.aload_n 0, 1) := by decide +kernel
theorem dL_law_185 : decode cL_law 185 = .ok (.iload_n 3, 1) := by decide +kernel
theorem dL_law_186 : decode cL_law 186 = .ok (.iconst 1, 1) := by decide +kernel
theorem dL_law_187 : decode cL_law 187 = .ok (.iadd, 1) := by decide +kernel
theorem dL_law_188 : decode cL_law 188 = .ok (.iaload, 1) := by decide +kernel
theorem dL_law_189 : decode cL_law 189 = .ok (.aload_n 0, 1) := by decide +kernel
theorem dL_law_190 : decode cL_law 190 = .ok (.iload_n 3, 1) := by decide +kernel
theorem dL_law_191 : decode cL_law 191 = .ok (.iconst 2, 1) := by decide +kernel
theorem dL_law_192 : decode cL_law 192 = .ok (.iadd, 1) := by decide +kernel
theorem dL_law_193 : decode cL_law 193 = .ok (.iaload, 1) := by decide +kernel
theorem dL_law_194 : decode cL_law 194 = .ok (.aload_n 0, 1) := by decide +kernel
theorem dL_law_195 : decode cL_law 195 = .ok (.iload_n 3, 1) := by decide +kernel
theorem dL_law_196 : decode cL_law 196 = .ok (.iconst 3, 1) := by decide +kernel
theorem dL_law_197 : decode cL_law 197 = .ok (.iadd, 1) := by decide +kernel
theorem dL_law_198 : decode cL_law 198 = .ok (.iaload, 1) := by decide +kernel
theorem dL_law_199 : decode cL_law 199 = .ok (.invokevirtual 17, 3) := by decide +kernel
theorem dL_law_202 : decode cL_law 202 = .ok (.lcmp, 1) := by decide +kernel
theorem dL_law_203 : decode cL_law 203 = .ok (.ifCond .eq 854, 3) := by decide +kernel
theorem dL_law_206 : decode cL_law 206 = .ok (.iconst 0, 1) := by decide +kernel
theorem dL_law_207 : decode cL_law 207 = .ok (.ireturn, 1) := by decide +kernel
theorem dL_law_208 : decode cL_law 208 = .ok (.aload_n 1, 1) := by decide +kernel
theorem dL_law_209 : decode cL_law 209 = .ok (.aload_n 0, 1) := by decide +kernel
theorem dL_law_210 : decode cL_law 210 = .ok (.iload_n 3, 1) := by decide +kernel
theorem dL_law_211 : decode cL_law 211 = .ok (.iconst 1, 1) := by decide +kernel
theorem dL_law_212 : decode cL_law 212 = .ok (.iadd, 1) := by decide +kernel
theorem dL_law_213 : decode cL_law 213 = .ok (.iaload, 1) := by decide +kernel
theorem dL_law_214 : decode cL_law 214 = .ok (.aload_n 0, 1) := by decide +kernel
theorem dL_law_215 : decode cL_law 215 = .ok (.iload_n 3, 1) := by decide +kernel
theorem dL_law_216 : decode cL_law 216 = .ok (.iconst 2, 1) := by decide +kernel
theorem dL_law_217 : decode cL_law 217 = .ok (.iadd, 1) := by decide +kernel
theorem dL_law_218 : decode cL_law 218 = .ok (.iaload, 1) := by decide +kernel
theorem dL_law_219 : decode cL_law 219 = .ok (.aload_n 0, 1) := by decide +kernel
theorem dL_law_220 : decode cL_law 220 = .ok (.iload_n 3, 1) := by decide +kernel
theorem dL_law_221 : decode cL_law 221 = .ok (.iconst 3, 1) := by decide +kernel
theorem dL_law_222 : decode cL_law 222 = .ok (.iadd, 1) := by decide +kernel
theorem dL_law_223 : decode cL_law 223 = .ok (.iaload, 1) := by decide +kernel
theorem dL_law_224 : decode cL_law 224 = .ok (.invokevirtual 18, 3) := by decide +kernel
theorem dL_law_227 : decode cL_law 227 = .ok (.aload_n 2, 1) := by decide +kernel
theorem dL_law_228 : decode cL_law 228 = .ok (.aload_n 0, 1) := by decide +kernel
theorem dL_law_229 : decode cL_law 229 = .ok (.iload_n 3, 1) := by decide +kernel
theorem dL_law_230 : decode cL_law 230 = .ok (.iconst 1, 1) := by decide +kernel
theorem dL_law_231 : decode cL_law 231 = .ok (.iadd, 1) := by decide +kernel
theorem dL_law_232 : decode cL_law 232 = .ok (.iaload, 1) := by decide +kernel
theorem dL_law_233 : decode cL_law 233 = .ok (.aload_n 0, 1) := by decide +kernel
theorem dL_law_234 : decode cL_law 234 = .ok (.iload_n 3, 1) := by decide +kernel
theorem dL_law_235 : decode cL_law 235 = .ok (.iconst 2, 1) := by decide +kernel
theorem dL_law_236 : decode cL_law 236 = .ok (.iadd, 1) := by decide +kernel
theorem dL_law_237 : decode cL_law 237 = .ok (.iaload, 1) := by decide +kernel
theorem dL_law_238 : decode cL_law 238 = .ok (.aload_n 0, 1) := by decide +kernel
theorem dL_law_239 : decode cL_law 239 = .ok (.iload_n 3, 1) := by decide +kernel
theorem dL_law_240 : decode cL_law 240 = .ok (.iconst 3, 1) := by decide +kernel
theorem dL_law_241 : decode cL_law 241 = .ok (.iadd, 1) := by decide +kernel
theorem dL_law_242 : decode cL_law 242 = .ok (.iaload, 1) := by decide +kernel
theorem dL_law_243 : decode cL_law 243 = .ok (.invokevirtual 21, 3) := by decide +kernel
theorem dL_law_246 : decode cL_law 246 = .ok (.lcmp, 1) := by decide +kernel
theorem dL_law_247 : decode cL_law 247 = .ok (.ifCond .eq 810, 3) := by decide +kernel
theorem dL_law_250 : decode cL_law 250 = .ok (.iconst 0, 1) := by decide +kernel
theorem dL_law_251 : decode cL_law 251 = .ok (.ireturn, 1) := by decide +kernel
theorem dL_law_252 : decode cL_law 252 = .ok (.aload_n 1, 1) := by decide +kernel
theorem dL_law_253 : decode cL_law 253 = .ok (.aload_n 0, 1) := by decide +kernel
theorem dL_law_254 : decode cL_law 254 = .ok (.iload_n 3, 1) := by decide +kernel
theorem dL_law_255 : decode cL_law 255 = .ok (.iconst 1, 1) := by decide +kernel
theorem dL_law_256 : decode cL_law 256 = .ok (.iadd, 1) := by decide +kernel
theorem dL_law_257 : decode cL_law 257 = .ok (.iaload, 1) := by decide +kernel
theorem dL_law_258 : decode cL_law 258 = .ok (.aload_n 0, 1) := by decide +kernel
theorem dL_law_259 : decode cL_law 259 = .ok (.iload_n 3, 1) := by decide +kernel
theorem dL_law_260 : decode cL_law 260 = .ok (.iconst 2, 1) := by decide +kernel
theorem dL_law_261 : decode cL_law 261 = .ok (.iadd, 1) := by decide +kernel
theorem dL_law_262 : decode cL_law 262 = .ok (.iaload, 1) := by decide +kernel
theorem dL_law_263 : decode cL_law 263 = .ok (.aload_n 0, 1) := by decide +kernel
theorem dL_law_264 : decode cL_law 264 = .ok (.iload_n 3, 1) := by decide +kernel
theorem dL_law_265 : decode cL_law 265 = .ok (.iconst 3, 1) := by decide +kernel
theorem dL_law_266 : decode cL_law 266 = .ok (.iadd, 1) := by decide +kernel
theorem dL_law_267 : decode cL_law 267 = .ok (.iaload, 1) := by decide +kernel
theorem dL_law_268 : decode cL_law 268 = .ok (.aload_n 0, 1) := by decide +kernel
theorem dL_law_269 : decode cL_law 269 = .ok (.iload_n 3, 1) := by decide +kernel
theorem dL_law_270 : decode cL_law 270 = .ok (.iconst 4, 1) := by decide +kernel
theorem dL_law_271 : decode cL_law 271 = .ok (.iadd, 1) := by decide +kernel
theorem dL_law_272 : decode cL_law 272 = .ok (.iaload, 1) := by decide +kernel
theorem dL_law_273 : decode cL_law 273 = .ok (.aload_n 0, 1) := by decide +kernel
theorem dL_law_274 : decode cL_law 274 = .ok (.iload_n 3, 1) := by decide +kernel
theorem dL_law_275 : decode cL_law 275 = .ok (.iconst 5, 1) := by decide +kernel
theorem dL_law_276 : decode cL_law 276 = .ok (.iadd, 1) := by decide +kernel
theorem dL_law_277 : decode cL_law 277 = .ok (.iaload, 1) := by decide +kernel
theorem dL_law_278 : decode cL_law 278 = .ok (.invokevirtual 22, 3) := by decide +kernel
theorem dL_law_281 : decode cL_law 281 = .ok (.aload_n 2, 1) := by decide +kernel
theorem dL_law_282 : decode cL_law 282 = .ok (.aload_n 0, 1) := by decide +kernel
theorem dL_law_283 : decode cL_law 283 = .ok (.iload_n 3, 1) := by decide +kernel
theorem dL_law_284 : decode cL_law 284 = .ok (.iconst 1, 1) := by decide +kernel
theorem dL_law_285 : decode cL_law 285 = .ok (.iadd, 1) := by decide +kernel
theorem dL_law_286 : decode cL_law 286 = .ok (.iaload, 1) := by decide +kernel
theorem dL_law_287 : decode cL_law 287 = .ok (.aload_n 0, 1) := by decide +kernel
theorem dL_law_288 : decode cL_law 288 = .ok (.iload_n 3, 1) := by decide +kernel
theorem dL_law_289 : decode cL_law 289 = .ok (.iconst 2, 1) := by decide +kernel
theorem dL_law_290 : decode cL_law 290 = .ok (.iadd, 1) := by decide +kernel
theorem dL_law_291 : decode cL_law 291 = .ok (.iaload, 1) := by decide +kernel
theorem dL_law_292 : decode cL_law 292 = .ok (.aload_n 0, 1) := by decide +kernel
theorem dL_law_293 : decode cL_law 293 = .ok (.iload_n 3, 1) := by decide +kernel
theorem dL_law_294 : decode cL_law 294 = .ok (.iconst 3, 1) := by decide +kernel
theorem dL_law_295 : decode cL_law 295 = .ok (.iadd, 1) := by decide +kernel
theorem dL_law_296 : decode cL_law 296 = .ok (.iaload, 1) := by decide +kernel
theorem dL_law_297 : decode cL_law 297 = .ok (.aload_n 0, 1) := by decide +kernel
theorem dL_law_298 : decode cL_law 298 = .ok (.iload_n 3, 1) := by decide +kernel
theorem dL_law_299 : decode cL_law 299 = .ok (.iconst 4, 1) := by decide +kernel
theorem dL_law_300 : decode cL_law 300 = .ok (.iadd, 1) := by decide +kernel
theorem dL_law_301 : decode cL_law 301 = .ok (.iaload, 1) := by decide +kernel
theorem dL_law_302 : decode cL_law 302 = .ok (.aload_n 0, 1) := by decide +kernel
theorem dL_law_303 : decode cL_law 303 = .ok (.iload_n 3, 1) := by decide +kernel
theorem dL_law_304 : decode cL_law 304 = .ok (.iconst 5, 1) := by decide +kernel
theorem dL_law_305 : decode cL_law 305 = .ok (.iadd, 1) := by decide +kernel
theorem dL_law_306 : decode cL_law 306 = .ok (.iaload, 1) := by decide +kernel
theorem dL_law_307 : decode cL_law 307 = .ok (.invokevirtual 26, 3) := by decide +kernel
theorem dL_law_310 : decode cL_law 310 = .ok (.lcmp, 1) := by decide +kernel
theorem dL_law_311 : decode cL_law 311 = .ok (.ifCond .eq 746, 3) := by decide +kernel
theorem dL_law_314 : decode cL_law 314 = .ok (.iconst 0, 1) := by decide +kernel
theorem dL_law_315 : decode cL_law 315 = .ok (.ireturn, 1) := by decide +kernel
theorem dL_law_316 : decode cL_law 316 = .ok (.aload_n 1, 1) := by decide +kernel
theorem dL_law_317 : decode cL_law 317 = .ok (.aload_n 0, 1) := by decide +kernel
theorem dL_law_318 : decode cL_law 318 = .ok (.iload_n 3, 1) := by decide +kernel
theorem dL_law_319 : decode cL_law 319 = .ok (.iconst 1, 1) := by decide +kernel
theorem dL_law_320 : decode cL_law 320 = .ok (.iadd, 1) := by decide +kernel
theorem dL_law_321 : decode cL_law 321 = .ok (.iaload, 1) := by decide +kernel
theorem dL_law_322 : decode cL_law 322 = .ok (.invokevirtual 27, 3) := by decide +kernel
theorem dL_law_325 : decode cL_law 325 = .ok (.aload_n 2, 1) := by decide +kernel
theorem dL_law_326 : decode cL_law 326 = .ok (.aload_n 0, 1) := by decide +kernel
theorem dL_law_327 : decode cL_law 327 = .ok (.iload_n 3, 1) := by decide +kernel
theorem dL_law_328 : decode cL_law 328 = .ok (.iconst 1, 1) := by decide +kernel
theorem dL_law_329 : decode cL_law 329 = .ok (.iadd, 1) := by decide +kernel
theorem dL_law_330 : decode cL_law 330 = .ok (.iaload, 1) := by decide +kernel
theorem dL_law_331 : decode cL_law 331 = .ok (.invokevirtual 31, 3) := by decide +kernel
theorem dL_law_334 : decode cL_law 334 = .ok (.lcmp, 1) := by decide +kernel
theorem dL_law_335 : decode cL_law 335 = .ok (.ifCond .eq 722, 3) := by decide +kernel
theorem dL_law_338 : decode cL_law 338 = .ok (.iconst 0, 1) := by decide +kernel
theorem dL_law_339 : decode cL_law 339 = .ok (.ireturn, 1) := by decide +kernel
theorem dL_law_340 : decode cL_law 340 = .ok (.aload_n 1, 1) := by decide +kernel
theorem dL_law_341 : decode cL_law 341 = .ok (.aload_n 0, 1) := by decide +kernel
theorem dL_law_342 : decode cL_law 342 = .ok (.iload_n 3, 1) := by decide +kernel
theorem dL_law_343 : decode cL_law 343 = .ok (.iconst 1, 1) := by decide +kernel
theorem dL_law_344 : decode cL_law 344 = .ok (.iadd, 1) := by decide +kernel
theorem dL_law_345 : decode cL_law 345 = .ok (.iaload, 1) := by decide +kernel
theorem dL_law_346 : decode cL_law 346 = .ok (.i2l, 1) := by decide +kernel
theorem dL_law_347 : decode cL_law 347 = .ok (.bipush 32, 2) := by decide +kernel
theorem dL_law_349 : decode cL_law 349 = .ok (.lshl, 1) := by decide +kernel
theorem dL_law_350 : decode cL_law 350 = .ok (.aload_n 0, 1) := by decide +kernel
theorem dL_law_351 : decode cL_law 351 = .ok (.iload_n 3, 1) := by decide +kernel
theorem dL_law_352 : decode cL_law 352 = .ok (.iconst 2, 1) := by decide +kernel
theorem dL_law_353 : decode cL_law 353 = .ok (.iadd, 1) := by decide +kernel
theorem dL_law_354 : decode cL_law 354 = .ok (.iaload, 1) := by decide +kernel
theorem dL_law_355 : decode cL_law 355 = .ok (.i2l, 1) := by decide +kernel
theorem dL_law_356 : decode cL_law 356 = .ok (.ldc2_w 32, 3) := by decide +kernel
theorem dL_law_359 : decode cL_law 359 = .ok (.land, 1) := by decide +kernel
theorem dL_law_360 : decode cL_law 360 = .ok (.lor, 1) := by decide +kernel
theorem dL_law_361 : decode cL_law 361 = .ok (.aload_n 0, 1) := by decide +kernel
theorem dL_law_362 : decode cL_law 362 = .ok (.iload_n 3, 1) := by decide +kernel
theorem dL_law_363 : decode cL_law 363 = .ok (.iconst 3, 1) := by decide +kernel
theorem dL_law_364 : decode cL_law 364 = .ok (.iadd, 1) := by decide +kernel
theorem dL_law_365 : decode cL_law 365 = .ok (.iaload, 1) := by decide +kernel
theorem dL_law_366 : decode cL_law 366 = .ok (.invokevirtual 34, 3) := by decide +kernel
theorem dL_law_369 : decode cL_law 369 = .ok (.aload_n 2, 1) := by decide +kernel
theorem dL_law_370 : decode cL_law 370 = .ok (.aload_n 0, 1) := by decide +kernel
theorem dL_law_371 : decode cL_law 371 = .ok (.iload_n 3, 1) := by decide +kernel
theorem dL_law_372 : decode cL_law 372 = .ok (.iconst 1, 1) := by decide +kernel
theorem dL_law_373 : decode cL_law 373 = .ok (.iadd, 1) := by decide +kernel
theorem dL_law_374 : decode cL_law 374 = .ok (.iaload, 1) := by decide +kernel
theorem dL_law_375 : decode cL_law 375 = .ok (.i2l, 1) := by decide +kernel
theorem dL_law_376 : decode cL_law 376 = .ok (.bipush 32, 2) := by decide +kernel
theorem dL_law_378 : decode cL_law 378 = .ok (.lshl, 1) := by decide +kernel
theorem dL_law_379 : decode cL_law 379 = .ok (.aload_n 0, 1) := by decide +kernel
theorem dL_law_380 : decode cL_law 380 = .ok (.iload_n 3, 1) := by decide +kernel
theorem dL_law_381 : decode cL_law 381 = .ok (.iconst 2, 1) := by decide +kernel
theorem dL_law_382 : decode cL_law 382 = .ok (.iadd, 1) := by decide +kernel
theorem dL_law_383 : decode cL_law 383 = .ok (.iaload, 1) := by decide +kernel
theorem dL_law_384 : decode cL_law 384 = .ok (.i2l, 1) := by decide +kernel
theorem dL_law_385 : decode cL_law 385 = .ok (.ldc2_w 32, 3) := by decide +kernel
theorem dL_law_388 : decode cL_law 388 = .ok (.land, 1) := by decide +kernel
theorem dL_law_389 : decode cL_law 389 = .ok (.lor, 1) := by decide +kernel
theorem dL_law_390 : decode cL_law 390 = .ok (.aload_n 0, 1) := by decide +kernel
theorem dL_law_391 : decode cL_law 391 = .ok (.iload_n 3, 1) := by decide +kernel
theorem dL_law_392 : decode cL_law 392 = .ok (.iconst 3, 1) := by decide +kernel
theorem dL_law_393 : decode cL_law 393 = .ok (.iadd, 1) := by decide +kernel
theorem dL_law_394 : decode cL_law 394 = .ok (.iaload, 1) := by decide +kernel
theorem dL_law_395 : decode cL_law 395 = .ok (.invokevirtual 38, 3) := by decide +kernel
theorem dL_law_398 : decode cL_law 398 = .ok (.lcmp, 1) := by decide +kernel
theorem dL_law_399 : decode cL_law 399 = .ok (.ifCond .eq 658, 3) := by decide +kernel
theorem dL_law_402 : decode cL_law 402 = .ok (.iconst 0, 1) := by decide +kernel
theorem dL_law_403 : decode cL_law 403 = .ok (.ireturn, 1) := by decide +kernel
theorem dL_law_404 : decode cL_law 404 = .ok (.aload_n 1, 1) := by decide +kernel
theorem dL_law_405 : decode cL_law 405 = .ok (.invokevirtual 39, 3) := by decide +kernel
theorem dL_law_408 : decode cL_law 408 = .ok (.aload_n 2, 1) := by decide +kernel
theorem dL_law_409 : decode cL_law 409 = .ok (.invokevirtual 43, 3) := by decide +kernel
theorem dL_law_412 : decode cL_law 412 = .ok (.lcmp, 1) := by decide +kernel
theorem dL_law_413 : decode cL_law 413 = .ok (.ifCond .eq 644, 3) := by decide +kernel
theorem dL_law_416 : decode cL_law 416 = .ok (.iconst 0, 1) := by decide +kernel
theorem dL_law_417 : decode cL_law 417 = .ok (.ireturn, 1) := by decide +kernel
theorem dL_law_418 : decode cL_law 418 = .ok (.aload_n 1, 1) := by decide +kernel
theorem dL_law_419 : decode cL_law 419 = .ok (.invokevirtual 44, 3) := by decide +kernel
theorem dL_law_422 : decode cL_law 422 = .ok (.aload_n 2, 1) := by decide +kernel
theorem dL_law_423 : decode cL_law 423 = .ok (.invokevirtual 48, 3) := by decide +kernel
theorem dL_law_426 : decode cL_law 426 = .ok (.if_icmp .eq 631, 3) := by decide +kernel
theorem dL_law_429 : decode cL_law 429 = .ok (.iconst 0, 1) := by decide +kernel
theorem dL_law_430 : decode cL_law 430 = .ok (.ireturn, 1) := by decide +kernel
theorem dL_law_431 : decode cL_law 431 = .ok (.aload_n 1, 1) := by decide +kernel
theorem dL_law_432 : decode cL_law 432 = .ok (.aload_n 0, 1) := by decide +kernel
theorem dL_law_433 : decode cL_law 433 = .ok (.iload_n 3, 1) := by decide +kernel
theorem dL_law_434 : decode cL_law 434 = .ok (.iconst 1, 1) := by decide +kernel
theorem dL_law_435 : decode cL_law 435 = .ok (.iadd, 1) := by decide +kernel
theorem dL_law_436 : decode cL_law 436 = .ok (.iaload, 1) := by decide +kernel
theorem dL_law_437 : decode cL_law 437 = .ok (.aload_n 0, 1) := by decide +kernel
theorem dL_law_438 : decode cL_law 438 = .ok (.iload_n 3, 1) := by decide +kernel
theorem dL_law_439 : decode cL_law 439 = .ok (.iconst 2, 1) := by decide +kernel
theorem dL_law_440 : decode cL_law 440 = .ok (.iadd, 1) := by decide +kernel
theorem dL_law_441 : decode cL_law 441 = .ok (.iaload, 1) := by decide +kernel
theorem dL_law_442 : decode cL_law 442 = .ok (.invokevirtual 49, 3) := by decide +kernel
theorem dL_law_445 : decode cL_law 445 = .ok (.aload_n 2, 1) := by decide +kernel
theorem dL_law_446 : decode cL_law 446 = .ok (.aload_n 0, 1) := by decide +kernel
theorem dL_law_447 : decode cL_law 447 = .ok (.iload_n 3, 1) := by decide +kernel
theorem dL_law_448 : decode cL_law 448 = .ok (.iconst 1, 1) := by decide +kernel
theorem dL_law_449 : decode cL_law 449 = .ok (.iadd, 1) := by decide +kernel
theorem dL_law_450 : decode cL_law 450 = .ok (.iaload, 1) := by decide +kernel
theorem dL_law_451 : decode cL_law 451 = .ok (.aload_n 0, 1) := by decide +kernel
theorem dL_law_452 : decode cL_law 452 = .ok (.iload_n 3, 1) := by decide +kernel
theorem dL_law_453 : decode cL_law 453 = .ok (.iconst 2, 1) := by decide +kernel
theorem dL_law_454 : decode cL_law 454 = .ok (.iadd, 1) := by decide +kernel
theorem dL_law_455 : decode cL_law 455 = .ok (.iaload, 1) := by decide +kernel
theorem dL_law_456 : decode cL_law 456 = .ok (.invokevirtual 53, 3) := by decide +kernel
theorem dL_law_459 : decode cL_law 459 = .ok (.lcmp, 1) := by decide +kernel
theorem dL_law_460 : decode cL_law 460 = .ok (.ifCond .eq 597, 3) := by decide +kernel
theorem dL_law_463 : decode cL_law 463 = .ok (.iconst 0, 1) := by decide +kernel
theorem dL_law_464 : decode cL_law 464 = .ok (.ireturn, 1) := by decide +kernel
theorem dL_law_465 : decode cL_law 465 = .ok (.aload_n 1, 1) := by decide +kernel
theorem dL_law_466 : decode cL_law 466 = .ok (.aload_n 0, 1) := by decide +kernel
theorem dL_law_467 : decode cL_law 467 = .ok (.iload_n 3, 1) := by decide +kernel
theorem dL_law_468 : decode cL_law 468 = .ok (.iconst 1, 1) := by decide +kernel
theorem dL_law_469 : decode cL_law 469 = .ok (.iadd, 1) := by decide +kernel
theorem dL_law_470 : decode cL_law 470 = .ok (.iaload, 1) := by decide +kernel
theorem dL_law_471 : decode cL_law 471 = .ok (.aload_n 0, 1) := by decide +kernel
theorem dL_law_472 : decode cL_law 472 = .ok (.iload_n 3, 1) := by decide +kernel
theorem dL_law_473 : decode cL_law 473 = .ok (.iconst 2, 1) := by decide +kernel
theorem dL_law_474 : decode cL_law 474 = .ok (.iadd, 1) := by decide +kernel
theorem dL_law_475 : decode cL_law 475 = .ok (.iaload, 1) := by decide +kernel
theorem dL_law_476 : decode cL_law 476 = .ok (.invokevirtual 54, 3) := by decide +kernel
theorem dL_law_479 : decode cL_law 479 = .ok (.aload_n 2, 1) := by decide +kernel
theorem dL_law_480 : decode cL_law 480 = .ok (.aload_n 0, 1) := by decide +kernel
theorem dL_law_481 : decode cL_law 481 = .ok (.iload_n 3, 1) := by decide +kernel
theorem dL_law_482 : decode cL_law 482 = .ok (.iconst 1, 1) := by decide +kernel
theorem dL_law_483 : decode cL_law 483 = .ok (.iadd, 1) := by decide +kernel
theorem dL_law_484 : decode cL_law 484 = .ok (.iaload, 1) := by decide +kernel
theorem dL_law_485 : decode cL_law 485 = .ok (.aload_n 0, 1) := by decide +kernel
theorem dL_law_486 : decode cL_law 486 = .ok (.iload_n 3, 1) := by decide +kernel
theorem dL_law_487 : decode cL_law 487 = .ok (.iconst 2, 1) := by decide +kernel
theorem dL_law_488 : decode cL_law 488 = .ok (.iadd, 1) := by decide +kernel
theorem dL_law_489 : decode cL_law 489 = .ok (.iaload, 1) := by decide +kernel
theorem dL_law_490 : decode cL_law 490 = .ok (.invokevirtual 57, 3) := by decide +kernel
theorem dL_law_493 : decode cL_law 493 = .ok (.lcmp, 1) := by decide +kernel
theorem dL_law_494 : decode cL_law 494 = .ok (.ifCond .eq 563, 3) := by decide +kernel
theorem dL_law_497 : decode cL_law 497 = .ok (.iconst 0, 1) := by decide +kernel
theorem dL_law_498 : decode cL_law 498 = .ok (.ireturn, 1) := by decide +kernel
theorem dL_law_499 : decode cL_law 499 = .ok (.aload_n 1, 1) := by decide +kernel
theorem dL_law_500 : decode cL_law 500 = .ok (.aload_n 0, 1) := by decide +kernel
theorem dL_law_501 : decode cL_law 501 = .ok (.iload_n 3, 1) := by decide +kernel
theorem dL_law_502 : decode cL_law 502 = .ok (.iconst 1, 1) := by decide +kernel
theorem dL_law_503 : decode cL_law 503 = .ok (.iadd, 1) := by decide +kernel
theorem dL_law_504 : decode cL_law 504 = .ok (.iaload, 1) := by decide +kernel
theorem dL_law_505 : decode cL_law 505 = .ok (.invokevirtual 58, 3) := by decide +kernel
theorem dL_law_508 : decode cL_law 508 = .ok (.aload_n 2, 1) := by decide +kernel
theorem dL_law_509 : decode cL_law 509 = .ok (.aload_n 0, 1) := by decide +kernel
theorem dL_law_510 : decode cL_law 510 = .ok (.iload_n 3, 1) := by decide +kernel
theorem dL_law_511 : decode cL_law 511 = .ok (.iconst 1, 1) := by decide +kernel
theorem dL_law_512 : decode cL_law 512 = .ok (.iadd, 1) := by decide +kernel
theorem dL_law_513 : decode cL_law 513 = .ok (.iaload, 1) := by decide +kernel
theorem dL_law_514 : decode cL_law 514 = .ok (.invokevirtual 61, 3) := by decide +kernel
theorem dL_law_517 : decode cL_law 517 = .ok (.lcmp, 1) := by decide +kernel
theorem dL_law_518 : decode cL_law 518 = .ok (.ifCond .eq 539, 3) := by decide +kernel
theorem dL_law_521 : decode cL_law 521 = .ok (.iconst 0, 1) := by decide +kernel
theorem dL_law_522 : decode cL_law 522 = .ok (.ireturn, 1) := by decide +kernel
theorem dL_law_523 : decode cL_law 523 = .ok (.aload_n 1, 1) := by decide +kernel
theorem dL_law_524 : decode cL_law 524 = .ok (.aload_n 0, 1) := by decide +kernel
theorem dL_law_525 : decode cL_law 525 = .ok (.iload_n 3, 1) := by decide +kernel
theorem dL_law_526 : decode cL_law 526 = .ok (.iconst 1, 1) := by decide +kernel
theorem dL_law_527 : decode cL_law 527 = .ok (.iadd, 1) := by decide +kernel
theorem dL_law_528 : decode cL_law 528 = .ok (.iaload, 1) := by decide +kernel
theorem dL_law_529 : decode cL_law 529 = .ok (.aload_n 0, 1) := by decide +kernel
theorem dL_law_530 : decode cL_law 530 = .ok (.iload_n 3, 1) := by decide +kernel
theorem dL_law_531 : decode cL_law 531 = .ok (.iconst 2, 1) := by decide +kernel
theorem dL_law_532 : decode cL_law 532 = .ok (.iadd, 1) := by decide +kernel
theorem dL_law_533 : decode cL_law 533 = .ok (.iaload, 1) := by decide +kernel
theorem dL_law_534 : decode cL_law 534 = .ok (.aload_n 0, 1) := by decide +kernel
theorem dL_law_535 : decode cL_law 535 = .ok (.iload_n 3, 1) := by decide +kernel
theorem dL_law_536 : decode cL_law 536 = .ok (.iconst 3, 1) := by decide +kernel
theorem dL_law_537 : decode cL_law 537 = .ok (.iadd, 1) := by decide +kernel
theorem dL_law_538 : decode cL_law 538 = .ok (.iaload, 1) := by decide +kernel
theorem dL_law_539 : decode cL_law 539 = .ok (.invokevirtual 62, 3) := by decide +kernel
theorem dL_law_542 : decode cL_law 542 = .ok (.aload_n 2, 1) := by decide +kernel
theorem dL_law_543 : decode cL_law 543 = .ok (.aload_n 0, 1) := by decide +kernel
theorem dL_law_544 : decode cL_law 544 = .ok (.iload_n 3, 1) := by decide +kernel
theorem dL_law_545 : decode cL_law 545 = .ok (.iconst 1, 1) := by decide +kernel
theorem dL_law_546 : decode cL_law 546 = .ok (.iadd, 1) := by decide +kernel
theorem dL_law_547 : decode cL_law 547 = .ok (.iaload, 1) := by decide +kernel
theorem dL_law_548 : decode cL_law 548 = .ok (.aload_n 0, 1) := by decide +kernel
theorem dL_law_549 : decode cL_law 549 = .ok (.iload_n 3, 1) := by decide +kernel
theorem dL_law_550 : decode cL_law 550 = .ok (.iconst 2, 1) := by decide +kernel
theorem dL_law_551 : decode cL_law 551 = .ok (.iadd, 1) := by decide +kernel
theorem dL_law_552 : decode cL_law 552 = .ok (.iaload, 1) := by decide +kernel
theorem dL_law_553 : decode cL_law 553 = .ok (.aload_n 0, 1) := by decide +kernel
theorem dL_law_554 : decode cL_law 554 = .ok (.iload_n 3, 1) := by decide +kernel
theorem dL_law_555 : decode cL_law 555 = .ok (.iconst 3, 1) := by decide +kernel
theorem dL_law_556 : decode cL_law 556 = .ok (.iadd, 1) := by decide +kernel
theorem dL_law_557 : decode cL_law 557 = .ok (.iaload, 1) := by decide +kernel
theorem dL_law_558 : decode cL_law 558 = .ok (.invokevirtual 65, 3) := by decide +kernel
theorem dL_law_561 : decode cL_law 561 = .ok (.lcmp, 1) := by decide +kernel
theorem dL_law_562 : decode cL_law 562 = .ok (.ifCond .eq 495, 3) := by decide +kernel
theorem dL_law_565 : decode cL_law 565 = .ok (.iconst 0, 1) := by decide +kernel
theorem dL_law_566 : decode cL_law 566 = .ok (.ireturn, 1) := by decide +kernel
theorem dL_law_567 : decode cL_law 567 = .ok (.aload_n 1, 1) := by decide +kernel
theorem dL_law_568 : decode cL_law 568 = .ok (.aload_n 0, 1) := by decide +kernel
theorem dL_law_569 : decode cL_law 569 = .ok (.iload_n 3, 1) := by decide +kernel
theorem dL_law_570 : decode cL_law 570 = .ok (.iconst 1, 1) := by decide +kernel
theorem dL_law_571 : decode cL_law 571 = .ok (.iadd, 1) := by decide +kernel
theorem dL_law_572 : decode cL_law 572 = .ok (.iaload, 1) := by decide +kernel
theorem dL_law_573 : decode cL_law 573 = .ok (.aload_n 0, 1) := by decide +kernel
theorem dL_law_574 : decode cL_law 574 = .ok (.iload_n 3, 1) := by decide +kernel
theorem dL_law_575 : decode cL_law 575 = .ok (.iconst 2, 1) := by decide +kernel
theorem dL_law_576 : decode cL_law 576 = .ok (.iadd, 1) := by decide +kernel
theorem dL_law_577 : decode cL_law 577 = .ok (.iaload, 1) := by decide +kernel
theorem dL_law_578 : decode cL_law 578 = .ok (.invokevirtual 66, 3) := by decide +kernel
theorem dL_law_581 : decode cL_law 581 = .ok (.aload_n 2, 1) := by decide +kernel
theorem dL_law_582 : decode cL_law 582 = .ok (.aload_n 0, 1) := by decide +kernel
theorem dL_law_583 : decode cL_law 583 = .ok (.iload_n 3, 1) := by decide +kernel
theorem dL_law_584 : decode cL_law 584 = .ok (.iconst 1, 1) := by decide +kernel
theorem dL_law_585 : decode cL_law 585 = .ok (.iadd, 1) := by decide +kernel
theorem dL_law_586 : decode cL_law 586 = .ok (.iaload, 1) := by decide +kernel
theorem dL_law_587 : decode cL_law 587 = .ok (.aload_n 0, 1) := by decide +kernel
theorem dL_law_588 : decode cL_law 588 = .ok (.iload_n 3, 1) := by decide +kernel
theorem dL_law_589 : decode cL_law 589 = .ok (.iconst 2, 1) := by decide +kernel
theorem dL_law_590 : decode cL_law 590 = .ok (.iadd, 1) := by decide +kernel
theorem dL_law_591 : decode cL_law 591 = .ok (.iaload, 1) := by decide +kernel
theorem dL_law_592 : decode cL_law 592 = .ok (.invokevirtual 69, 3) := by decide +kernel
theorem dL_law_595 : decode cL_law 595 = .ok (.lcmp, 1) := by decide +kernel
theorem dL_law_596 : decode cL_law 596 = .ok (.ifCond .eq 461, 3) := by decide +kernel
theorem dL_law_599 : decode cL_law 599 = .ok (.iconst 0, 1) := by decide +kernel
theorem dL_law_600 : decode cL_law 600 = .ok (.ireturn, 1) := by decide +kernel
theorem dL_law_601 : decode cL_law 601 = .ok (.aload_n 1, 1) := by decide +kernel
theorem dL_law_602 : decode cL_law 602 = .ok (.invokevirtual 70, 3) := by decide +kernel
theorem dL_law_605 : decode cL_law 605 = .ok (.aload_n 2, 1) := by decide +kernel
theorem dL_law_606 : decode cL_law 606 = .ok (.invokevirtual 73, 3) := by decide +kernel
theorem dL_law_609 : decode cL_law 609 = .ok (.lcmp, 1) := by decide +kernel
theorem dL_law_610 : decode cL_law 610 = .ok (.ifCond .eq 447, 3) := by decide +kernel
theorem dL_law_613 : decode cL_law 613 = .ok (.iconst 0, 1) := by decide +kernel
theorem dL_law_614 : decode cL_law 614 = .ok (.ireturn, 1) := by decide +kernel
theorem dL_law_615 : decode cL_law 615 = .ok (.aload_n 1, 1) := by decide +kernel
theorem dL_law_616 : decode cL_law 616 = .ok (.aload_n 0, 1) := by decide +kernel
theorem dL_law_617 : decode cL_law 617 = .ok (.iload_n 3, 1) := by decide +kernel
theorem dL_law_618 : decode cL_law 618 = .ok (.iconst 1, 1) := by decide +kernel
theorem dL_law_619 : decode cL_law 619 = .ok (.iadd, 1) := by decide +kernel
theorem dL_law_620 : decode cL_law 620 = .ok (.iaload, 1) := by decide +kernel
theorem dL_law_621 : decode cL_law 621 = .ok (.aload_n 0, 1) := by decide +kernel
theorem dL_law_622 : decode cL_law 622 = .ok (.iload_n 3, 1) := by decide +kernel
theorem dL_law_623 : decode cL_law 623 = .ok (.iconst 2, 1) := by decide +kernel
theorem dL_law_624 : decode cL_law 624 = .ok (.iadd, 1) := by decide +kernel
theorem dL_law_625 : decode cL_law 625 = .ok (.iaload, 1) := by decide +kernel
theorem dL_law_626 : decode cL_law 626 = .ok (.invokevirtual 74, 3) := by decide +kernel
theorem dL_law_629 : decode cL_law 629 = .ok (.aload_n 2, 1) := by decide +kernel
theorem dL_law_630 : decode cL_law 630 = .ok (.aload_n 0, 1) := by decide +kernel
theorem dL_law_631 : decode cL_law 631 = .ok (.iload_n 3, 1) := by decide +kernel
theorem dL_law_632 : decode cL_law 632 = .ok (.iconst 1, 1) := by decide +kernel
theorem dL_law_633 : decode cL_law 633 = .ok (.iadd, 1) := by decide +kernel
theorem dL_law_634 : decode cL_law 634 = .ok (.iaload, 1) := by decide +kernel
theorem dL_law_635 : decode cL_law 635 = .ok (.aload_n 0, 1) := by decide +kernel
theorem dL_law_636 : decode cL_law 636 = .ok (.iload_n 3, 1) := by decide +kernel
theorem dL_law_637 : decode cL_law 637 = .ok (.iconst 2, 1) := by decide +kernel
theorem dL_law_638 : decode cL_law 638 = .ok (.iadd, 1) := by decide +kernel
theorem dL_law_639 : decode cL_law 639 = .ok (.iaload, 1) := by decide +kernel
theorem dL_law_640 : decode cL_law 640 = .ok (.invokevirtual 77, 3) := by decide +kernel
theorem dL_law_643 : decode cL_law 643 = .ok (.lcmp, 1) := by decide +kernel
theorem dL_law_644 : decode cL_law 644 = .ok (.ifCond .eq 413, 3) := by decide +kernel
theorem dL_law_647 : decode cL_law 647 = .ok (.iconst 0, 1) := by decide +kernel
theorem dL_law_648 : decode cL_law 648 = .ok (.ireturn, 1) := by decide +kernel
theorem dL_law_649 : decode cL_law 649 = .ok (.aload_n 1, 1) := by decide +kernel
theorem dL_law_650 : decode cL_law 650 = .ok (.aload_n 0, 1) := by decide +kernel
theorem dL_law_651 : decode cL_law 651 = .ok (.iload_n 3, 1) := by decide +kernel
theorem dL_law_652 : decode cL_law 652 = .ok (.iconst 1, 1) := by decide +kernel
theorem dL_law_653 : decode cL_law 653 = .ok (.iadd, 1) := by decide +kernel
theorem dL_law_654 : decode cL_law 654 = .ok (.iaload, 1) := by decide +kernel
theorem dL_law_655 : decode cL_law 655 = .ok (.aload_n 0, 1) := by decide +kernel
theorem dL_law_656 : decode cL_law 656 = .ok (.iload_n 3, 1) := by decide +kernel
theorem dL_law_657 : decode cL_law 657 = .ok (.iconst 2, 1) := by decide +kernel
theorem dL_law_658 : decode cL_law 658 = .ok (.iadd, 1) := by decide +kernel
theorem dL_law_659 : decode cL_law 659 = .ok (.iaload, 1) := by decide +kernel
theorem dL_law_660 : decode cL_law 660 = .ok (.invokevirtual 78, 3) := by decide +kernel
theorem dL_law_663 : decode cL_law 663 = .ok (.aload_n 2, 1) := by decide +kernel
theorem dL_law_664 : decode cL_law 664 = .ok (.aload_n 0, 1) := by decide +kernel
theorem dL_law_665 : decode cL_law 665 = .ok (.iload_n 3, 1) := by decide +kernel
theorem dL_law_666 : decode cL_law 666 = .ok (.iconst 1, 1) := by decide +kernel
theorem dL_law_667 : decode cL_law 667 = .ok (.iadd, 1) := by decide +kernel
theorem dL_law_668 : decode cL_law 668 = .ok (.iaload, 1) := by decide +kernel
theorem dL_law_669 : decode cL_law 669 = .ok (.aload_n 0, 1) := by decide +kernel
theorem dL_law_670 : decode cL_law 670 = .ok (.iload_n 3, 1) := by decide +kernel
theorem dL_law_671 : decode cL_law 671 = .ok (.iconst 2, 1) := by decide +kernel
theorem dL_law_672 : decode cL_law 672 = .ok (.iadd, 1) := by decide +kernel
theorem dL_law_673 : decode cL_law 673 = .ok (.iaload, 1) := by decide +kernel
theorem dL_law_674 : decode cL_law 674 = .ok (.invokevirtual 81, 3) := by decide +kernel
theorem dL_law_677 : decode cL_law 677 = .ok (.lcmp, 1) := by decide +kernel
theorem dL_law_678 : decode cL_law 678 = .ok (.ifCond .eq 379, 3) := by decide +kernel
theorem dL_law_681 : decode cL_law 681 = .ok (.iconst 0, 1) := by decide +kernel
theorem dL_law_682 : decode cL_law 682 = .ok (.ireturn, 1) := by decide +kernel
theorem dL_law_683 : decode cL_law 683 = .ok (.aload_n 1, 1) := by decide +kernel
theorem dL_law_684 : decode cL_law 684 = .ok (.aload_n 0, 1) := by decide +kernel
theorem dL_law_685 : decode cL_law 685 = .ok (.iload_n 3, 1) := by decide +kernel
theorem dL_law_686 : decode cL_law 686 = .ok (.iconst 1, 1) := by decide +kernel
theorem dL_law_687 : decode cL_law 687 = .ok (.iadd, 1) := by decide +kernel
theorem dL_law_688 : decode cL_law 688 = .ok (.iaload, 1) := by decide +kernel
theorem dL_law_689 : decode cL_law 689 = .ok (.invokevirtual 82, 3) := by decide +kernel
theorem dL_law_692 : decode cL_law 692 = .ok (.aload_n 2, 1) := by decide +kernel
theorem dL_law_693 : decode cL_law 693 = .ok (.aload_n 0, 1) := by decide +kernel
theorem dL_law_694 : decode cL_law 694 = .ok (.iload_n 3, 1) := by decide +kernel
theorem dL_law_695 : decode cL_law 695 = .ok (.iconst 1, 1) := by decide +kernel
theorem dL_law_696 : decode cL_law 696 = .ok (.iadd, 1) := by decide +kernel
theorem dL_law_697 : decode cL_law 697 = .ok (.iaload, 1) := by decide +kernel
theorem dL_law_698 : decode cL_law 698 = .ok (.invokevirtual 85, 3) := by decide +kernel
theorem dL_law_701 : decode cL_law 701 = .ok (.lcmp, 1) := by decide +kernel
theorem dL_law_702 : decode cL_law 702 = .ok (.ifCond .eq 355, 3) := by decide +kernel
theorem dL_law_705 : decode cL_law 705 = .ok (.iconst 0, 1) := by decide +kernel
theorem dL_law_706 : decode cL_law 706 = .ok (.ireturn, 1) := by decide +kernel
theorem dL_law_707 : decode cL_law 707 = .ok (.aload_n 1, 1) := by decide +kernel
theorem dL_law_708 : decode cL_law 708 = .ok (.aload_n 0, 1) := by decide +kernel
theorem dL_law_709 : decode cL_law 709 = .ok (.iload_n 3, 1) := by decide +kernel
theorem dL_law_710 : decode cL_law 710 = .ok (.iconst 1, 1) := by decide +kernel
theorem dL_law_711 : decode cL_law 711 = .ok (.iadd, 1) := by decide +kernel
theorem dL_law_712 : decode cL_law 712 = .ok (.iaload, 1) := by decide +kernel
theorem dL_law_713 : decode cL_law 713 = .ok (.aload_n 0, 1) := by decide +kernel
theorem dL_law_714 : decode cL_law 714 = .ok (.iload_n 3, 1) := by decide +kernel
theorem dL_law_715 : decode cL_law 715 = .ok (.iconst 2, 1) := by decide +kernel
theorem dL_law_716 : decode cL_law 716 = .ok (.iadd, 1) := by decide +kernel
theorem dL_law_717 : decode cL_law 717 = .ok (.iaload, 1) := by decide +kernel
theorem dL_law_718 : decode cL_law 718 = .ok (.invokevirtual 86, 3) := by decide +kernel
theorem dL_law_721 : decode cL_law 721 = .ok (.aload_n 2, 1) := by decide +kernel
theorem dL_law_722 : decode cL_law 722 = .ok (.aload_n 0, 1) := by decide +kernel
theorem dL_law_723 : decode cL_law 723 = .ok (.iload_n 3, 1) := by decide +kernel
theorem dL_law_724 : decode cL_law 724 = .ok (.iconst 1, 1) := by decide +kernel
theorem dL_law_725 : decode cL_law 725 = .ok (.iadd, 1) := by decide +kernel
theorem dL_law_726 : decode cL_law 726 = .ok (.iaload, 1) := by decide +kernel
theorem dL_law_727 : decode cL_law 727 = .ok (.aload_n 0, 1) := by decide +kernel
theorem dL_law_728 : decode cL_law 728 = .ok (.iload_n 3, 1) := by decide +kernel
theorem dL_law_729 : decode cL_law 729 = .ok (.iconst 2, 1) := by decide +kernel
theorem dL_law_730 : decode cL_law 730 = .ok (.iadd, 1) := by decide +kernel
theorem dL_law_731 : decode cL_law 731 = .ok (.iaload, 1) := by decide +kernel
theorem dL_law_732 : decode cL_law 732 = .ok (.invokevirtual 89, 3) := by decide +kernel
theorem dL_law_735 : decode cL_law 735 = .ok (.lcmp, 1) := by decide +kernel
theorem dL_law_736 : decode cL_law 736 = .ok (.ifCond .eq 321, 3) := by decide +kernel
theorem dL_law_739 : decode cL_law 739 = .ok (.iconst 0, 1) := by decide +kernel
theorem dL_law_740 : decode cL_law 740 = .ok (.ireturn, 1) := by decide +kernel
theorem dL_law_741 : decode cL_law 741 = .ok (.aload_n 1, 1) := by decide +kernel
theorem dL_law_742 : decode cL_law 742 = .ok (.aload_n 0, 1) := by decide +kernel
theorem dL_law_743 : decode cL_law 743 = .ok (.iload_n 3, 1) := by decide +kernel
theorem dL_law_744 : decode cL_law 744 = .ok (.iconst 1, 1) := by decide +kernel
theorem dL_law_745 : decode cL_law 745 = .ok (.iadd, 1) := by decide +kernel
theorem dL_law_746 : decode cL_law 746 = .ok (.iaload, 1) := by decide +kernel
theorem dL_law_747 : decode cL_law 747 = .ok (.invokevirtual 90, 3) := by decide +kernel
theorem dL_law_750 : decode cL_law 750 = .ok (.aload_n 2, 1) := by decide +kernel
theorem dL_law_751 : decode cL_law 751 = .ok (.aload_n 0, 1) := by decide +kernel
theorem dL_law_752 : decode cL_law 752 = .ok (.iload_n 3, 1) := by decide +kernel
theorem dL_law_753 : decode cL_law 753 = .ok (.iconst 1, 1) := by decide +kernel
theorem dL_law_754 : decode cL_law 754 = .ok (.iadd, 1) := by decide +kernel
theorem dL_law_755 : decode cL_law 755 = .ok (.iaload, 1) := by decide +kernel
theorem dL_law_756 : decode cL_law 756 = .ok (.invokevirtual 93, 3) := by decide +kernel
theorem dL_law_759 : decode cL_law 759 = .ok (.lcmp, 1) := by decide +kernel
theorem dL_law_760 : decode cL_law 760 = .ok (.ifCond .eq 297, 3) := by decide +kernel
theorem dL_law_763 : decode cL_law 763 = .ok (.iconst 0, 1) := by decide +kernel
theorem dL_law_764 : decode cL_law 764 = .ok (.ireturn, 1) := by decide +kernel
theorem dL_law_765 : decode cL_law 765 = .ok (.aload_n 1, 1) := by decide +kernel
theorem dL_law_766 : decode cL_law 766 = .ok (.aload_n 0, 1) := by decide +kernel
theorem dL_law_767 : decode cL_law 767 = .ok (.iload_n 3, 1) := by decide +kernel
theorem dL_law_768 : decode cL_law 768 = .ok (.iconst 1, 1) := by decide +kernel
theorem dL_law_769 : decode cL_law 769 = .ok (.iadd, 1) := by decide +kernel
theorem dL_law_770 : decode cL_law 770 = .ok (.iaload, 1) := by decide +kernel
theorem dL_law_771 : decode cL_law 771 = .ok (.aload_n 0, 1) := by decide +kernel
theorem dL_law_772 : decode cL_law 772 = .ok (.iload_n 3, 1) := by decide +kernel
theorem dL_law_773 : decode cL_law 773 = .ok (.iconst 2, 1) := by decide +kernel
theorem dL_law_774 : decode cL_law 774 = .ok (.iadd, 1) := by decide +kernel
theorem dL_law_775 : decode cL_law 775 = .ok (.iaload, 1) := by decide +kernel
theorem dL_law_776 : decode cL_law 776 = .ok (.invokevirtual 94, 3) := by decide +kernel
theorem dL_law_779 : decode cL_law 779 = .ok (.aload_n 2, 1) := by decide +kernel
theorem dL_law_780 : decode cL_law 780 = .ok (.aload_n 0, 1) := by decide +kernel
theorem dL_law_781 : decode cL_law 781 = .ok (.iload_n 3, 1) := by decide +kernel
theorem dL_law_782 : decode cL_law 782 = .ok (.iconst 1, 1) := by decide +kernel
theorem dL_law_783 : decode cL_law 783 = .ok (.iadd, 1) := by decide +kernel
theorem dL_law_784 : decode cL_law 784 = .ok (.iaload, 1) := by decide +kernel
theorem dL_law_785 : decode cL_law 785 = .ok (.aload_n 0, 1) := by decide +kernel
theorem dL_law_786 : decode cL_law 786 = .ok (.iload_n 3, 1) := by decide +kernel
theorem dL_law_787 : decode cL_law 787 = .ok (.iconst 2, 1) := by decide +kernel
theorem dL_law_788 : decode cL_law 788 = .ok (.iadd, 1) := by decide +kernel
theorem dL_law_789 : decode cL_law 789 = .ok (.iaload, 1) := by decide +kernel
theorem dL_law_790 : decode cL_law 790 = .ok (.invokevirtual 97, 3) := by decide +kernel
theorem dL_law_793 : decode cL_law 793 = .ok (.lcmp, 1) := by decide +kernel
theorem dL_law_794 : decode cL_law 794 = .ok (.ifCond .eq 263, 3) := by decide +kernel
theorem dL_law_797 : decode cL_law 797 = .ok (.iconst 0, 1) := by decide +kernel
theorem dL_law_798 : decode cL_law 798 = .ok (.ireturn, 1) := by decide +kernel
theorem dL_law_799 : decode cL_law 799 = .ok (.aload_n 1, 1) := by decide +kernel
theorem dL_law_800 : decode cL_law 800 = .ok (.aload_n 0, 1) := by decide +kernel
theorem dL_law_801 : decode cL_law 801 = .ok (.iload_n 3, 1) := by decide +kernel
theorem dL_law_802 : decode cL_law 802 = .ok (.iconst 1, 1) := by decide +kernel
theorem dL_law_803 : decode cL_law 803 = .ok (.iadd, 1) := by decide +kernel
theorem dL_law_804 : decode cL_law 804 = .ok (.iaload, 1) := by decide +kernel
theorem dL_law_805 : decode cL_law 805 = .ok (.invokevirtual 98, 3) := by decide +kernel
theorem dL_law_808 : decode cL_law 808 = .ok (.aload_n 2, 1) := by decide +kernel
theorem dL_law_809 : decode cL_law 809 = .ok (.aload_n 0, 1) := by decide +kernel
theorem dL_law_810 : decode cL_law 810 = .ok (.iload_n 3, 1) := by decide +kernel
theorem dL_law_811 : decode cL_law 811 = .ok (.iconst 1, 1) := by decide +kernel
theorem dL_law_812 : decode cL_law 812 = .ok (.iadd, 1) := by decide +kernel
theorem dL_law_813 : decode cL_law 813 = .ok (.iaload, 1) := by decide +kernel
theorem dL_law_814 : decode cL_law 814 = .ok (.invokevirtual 101, 3) := by decide +kernel
theorem dL_law_817 : decode cL_law 817 = .ok (.lcmp, 1) := by decide +kernel
theorem dL_law_818 : decode cL_law 818 = .ok (.ifCond .eq 239, 3) := by decide +kernel
theorem dL_law_821 : decode cL_law 821 = .ok (.iconst 0, 1) := by decide +kernel
theorem dL_law_822 : decode cL_law 822 = .ok (.ireturn, 1) := by decide +kernel
theorem dL_law_823 : decode cL_law 823 = .ok (.aload_n 1, 1) := by decide +kernel
theorem dL_law_824 : decode cL_law 824 = .ok (.aload_n 0, 1) := by decide +kernel
theorem dL_law_825 : decode cL_law 825 = .ok (.iload_n 3, 1) := by decide +kernel
theorem dL_law_826 : decode cL_law 826 = .ok (.iconst 1, 1) := by decide +kernel
theorem dL_law_827 : decode cL_law 827 = .ok (.iadd, 1) := by decide +kernel
theorem dL_law_828 : decode cL_law 828 = .ok (.iaload, 1) := by decide +kernel
theorem dL_law_829 : decode cL_law 829 = .ok (.invokevirtual 102, 3) := by decide +kernel
theorem dL_law_832 : decode cL_law 832 = .ok (.aload_n 2, 1) := by decide +kernel
theorem dL_law_833 : decode cL_law 833 = .ok (.aload_n 0, 1) := by decide +kernel
theorem dL_law_834 : decode cL_law 834 = .ok (.iload_n 3, 1) := by decide +kernel
theorem dL_law_835 : decode cL_law 835 = .ok (.iconst 1, 1) := by decide +kernel
theorem dL_law_836 : decode cL_law 836 = .ok (.iadd, 1) := by decide +kernel
theorem dL_law_837 : decode cL_law 837 = .ok (.iaload, 1) := by decide +kernel
theorem dL_law_838 : decode cL_law 838 = .ok (.invokevirtual 105, 3) := by decide +kernel
theorem dL_law_841 : decode cL_law 841 = .ok (.lcmp, 1) := by decide +kernel
theorem dL_law_842 : decode cL_law 842 = .ok (.ifCond .eq 215, 3) := by decide +kernel
theorem dL_law_845 : decode cL_law 845 = .ok (.iconst 0, 1) := by decide +kernel
theorem dL_law_846 : decode cL_law 846 = .ok (.ireturn, 1) := by decide +kernel
theorem dL_law_847 : decode cL_law 847 = .ok (.aload_n 1, 1) := by decide +kernel
theorem dL_law_848 : decode cL_law 848 = .ok (.aload_n 0, 1) := by decide +kernel
theorem dL_law_849 : decode cL_law 849 = .ok (.iload_n 3, 1) := by decide +kernel
theorem dL_law_850 : decode cL_law 850 = .ok (.iconst 1, 1) := by decide +kernel
theorem dL_law_851 : decode cL_law 851 = .ok (.iadd, 1) := by decide +kernel
theorem dL_law_852 : decode cL_law 852 = .ok (.iaload, 1) := by decide +kernel
theorem dL_law_853 : decode cL_law 853 = .ok (.aload_n 0, 1) := by decide +kernel
theorem dL_law_854 : decode cL_law 854 = .ok (.iload_n 3, 1) := by decide +kernel
theorem dL_law_855 : decode cL_law 855 = .ok (.iconst 2, 1) := by decide +kernel
theorem dL_law_856 : decode cL_law 856 = .ok (.iadd, 1) := by decide +kernel
theorem dL_law_857 : decode cL_law 857 = .ok (.iaload, 1) := by decide +kernel
theorem dL_law_858 : decode cL_law 858 = .ok (.invokevirtual 106, 3) := by decide +kernel
theorem dL_law_861 : decode cL_law 861 = .ok (.aload_n 2, 1) := by decide +kernel
theorem dL_law_862 : decode cL_law 862 = .ok (.aload_n 0, 1) := by decide +kernel
theorem dL_law_863 : decode cL_law 863 = .ok (.iload_n 3, 1) := by decide +kernel
theorem dL_law_864 : decode cL_law 864 = .ok (.iconst 1, 1) := by decide +kernel
theorem dL_law_865 : decode cL_law 865 = .ok (.iadd, 1) := by decide +kernel
theorem dL_law_866 : decode cL_law 866 = .ok (.iaload, 1) := by decide +kernel
theorem dL_law_867 : decode cL_law 867 = .ok (.aload_n 0, 1) := by decide +kernel
theorem dL_law_868 : decode cL_law 868 = .ok (.iload_n 3, 1) := by decide +kernel
theorem dL_law_869 : decode cL_law 869 = .ok (.iconst 2, 1) := by decide +kernel
theorem dL_law_870 : decode cL_law 870 = .ok (.iadd, 1) := by decide +kernel
theorem dL_law_871 : decode cL_law 871 = .ok (.iaload, 1) := by decide +kernel
theorem dL_law_872 : decode cL_law 872 = .ok (.invokevirtual 109, 3) := by decide +kernel
theorem dL_law_875 : decode cL_law 875 = .ok (.lcmp, 1) := by decide +kernel
theorem dL_law_876 : decode cL_law 876 = .ok (.ifCond .eq 181, 3) := by decide +kernel
theorem dL_law_879 : decode cL_law 879 = .ok (.iconst 0, 1) := by decide +kernel
theorem dL_law_880 : decode cL_law 880 = .ok (.ireturn, 1) := by decide +kernel
theorem dL_law_881 : decode cL_law 881 = .ok (.aload_n 1, 1) := by decide +kernel
theorem dL_law_882 : decode cL_law 882 = .ok (.aload_n 0, 1) := by decide +kernel
theorem dL_law_883 : decode cL_law 883 = .ok (.iload_n 3, 1) := by decide +kernel
theorem dL_law_884 : decode cL_law 884 = .ok (.iconst 1, 1) := by decide +kernel
theorem dL_law_885 : decode cL_law 885 = .ok (.iadd, 1) := by decide +kernel
theorem dL_law_886 : decode cL_law 886 = .ok (.iaload, 1) := by decide +kernel
theorem dL_law_887 : decode cL_law 887 = .ok (.invokevirtual 110, 3) := by decide +kernel
theorem dL_law_890 : decode cL_law 890 = .ok (.aload_n 2, 1) := by decide +kernel
theorem dL_law_891 : decode cL_law 891 = .ok (.aload_n 0, 1) := by decide +kernel
theorem dL_law_892 : decode cL_law 892 = .ok (.iload_n 3, 1) := by decide +kernel
theorem dL_law_893 : decode cL_law 893 = .ok (.iconst 1, 1) := by decide +kernel
theorem dL_law_894 : decode cL_law 894 = .ok (.iadd, 1) := by decide +kernel
theorem dL_law_895 : decode cL_law 895 = .ok (.iaload, 1) := by decide +kernel
theorem dL_law_896 : decode cL_law 896 = .ok (.invokevirtual 113, 3) := by decide +kernel
theorem dL_law_899 : decode cL_law 899 = .ok (.lcmp, 1) := by decide +kernel
theorem dL_law_900 : decode cL_law 900 = .ok (.ifCond .eq 157, 3) := by decide +kernel
theorem dL_law_903 : decode cL_law 903 = .ok (.iconst 0, 1) := by decide +kernel
theorem dL_law_904 : decode cL_law 904 = .ok (.ireturn, 1) := by decide +kernel
theorem dL_law_905 : decode cL_law 905 = .ok (.aload_n 1, 1) := by decide +kernel
theorem dL_law_906 : decode cL_law 906 = .ok (.aload_n 0, 1) := by decide +kernel
theorem dL_law_907 : decode cL_law 907 = .ok (.iload_n 3, 1) := by decide +kernel
theorem dL_law_908 : decode cL_law 908 = .ok (.iconst 1, 1) := by decide +kernel
theorem dL_law_909 : decode cL_law 909 = .ok (.iadd, 1) := by decide +kernel
theorem dL_law_910 : decode cL_law 910 = .ok (.iaload, 1) := by decide +kernel
theorem dL_law_911 : decode cL_law 911 = .ok (.invokevirtual 114, 3) := by decide +kernel
theorem dL_law_914 : decode cL_law 914 = .ok (.aload_n 2, 1) := by decide +kernel
theorem dL_law_915 : decode cL_law 915 = .ok (.aload_n 0, 1) := by decide +kernel
theorem dL_law_916 : decode cL_law 916 = .ok (.iload_n 3, 1) := by decide +kernel
theorem dL_law_917 : decode cL_law 917 = .ok (.iconst 1, 1) := by decide +kernel
theorem dL_law_918 : decode cL_law 918 = .ok (.iadd, 1) := by decide +kernel
theorem dL_law_919 : decode cL_law 919 = .ok (.iaload, 1) := by decide +kernel
theorem dL_law_920 : decode cL_law 920 = .ok (.invokevirtual 117, 3) := by decide +kernel
theorem dL_law_923 : decode cL_law 923 = .ok (.lcmp, 1) := by decide +kernel
theorem dL_law_924 : decode cL_law 924 = .ok (.ifCond .eq 133, 3) := by decide +kernel
theorem dL_law_927 : decode cL_law 927 = .ok (.iconst 0, 1) := by decide +kernel
theorem dL_law_928 : decode cL_law 928 = .ok (.ireturn, 1) := by decide +kernel
theorem dL_law_929 : decode cL_law 929 = .ok (.aload_n 1, 1) := by decide +kernel
theorem dL_law_930 : decode cL_law 930 = .ok (.aload_n 0, 1) := by decide +kernel
theorem dL_law_931 : decode cL_law 931 = .ok (.iload_n 3, 1) := by decide +kernel
theorem dL_law_932 : decode cL_law 932 = .ok (.iconst 1, 1) := by decide +kernel
theorem dL_law_933 : decode cL_law 933 = .ok (.iadd, 1) := by decide +kernel
theorem dL_law_934 : decode cL_law 934 = .ok (.iaload, 1) := by decide +kernel
theorem dL_law_935 : decode cL_law 935 = .ok (.aload_n 0, 1) := by decide +kernel
theorem dL_law_936 : decode cL_law 936 = .ok (.iload_n 3, 1) := by decide +kernel
theorem dL_law_937 : decode cL_law 937 = .ok (.iconst 2, 1) := by decide +kernel
theorem dL_law_938 : decode cL_law 938 = .ok (.iadd, 1) := by decide +kernel
theorem dL_law_939 : decode cL_law 939 = .ok (.iaload, 1) := by decide +kernel
theorem dL_law_940 : decode cL_law 940 = .ok (.invokevirtual 118, 3) := by decide +kernel
theorem dL_law_943 : decode cL_law 943 = .ok (.aload_n 2, 1) := by decide +kernel
theorem dL_law_944 : decode cL_law 944 = .ok (.aload_n 0, 1) := by decide +kernel
theorem dL_law_945 : decode cL_law 945 = .ok (.iload_n 3, 1) := by decide +kernel
theorem dL_law_946 : decode cL_law 946 = .ok (.iconst 1, 1) := by decide +kernel
theorem dL_law_947 : decode cL_law 947 = .ok (.iadd, 1) := by decide +kernel
theorem dL_law_948 : decode cL_law 948 = .ok (.iaload, 1) := by decide +kernel
theorem dL_law_949 : decode cL_law 949 = .ok (.aload_n 0, 1) := by decide +kernel
theorem dL_law_950 : decode cL_law 950 = .ok (.iload_n 3, 1) := by decide +kernel
theorem dL_law_951 : decode cL_law 951 = .ok (.iconst 2, 1) := by decide +kernel
theorem dL_law_952 : decode cL_law 952 = .ok (.iadd, 1) := by decide +kernel
theorem dL_law_953 : decode cL_law 953 = .ok (.iaload, 1) := by decide +kernel
theorem dL_law_954 : decode cL_law 954 = .ok (.invokevirtual 121, 3) := by decide +kernel
theorem dL_law_957 : decode cL_law 957 = .ok (.lcmp, 1) := by decide +kernel
theorem dL_law_958 : decode cL_law 958 = .ok (.ifCond .eq 99, 3) := by decide +kernel
theorem dL_law_961 : decode cL_law 961 = .ok (.iconst 0, 1) := by decide +kernel
theorem dL_law_962 : decode cL_law 962 = .ok (.ireturn, 1) := by decide +kernel
theorem dL_law_963 : decode cL_law 963 = .ok (.aload_n 1, 1) := by decide +kernel
theorem dL_law_964 : decode cL_law 964 = .ok (.aload_n 0, 1) := by decide +kernel
theorem dL_law_965 : decode cL_law 965 = .ok (.iload_n 3, 1) := by decide +kernel
theorem dL_law_966 : decode cL_law 966 = .ok (.iconst 1, 1) := by decide +kernel
theorem dL_law_967 : decode cL_law 967 = .ok (.iadd, 1) := by decide +kernel
theorem dL_law_968 : decode cL_law 968 = .ok (.iaload, 1) := by decide +kernel
theorem dL_law_969 : decode cL_law 969 = .ok (.aload_n 0, 1) := by decide +kernel
theorem dL_law_970 : decode cL_law 970 = .ok (.iload_n 3, 1) := by decide +kernel
theorem dL_law_971 : decode cL_law 971 = .ok (.iconst 2, 1) := by decide +kernel
theorem dL_law_972 : decode cL_law 972 = .ok (.iadd, 1) := by decide +kernel
theorem dL_law_973 : decode cL_law 973 = .ok (.iaload, 1) := by decide +kernel
theorem dL_law_974 : decode cL_law 974 = .ok (.invokevirtual 122, 3) := by decide +kernel
theorem dL_law_977 : decode cL_law 977 = .ok (.aload_n 2, 1) := by decide +kernel
theorem dL_law_978 : decode cL_law 978 = .ok (.aload_n 0, 1) := by decide +kernel
theorem dL_law_979 : decode cL_law 979 = .ok (.iload_n 3, 1) := by decide +kernel
theorem dL_law_980 : decode cL_law 980 = .ok (.iconst 1, 1) := by decide +kernel
theorem dL_law_981 : decode cL_law 981 = .ok (.iadd, 1) := by decide +kernel
theorem dL_law_982 : decode cL_law 982 = .ok (.iaload, 1) := by decide +kernel
theorem dL_law_983 : decode cL_law 983 = .ok (.aload_n 0, 1) := by decide +kernel
theorem dL_law_984 : decode cL_law 984 = .ok (.iload_n 3, 1) := by decide +kernel
theorem dL_law_985 : decode cL_law 985 = .ok (.iconst 2, 1) := by decide +kernel
theorem dL_law_986 : decode cL_law 986 = .ok (.iadd, 1) := by decide +kernel
theorem dL_law_987 : decode cL_law 987 = .ok (.iaload, 1) := by decide +kernel
theorem dL_law_988 : decode cL_law 988 = .ok (.invokevirtual 125, 3) := by decide +kernel
theorem dL_law_991 : decode cL_law 991 = .ok (.lcmp, 1) := by decide +kernel
theorem dL_law_992 : decode cL_law 992 = .ok (.ifCond .eq 65, 3) := by decide +kernel
theorem dL_law_995 : decode cL_law 995 = .ok (.iconst 0, 1) := by decide +kernel
theorem dL_law_996 : decode cL_law 996 = .ok (.ireturn, 1) := by decide +kernel
theorem dL_law_997 : decode cL_law 997 = .ok (.aload_n 1, 1) := by decide +kernel
theorem dL_law_998 : decode cL_law 998 = .ok (.aload_n 0, 1) := by decide +kernel
theorem dL_law_999 : decode cL_law 999 = .ok (.iload_n 3, 1) := by decide +kernel
theorem dL_law_1000 : decode cL_law 1000 = .ok (.iconst 1, 1) := by decide +kernel
theorem dL_law_1001 : decode cL_law 1001 = .ok (.iadd, 1) := by decide +kernel
theorem dL_law_1002 : decode cL_law 1002 = .ok (.iaload, 1) := by decide +kernel
theorem dL_law_1003 : decode cL_law 1003 = .ok (.invokevirtual 126, 3) := by decide +kernel
theorem dL_law_1006 : decode cL_law 1006 = .ok (.aload_n 2, 1) := by decide +kernel
theorem dL_law_1007 : decode cL_law 1007 = .ok (.aload_n 0, 1) := by decide +kernel
theorem dL_law_1008 : decode cL_law 1008 = .ok (.iload_n 3, 1) := by decide +kernel
theorem dL_law_1009 : decode cL_law 1009 = .ok (.iconst 1, 1) := by decide +kernel
theorem dL_law_1010 : decode cL_law 1010 = .ok (.iadd, 1) := by decide +kernel
theorem dL_law_1011 : decode cL_law 1011 = .ok (.iaload, 1) := by decide +kernel
theorem dL_law_1012 : decode cL_law 1012 = .ok (.invokevirtual 130, 3) := by decide +kernel
theorem dL_law_1015 : decode cL_law 1015 = .ok (.if_icmp .eq 42, 3) := by decide +kernel
theorem dL_law_1018 : decode cL_law 1018 = .ok (.iconst 0, 1) := by decide +kernel
theorem dL_law_1019 : decode cL_law 1019 = .ok (.ireturn, 1) := by decide +kernel
theorem dL_law_1020 : decode cL_law 1020 = .ok (.aload_n 1, 1) := by decide +kernel
theorem dL_law_1021 : decode cL_law 1021 = .ok (.aload_n 0, 1) := by decide +kernel
theorem dL_law_1022 : decode cL_law 1022 = .ok (.iload_n 3, 1) := by decide +kernel
theorem dL_law_1023 : decode cL_law 1023 = .ok (.iconst 1, 1) := by decide +kernel
theorem dL_law_1024 : decode cL_law 1024 = .ok (.iadd, 1) := by decide +kernel
theorem dL_law_1025 : decode cL_law 1025 = .ok (.iaload, 1) := by decide +kernel
theorem dL_law_1026 : decode cL_law 1026 = .ok (.invokevirtual 131, 3) := by decide +kernel
theorem dL_law_1029 : decode cL_law 1029 = .ok (.aload_n 2, 1) := by decide +kernel
theorem dL_law_1030 : decode cL_law 1030 = .ok (.aload_n 0, 1) := by decide +kernel
theorem dL_law_1031 : decode cL_law 1031 = .ok (.iload_n 3, 1) := by decide +kernel
theorem dL_law_1032 : decode cL_law 1032 = .ok (.iconst 1, 1) := by decide +kernel
theorem dL_law_1033 : decode cL_law 1033 = .ok (.iadd, 1) := by decide +kernel
theorem dL_law_1034 : decode cL_law 1034 = .ok (.iaload, 1) := by decide +kernel
theorem dL_law_1035 : decode cL_law 1035 = .ok (.invokevirtual 134, 3) := by decide +kernel
theorem dL_law_1038 : decode cL_law 1038 = .ok (.lcmp, 1) := by decide +kernel
theorem dL_law_1039 : decode cL_law 1039 = .ok (.ifCond .eq 18, 3) := by decide +kernel
theorem dL_law_1042 : decode cL_law 1042 = .ok (.iconst 0, 1) := by decide +kernel
theorem dL_law_1043 : decode cL_law 1043 = .ok (.ireturn, 1) := by decide +kernel
theorem dL_law_1044 : decode cL_law 1044 = .ok (.aload_n 1, 1) := by decide +kernel
theorem dL_law_1045 : decode cL_law 1045 = .ok (.invokevirtual 135, 3) := by decide +kernel
theorem dL_law_1048 : decode cL_law 1048 = .ok (.aload_n 2, 1) := by decide +kernel
theorem dL_law_1049 : decode cL_law 1049 = .ok (.invokevirtual 138, 3) := by decide +kernel
theorem dL_law_1052 : decode cL_law 1052 = .ok (.if_icmp .eq 5, 3) := by decide +kernel
theorem dL_law_1055 : decode cL_law 1055 = .ok (.iconst 0, 1) := by decide +kernel
theorem dL_law_1056 : decode cL_law 1056 = .ok (.ireturn, 1) := by decide +kernel
theorem dL_law_1057 : decode cL_law 1057 = .ok (.iinc 3 6, 3) := by decide +kernel
theorem dL_law_1060 : decode cL_law 1060 = .ok (.goto (-1042), 3) := by decide +kernel
theorem dL_law_1063 : decode cL_law 1063 = .ok (.iconst 1, 1) := by decide +kernel
theorem dL_law_1064 : decode cL_law 1064 = .ok (.ireturn, 1) := by decide +kernel
def f_law_b1057 (LL : Nat) (xs : Nat → Int32) (k18 : Int32 → St → Option (Int32 × St)) (x3 : Int32) (σ : St) : Option (Int32 × St) :=
  k18 (x3 + 6) σ
set_option maxRecDepth 4000 in
theorem ok_law_b1057 {E : gE} {w : wT} {σ' : St} (X : gC E w cL_law 4 RL 100) (Y : True) {b LL : Nat} {xs : Nat → Int32} (Z : gZ E w b LL xs) {k18 : Int32 → St → Option (Int32 × St)} (hk18 : ∀ (x3 : Int32) (σ : St), k18 x3 σ = some (1, σ') → gW E w 4 σ 18 [some (.ref b), some (.ref (w.1 0)), some (.ref (w.1 9)), some (.int x3)] []) {x3 : Int32} (σ : St) (h : f_law_b1057 LL xs k18 x3 σ = some (1, σ')) : gW E w 4 σ 1057 [some (.ref b), some (.ref (w.1 0)), some (.ref (w.1 9)), some (.int x3)] [] := by
  unfold f_law_b1057 at h
  refine g_iinc X [some (.ref b), some (.ref (w.1 0)), some (.ref (w.1 9)), some (.int (x3 + 6))] dL_law_1057 rfl (ii_6 x3) (Nat.le_of_ble_eq_true rfl) rfl rfl rfl ?_
  refine g_goto X dL_law_1060 (tgt := 18) rfl ?_
  exact hk18 (x3 + 6) σ h

def f_law_b18 (LL : Nat) (xs : Nat → Int32) (k18 : Int32 → St → Option (Int32 × St)) (x3 : Int32) (σ : St) : Option (Int32 × St) :=
  if ((Int32.ofNat LL) - 6) < x3 then (some (1, σ)) else (ck (ib x3 LL) <| if ((xs x3.toNatClampNeg) &&& 31) = 0 then (ck (ib (x3 + 1) LL) <| ck (ib (x3 + 2) LL) <| ck (ib (x3 + 3) LL) <| bd (f_HG_row (xs (x3 + 1).toNatClampNeg) (xs (x3 + 2).toNatClampNeg) (xs (x3 + 3).toNatClampNeg) σ) fun r9 σ8 => ck (ib (x3 + 1) LL) <| ck (ib (x3 + 2) LL) <| ck (ib (x3 + 3) LL) <| bd (f_HM_row (xs (x3 + 1).toNatClampNeg) (xs (x3 + 2).toNatClampNeg) (xs (x3 + 3).toNatClampNeg) σ8) fun r15 σ14 => if r9 = r15 then (f_law_b1057 LL xs k18 x3 σ14) else (some (0, σ14))) else if ((xs x3.toNatClampNeg) &&& 31) = 1 then (ck (ib (x3 + 1) LL) <| ck (ib (x3 + 2) LL) <| ck (ib (x3 + 3) LL) <| bd (f_HG_set (xs (x3 + 1).toNatClampNeg) (xs (x3 + 2).toNatClampNeg) (xs (x3 + 3).toNatClampNeg) σ) fun r23 σ22 => ck (ib (x3 + 1) LL) <| ck (ib (x3 + 2) LL) <| ck (ib (x3 + 3) LL) <| bd (f_HM_set (xs (x3 + 1).toNatClampNeg) (xs (x3 + 2).toNatClampNeg) (xs (x3 + 3).toNatClampNeg) σ22) fun r29 σ28 => if r23 = r29 then (f_law_b1057 LL xs k18 x3 σ28) else (some (0, σ28))) else if ((xs x3.toNatClampNeg) &&& 31) = 2 then (ck (ib (x3 + 1) LL) <| ck (ib (x3 + 2) LL) <| ck (ib (x3 + 3) LL) <| ck (ib (x3 + 4) LL) <| ck (ib (x3 + 5) LL) <| bd (f_HG_copy (xs (x3 + 1).toNatClampNeg) (xs (x3 + 2).toNatClampNeg) (xs (x3 + 3).toNatClampNeg) (xs (x3 + 4).toNatClampNeg) (xs (x3 + 5).toNatClampNeg) σ) fun r39 σ38 => ck (ib (x3 + 1) LL) <| ck (ib (x3 + 2) LL) <| ck (ib (x3 + 3) LL) <| ck (ib (x3 + 4) LL) <| ck (ib (x3 + 5) LL) <| bd (f_HM_copy (xs (x3 + 1).toNatClampNeg) (xs (x3 + 2).toNatClampNeg) (xs (x3 + 3).toNatClampNeg) (xs (x3 + 4).toNatClampNeg) (xs (x3 + 5).toNatClampNeg) σ38) fun r47 σ46 => if r39 = r47 then (f_law_b1057 LL xs k18 x3 σ46) else (some (0, σ46))) else if ((xs x3.toNatClampNeg) &&& 31) = 3 then (ck (ib (x3 + 1) LL) <| bd (f_HG_drop (xs (x3 + 1).toNatClampNeg) σ) fun r53 σ52 => ck (ib (x3 + 1) LL) <| bd (f_HM_drop (xs (x3 + 1).toNatClampNeg) σ52) fun r57 σ56 => if r53 = r57 then (f_law_b1057 LL xs k18 x3 σ56) else (some (0, σ56))) else if ((xs x3.toNatClampNeg) &&& 31) = 4 then (ck (ib (x3 + 1) LL) <| ck (ib (x3 + 2) LL) <| ck (ib (x3 + 3) LL) <| bd (f_HG_feed ((((xs (x3 + 1).toNatClampNeg).toInt64) <<< ((32 : Int32).toInt64 &&& 63)) ||| (((xs (x3 + 2).toNatClampNeg).toInt64) &&& 4294967295)) (xs (x3 + 3).toNatClampNeg) σ) fun r65 σ64 => ck (ib (x3 + 1) LL) <| ck (ib (x3 + 2) LL) <| ck (ib (x3 + 3) LL) <| bd (f_HM_feed ((((xs (x3 + 1).toNatClampNeg).toInt64) <<< ((32 : Int32).toInt64 &&& 63)) ||| (((xs (x3 + 2).toNatClampNeg).toInt64) &&& 4294967295)) (xs (x3 + 3).toNatClampNeg) σ64) fun r71 σ70 => if r65 = r71 then (f_law_b1057 LL xs k18 x3 σ70) else (some (0, σ70))) else if ((xs x3.toNatClampNeg) &&& 31) = 5 then (bd (f_HG_game σ) fun r76 σ75 => bd (f_HM_game σ75) fun r79 σ78 => if r76 = r79 then (f_law_b1057 LL xs k18 x3 σ78) else (some (0, σ78))) else if ((xs x3.toNatClampNeg) &&& 31) = 6 then (bd (f_HG_fault σ) fun r84 σ83 => bd (f_HM_fault σ83) fun r87 σ86 => if r84 = r87 then (f_law_b1057 LL xs k18 x3 σ86) else (some (0, σ86))) else if ((xs x3.toNatClampNeg) &&& 31) = 7 then (ck (ib (x3 + 1) LL) <| ck (ib (x3 + 2) LL) <| bd (f_HG_place (xs (x3 + 1).toNatClampNeg) (xs (x3 + 2).toNatClampNeg) σ) fun r94 σ93 => ck (ib (x3 + 1) LL) <| ck (ib (x3 + 2) LL) <| bd (f_HM_place (xs (x3 + 1).toNatClampNeg) (xs (x3 + 2).toNatClampNeg) σ93) fun r99 σ98 => if r94 = r99 then (f_law_b1057 LL xs k18 x3 σ98) else (some (0, σ98))) else if ((xs x3.toNatClampNeg) &&& 31) = 8 then (ck (ib (x3 + 1) LL) <| ck (ib (x3 + 2) LL) <| bd (f_HG_seen (xs (x3 + 1).toNatClampNeg) (xs (x3 + 2).toNatClampNeg) σ) fun r106 σ105 => ck (ib (x3 + 1) LL) <| ck (ib (x3 + 2) LL) <| bd (f_HM_seen (xs (x3 + 1).toNatClampNeg) (xs (x3 + 2).toNatClampNeg) σ105) fun r111 σ110 => if r106 = r111 then (f_law_b1057 LL xs k18 x3 σ110) else (some (0, σ110))) else if ((xs x3.toNatClampNeg) &&& 31) = 9 then (ck (ib (x3 + 1) LL) <| bd (f_HG_forgets (xs (x3 + 1).toNatClampNeg) σ) fun r117 σ116 => ck (ib (x3 + 1) LL) <| bd (f_HM_forgets (xs (x3 + 1).toNatClampNeg) σ116) fun r121 σ120 => if r117 = r121 then (f_law_b1057 LL xs k18 x3 σ120) else (some (0, σ120))) else if ((xs x3.toNatClampNeg) &&& 31) = 10 then (ck (ib (x3 + 1) LL) <| ck (ib (x3 + 2) LL) <| ck (ib (x3 + 3) LL) <| bd (f_HG_mix (xs (x3 + 1).toNatClampNeg) (xs (x3 + 2).toNatClampNeg) (xs (x3 + 3).toNatClampNeg) σ) fun r129 σ128 => ck (ib (x3 + 1) LL) <| ck (ib (x3 + 2) LL) <| ck (ib (x3 + 3) LL) <| bd (f_HM_mix (xs (x3 + 1).toNatClampNeg) (xs (x3 + 2).toNatClampNeg) (xs (x3 + 3).toNatClampNeg) σ128) fun r135 σ134 => if r129 = r135 then (f_law_b1057 LL xs k18 x3 σ134) else (some (0, σ134))) else if ((xs x3.toNatClampNeg) &&& 31) = 11 then (ck (ib (x3 + 1) LL) <| ck (ib (x3 + 2) LL) <| bd (f_HG_share (xs (x3 + 1).toNatClampNeg) (xs (x3 + 2).toNatClampNeg) σ) fun r142 σ141 => ck (ib (x3 + 1) LL) <| ck (ib (x3 + 2) LL) <| bd (f_HM_share (xs (x3 + 1).toNatClampNeg) (xs (x3 + 2).toNatClampNeg) σ141) fun r147 σ146 => if r142 = r147 then (f_law_b1057 LL xs k18 x3 σ146) else (some (0, σ146))) else if ((xs x3.toNatClampNeg) &&& 31) = 12 then (bd (f_HG_value σ) fun r152 σ151 => bd (f_HM_value σ151) fun r155 σ154 => if r152 = r155 then (f_law_b1057 LL xs k18 x3 σ154) else (some (0, σ154))) else if ((xs x3.toNatClampNeg) &&& 31) = 13 then (ck (ib (x3 + 1) LL) <| ck (ib (x3 + 2) LL) <| bd (f_HG_reach (xs (x3 + 1).toNatClampNeg) (xs (x3 + 2).toNatClampNeg) σ) fun r162 σ161 => ck (ib (x3 + 1) LL) <| ck (ib (x3 + 2) LL) <| bd (f_HM_reach (xs (x3 + 1).toNatClampNeg) (xs (x3 + 2).toNatClampNeg) σ161) fun r167 σ166 => if r162 = r167 then (f_law_b1057 LL xs k18 x3 σ166) else (some (0, σ166))) else if ((xs x3.toNatClampNeg) &&& 31) = 14 then (ck (ib (x3 + 1) LL) <| ck (ib (x3 + 2) LL) <| bd (f_HG_best (xs (x3 + 1).toNatClampNeg) (xs (x3 + 2).toNatClampNeg) σ) fun r174 σ173 => ck (ib (x3 + 1) LL) <| ck (ib (x3 + 2) LL) <| bd (f_HM_best (xs (x3 + 1).toNatClampNeg) (xs (x3 + 2).toNatClampNeg) σ173) fun r179 σ178 => if r174 = r179 then (f_law_b1057 LL xs k18 x3 σ178) else (some (0, σ178))) else if ((xs x3.toNatClampNeg) &&& 31) = 15 then (ck (ib (x3 + 1) LL) <| bd (f_HG_answer (xs (x3 + 1).toNatClampNeg) σ) fun r185 σ184 => ck (ib (x3 + 1) LL) <| bd (f_HM_answer (xs (x3 + 1).toNatClampNeg) σ184) fun r189 σ188 => if r185 = r189 then (f_law_b1057 LL xs k18 x3 σ188) else (some (0, σ188))) else if ((xs x3.toNatClampNeg) &&& 31) = 16 then (ck (ib (x3 + 1) LL) <| ck (ib (x3 + 2) LL) <| bd (f_HG_belief (xs (x3 + 1).toNatClampNeg) (xs (x3 + 2).toNatClampNeg) σ) fun r196 σ195 => ck (ib (x3 + 1) LL) <| ck (ib (x3 + 2) LL) <| bd (f_HM_belief (xs (x3 + 1).toNatClampNeg) (xs (x3 + 2).toNatClampNeg) σ195) fun r201 σ200 => if r196 = r201 then (f_law_b1057 LL xs k18 x3 σ200) else (some (0, σ200))) else if ((xs x3.toNatClampNeg) &&& 31) = 17 then (ck (ib (x3 + 1) LL) <| bd (f_HG_seeing (xs (x3 + 1).toNatClampNeg) σ) fun r207 σ206 => ck (ib (x3 + 1) LL) <| bd (f_HM_seeing (xs (x3 + 1).toNatClampNeg) σ206) fun r211 σ210 => if r207 = r211 then (f_law_b1057 LL xs k18 x3 σ210) else (some (0, σ210))) else if ((xs x3.toNatClampNeg) &&& 31) = 18 then (ck (ib (x3 + 1) LL) <| ck (ib (x3 + 2) LL) <| bd (f_HG_fewer (xs (x3 + 1).toNatClampNeg) (xs (x3 + 2).toNatClampNeg) σ) fun r218 σ217 => ck (ib (x3 + 1) LL) <| ck (ib (x3 + 2) LL) <| bd (f_HM_fewer (xs (x3 + 1).toNatClampNeg) (xs (x3 + 2).toNatClampNeg) σ217) fun r223 σ222 => if r218 = r223 then (f_law_b1057 LL xs k18 x3 σ222) else (some (0, σ222))) else if ((xs x3.toNatClampNeg) &&& 31) = 19 then (ck (ib (x3 + 1) LL) <| bd (f_HG_rounds (xs (x3 + 1).toNatClampNeg) σ) fun r229 σ228 => ck (ib (x3 + 1) LL) <| bd (f_HM_rounds (xs (x3 + 1).toNatClampNeg) σ228) fun r233 σ232 => if r229 = r233 then (f_law_b1057 LL xs k18 x3 σ232) else (some (0, σ232))) else if ((xs x3.toNatClampNeg) &&& 31) = 20 then (ck (ib (x3 + 1) LL) <| bd (f_HG_bound (xs (x3 + 1).toNatClampNeg) σ) fun r239 σ238 => ck (ib (x3 + 1) LL) <| bd (f_HM_bound (xs (x3 + 1).toNatClampNeg) σ238) fun r243 σ242 => if r239 = r243 then (f_law_b1057 LL xs k18 x3 σ242) else (some (0, σ242))) else if ((xs x3.toNatClampNeg) &&& 31) = 21 then (ck (ib (x3 + 1) LL) <| ck (ib (x3 + 2) LL) <| bd (f_HG_mean (xs (x3 + 1).toNatClampNeg) (xs (x3 + 2).toNatClampNeg) σ) fun r250 σ249 => ck (ib (x3 + 1) LL) <| ck (ib (x3 + 2) LL) <| bd (f_HM_mean (xs (x3 + 1).toNatClampNeg) (xs (x3 + 2).toNatClampNeg) σ249) fun r255 σ254 => if r250 = r255 then (f_law_b1057 LL xs k18 x3 σ254) else (some (0, σ254))) else if ((xs x3.toNatClampNeg) &&& 31) = 22 then (ck (ib (x3 + 1) LL) <| bd (f_HG_take (xs (x3 + 1).toNatClampNeg) σ) fun r261 σ260 => ck (ib (x3 + 1) LL) <| bd (f_HM_take (xs (x3 + 1).toNatClampNeg) σ260) fun r265 σ264 => if r261 = r265 then (f_law_b1057 LL xs k18 x3 σ264) else (some (0, σ264))) else if ((xs x3.toNatClampNeg) &&& 31) = 23 then (ck (ib (x3 + 1) LL) <| bd (f_HG_kind (xs (x3 + 1).toNatClampNeg) σ) fun r271 σ270 => ck (ib (x3 + 1) LL) <| bd (f_HM_kind (xs (x3 + 1).toNatClampNeg) σ270) fun r275 σ274 => if r271 = r275 then (f_law_b1057 LL xs k18 x3 σ274) else (some (0, σ274))) else if ((xs x3.toNatClampNeg) &&& 31) = 24 then (ck (ib (x3 + 1) LL) <| ck (ib (x3 + 2) LL) <| bd (f_HG_as (xs (x3 + 1).toNatClampNeg) (xs (x3 + 2).toNatClampNeg) σ) fun r282 σ281 => ck (ib (x3 + 1) LL) <| ck (ib (x3 + 2) LL) <| bd (f_HM_as (xs (x3 + 1).toNatClampNeg) (xs (x3 + 2).toNatClampNeg) σ281) fun r287 σ286 => if r282 = r287 then (f_law_b1057 LL xs k18 x3 σ286) else (some (0, σ286))) else if ((xs x3.toNatClampNeg) &&& 31) = 25 then (ck (ib (x3 + 1) LL) <| ck (ib (x3 + 2) LL) <| bd (f_HG_ask (xs (x3 + 1).toNatClampNeg) (xs (x3 + 2).toNatClampNeg) σ) fun r294 σ293 => ck (ib (x3 + 1) LL) <| ck (ib (x3 + 2) LL) <| bd (f_HM_ask (xs (x3 + 1).toNatClampNeg) (xs (x3 + 2).toNatClampNeg) σ293) fun r299 σ298 => if r294 = r299 then (f_law_b1057 LL xs k18 x3 σ298) else (some (0, σ298))) else if ((xs x3.toNatClampNeg) &&& 31) = 26 then (ck (ib (x3 + 1) LL) <| bd (f_HG_trace (xs (x3 + 1).toNatClampNeg) σ) fun r305 σ304 => ck (ib (x3 + 1) LL) <| bd (f_HM_trace (xs (x3 + 1).toNatClampNeg) σ304) fun r309 σ308 => if r305 = r309 then (f_law_b1057 LL xs k18 x3 σ308) else (some (0, σ308))) else if ((xs x3.toNatClampNeg) &&& 31) = 27 then (ck (ib (x3 + 1) LL) <| bd (f_HG_count (xs (x3 + 1).toNatClampNeg) σ) fun r315 σ314 => ck (ib (x3 + 1) LL) <| bd (f_HM_count (xs (x3 + 1).toNatClampNeg) σ314) fun r319 σ318 => if r315 = r319 then (f_law_b1057 LL xs k18 x3 σ318) else (some (0, σ318))) else if ((xs x3.toNatClampNeg) &&& 31) = 28 then (bd (f_HG_status σ) fun r324 σ323 => bd (f_HM_status σ323) fun r327 σ326 => if r324 = r327 then (f_law_b1057 LL xs k18 x3 σ326) else (some (0, σ326))) else (f_law_b1057 LL xs k18 x3 σ))
set_option maxRecDepth 4000 in
theorem ok_law_b18 {E : gE} {w : wT} {σ' : St} (X : gC E w cL_law 4 RL 100) (Y : True) {b LL : Nat} {xs : Nat → Int32} (Z : gZ E w b LL xs) {k18 : Int32 → St → Option (Int32 × St)} (hk18 : ∀ (x3 : Int32) (σ : St), k18 x3 σ = some (1, σ') → gW E w 4 σ 18 [some (.ref b), some (.ref (w.1 0)), some (.ref (w.1 9)), some (.int x3)] []) {x3 : Int32} (σ : St) (h : f_law_b18 LL xs k18 x3 σ = some (1, σ')) : gW E w 4 σ 18 [some (.ref b), some (.ref (w.1 0)), some (.ref (w.1 9)), some (.int x3)] [] := by
  unfold f_law_b18 at h
  refine g_iload_n X dL_law_18 rfl rfl ?_
  refine g_aload_n X dL_law_19 rfl rfl ?_
  refine g_slen X Z dL_law_20 rfl ?_
  refine g_bipush X kB_6 dL_law_21 rfl ?_
  refine g_isub X dL_law_23 rfl ?_
  refine g_icmp_gt X dL_law_24 (tgt := 1063) rfl rfl (fun c1 => ?_) (fun c1 => ?_)
  · replace h := if_t c1 h
    refine g_iconst X kI_1 dL_law_1063 rfl ?_
    exact g_lawret X Z dL_law_1064
  · replace h := if_f c1 h
    refine g_aload_n X dL_law_27 rfl rfl ?_
    refine g_iload_n X dL_law_28 rfl rfl ?_
    obtain ⟨c2, h⟩ := ck_e h
    refine g_sld X Z (ib_e c2) dL_law_29 rfl ?_
    refine g_bipush X kB_31 dL_law_30 rfl ?_
    refine g_iand X dL_law_32 rfl ?_
    by_cases c3 : ((xs x3.toNatClampNeg) &&& 31) = 0
    · replace h := if_t c3 h
      refine g_tin X dL_law_33 (by rw [c3]; decide) (by rw [c3]; decide) (off := 131) (by rw [c3]; rfl) (tgt := 164) rfl ?_
      refine g_aload_n X dL_law_164 rfl rfl ?_
      refine g_aload_n X dL_law_165 rfl rfl ?_
      refine g_iload_n X dL_law_166 rfl rfl ?_
      refine g_iconst X kI_1 dL_law_167 rfl ?_
      refine g_iadd X dL_law_168 rfl ?_
      obtain ⟨c4, h⟩ := ck_e h
      refine g_sld X Z (ib_e c4) dL_law_169 rfl ?_
      refine g_aload_n X dL_law_170 rfl rfl ?_
      refine g_iload_n X dL_law_171 rfl rfl ?_
      refine g_iconst X kI_2 dL_law_172 rfl ?_
      refine g_iadd X dL_law_173 rfl ?_
      obtain ⟨c5, h⟩ := ck_e h
      refine g_sld X Z (ib_e c5) dL_law_174 rfl ?_
      refine g_aload_n X dL_law_175 rfl rfl ?_
      refine g_iload_n X dL_law_176 rfl rfl ?_
      refine g_iconst X kI_3 dL_law_177 rfl ?_
      refine g_iadd X dL_law_178 rfl ?_
      obtain ⟨c6, h⟩ := ck_e h
      refine g_sld X Z (ib_e c6) dL_law_179 rfl ?_
      obtain ⟨r9, σ8, h7, h⟩ := bd_e h
      refine g_callVJ X [.int (xs (x3 + 1).toNatClampNeg), .int (xs (x3 + 2).toNatClampNeg), .int (xs (x3 + 3).toNatClampNeg)] (ok_HG_row X.inj h7) my_yX8_row mi_yX8_row ms_yX8_row ml_RL_13 (by decide) rfl rfl (by decide) rfl dL_law_180 (Nat.le_of_ble_eq_true rfl) rfl rfl ?_
      refine g_aload_n X dL_law_183 rfl rfl ?_
      refine g_aload_n X dL_law_184 rfl rfl ?_
      refine g_iload_n X dL_law_185 rfl rfl ?_
      refine g_iconst X kI_1 dL_law_186 rfl ?_
      refine g_iadd X dL_law_187 rfl ?_
      obtain ⟨c10, h⟩ := ck_e h
      refine g_sld X Z (ib_e c10) dL_law_188 rfl ?_
      refine g_aload_n X dL_law_189 rfl rfl ?_
      refine g_iload_n X dL_law_190 rfl rfl ?_
      refine g_iconst X kI_2 dL_law_191 rfl ?_
      refine g_iadd X dL_law_192 rfl ?_
      obtain ⟨c11, h⟩ := ck_e h
      refine g_sld X Z (ib_e c11) dL_law_193 rfl ?_
      refine g_aload_n X dL_law_194 rfl rfl ?_
      refine g_iload_n X dL_law_195 rfl rfl ?_
      refine g_iconst X kI_3 dL_law_196 rfl ?_
      refine g_iadd X dL_law_197 rfl ?_
      obtain ⟨c12, h⟩ := ck_e h
      refine g_sld X Z (ib_e c12) dL_law_198 rfl ?_
      obtain ⟨r15, σ14, h13, h⟩ := bd_e h
      refine g_callVJ X [.int (xs (x3 + 1).toNatClampNeg), .int (xs (x3 + 2).toNatClampNeg), .int (xs (x3 + 3).toNatClampNeg)] (ok_HM_row X.inj h13) my_yX9_row mi_yX9_row ms_yX9_row ml_RL_17 (by decide) rfl rfl (by decide) rfl dL_law_199 (Nat.le_of_ble_eq_true rfl) rfl rfl ?_
      refine g_lcmp_eq X dL_law_202 rfl dL_law_203 (tgt := 1057) rfl rfl (fun c16 => ?_) (fun c16 => ?_)
      · replace h := if_t c16 h
        exact ok_law_b1057 X Y Z hk18 σ14 h
      · replace h := if_f c16 h
        refine g_iconst X kI_0 dL_law_206 rfl ?_
        exact absurd (rt_e h).1 (by decide)
    · replace h := if_f c3 h
      by_cases c17 : ((xs x3.toNatClampNeg) &&& 31) = 1
      · replace h := if_t c17 h
        refine g_tin X dL_law_33 (by rw [c17]; decide) (by rw [c17]; decide) (off := 175) (by rw [c17]; rfl) (tgt := 208) rfl ?_
        refine g_aload_n X dL_law_208 rfl rfl ?_
        refine g_aload_n X dL_law_209 rfl rfl ?_
        refine g_iload_n X dL_law_210 rfl rfl ?_
        refine g_iconst X kI_1 dL_law_211 rfl ?_
        refine g_iadd X dL_law_212 rfl ?_
        obtain ⟨c18, h⟩ := ck_e h
        refine g_sld X Z (ib_e c18) dL_law_213 rfl ?_
        refine g_aload_n X dL_law_214 rfl rfl ?_
        refine g_iload_n X dL_law_215 rfl rfl ?_
        refine g_iconst X kI_2 dL_law_216 rfl ?_
        refine g_iadd X dL_law_217 rfl ?_
        obtain ⟨c19, h⟩ := ck_e h
        refine g_sld X Z (ib_e c19) dL_law_218 rfl ?_
        refine g_aload_n X dL_law_219 rfl rfl ?_
        refine g_iload_n X dL_law_220 rfl rfl ?_
        refine g_iconst X kI_3 dL_law_221 rfl ?_
        refine g_iadd X dL_law_222 rfl ?_
        obtain ⟨c20, h⟩ := ck_e h
        refine g_sld X Z (ib_e c20) dL_law_223 rfl ?_
        obtain ⟨r23, σ22, h21, h⟩ := bd_e h
        refine g_callVJ X [.int (xs (x3 + 1).toNatClampNeg), .int (xs (x3 + 2).toNatClampNeg), .int (xs (x3 + 3).toNatClampNeg)] (ok_HG_set X.inj h21) my_yX8_set mi_yX8_set ms_yX8_set ml_RL_18 (by decide) rfl rfl (by decide) rfl dL_law_224 (Nat.le_of_ble_eq_true rfl) rfl rfl ?_
        refine g_aload_n X dL_law_227 rfl rfl ?_
        refine g_aload_n X dL_law_228 rfl rfl ?_
        refine g_iload_n X dL_law_229 rfl rfl ?_
        refine g_iconst X kI_1 dL_law_230 rfl ?_
        refine g_iadd X dL_law_231 rfl ?_
        obtain ⟨c24, h⟩ := ck_e h
        refine g_sld X Z (ib_e c24) dL_law_232 rfl ?_
        refine g_aload_n X dL_law_233 rfl rfl ?_
        refine g_iload_n X dL_law_234 rfl rfl ?_
        refine g_iconst X kI_2 dL_law_235 rfl ?_
        refine g_iadd X dL_law_236 rfl ?_
        obtain ⟨c25, h⟩ := ck_e h
        refine g_sld X Z (ib_e c25) dL_law_237 rfl ?_
        refine g_aload_n X dL_law_238 rfl rfl ?_
        refine g_iload_n X dL_law_239 rfl rfl ?_
        refine g_iconst X kI_3 dL_law_240 rfl ?_
        refine g_iadd X dL_law_241 rfl ?_
        obtain ⟨c26, h⟩ := ck_e h
        refine g_sld X Z (ib_e c26) dL_law_242 rfl ?_
        obtain ⟨r29, σ28, h27, h⟩ := bd_e h
        refine g_callVJ X [.int (xs (x3 + 1).toNatClampNeg), .int (xs (x3 + 2).toNatClampNeg), .int (xs (x3 + 3).toNatClampNeg)] (ok_HM_set X.inj h27) my_yX9_set mi_yX9_set ms_yX9_set ml_RL_21 (by decide) rfl rfl (by decide) rfl dL_law_243 (Nat.le_of_ble_eq_true rfl) rfl rfl ?_
        refine g_lcmp_eq X dL_law_246 rfl dL_law_247 (tgt := 1057) rfl rfl (fun c30 => ?_) (fun c30 => ?_)
        · replace h := if_t c30 h
          exact ok_law_b1057 X Y Z hk18 σ28 h
        · replace h := if_f c30 h
          refine g_iconst X kI_0 dL_law_250 rfl ?_
          exact absurd (rt_e h).1 (by decide)
      · replace h := if_f c17 h
        by_cases c31 : ((xs x3.toNatClampNeg) &&& 31) = 2
        · replace h := if_t c31 h
          refine g_tin X dL_law_33 (by rw [c31]; decide) (by rw [c31]; decide) (off := 219) (by rw [c31]; rfl) (tgt := 252) rfl ?_
          refine g_aload_n X dL_law_252 rfl rfl ?_
          refine g_aload_n X dL_law_253 rfl rfl ?_
          refine g_iload_n X dL_law_254 rfl rfl ?_
          refine g_iconst X kI_1 dL_law_255 rfl ?_
          refine g_iadd X dL_law_256 rfl ?_
          obtain ⟨c32, h⟩ := ck_e h
          refine g_sld X Z (ib_e c32) dL_law_257 rfl ?_
          refine g_aload_n X dL_law_258 rfl rfl ?_
          refine g_iload_n X dL_law_259 rfl rfl ?_
          refine g_iconst X kI_2 dL_law_260 rfl ?_
          refine g_iadd X dL_law_261 rfl ?_
          obtain ⟨c33, h⟩ := ck_e h
          refine g_sld X Z (ib_e c33) dL_law_262 rfl ?_
          refine g_aload_n X dL_law_263 rfl rfl ?_
          refine g_iload_n X dL_law_264 rfl rfl ?_
          refine g_iconst X kI_3 dL_law_265 rfl ?_
          refine g_iadd X dL_law_266 rfl ?_
          obtain ⟨c34, h⟩ := ck_e h
          refine g_sld X Z (ib_e c34) dL_law_267 rfl ?_
          refine g_aload_n X dL_law_268 rfl rfl ?_
          refine g_iload_n X dL_law_269 rfl rfl ?_
          refine g_iconst X kI_4 dL_law_270 rfl ?_
          refine g_iadd X dL_law_271 rfl ?_
          obtain ⟨c35, h⟩ := ck_e h
          refine g_sld X Z (ib_e c35) dL_law_272 rfl ?_
          refine g_aload_n X dL_law_273 rfl rfl ?_
          refine g_iload_n X dL_law_274 rfl rfl ?_
          refine g_iconst X kI_5 dL_law_275 rfl ?_
          refine g_iadd X dL_law_276 rfl ?_
          obtain ⟨c36, h⟩ := ck_e h
          refine g_sld X Z (ib_e c36) dL_law_277 rfl ?_
          obtain ⟨r39, σ38, h37, h⟩ := bd_e h
          refine g_callVJ X [.int (xs (x3 + 1).toNatClampNeg), .int (xs (x3 + 2).toNatClampNeg), .int (xs (x3 + 3).toNatClampNeg), .int (xs (x3 + 4).toNatClampNeg), .int (xs (x3 + 5).toNatClampNeg)] (ok_HG_copy X.inj h37) my_yX8_copy mi_yX8_copy ms_yX8_copy ml_RL_22 (by decide) rfl rfl (by decide) rfl dL_law_278 (Nat.le_of_ble_eq_true rfl) rfl rfl ?_
          refine g_aload_n X dL_law_281 rfl rfl ?_
          refine g_aload_n X dL_law_282 rfl rfl ?_
          refine g_iload_n X dL_law_283 rfl rfl ?_
          refine g_iconst X kI_1 dL_law_284 rfl ?_
          refine g_iadd X dL_law_285 rfl ?_
          obtain ⟨c40, h⟩ := ck_e h
          refine g_sld X Z (ib_e c40) dL_law_286 rfl ?_
          refine g_aload_n X dL_law_287 rfl rfl ?_
          refine g_iload_n X dL_law_288 rfl rfl ?_
          refine g_iconst X kI_2 dL_law_289 rfl ?_
          refine g_iadd X dL_law_290 rfl ?_
          obtain ⟨c41, h⟩ := ck_e h
          refine g_sld X Z (ib_e c41) dL_law_291 rfl ?_
          refine g_aload_n X dL_law_292 rfl rfl ?_
          refine g_iload_n X dL_law_293 rfl rfl ?_
          refine g_iconst X kI_3 dL_law_294 rfl ?_
          refine g_iadd X dL_law_295 rfl ?_
          obtain ⟨c42, h⟩ := ck_e h
          refine g_sld X Z (ib_e c42) dL_law_296 rfl ?_
          refine g_aload_n X dL_law_297 rfl rfl ?_
          refine g_iload_n X dL_law_298 rfl rfl ?_
          refine g_iconst X kI_4 dL_law_299 rfl ?_
          refine g_iadd X dL_law_300 rfl ?_
          obtain ⟨c43, h⟩ := ck_e h
          refine g_sld X Z (ib_e c43) dL_law_301 rfl ?_
          refine g_aload_n X dL_law_302 rfl rfl ?_
          refine g_iload_n X dL_law_303 rfl rfl ?_
          refine g_iconst X kI_5 dL_law_304 rfl ?_
          refine g_iadd X dL_law_305 rfl ?_
          obtain ⟨c44, h⟩ := ck_e h
          refine g_sld X Z (ib_e c44) dL_law_306 rfl ?_
          obtain ⟨r47, σ46, h45, h⟩ := bd_e h
          refine g_callVJ X [.int (xs (x3 + 1).toNatClampNeg), .int (xs (x3 + 2).toNatClampNeg), .int (xs (x3 + 3).toNatClampNeg), .int (xs (x3 + 4).toNatClampNeg), .int (xs (x3 + 5).toNatClampNeg)] (ok_HM_copy X.inj h45) my_yX9_copy mi_yX9_copy ms_yX9_copy ml_RL_26 (by decide) rfl rfl (by decide) rfl dL_law_307 (Nat.le_of_ble_eq_true rfl) rfl rfl ?_
          refine g_lcmp_eq X dL_law_310 rfl dL_law_311 (tgt := 1057) rfl rfl (fun c48 => ?_) (fun c48 => ?_)
          · replace h := if_t c48 h
            exact ok_law_b1057 X Y Z hk18 σ46 h
          · replace h := if_f c48 h
            refine g_iconst X kI_0 dL_law_314 rfl ?_
            exact absurd (rt_e h).1 (by decide)
        · replace h := if_f c31 h
          by_cases c49 : ((xs x3.toNatClampNeg) &&& 31) = 3
          · replace h := if_t c49 h
            refine g_tin X dL_law_33 (by rw [c49]; decide) (by rw [c49]; decide) (off := 283) (by rw [c49]; rfl) (tgt := 316) rfl ?_
            refine g_aload_n X dL_law_316 rfl rfl ?_
            refine g_aload_n X dL_law_317 rfl rfl ?_
            refine g_iload_n X dL_law_318 rfl rfl ?_
            refine g_iconst X kI_1 dL_law_319 rfl ?_
            refine g_iadd X dL_law_320 rfl ?_
            obtain ⟨c50, h⟩ := ck_e h
            refine g_sld X Z (ib_e c50) dL_law_321 rfl ?_
            obtain ⟨r53, σ52, h51, h⟩ := bd_e h
            refine g_callVJ X [.int (xs (x3 + 1).toNatClampNeg)] (ok_HG_drop X.inj h51) my_yX8_drop mi_yX8_drop ms_yX8_drop ml_RL_27 (by decide) rfl rfl (by decide) rfl dL_law_322 (Nat.le_of_ble_eq_true rfl) rfl rfl ?_
            refine g_aload_n X dL_law_325 rfl rfl ?_
            refine g_aload_n X dL_law_326 rfl rfl ?_
            refine g_iload_n X dL_law_327 rfl rfl ?_
            refine g_iconst X kI_1 dL_law_328 rfl ?_
            refine g_iadd X dL_law_329 rfl ?_
            obtain ⟨c54, h⟩ := ck_e h
            refine g_sld X Z (ib_e c54) dL_law_330 rfl ?_
            obtain ⟨r57, σ56, h55, h⟩ := bd_e h
            refine g_callVJ X [.int (xs (x3 + 1).toNatClampNeg)] (ok_HM_drop X.inj h55) my_yX9_drop mi_yX9_drop ms_yX9_drop ml_RL_31 (by decide) rfl rfl (by decide) rfl dL_law_331 (Nat.le_of_ble_eq_true rfl) rfl rfl ?_
            refine g_lcmp_eq X dL_law_334 rfl dL_law_335 (tgt := 1057) rfl rfl (fun c58 => ?_) (fun c58 => ?_)
            · replace h := if_t c58 h
              exact ok_law_b1057 X Y Z hk18 σ56 h
            · replace h := if_f c58 h
              refine g_iconst X kI_0 dL_law_338 rfl ?_
              exact absurd (rt_e h).1 (by decide)
          · replace h := if_f c49 h
            by_cases c59 : ((xs x3.toNatClampNeg) &&& 31) = 4
            · replace h := if_t c59 h
              refine g_tin X dL_law_33 (by rw [c59]; decide) (by rw [c59]; decide) (off := 307) (by rw [c59]; rfl) (tgt := 340) rfl ?_
              refine g_aload_n X dL_law_340 rfl rfl ?_
              refine g_aload_n X dL_law_341 rfl rfl ?_
              refine g_iload_n X dL_law_342 rfl rfl ?_
              refine g_iconst X kI_1 dL_law_343 rfl ?_
              refine g_iadd X dL_law_344 rfl ?_
              obtain ⟨c60, h⟩ := ck_e h
              refine g_sld X Z (ib_e c60) dL_law_345 rfl ?_
              refine g_i2l X dL_law_346 rfl ?_
              refine g_bipush X kB_32 dL_law_347 rfl ?_
              refine g_lshl X dL_law_349 rfl ?_
              refine g_aload_n X dL_law_350 rfl rfl ?_
              refine g_iload_n X dL_law_351 rfl rfl ?_
              refine g_iconst X kI_2 dL_law_352 rfl ?_
              refine g_iadd X dL_law_353 rfl ?_
              obtain ⟨c61, h⟩ := ck_e h
              refine g_sld X Z (ib_e c61) dL_law_354 rfl ?_
              refine g_i2l X dL_law_355 rfl ?_
              refine g_ldc2 X dL_law_356 kc_RL_32 rfl ?_
              refine g_land X dL_law_359 rfl ?_
              refine g_lor X dL_law_360 rfl ?_
              refine g_aload_n X dL_law_361 rfl rfl ?_
              refine g_iload_n X dL_law_362 rfl rfl ?_
              refine g_iconst X kI_3 dL_law_363 rfl ?_
              refine g_iadd X dL_law_364 rfl ?_
              obtain ⟨c62, h⟩ := ck_e h
              refine g_sld X Z (ib_e c62) dL_law_365 rfl ?_
              obtain ⟨r65, σ64, h63, h⟩ := bd_e h
              refine g_callVJ X [.long ((((xs (x3 + 1).toNatClampNeg).toInt64) <<< ((32 : Int32).toInt64 &&& 63)) ||| (((xs (x3 + 2).toNatClampNeg).toInt64) &&& 4294967295)), .int (xs (x3 + 3).toNatClampNeg)] (ok_HG_feed X.inj h63) my_yX8_feed mi_yX8_feed ms_yX8_feed ml_RL_34 (by decide) rfl rfl (by decide) rfl dL_law_366 (Nat.le_of_ble_eq_true rfl) rfl rfl ?_
              refine g_aload_n X dL_law_369 rfl rfl ?_
              refine g_aload_n X dL_law_370 rfl rfl ?_
              refine g_iload_n X dL_law_371 rfl rfl ?_
              refine g_iconst X kI_1 dL_law_372 rfl ?_
              refine g_iadd X dL_law_373 rfl ?_
              obtain ⟨c66, h⟩ := ck_e h
              refine g_sld X Z (ib_e c66) dL_law_374 rfl ?_
              refine g_i2l X dL_law_375 rfl ?_
              refine g_bipush X kB_32 dL_law_376 rfl ?_
              refine g_lshl X dL_law_378 rfl ?_
              refine g_aload_n X dL_law_379 rfl rfl ?_
              refine g_iload_n X dL_law_380 rfl rfl ?_
              refine g_iconst X kI_2 dL_law_381 rfl ?_
              refine g_iadd X dL_law_382 rfl ?_
              obtain ⟨c67, h⟩ := ck_e h
              refine g_sld X Z (ib_e c67) dL_law_383 rfl ?_
              refine g_i2l X dL_law_384 rfl ?_
              refine g_ldc2 X dL_law_385 kc_RL_32 rfl ?_
              refine g_land X dL_law_388 rfl ?_
              refine g_lor X dL_law_389 rfl ?_
              refine g_aload_n X dL_law_390 rfl rfl ?_
              refine g_iload_n X dL_law_391 rfl rfl ?_
              refine g_iconst X kI_3 dL_law_392 rfl ?_
              refine g_iadd X dL_law_393 rfl ?_
              obtain ⟨c68, h⟩ := ck_e h
              refine g_sld X Z (ib_e c68) dL_law_394 rfl ?_
              obtain ⟨r71, σ70, h69, h⟩ := bd_e h
              refine g_callVJ X [.long ((((xs (x3 + 1).toNatClampNeg).toInt64) <<< ((32 : Int32).toInt64 &&& 63)) ||| (((xs (x3 + 2).toNatClampNeg).toInt64) &&& 4294967295)), .int (xs (x3 + 3).toNatClampNeg)] (ok_HM_feed X.inj h69) my_yX9_feed mi_yX9_feed ms_yX9_feed ml_RL_38 (by decide) rfl rfl (by decide) rfl dL_law_395 (Nat.le_of_ble_eq_true rfl) rfl rfl ?_
              refine g_lcmp_eq X dL_law_398 rfl dL_law_399 (tgt := 1057) rfl rfl (fun c72 => ?_) (fun c72 => ?_)
              · replace h := if_t c72 h
                exact ok_law_b1057 X Y Z hk18 σ70 h
              · replace h := if_f c72 h
                refine g_iconst X kI_0 dL_law_402 rfl ?_
                exact absurd (rt_e h).1 (by decide)
            · replace h := if_f c59 h
              by_cases c73 : ((xs x3.toNatClampNeg) &&& 31) = 5
              · replace h := if_t c73 h
                refine g_tin X dL_law_33 (by rw [c73]; decide) (by rw [c73]; decide) (off := 371) (by rw [c73]; rfl) (tgt := 404) rfl ?_
                refine g_aload_n X dL_law_404 rfl rfl ?_
                obtain ⟨r76, σ75, h74, h⟩ := bd_e h
                refine g_callVJ X [] (ok_HG_game X.inj h74) my_yX8_game mi_yX8_game ms_yX8_game ml_RL_39 (by decide) rfl rfl (by decide) rfl dL_law_405 (Nat.le_of_ble_eq_true rfl) rfl rfl ?_
                refine g_aload_n X dL_law_408 rfl rfl ?_
                obtain ⟨r79, σ78, h77, h⟩ := bd_e h
                refine g_callVJ X [] (ok_HM_game X.inj h77) my_yX9_game mi_yX9_game ms_yX9_game ml_RL_43 (by decide) rfl rfl (by decide) rfl dL_law_409 (Nat.le_of_ble_eq_true rfl) rfl rfl ?_
                refine g_lcmp_eq X dL_law_412 rfl dL_law_413 (tgt := 1057) rfl rfl (fun c80 => ?_) (fun c80 => ?_)
                · replace h := if_t c80 h
                  exact ok_law_b1057 X Y Z hk18 σ78 h
                · replace h := if_f c80 h
                  refine g_iconst X kI_0 dL_law_416 rfl ?_
                  exact absurd (rt_e h).1 (by decide)
              · replace h := if_f c73 h
                by_cases c81 : ((xs x3.toNatClampNeg) &&& 31) = 6
                · replace h := if_t c81 h
                  refine g_tin X dL_law_33 (by rw [c81]; decide) (by rw [c81]; decide) (off := 385) (by rw [c81]; rfl) (tgt := 418) rfl ?_
                  refine g_aload_n X dL_law_418 rfl rfl ?_
                  obtain ⟨r84, σ83, h82, h⟩ := bd_e h
                  refine g_callVI X [] (ok_HG_fault X.inj h82) my_yX8_fault mi_yX8_fault ms_yX8_fault ml_RL_44 (by decide) rfl rfl (by decide) rfl dL_law_419 (Nat.le_of_ble_eq_true rfl) rfl rfl ?_
                  refine g_aload_n X dL_law_422 rfl rfl ?_
                  obtain ⟨r87, σ86, h85, h⟩ := bd_e h
                  refine g_callVI X [] (ok_HM_fault X.inj h85) my_yX9_fault mi_yX9_fault ms_yX9_fault ml_RL_48 (by decide) rfl rfl (by decide) rfl dL_law_423 (Nat.le_of_ble_eq_true rfl) rfl rfl ?_
                  refine g_icmp_eq X dL_law_426 (tgt := 1057) rfl rfl (fun c88 => ?_) (fun c88 => ?_)
                  · replace h := if_t c88 h
                    exact ok_law_b1057 X Y Z hk18 σ86 h
                  · replace h := if_f c88 h
                    refine g_iconst X kI_0 dL_law_429 rfl ?_
                    exact absurd (rt_e h).1 (by decide)
                · replace h := if_f c81 h
                  by_cases c89 : ((xs x3.toNatClampNeg) &&& 31) = 7
                  · replace h := if_t c89 h
                    refine g_tin X dL_law_33 (by rw [c89]; decide) (by rw [c89]; decide) (off := 398) (by rw [c89]; rfl) (tgt := 431) rfl ?_
                    refine g_aload_n X dL_law_431 rfl rfl ?_
                    refine g_aload_n X dL_law_432 rfl rfl ?_
                    refine g_iload_n X dL_law_433 rfl rfl ?_
                    refine g_iconst X kI_1 dL_law_434 rfl ?_
                    refine g_iadd X dL_law_435 rfl ?_
                    obtain ⟨c90, h⟩ := ck_e h
                    refine g_sld X Z (ib_e c90) dL_law_436 rfl ?_
                    refine g_aload_n X dL_law_437 rfl rfl ?_
                    refine g_iload_n X dL_law_438 rfl rfl ?_
                    refine g_iconst X kI_2 dL_law_439 rfl ?_
                    refine g_iadd X dL_law_440 rfl ?_
                    obtain ⟨c91, h⟩ := ck_e h
                    refine g_sld X Z (ib_e c91) dL_law_441 rfl ?_
                    obtain ⟨r94, σ93, h92, h⟩ := bd_e h
                    refine g_callVJ X [.int (xs (x3 + 1).toNatClampNeg), .int (xs (x3 + 2).toNatClampNeg)] (ok_HG_place X.inj h92) my_yX8_place mi_yX8_place ms_yX8_place ml_RL_49 (by decide) rfl rfl (by decide) rfl dL_law_442 (Nat.le_of_ble_eq_true rfl) rfl rfl ?_
                    refine g_aload_n X dL_law_445 rfl rfl ?_
                    refine g_aload_n X dL_law_446 rfl rfl ?_
                    refine g_iload_n X dL_law_447 rfl rfl ?_
                    refine g_iconst X kI_1 dL_law_448 rfl ?_
                    refine g_iadd X dL_law_449 rfl ?_
                    obtain ⟨c95, h⟩ := ck_e h
                    refine g_sld X Z (ib_e c95) dL_law_450 rfl ?_
                    refine g_aload_n X dL_law_451 rfl rfl ?_
                    refine g_iload_n X dL_law_452 rfl rfl ?_
                    refine g_iconst X kI_2 dL_law_453 rfl ?_
                    refine g_iadd X dL_law_454 rfl ?_
                    obtain ⟨c96, h⟩ := ck_e h
                    refine g_sld X Z (ib_e c96) dL_law_455 rfl ?_
                    obtain ⟨r99, σ98, h97, h⟩ := bd_e h
                    refine g_callVJ X [.int (xs (x3 + 1).toNatClampNeg), .int (xs (x3 + 2).toNatClampNeg)] (ok_HM_place X.inj h97) my_yX9_place mi_yX9_place ms_yX9_place ml_RL_53 (by decide) rfl rfl (by decide) rfl dL_law_456 (Nat.le_of_ble_eq_true rfl) rfl rfl ?_
                    refine g_lcmp_eq X dL_law_459 rfl dL_law_460 (tgt := 1057) rfl rfl (fun c100 => ?_) (fun c100 => ?_)
                    · replace h := if_t c100 h
                      exact ok_law_b1057 X Y Z hk18 σ98 h
                    · replace h := if_f c100 h
                      refine g_iconst X kI_0 dL_law_463 rfl ?_
                      exact absurd (rt_e h).1 (by decide)
                  · replace h := if_f c89 h
                    by_cases c101 : ((xs x3.toNatClampNeg) &&& 31) = 8
                    · replace h := if_t c101 h
                      refine g_tin X dL_law_33 (by rw [c101]; decide) (by rw [c101]; decide) (off := 432) (by rw [c101]; rfl) (tgt := 465) rfl ?_
                      refine g_aload_n X dL_law_465 rfl rfl ?_
                      refine g_aload_n X dL_law_466 rfl rfl ?_
                      refine g_iload_n X dL_law_467 rfl rfl ?_
                      refine g_iconst X kI_1 dL_law_468 rfl ?_
                      refine g_iadd X dL_law_469 rfl ?_
                      obtain ⟨c102, h⟩ := ck_e h
                      refine g_sld X Z (ib_e c102) dL_law_470 rfl ?_
                      refine g_aload_n X dL_law_471 rfl rfl ?_
                      refine g_iload_n X dL_law_472 rfl rfl ?_
                      refine g_iconst X kI_2 dL_law_473 rfl ?_
                      refine g_iadd X dL_law_474 rfl ?_
                      obtain ⟨c103, h⟩ := ck_e h
                      refine g_sld X Z (ib_e c103) dL_law_475 rfl ?_
                      obtain ⟨r106, σ105, h104, h⟩ := bd_e h
                      refine g_callVJ X [.int (xs (x3 + 1).toNatClampNeg), .int (xs (x3 + 2).toNatClampNeg)] (ok_HG_seen X.inj h104) my_yX8_seen mi_yX8_seen ms_yX8_seen ml_RL_54 (by decide) rfl rfl (by decide) rfl dL_law_476 (Nat.le_of_ble_eq_true rfl) rfl rfl ?_
                      refine g_aload_n X dL_law_479 rfl rfl ?_
                      refine g_aload_n X dL_law_480 rfl rfl ?_
                      refine g_iload_n X dL_law_481 rfl rfl ?_
                      refine g_iconst X kI_1 dL_law_482 rfl ?_
                      refine g_iadd X dL_law_483 rfl ?_
                      obtain ⟨c107, h⟩ := ck_e h
                      refine g_sld X Z (ib_e c107) dL_law_484 rfl ?_
                      refine g_aload_n X dL_law_485 rfl rfl ?_
                      refine g_iload_n X dL_law_486 rfl rfl ?_
                      refine g_iconst X kI_2 dL_law_487 rfl ?_
                      refine g_iadd X dL_law_488 rfl ?_
                      obtain ⟨c108, h⟩ := ck_e h
                      refine g_sld X Z (ib_e c108) dL_law_489 rfl ?_
                      obtain ⟨r111, σ110, h109, h⟩ := bd_e h
                      refine g_callVJ X [.int (xs (x3 + 1).toNatClampNeg), .int (xs (x3 + 2).toNatClampNeg)] (ok_HM_seen X.inj h109) my_yX9_seen mi_yX9_seen ms_yX9_seen ml_RL_57 (by decide) rfl rfl (by decide) rfl dL_law_490 (Nat.le_of_ble_eq_true rfl) rfl rfl ?_
                      refine g_lcmp_eq X dL_law_493 rfl dL_law_494 (tgt := 1057) rfl rfl (fun c112 => ?_) (fun c112 => ?_)
                      · replace h := if_t c112 h
                        exact ok_law_b1057 X Y Z hk18 σ110 h
                      · replace h := if_f c112 h
                        refine g_iconst X kI_0 dL_law_497 rfl ?_
                        exact absurd (rt_e h).1 (by decide)
                    · replace h := if_f c101 h
                      by_cases c113 : ((xs x3.toNatClampNeg) &&& 31) = 9
                      · replace h := if_t c113 h
                        refine g_tin X dL_law_33 (by rw [c113]; decide) (by rw [c113]; decide) (off := 466) (by rw [c113]; rfl) (tgt := 499) rfl ?_
                        refine g_aload_n X dL_law_499 rfl rfl ?_
                        refine g_aload_n X dL_law_500 rfl rfl ?_
                        refine g_iload_n X dL_law_501 rfl rfl ?_
                        refine g_iconst X kI_1 dL_law_502 rfl ?_
                        refine g_iadd X dL_law_503 rfl ?_
                        obtain ⟨c114, h⟩ := ck_e h
                        refine g_sld X Z (ib_e c114) dL_law_504 rfl ?_
                        obtain ⟨r117, σ116, h115, h⟩ := bd_e h
                        refine g_callVJ X [.int (xs (x3 + 1).toNatClampNeg)] (ok_HG_forgets X.inj h115) my_yX8_forgets mi_yX8_forgets ms_yX8_forgets ml_RL_58 (by decide) rfl rfl (by decide) rfl dL_law_505 (Nat.le_of_ble_eq_true rfl) rfl rfl ?_
                        refine g_aload_n X dL_law_508 rfl rfl ?_
                        refine g_aload_n X dL_law_509 rfl rfl ?_
                        refine g_iload_n X dL_law_510 rfl rfl ?_
                        refine g_iconst X kI_1 dL_law_511 rfl ?_
                        refine g_iadd X dL_law_512 rfl ?_
                        obtain ⟨c118, h⟩ := ck_e h
                        refine g_sld X Z (ib_e c118) dL_law_513 rfl ?_
                        obtain ⟨r121, σ120, h119, h⟩ := bd_e h
                        refine g_callVJ X [.int (xs (x3 + 1).toNatClampNeg)] (ok_HM_forgets X.inj h119) my_yX9_forgets mi_yX9_forgets ms_yX9_forgets ml_RL_61 (by decide) rfl rfl (by decide) rfl dL_law_514 (Nat.le_of_ble_eq_true rfl) rfl rfl ?_
                        refine g_lcmp_eq X dL_law_517 rfl dL_law_518 (tgt := 1057) rfl rfl (fun c122 => ?_) (fun c122 => ?_)
                        · replace h := if_t c122 h
                          exact ok_law_b1057 X Y Z hk18 σ120 h
                        · replace h := if_f c122 h
                          refine g_iconst X kI_0 dL_law_521 rfl ?_
                          exact absurd (rt_e h).1 (by decide)
                      · replace h := if_f c113 h
                        by_cases c123 : ((xs x3.toNatClampNeg) &&& 31) = 10
                        · replace h := if_t c123 h
                          refine g_tin X dL_law_33 (by rw [c123]; decide) (by rw [c123]; decide) (off := 490) (by rw [c123]; rfl) (tgt := 523) rfl ?_
                          refine g_aload_n X dL_law_523 rfl rfl ?_
                          refine g_aload_n X dL_law_524 rfl rfl ?_
                          refine g_iload_n X dL_law_525 rfl rfl ?_
                          refine g_iconst X kI_1 dL_law_526 rfl ?_
                          refine g_iadd X dL_law_527 rfl ?_
                          obtain ⟨c124, h⟩ := ck_e h
                          refine g_sld X Z (ib_e c124) dL_law_528 rfl ?_
                          refine g_aload_n X dL_law_529 rfl rfl ?_
                          refine g_iload_n X dL_law_530 rfl rfl ?_
                          refine g_iconst X kI_2 dL_law_531 rfl ?_
                          refine g_iadd X dL_law_532 rfl ?_
                          obtain ⟨c125, h⟩ := ck_e h
                          refine g_sld X Z (ib_e c125) dL_law_533 rfl ?_
                          refine g_aload_n X dL_law_534 rfl rfl ?_
                          refine g_iload_n X dL_law_535 rfl rfl ?_
                          refine g_iconst X kI_3 dL_law_536 rfl ?_
                          refine g_iadd X dL_law_537 rfl ?_
                          obtain ⟨c126, h⟩ := ck_e h
                          refine g_sld X Z (ib_e c126) dL_law_538 rfl ?_
                          obtain ⟨r129, σ128, h127, h⟩ := bd_e h
                          refine g_callVJ X [.int (xs (x3 + 1).toNatClampNeg), .int (xs (x3 + 2).toNatClampNeg), .int (xs (x3 + 3).toNatClampNeg)] (ok_HG_mix X.inj h127) my_yX8_mix mi_yX8_mix ms_yX8_mix ml_RL_62 (by decide) rfl rfl (by decide) rfl dL_law_539 (Nat.le_of_ble_eq_true rfl) rfl rfl ?_
                          refine g_aload_n X dL_law_542 rfl rfl ?_
                          refine g_aload_n X dL_law_543 rfl rfl ?_
                          refine g_iload_n X dL_law_544 rfl rfl ?_
                          refine g_iconst X kI_1 dL_law_545 rfl ?_
                          refine g_iadd X dL_law_546 rfl ?_
                          obtain ⟨c130, h⟩ := ck_e h
                          refine g_sld X Z (ib_e c130) dL_law_547 rfl ?_
                          refine g_aload_n X dL_law_548 rfl rfl ?_
                          refine g_iload_n X dL_law_549 rfl rfl ?_
                          refine g_iconst X kI_2 dL_law_550 rfl ?_
                          refine g_iadd X dL_law_551 rfl ?_
                          obtain ⟨c131, h⟩ := ck_e h
                          refine g_sld X Z (ib_e c131) dL_law_552 rfl ?_
                          refine g_aload_n X dL_law_553 rfl rfl ?_
                          refine g_iload_n X dL_law_554 rfl rfl ?_
                          refine g_iconst X kI_3 dL_law_555 rfl ?_
                          refine g_iadd X dL_law_556 rfl ?_
                          obtain ⟨c132, h⟩ := ck_e h
                          refine g_sld X Z (ib_e c132) dL_law_557 rfl ?_
                          obtain ⟨r135, σ134, h133, h⟩ := bd_e h
                          refine g_callVJ X [.int (xs (x3 + 1).toNatClampNeg), .int (xs (x3 + 2).toNatClampNeg), .int (xs (x3 + 3).toNatClampNeg)] (ok_HM_mix X.inj h133) my_yX9_mix mi_yX9_mix ms_yX9_mix ml_RL_65 (by decide) rfl rfl (by decide) rfl dL_law_558 (Nat.le_of_ble_eq_true rfl) rfl rfl ?_
                          refine g_lcmp_eq X dL_law_561 rfl dL_law_562 (tgt := 1057) rfl rfl (fun c136 => ?_) (fun c136 => ?_)
                          · replace h := if_t c136 h
                            exact ok_law_b1057 X Y Z hk18 σ134 h
                          · replace h := if_f c136 h
                            refine g_iconst X kI_0 dL_law_565 rfl ?_
                            exact absurd (rt_e h).1 (by decide)
                        · replace h := if_f c123 h
                          by_cases c137 : ((xs x3.toNatClampNeg) &&& 31) = 11
                          · replace h := if_t c137 h
                            refine g_tin X dL_law_33 (by rw [c137]; decide) (by rw [c137]; decide) (off := 534) (by rw [c137]; rfl) (tgt := 567) rfl ?_
                            refine g_aload_n X dL_law_567 rfl rfl ?_
                            refine g_aload_n X dL_law_568 rfl rfl ?_
                            refine g_iload_n X dL_law_569 rfl rfl ?_
                            refine g_iconst X kI_1 dL_law_570 rfl ?_
                            refine g_iadd X dL_law_571 rfl ?_
                            obtain ⟨c138, h⟩ := ck_e h
                            refine g_sld X Z (ib_e c138) dL_law_572 rfl ?_
                            refine g_aload_n X dL_law_573 rfl rfl ?_
                            refine g_iload_n X dL_law_574 rfl rfl ?_
                            refine g_iconst X kI_2 dL_law_575 rfl ?_
                            refine g_iadd X dL_law_576 rfl ?_
                            obtain ⟨c139, h⟩ := ck_e h
                            refine g_sld X Z (ib_e c139) dL_law_577 rfl ?_
                            obtain ⟨r142, σ141, h140, h⟩ := bd_e h
                            refine g_callVJ X [.int (xs (x3 + 1).toNatClampNeg), .int (xs (x3 + 2).toNatClampNeg)] (ok_HG_share X.inj h140) my_yX8_share mi_yX8_share ms_yX8_share ml_RL_66 (by decide) rfl rfl (by decide) rfl dL_law_578 (Nat.le_of_ble_eq_true rfl) rfl rfl ?_
                            refine g_aload_n X dL_law_581 rfl rfl ?_
                            refine g_aload_n X dL_law_582 rfl rfl ?_
                            refine g_iload_n X dL_law_583 rfl rfl ?_
                            refine g_iconst X kI_1 dL_law_584 rfl ?_
                            refine g_iadd X dL_law_585 rfl ?_
                            obtain ⟨c143, h⟩ := ck_e h
                            refine g_sld X Z (ib_e c143) dL_law_586 rfl ?_
                            refine g_aload_n X dL_law_587 rfl rfl ?_
                            refine g_iload_n X dL_law_588 rfl rfl ?_
                            refine g_iconst X kI_2 dL_law_589 rfl ?_
                            refine g_iadd X dL_law_590 rfl ?_
                            obtain ⟨c144, h⟩ := ck_e h
                            refine g_sld X Z (ib_e c144) dL_law_591 rfl ?_
                            obtain ⟨r147, σ146, h145, h⟩ := bd_e h
                            refine g_callVJ X [.int (xs (x3 + 1).toNatClampNeg), .int (xs (x3 + 2).toNatClampNeg)] (ok_HM_share X.inj h145) my_yX9_share mi_yX9_share ms_yX9_share ml_RL_69 (by decide) rfl rfl (by decide) rfl dL_law_592 (Nat.le_of_ble_eq_true rfl) rfl rfl ?_
                            refine g_lcmp_eq X dL_law_595 rfl dL_law_596 (tgt := 1057) rfl rfl (fun c148 => ?_) (fun c148 => ?_)
                            · replace h := if_t c148 h
                              exact ok_law_b1057 X Y Z hk18 σ146 h
                            · replace h := if_f c148 h
                              refine g_iconst X kI_0 dL_law_599 rfl ?_
                              exact absurd (rt_e h).1 (by decide)
                          · replace h := if_f c137 h
                            by_cases c149 : ((xs x3.toNatClampNeg) &&& 31) = 12
                            · replace h := if_t c149 h
                              refine g_tin X dL_law_33 (by rw [c149]; decide) (by rw [c149]; decide) (off := 568) (by rw [c149]; rfl) (tgt := 601) rfl ?_
                              refine g_aload_n X dL_law_601 rfl rfl ?_
                              obtain ⟨r152, σ151, h150, h⟩ := bd_e h
                              refine g_callVJ X [] (ok_HG_value X.inj h150) my_yX8_value mi_yX8_value ms_yX8_value ml_RL_70 (by decide) rfl rfl (by decide) rfl dL_law_602 (Nat.le_of_ble_eq_true rfl) rfl rfl ?_
                              refine g_aload_n X dL_law_605 rfl rfl ?_
                              obtain ⟨r155, σ154, h153, h⟩ := bd_e h
                              refine g_callVJ X [] (ok_HM_value X.inj h153) my_yX9_value mi_yX9_value ms_yX9_value ml_RL_73 (by decide) rfl rfl (by decide) rfl dL_law_606 (Nat.le_of_ble_eq_true rfl) rfl rfl ?_
                              refine g_lcmp_eq X dL_law_609 rfl dL_law_610 (tgt := 1057) rfl rfl (fun c156 => ?_) (fun c156 => ?_)
                              · replace h := if_t c156 h
                                exact ok_law_b1057 X Y Z hk18 σ154 h
                              · replace h := if_f c156 h
                                refine g_iconst X kI_0 dL_law_613 rfl ?_
                                exact absurd (rt_e h).1 (by decide)
                            · replace h := if_f c149 h
                              by_cases c157 : ((xs x3.toNatClampNeg) &&& 31) = 13
                              · replace h := if_t c157 h
                                refine g_tin X dL_law_33 (by rw [c157]; decide) (by rw [c157]; decide) (off := 582) (by rw [c157]; rfl) (tgt := 615) rfl ?_
                                refine g_aload_n X dL_law_615 rfl rfl ?_
                                refine g_aload_n X dL_law_616 rfl rfl ?_
                                refine g_iload_n X dL_law_617 rfl rfl ?_
                                refine g_iconst X kI_1 dL_law_618 rfl ?_
                                refine g_iadd X dL_law_619 rfl ?_
                                obtain ⟨c158, h⟩ := ck_e h
                                refine g_sld X Z (ib_e c158) dL_law_620 rfl ?_
                                refine g_aload_n X dL_law_621 rfl rfl ?_
                                refine g_iload_n X dL_law_622 rfl rfl ?_
                                refine g_iconst X kI_2 dL_law_623 rfl ?_
                                refine g_iadd X dL_law_624 rfl ?_
                                obtain ⟨c159, h⟩ := ck_e h
                                refine g_sld X Z (ib_e c159) dL_law_625 rfl ?_
                                obtain ⟨r162, σ161, h160, h⟩ := bd_e h
                                refine g_callVJ X [.int (xs (x3 + 1).toNatClampNeg), .int (xs (x3 + 2).toNatClampNeg)] (ok_HG_reach X.inj h160) my_yX8_reach mi_yX8_reach ms_yX8_reach ml_RL_74 (by decide) rfl rfl (by decide) rfl dL_law_626 (Nat.le_of_ble_eq_true rfl) rfl rfl ?_
                                refine g_aload_n X dL_law_629 rfl rfl ?_
                                refine g_aload_n X dL_law_630 rfl rfl ?_
                                refine g_iload_n X dL_law_631 rfl rfl ?_
                                refine g_iconst X kI_1 dL_law_632 rfl ?_
                                refine g_iadd X dL_law_633 rfl ?_
                                obtain ⟨c163, h⟩ := ck_e h
                                refine g_sld X Z (ib_e c163) dL_law_634 rfl ?_
                                refine g_aload_n X dL_law_635 rfl rfl ?_
                                refine g_iload_n X dL_law_636 rfl rfl ?_
                                refine g_iconst X kI_2 dL_law_637 rfl ?_
                                refine g_iadd X dL_law_638 rfl ?_
                                obtain ⟨c164, h⟩ := ck_e h
                                refine g_sld X Z (ib_e c164) dL_law_639 rfl ?_
                                obtain ⟨r167, σ166, h165, h⟩ := bd_e h
                                refine g_callVJ X [.int (xs (x3 + 1).toNatClampNeg), .int (xs (x3 + 2).toNatClampNeg)] (ok_HM_reach X.inj h165) my_yX9_reach mi_yX9_reach ms_yX9_reach ml_RL_77 (by decide) rfl rfl (by decide) rfl dL_law_640 (Nat.le_of_ble_eq_true rfl) rfl rfl ?_
                                refine g_lcmp_eq X dL_law_643 rfl dL_law_644 (tgt := 1057) rfl rfl (fun c168 => ?_) (fun c168 => ?_)
                                · replace h := if_t c168 h
                                  exact ok_law_b1057 X Y Z hk18 σ166 h
                                · replace h := if_f c168 h
                                  refine g_iconst X kI_0 dL_law_647 rfl ?_
                                  exact absurd (rt_e h).1 (by decide)
                              · replace h := if_f c157 h
                                by_cases c169 : ((xs x3.toNatClampNeg) &&& 31) = 14
                                · replace h := if_t c169 h
                                  refine g_tin X dL_law_33 (by rw [c169]; decide) (by rw [c169]; decide) (off := 616) (by rw [c169]; rfl) (tgt := 649) rfl ?_
                                  refine g_aload_n X dL_law_649 rfl rfl ?_
                                  refine g_aload_n X dL_law_650 rfl rfl ?_
                                  refine g_iload_n X dL_law_651 rfl rfl ?_
                                  refine g_iconst X kI_1 dL_law_652 rfl ?_
                                  refine g_iadd X dL_law_653 rfl ?_
                                  obtain ⟨c170, h⟩ := ck_e h
                                  refine g_sld X Z (ib_e c170) dL_law_654 rfl ?_
                                  refine g_aload_n X dL_law_655 rfl rfl ?_
                                  refine g_iload_n X dL_law_656 rfl rfl ?_
                                  refine g_iconst X kI_2 dL_law_657 rfl ?_
                                  refine g_iadd X dL_law_658 rfl ?_
                                  obtain ⟨c171, h⟩ := ck_e h
                                  refine g_sld X Z (ib_e c171) dL_law_659 rfl ?_
                                  obtain ⟨r174, σ173, h172, h⟩ := bd_e h
                                  refine g_callVJ X [.int (xs (x3 + 1).toNatClampNeg), .int (xs (x3 + 2).toNatClampNeg)] (ok_HG_best X.inj h172) my_yX8_best mi_yX8_best ms_yX8_best ml_RL_78 (by decide) rfl rfl (by decide) rfl dL_law_660 (Nat.le_of_ble_eq_true rfl) rfl rfl ?_
                                  refine g_aload_n X dL_law_663 rfl rfl ?_
                                  refine g_aload_n X dL_law_664 rfl rfl ?_
                                  refine g_iload_n X dL_law_665 rfl rfl ?_
                                  refine g_iconst X kI_1 dL_law_666 rfl ?_
                                  refine g_iadd X dL_law_667 rfl ?_
                                  obtain ⟨c175, h⟩ := ck_e h
                                  refine g_sld X Z (ib_e c175) dL_law_668 rfl ?_
                                  refine g_aload_n X dL_law_669 rfl rfl ?_
                                  refine g_iload_n X dL_law_670 rfl rfl ?_
                                  refine g_iconst X kI_2 dL_law_671 rfl ?_
                                  refine g_iadd X dL_law_672 rfl ?_
                                  obtain ⟨c176, h⟩ := ck_e h
                                  refine g_sld X Z (ib_e c176) dL_law_673 rfl ?_
                                  obtain ⟨r179, σ178, h177, h⟩ := bd_e h
                                  refine g_callVJ X [.int (xs (x3 + 1).toNatClampNeg), .int (xs (x3 + 2).toNatClampNeg)] (ok_HM_best X.inj h177) my_yX9_best mi_yX9_best ms_yX9_best ml_RL_81 (by decide) rfl rfl (by decide) rfl dL_law_674 (Nat.le_of_ble_eq_true rfl) rfl rfl ?_
                                  refine g_lcmp_eq X dL_law_677 rfl dL_law_678 (tgt := 1057) rfl rfl (fun c180 => ?_) (fun c180 => ?_)
                                  · replace h := if_t c180 h
                                    exact ok_law_b1057 X Y Z hk18 σ178 h
                                  · replace h := if_f c180 h
                                    refine g_iconst X kI_0 dL_law_681 rfl ?_
                                    exact absurd (rt_e h).1 (by decide)
                                · replace h := if_f c169 h
                                  by_cases c181 : ((xs x3.toNatClampNeg) &&& 31) = 15
                                  · replace h := if_t c181 h
                                    refine g_tin X dL_law_33 (by rw [c181]; decide) (by rw [c181]; decide) (off := 650) (by rw [c181]; rfl) (tgt := 683) rfl ?_
                                    refine g_aload_n X dL_law_683 rfl rfl ?_
                                    refine g_aload_n X dL_law_684 rfl rfl ?_
                                    refine g_iload_n X dL_law_685 rfl rfl ?_
                                    refine g_iconst X kI_1 dL_law_686 rfl ?_
                                    refine g_iadd X dL_law_687 rfl ?_
                                    obtain ⟨c182, h⟩ := ck_e h
                                    refine g_sld X Z (ib_e c182) dL_law_688 rfl ?_
                                    obtain ⟨r185, σ184, h183, h⟩ := bd_e h
                                    refine g_callVJ X [.int (xs (x3 + 1).toNatClampNeg)] (ok_HG_answer X.inj h183) my_yX8_answer mi_yX8_answer ms_yX8_answer ml_RL_82 (by decide) rfl rfl (by decide) rfl dL_law_689 (Nat.le_of_ble_eq_true rfl) rfl rfl ?_
                                    refine g_aload_n X dL_law_692 rfl rfl ?_
                                    refine g_aload_n X dL_law_693 rfl rfl ?_
                                    refine g_iload_n X dL_law_694 rfl rfl ?_
                                    refine g_iconst X kI_1 dL_law_695 rfl ?_
                                    refine g_iadd X dL_law_696 rfl ?_
                                    obtain ⟨c186, h⟩ := ck_e h
                                    refine g_sld X Z (ib_e c186) dL_law_697 rfl ?_
                                    obtain ⟨r189, σ188, h187, h⟩ := bd_e h
                                    refine g_callVJ X [.int (xs (x3 + 1).toNatClampNeg)] (ok_HM_answer X.inj h187) my_yX9_answer mi_yX9_answer ms_yX9_answer ml_RL_85 (by decide) rfl rfl (by decide) rfl dL_law_698 (Nat.le_of_ble_eq_true rfl) rfl rfl ?_
                                    refine g_lcmp_eq X dL_law_701 rfl dL_law_702 (tgt := 1057) rfl rfl (fun c190 => ?_) (fun c190 => ?_)
                                    · replace h := if_t c190 h
                                      exact ok_law_b1057 X Y Z hk18 σ188 h
                                    · replace h := if_f c190 h
                                      refine g_iconst X kI_0 dL_law_705 rfl ?_
                                      exact absurd (rt_e h).1 (by decide)
                                  · replace h := if_f c181 h
                                    by_cases c191 : ((xs x3.toNatClampNeg) &&& 31) = 16
                                    · replace h := if_t c191 h
                                      refine g_tin X dL_law_33 (by rw [c191]; decide) (by rw [c191]; decide) (off := 674) (by rw [c191]; rfl) (tgt := 707) rfl ?_
                                      refine g_aload_n X dL_law_707 rfl rfl ?_
                                      refine g_aload_n X dL_law_708 rfl rfl ?_
                                      refine g_iload_n X dL_law_709 rfl rfl ?_
                                      refine g_iconst X kI_1 dL_law_710 rfl ?_
                                      refine g_iadd X dL_law_711 rfl ?_
                                      obtain ⟨c192, h⟩ := ck_e h
                                      refine g_sld X Z (ib_e c192) dL_law_712 rfl ?_
                                      refine g_aload_n X dL_law_713 rfl rfl ?_
                                      refine g_iload_n X dL_law_714 rfl rfl ?_
                                      refine g_iconst X kI_2 dL_law_715 rfl ?_
                                      refine g_iadd X dL_law_716 rfl ?_
                                      obtain ⟨c193, h⟩ := ck_e h
                                      refine g_sld X Z (ib_e c193) dL_law_717 rfl ?_
                                      obtain ⟨r196, σ195, h194, h⟩ := bd_e h
                                      refine g_callVJ X [.int (xs (x3 + 1).toNatClampNeg), .int (xs (x3 + 2).toNatClampNeg)] (ok_HG_belief X.inj h194) my_yX8_belief mi_yX8_belief ms_yX8_belief ml_RL_86 (by decide) rfl rfl (by decide) rfl dL_law_718 (Nat.le_of_ble_eq_true rfl) rfl rfl ?_
                                      refine g_aload_n X dL_law_721 rfl rfl ?_
                                      refine g_aload_n X dL_law_722 rfl rfl ?_
                                      refine g_iload_n X dL_law_723 rfl rfl ?_
                                      refine g_iconst X kI_1 dL_law_724 rfl ?_
                                      refine g_iadd X dL_law_725 rfl ?_
                                      obtain ⟨c197, h⟩ := ck_e h
                                      refine g_sld X Z (ib_e c197) dL_law_726 rfl ?_
                                      refine g_aload_n X dL_law_727 rfl rfl ?_
                                      refine g_iload_n X dL_law_728 rfl rfl ?_
                                      refine g_iconst X kI_2 dL_law_729 rfl ?_
                                      refine g_iadd X dL_law_730 rfl ?_
                                      obtain ⟨c198, h⟩ := ck_e h
                                      refine g_sld X Z (ib_e c198) dL_law_731 rfl ?_
                                      obtain ⟨r201, σ200, h199, h⟩ := bd_e h
                                      refine g_callVJ X [.int (xs (x3 + 1).toNatClampNeg), .int (xs (x3 + 2).toNatClampNeg)] (ok_HM_belief X.inj h199) my_yX9_belief mi_yX9_belief ms_yX9_belief ml_RL_89 (by decide) rfl rfl (by decide) rfl dL_law_732 (Nat.le_of_ble_eq_true rfl) rfl rfl ?_
                                      refine g_lcmp_eq X dL_law_735 rfl dL_law_736 (tgt := 1057) rfl rfl (fun c202 => ?_) (fun c202 => ?_)
                                      · replace h := if_t c202 h
                                        exact ok_law_b1057 X Y Z hk18 σ200 h
                                      · replace h := if_f c202 h
                                        refine g_iconst X kI_0 dL_law_739 rfl ?_
                                        exact absurd (rt_e h).1 (by decide)
                                    · replace h := if_f c191 h
                                      by_cases c203 : ((xs x3.toNatClampNeg) &&& 31) = 17
                                      · replace h := if_t c203 h
                                        refine g_tin X dL_law_33 (by rw [c203]; decide) (by rw [c203]; decide) (off := 708) (by rw [c203]; rfl) (tgt := 741) rfl ?_
                                        refine g_aload_n X dL_law_741 rfl rfl ?_
                                        refine g_aload_n X dL_law_742 rfl rfl ?_
                                        refine g_iload_n X dL_law_743 rfl rfl ?_
                                        refine g_iconst X kI_1 dL_law_744 rfl ?_
                                        refine g_iadd X dL_law_745 rfl ?_
                                        obtain ⟨c204, h⟩ := ck_e h
                                        refine g_sld X Z (ib_e c204) dL_law_746 rfl ?_
                                        obtain ⟨r207, σ206, h205, h⟩ := bd_e h
                                        refine g_callVJ X [.int (xs (x3 + 1).toNatClampNeg)] (ok_HG_seeing X.inj h205) my_yX8_seeing mi_yX8_seeing ms_yX8_seeing ml_RL_90 (by decide) rfl rfl (by decide) rfl dL_law_747 (Nat.le_of_ble_eq_true rfl) rfl rfl ?_
                                        refine g_aload_n X dL_law_750 rfl rfl ?_
                                        refine g_aload_n X dL_law_751 rfl rfl ?_
                                        refine g_iload_n X dL_law_752 rfl rfl ?_
                                        refine g_iconst X kI_1 dL_law_753 rfl ?_
                                        refine g_iadd X dL_law_754 rfl ?_
                                        obtain ⟨c208, h⟩ := ck_e h
                                        refine g_sld X Z (ib_e c208) dL_law_755 rfl ?_
                                        obtain ⟨r211, σ210, h209, h⟩ := bd_e h
                                        refine g_callVJ X [.int (xs (x3 + 1).toNatClampNeg)] (ok_HM_seeing X.inj h209) my_yX9_seeing mi_yX9_seeing ms_yX9_seeing ml_RL_93 (by decide) rfl rfl (by decide) rfl dL_law_756 (Nat.le_of_ble_eq_true rfl) rfl rfl ?_
                                        refine g_lcmp_eq X dL_law_759 rfl dL_law_760 (tgt := 1057) rfl rfl (fun c212 => ?_) (fun c212 => ?_)
                                        · replace h := if_t c212 h
                                          exact ok_law_b1057 X Y Z hk18 σ210 h
                                        · replace h := if_f c212 h
                                          refine g_iconst X kI_0 dL_law_763 rfl ?_
                                          exact absurd (rt_e h).1 (by decide)
                                      · replace h := if_f c203 h
                                        by_cases c213 : ((xs x3.toNatClampNeg) &&& 31) = 18
                                        · replace h := if_t c213 h
                                          refine g_tin X dL_law_33 (by rw [c213]; decide) (by rw [c213]; decide) (off := 732) (by rw [c213]; rfl) (tgt := 765) rfl ?_
                                          refine g_aload_n X dL_law_765 rfl rfl ?_
                                          refine g_aload_n X dL_law_766 rfl rfl ?_
                                          refine g_iload_n X dL_law_767 rfl rfl ?_
                                          refine g_iconst X kI_1 dL_law_768 rfl ?_
                                          refine g_iadd X dL_law_769 rfl ?_
                                          obtain ⟨c214, h⟩ := ck_e h
                                          refine g_sld X Z (ib_e c214) dL_law_770 rfl ?_
                                          refine g_aload_n X dL_law_771 rfl rfl ?_
                                          refine g_iload_n X dL_law_772 rfl rfl ?_
                                          refine g_iconst X kI_2 dL_law_773 rfl ?_
                                          refine g_iadd X dL_law_774 rfl ?_
                                          obtain ⟨c215, h⟩ := ck_e h
                                          refine g_sld X Z (ib_e c215) dL_law_775 rfl ?_
                                          obtain ⟨r218, σ217, h216, h⟩ := bd_e h
                                          refine g_callVJ X [.int (xs (x3 + 1).toNatClampNeg), .int (xs (x3 + 2).toNatClampNeg)] (ok_HG_fewer X.inj h216) my_yX8_fewer mi_yX8_fewer ms_yX8_fewer ml_RL_94 (by decide) rfl rfl (by decide) rfl dL_law_776 (Nat.le_of_ble_eq_true rfl) rfl rfl ?_
                                          refine g_aload_n X dL_law_779 rfl rfl ?_
                                          refine g_aload_n X dL_law_780 rfl rfl ?_
                                          refine g_iload_n X dL_law_781 rfl rfl ?_
                                          refine g_iconst X kI_1 dL_law_782 rfl ?_
                                          refine g_iadd X dL_law_783 rfl ?_
                                          obtain ⟨c219, h⟩ := ck_e h
                                          refine g_sld X Z (ib_e c219) dL_law_784 rfl ?_
                                          refine g_aload_n X dL_law_785 rfl rfl ?_
                                          refine g_iload_n X dL_law_786 rfl rfl ?_
                                          refine g_iconst X kI_2 dL_law_787 rfl ?_
                                          refine g_iadd X dL_law_788 rfl ?_
                                          obtain ⟨c220, h⟩ := ck_e h
                                          refine g_sld X Z (ib_e c220) dL_law_789 rfl ?_
                                          obtain ⟨r223, σ222, h221, h⟩ := bd_e h
                                          refine g_callVJ X [.int (xs (x3 + 1).toNatClampNeg), .int (xs (x3 + 2).toNatClampNeg)] (ok_HM_fewer X.inj h221) my_yX9_fewer mi_yX9_fewer ms_yX9_fewer ml_RL_97 (by decide) rfl rfl (by decide) rfl dL_law_790 (Nat.le_of_ble_eq_true rfl) rfl rfl ?_
                                          refine g_lcmp_eq X dL_law_793 rfl dL_law_794 (tgt := 1057) rfl rfl (fun c224 => ?_) (fun c224 => ?_)
                                          · replace h := if_t c224 h
                                            exact ok_law_b1057 X Y Z hk18 σ222 h
                                          · replace h := if_f c224 h
                                            refine g_iconst X kI_0 dL_law_797 rfl ?_
                                            exact absurd (rt_e h).1 (by decide)
                                        · replace h := if_f c213 h
                                          by_cases c225 : ((xs x3.toNatClampNeg) &&& 31) = 19
                                          · replace h := if_t c225 h
                                            refine g_tin X dL_law_33 (by rw [c225]; decide) (by rw [c225]; decide) (off := 766) (by rw [c225]; rfl) (tgt := 799) rfl ?_
                                            refine g_aload_n X dL_law_799 rfl rfl ?_
                                            refine g_aload_n X dL_law_800 rfl rfl ?_
                                            refine g_iload_n X dL_law_801 rfl rfl ?_
                                            refine g_iconst X kI_1 dL_law_802 rfl ?_
                                            refine g_iadd X dL_law_803 rfl ?_
                                            obtain ⟨c226, h⟩ := ck_e h
                                            refine g_sld X Z (ib_e c226) dL_law_804 rfl ?_
                                            obtain ⟨r229, σ228, h227, h⟩ := bd_e h
                                            refine g_callVJ X [.int (xs (x3 + 1).toNatClampNeg)] (ok_HG_rounds X.inj h227) my_yX8_rounds mi_yX8_rounds ms_yX8_rounds ml_RL_98 (by decide) rfl rfl (by decide) rfl dL_law_805 (Nat.le_of_ble_eq_true rfl) rfl rfl ?_
                                            refine g_aload_n X dL_law_808 rfl rfl ?_
                                            refine g_aload_n X dL_law_809 rfl rfl ?_
                                            refine g_iload_n X dL_law_810 rfl rfl ?_
                                            refine g_iconst X kI_1 dL_law_811 rfl ?_
                                            refine g_iadd X dL_law_812 rfl ?_
                                            obtain ⟨c230, h⟩ := ck_e h
                                            refine g_sld X Z (ib_e c230) dL_law_813 rfl ?_
                                            obtain ⟨r233, σ232, h231, h⟩ := bd_e h
                                            refine g_callVJ X [.int (xs (x3 + 1).toNatClampNeg)] (ok_HM_rounds X.inj h231) my_yX9_rounds mi_yX9_rounds ms_yX9_rounds ml_RL_101 (by decide) rfl rfl (by decide) rfl dL_law_814 (Nat.le_of_ble_eq_true rfl) rfl rfl ?_
                                            refine g_lcmp_eq X dL_law_817 rfl dL_law_818 (tgt := 1057) rfl rfl (fun c234 => ?_) (fun c234 => ?_)
                                            · replace h := if_t c234 h
                                              exact ok_law_b1057 X Y Z hk18 σ232 h
                                            · replace h := if_f c234 h
                                              refine g_iconst X kI_0 dL_law_821 rfl ?_
                                              exact absurd (rt_e h).1 (by decide)
                                          · replace h := if_f c225 h
                                            by_cases c235 : ((xs x3.toNatClampNeg) &&& 31) = 20
                                            · replace h := if_t c235 h
                                              refine g_tin X dL_law_33 (by rw [c235]; decide) (by rw [c235]; decide) (off := 790) (by rw [c235]; rfl) (tgt := 823) rfl ?_
                                              refine g_aload_n X dL_law_823 rfl rfl ?_
                                              refine g_aload_n X dL_law_824 rfl rfl ?_
                                              refine g_iload_n X dL_law_825 rfl rfl ?_
                                              refine g_iconst X kI_1 dL_law_826 rfl ?_
                                              refine g_iadd X dL_law_827 rfl ?_
                                              obtain ⟨c236, h⟩ := ck_e h
                                              refine g_sld X Z (ib_e c236) dL_law_828 rfl ?_
                                              obtain ⟨r239, σ238, h237, h⟩ := bd_e h
                                              refine g_callVJ X [.int (xs (x3 + 1).toNatClampNeg)] (ok_HG_bound X.inj h237) my_yX8_bound mi_yX8_bound ms_yX8_bound ml_RL_102 (by decide) rfl rfl (by decide) rfl dL_law_829 (Nat.le_of_ble_eq_true rfl) rfl rfl ?_
                                              refine g_aload_n X dL_law_832 rfl rfl ?_
                                              refine g_aload_n X dL_law_833 rfl rfl ?_
                                              refine g_iload_n X dL_law_834 rfl rfl ?_
                                              refine g_iconst X kI_1 dL_law_835 rfl ?_
                                              refine g_iadd X dL_law_836 rfl ?_
                                              obtain ⟨c240, h⟩ := ck_e h
                                              refine g_sld X Z (ib_e c240) dL_law_837 rfl ?_
                                              obtain ⟨r243, σ242, h241, h⟩ := bd_e h
                                              refine g_callVJ X [.int (xs (x3 + 1).toNatClampNeg)] (ok_HM_bound X.inj h241) my_yX9_bound mi_yX9_bound ms_yX9_bound ml_RL_105 (by decide) rfl rfl (by decide) rfl dL_law_838 (Nat.le_of_ble_eq_true rfl) rfl rfl ?_
                                              refine g_lcmp_eq X dL_law_841 rfl dL_law_842 (tgt := 1057) rfl rfl (fun c244 => ?_) (fun c244 => ?_)
                                              · replace h := if_t c244 h
                                                exact ok_law_b1057 X Y Z hk18 σ242 h
                                              · replace h := if_f c244 h
                                                refine g_iconst X kI_0 dL_law_845 rfl ?_
                                                exact absurd (rt_e h).1 (by decide)
                                            · replace h := if_f c235 h
                                              by_cases c245 : ((xs x3.toNatClampNeg) &&& 31) = 21
                                              · replace h := if_t c245 h
                                                refine g_tin X dL_law_33 (by rw [c245]; decide) (by rw [c245]; decide) (off := 814) (by rw [c245]; rfl) (tgt := 847) rfl ?_
                                                refine g_aload_n X dL_law_847 rfl rfl ?_
                                                refine g_aload_n X dL_law_848 rfl rfl ?_
                                                refine g_iload_n X dL_law_849 rfl rfl ?_
                                                refine g_iconst X kI_1 dL_law_850 rfl ?_
                                                refine g_iadd X dL_law_851 rfl ?_
                                                obtain ⟨c246, h⟩ := ck_e h
                                                refine g_sld X Z (ib_e c246) dL_law_852 rfl ?_
                                                refine g_aload_n X dL_law_853 rfl rfl ?_
                                                refine g_iload_n X dL_law_854 rfl rfl ?_
                                                refine g_iconst X kI_2 dL_law_855 rfl ?_
                                                refine g_iadd X dL_law_856 rfl ?_
                                                obtain ⟨c247, h⟩ := ck_e h
                                                refine g_sld X Z (ib_e c247) dL_law_857 rfl ?_
                                                obtain ⟨r250, σ249, h248, h⟩ := bd_e h
                                                refine g_callVJ X [.int (xs (x3 + 1).toNatClampNeg), .int (xs (x3 + 2).toNatClampNeg)] (ok_HG_mean X.inj h248) my_yX8_mean mi_yX8_mean ms_yX8_mean ml_RL_106 (by decide) rfl rfl (by decide) rfl dL_law_858 (Nat.le_of_ble_eq_true rfl) rfl rfl ?_
                                                refine g_aload_n X dL_law_861 rfl rfl ?_
                                                refine g_aload_n X dL_law_862 rfl rfl ?_
                                                refine g_iload_n X dL_law_863 rfl rfl ?_
                                                refine g_iconst X kI_1 dL_law_864 rfl ?_
                                                refine g_iadd X dL_law_865 rfl ?_
                                                obtain ⟨c251, h⟩ := ck_e h
                                                refine g_sld X Z (ib_e c251) dL_law_866 rfl ?_
                                                refine g_aload_n X dL_law_867 rfl rfl ?_
                                                refine g_iload_n X dL_law_868 rfl rfl ?_
                                                refine g_iconst X kI_2 dL_law_869 rfl ?_
                                                refine g_iadd X dL_law_870 rfl ?_
                                                obtain ⟨c252, h⟩ := ck_e h
                                                refine g_sld X Z (ib_e c252) dL_law_871 rfl ?_
                                                obtain ⟨r255, σ254, h253, h⟩ := bd_e h
                                                refine g_callVJ X [.int (xs (x3 + 1).toNatClampNeg), .int (xs (x3 + 2).toNatClampNeg)] (ok_HM_mean X.inj h253) my_yX9_mean mi_yX9_mean ms_yX9_mean ml_RL_109 (by decide) rfl rfl (by decide) rfl dL_law_872 (Nat.le_of_ble_eq_true rfl) rfl rfl ?_
                                                refine g_lcmp_eq X dL_law_875 rfl dL_law_876 (tgt := 1057) rfl rfl (fun c256 => ?_) (fun c256 => ?_)
                                                · replace h := if_t c256 h
                                                  exact ok_law_b1057 X Y Z hk18 σ254 h
                                                · replace h := if_f c256 h
                                                  refine g_iconst X kI_0 dL_law_879 rfl ?_
                                                  exact absurd (rt_e h).1 (by decide)
                                              · replace h := if_f c245 h
                                                by_cases c257 : ((xs x3.toNatClampNeg) &&& 31) = 22
                                                · replace h := if_t c257 h
                                                  refine g_tin X dL_law_33 (by rw [c257]; decide) (by rw [c257]; decide) (off := 848) (by rw [c257]; rfl) (tgt := 881) rfl ?_
                                                  refine g_aload_n X dL_law_881 rfl rfl ?_
                                                  refine g_aload_n X dL_law_882 rfl rfl ?_
                                                  refine g_iload_n X dL_law_883 rfl rfl ?_
                                                  refine g_iconst X kI_1 dL_law_884 rfl ?_
                                                  refine g_iadd X dL_law_885 rfl ?_
                                                  obtain ⟨c258, h⟩ := ck_e h
                                                  refine g_sld X Z (ib_e c258) dL_law_886 rfl ?_
                                                  obtain ⟨r261, σ260, h259, h⟩ := bd_e h
                                                  refine g_callVJ X [.int (xs (x3 + 1).toNatClampNeg)] (ok_HG_take X.inj h259) my_yX8_take mi_yX8_take ms_yX8_take ml_RL_110 (by decide) rfl rfl (by decide) rfl dL_law_887 (Nat.le_of_ble_eq_true rfl) rfl rfl ?_
                                                  refine g_aload_n X dL_law_890 rfl rfl ?_
                                                  refine g_aload_n X dL_law_891 rfl rfl ?_
                                                  refine g_iload_n X dL_law_892 rfl rfl ?_
                                                  refine g_iconst X kI_1 dL_law_893 rfl ?_
                                                  refine g_iadd X dL_law_894 rfl ?_
                                                  obtain ⟨c262, h⟩ := ck_e h
                                                  refine g_sld X Z (ib_e c262) dL_law_895 rfl ?_
                                                  obtain ⟨r265, σ264, h263, h⟩ := bd_e h
                                                  refine g_callVJ X [.int (xs (x3 + 1).toNatClampNeg)] (ok_HM_take X.inj h263) my_yX9_take mi_yX9_take ms_yX9_take ml_RL_113 (by decide) rfl rfl (by decide) rfl dL_law_896 (Nat.le_of_ble_eq_true rfl) rfl rfl ?_
                                                  refine g_lcmp_eq X dL_law_899 rfl dL_law_900 (tgt := 1057) rfl rfl (fun c266 => ?_) (fun c266 => ?_)
                                                  · replace h := if_t c266 h
                                                    exact ok_law_b1057 X Y Z hk18 σ264 h
                                                  · replace h := if_f c266 h
                                                    refine g_iconst X kI_0 dL_law_903 rfl ?_
                                                    exact absurd (rt_e h).1 (by decide)
                                                · replace h := if_f c257 h
                                                  by_cases c267 : ((xs x3.toNatClampNeg) &&& 31) = 23
                                                  · replace h := if_t c267 h
                                                    refine g_tin X dL_law_33 (by rw [c267]; decide) (by rw [c267]; decide) (off := 872) (by rw [c267]; rfl) (tgt := 905) rfl ?_
                                                    refine g_aload_n X dL_law_905 rfl rfl ?_
                                                    refine g_aload_n X dL_law_906 rfl rfl ?_
                                                    refine g_iload_n X dL_law_907 rfl rfl ?_
                                                    refine g_iconst X kI_1 dL_law_908 rfl ?_
                                                    refine g_iadd X dL_law_909 rfl ?_
                                                    obtain ⟨c268, h⟩ := ck_e h
                                                    refine g_sld X Z (ib_e c268) dL_law_910 rfl ?_
                                                    obtain ⟨r271, σ270, h269, h⟩ := bd_e h
                                                    refine g_callVJ X [.int (xs (x3 + 1).toNatClampNeg)] (ok_HG_kind X.inj h269) my_yX8_kind mi_yX8_kind ms_yX8_kind ml_RL_114 (by decide) rfl rfl (by decide) rfl dL_law_911 (Nat.le_of_ble_eq_true rfl) rfl rfl ?_
                                                    refine g_aload_n X dL_law_914 rfl rfl ?_
                                                    refine g_aload_n X dL_law_915 rfl rfl ?_
                                                    refine g_iload_n X dL_law_916 rfl rfl ?_
                                                    refine g_iconst X kI_1 dL_law_917 rfl ?_
                                                    refine g_iadd X dL_law_918 rfl ?_
                                                    obtain ⟨c272, h⟩ := ck_e h
                                                    refine g_sld X Z (ib_e c272) dL_law_919 rfl ?_
                                                    obtain ⟨r275, σ274, h273, h⟩ := bd_e h
                                                    refine g_callVJ X [.int (xs (x3 + 1).toNatClampNeg)] (ok_HM_kind X.inj h273) my_yX9_kind mi_yX9_kind ms_yX9_kind ml_RL_117 (by decide) rfl rfl (by decide) rfl dL_law_920 (Nat.le_of_ble_eq_true rfl) rfl rfl ?_
                                                    refine g_lcmp_eq X dL_law_923 rfl dL_law_924 (tgt := 1057) rfl rfl (fun c276 => ?_) (fun c276 => ?_)
                                                    · replace h := if_t c276 h
                                                      exact ok_law_b1057 X Y Z hk18 σ274 h
                                                    · replace h := if_f c276 h
                                                      refine g_iconst X kI_0 dL_law_927 rfl ?_
                                                      exact absurd (rt_e h).1 (by decide)
                                                  · replace h := if_f c267 h
                                                    by_cases c277 : ((xs x3.toNatClampNeg) &&& 31) = 24
                                                    · replace h := if_t c277 h
                                                      refine g_tin X dL_law_33 (by rw [c277]; decide) (by rw [c277]; decide) (off := 896) (by rw [c277]; rfl) (tgt := 929) rfl ?_
                                                      refine g_aload_n X dL_law_929 rfl rfl ?_
                                                      refine g_aload_n X dL_law_930 rfl rfl ?_
                                                      refine g_iload_n X dL_law_931 rfl rfl ?_
                                                      refine g_iconst X kI_1 dL_law_932 rfl ?_
                                                      refine g_iadd X dL_law_933 rfl ?_
                                                      obtain ⟨c278, h⟩ := ck_e h
                                                      refine g_sld X Z (ib_e c278) dL_law_934 rfl ?_
                                                      refine g_aload_n X dL_law_935 rfl rfl ?_
                                                      refine g_iload_n X dL_law_936 rfl rfl ?_
                                                      refine g_iconst X kI_2 dL_law_937 rfl ?_
                                                      refine g_iadd X dL_law_938 rfl ?_
                                                      obtain ⟨c279, h⟩ := ck_e h
                                                      refine g_sld X Z (ib_e c279) dL_law_939 rfl ?_
                                                      obtain ⟨r282, σ281, h280, h⟩ := bd_e h
                                                      refine g_callVJ X [.int (xs (x3 + 1).toNatClampNeg), .int (xs (x3 + 2).toNatClampNeg)] (ok_HG_as X.inj h280) my_yX8_as mi_yX8_as ms_yX8_as ml_RL_118 (by decide) rfl rfl (by decide) rfl dL_law_940 (Nat.le_of_ble_eq_true rfl) rfl rfl ?_
                                                      refine g_aload_n X dL_law_943 rfl rfl ?_
                                                      refine g_aload_n X dL_law_944 rfl rfl ?_
                                                      refine g_iload_n X dL_law_945 rfl rfl ?_
                                                      refine g_iconst X kI_1 dL_law_946 rfl ?_
                                                      refine g_iadd X dL_law_947 rfl ?_
                                                      obtain ⟨c283, h⟩ := ck_e h
                                                      refine g_sld X Z (ib_e c283) dL_law_948 rfl ?_
                                                      refine g_aload_n X dL_law_949 rfl rfl ?_
                                                      refine g_iload_n X dL_law_950 rfl rfl ?_
                                                      refine g_iconst X kI_2 dL_law_951 rfl ?_
                                                      refine g_iadd X dL_law_952 rfl ?_
                                                      obtain ⟨c284, h⟩ := ck_e h
                                                      refine g_sld X Z (ib_e c284) dL_law_953 rfl ?_
                                                      obtain ⟨r287, σ286, h285, h⟩ := bd_e h
                                                      refine g_callVJ X [.int (xs (x3 + 1).toNatClampNeg), .int (xs (x3 + 2).toNatClampNeg)] (ok_HM_as X.inj h285) my_yX9_as mi_yX9_as ms_yX9_as ml_RL_121 (by decide) rfl rfl (by decide) rfl dL_law_954 (Nat.le_of_ble_eq_true rfl) rfl rfl ?_
                                                      refine g_lcmp_eq X dL_law_957 rfl dL_law_958 (tgt := 1057) rfl rfl (fun c288 => ?_) (fun c288 => ?_)
                                                      · replace h := if_t c288 h
                                                        exact ok_law_b1057 X Y Z hk18 σ286 h
                                                      · replace h := if_f c288 h
                                                        refine g_iconst X kI_0 dL_law_961 rfl ?_
                                                        exact absurd (rt_e h).1 (by decide)
                                                    · replace h := if_f c277 h
                                                      by_cases c289 : ((xs x3.toNatClampNeg) &&& 31) = 25
                                                      · replace h := if_t c289 h
                                                        refine g_tin X dL_law_33 (by rw [c289]; decide) (by rw [c289]; decide) (off := 930) (by rw [c289]; rfl) (tgt := 963) rfl ?_
                                                        refine g_aload_n X dL_law_963 rfl rfl ?_
                                                        refine g_aload_n X dL_law_964 rfl rfl ?_
                                                        refine g_iload_n X dL_law_965 rfl rfl ?_
                                                        refine g_iconst X kI_1 dL_law_966 rfl ?_
                                                        refine g_iadd X dL_law_967 rfl ?_
                                                        obtain ⟨c290, h⟩ := ck_e h
                                                        refine g_sld X Z (ib_e c290) dL_law_968 rfl ?_
                                                        refine g_aload_n X dL_law_969 rfl rfl ?_
                                                        refine g_iload_n X dL_law_970 rfl rfl ?_
                                                        refine g_iconst X kI_2 dL_law_971 rfl ?_
                                                        refine g_iadd X dL_law_972 rfl ?_
                                                        obtain ⟨c291, h⟩ := ck_e h
                                                        refine g_sld X Z (ib_e c291) dL_law_973 rfl ?_
                                                        obtain ⟨r294, σ293, h292, h⟩ := bd_e h
                                                        refine g_callVJ X [.int (xs (x3 + 1).toNatClampNeg), .int (xs (x3 + 2).toNatClampNeg)] (ok_HG_ask X.inj h292) my_yX8_ask mi_yX8_ask ms_yX8_ask ml_RL_122 (by decide) rfl rfl (by decide) rfl dL_law_974 (Nat.le_of_ble_eq_true rfl) rfl rfl ?_
                                                        refine g_aload_n X dL_law_977 rfl rfl ?_
                                                        refine g_aload_n X dL_law_978 rfl rfl ?_
                                                        refine g_iload_n X dL_law_979 rfl rfl ?_
                                                        refine g_iconst X kI_1 dL_law_980 rfl ?_
                                                        refine g_iadd X dL_law_981 rfl ?_
                                                        obtain ⟨c295, h⟩ := ck_e h
                                                        refine g_sld X Z (ib_e c295) dL_law_982 rfl ?_
                                                        refine g_aload_n X dL_law_983 rfl rfl ?_
                                                        refine g_iload_n X dL_law_984 rfl rfl ?_
                                                        refine g_iconst X kI_2 dL_law_985 rfl ?_
                                                        refine g_iadd X dL_law_986 rfl ?_
                                                        obtain ⟨c296, h⟩ := ck_e h
                                                        refine g_sld X Z (ib_e c296) dL_law_987 rfl ?_
                                                        obtain ⟨r299, σ298, h297, h⟩ := bd_e h
                                                        refine g_callVJ X [.int (xs (x3 + 1).toNatClampNeg), .int (xs (x3 + 2).toNatClampNeg)] (ok_HM_ask X.inj h297) my_yX9_ask mi_yX9_ask ms_yX9_ask ml_RL_125 (by decide) rfl rfl (by decide) rfl dL_law_988 (Nat.le_of_ble_eq_true rfl) rfl rfl ?_
                                                        refine g_lcmp_eq X dL_law_991 rfl dL_law_992 (tgt := 1057) rfl rfl (fun c300 => ?_) (fun c300 => ?_)
                                                        · replace h := if_t c300 h
                                                          exact ok_law_b1057 X Y Z hk18 σ298 h
                                                        · replace h := if_f c300 h
                                                          refine g_iconst X kI_0 dL_law_995 rfl ?_
                                                          exact absurd (rt_e h).1 (by decide)
                                                      · replace h := if_f c289 h
                                                        by_cases c301 : ((xs x3.toNatClampNeg) &&& 31) = 26
                                                        · replace h := if_t c301 h
                                                          refine g_tin X dL_law_33 (by rw [c301]; decide) (by rw [c301]; decide) (off := 964) (by rw [c301]; rfl) (tgt := 997) rfl ?_
                                                          refine g_aload_n X dL_law_997 rfl rfl ?_
                                                          refine g_aload_n X dL_law_998 rfl rfl ?_
                                                          refine g_iload_n X dL_law_999 rfl rfl ?_
                                                          refine g_iconst X kI_1 dL_law_1000 rfl ?_
                                                          refine g_iadd X dL_law_1001 rfl ?_
                                                          obtain ⟨c302, h⟩ := ck_e h
                                                          refine g_sld X Z (ib_e c302) dL_law_1002 rfl ?_
                                                          obtain ⟨r305, σ304, h303, h⟩ := bd_e h
                                                          refine g_callVI X [.int (xs (x3 + 1).toNatClampNeg)] (ok_HG_trace X.inj h303) my_yX8_trace mi_yX8_trace ms_yX8_trace ml_RL_126 (by decide) rfl rfl (by decide) rfl dL_law_1003 (Nat.le_of_ble_eq_true rfl) rfl rfl ?_
                                                          refine g_aload_n X dL_law_1006 rfl rfl ?_
                                                          refine g_aload_n X dL_law_1007 rfl rfl ?_
                                                          refine g_iload_n X dL_law_1008 rfl rfl ?_
                                                          refine g_iconst X kI_1 dL_law_1009 rfl ?_
                                                          refine g_iadd X dL_law_1010 rfl ?_
                                                          obtain ⟨c306, h⟩ := ck_e h
                                                          refine g_sld X Z (ib_e c306) dL_law_1011 rfl ?_
                                                          obtain ⟨r309, σ308, h307, h⟩ := bd_e h
                                                          refine g_callVI X [.int (xs (x3 + 1).toNatClampNeg)] (ok_HM_trace X.inj h307) my_yX9_trace mi_yX9_trace ms_yX9_trace ml_RL_130 (by decide) rfl rfl (by decide) rfl dL_law_1012 (Nat.le_of_ble_eq_true rfl) rfl rfl ?_
                                                          refine g_icmp_eq X dL_law_1015 (tgt := 1057) rfl rfl (fun c310 => ?_) (fun c310 => ?_)
                                                          · replace h := if_t c310 h
                                                            exact ok_law_b1057 X Y Z hk18 σ308 h
                                                          · replace h := if_f c310 h
                                                            refine g_iconst X kI_0 dL_law_1018 rfl ?_
                                                            exact absurd (rt_e h).1 (by decide)
                                                        · replace h := if_f c301 h
                                                          by_cases c311 : ((xs x3.toNatClampNeg) &&& 31) = 27
                                                          · replace h := if_t c311 h
                                                            refine g_tin X dL_law_33 (by rw [c311]; decide) (by rw [c311]; decide) (off := 987) (by rw [c311]; rfl) (tgt := 1020) rfl ?_
                                                            refine g_aload_n X dL_law_1020 rfl rfl ?_
                                                            refine g_aload_n X dL_law_1021 rfl rfl ?_
                                                            refine g_iload_n X dL_law_1022 rfl rfl ?_
                                                            refine g_iconst X kI_1 dL_law_1023 rfl ?_
                                                            refine g_iadd X dL_law_1024 rfl ?_
                                                            obtain ⟨c312, h⟩ := ck_e h
                                                            refine g_sld X Z (ib_e c312) dL_law_1025 rfl ?_
                                                            obtain ⟨r315, σ314, h313, h⟩ := bd_e h
                                                            refine g_callVJ X [.int (xs (x3 + 1).toNatClampNeg)] (ok_HG_count X.inj h313) my_yX8_count mi_yX8_count ms_yX8_count ml_RL_131 (by decide) rfl rfl (by decide) rfl dL_law_1026 (Nat.le_of_ble_eq_true rfl) rfl rfl ?_
                                                            refine g_aload_n X dL_law_1029 rfl rfl ?_
                                                            refine g_aload_n X dL_law_1030 rfl rfl ?_
                                                            refine g_iload_n X dL_law_1031 rfl rfl ?_
                                                            refine g_iconst X kI_1 dL_law_1032 rfl ?_
                                                            refine g_iadd X dL_law_1033 rfl ?_
                                                            obtain ⟨c316, h⟩ := ck_e h
                                                            refine g_sld X Z (ib_e c316) dL_law_1034 rfl ?_
                                                            obtain ⟨r319, σ318, h317, h⟩ := bd_e h
                                                            refine g_callVJ X [.int (xs (x3 + 1).toNatClampNeg)] (ok_HM_count X.inj h317) my_yX9_count mi_yX9_count ms_yX9_count ml_RL_134 (by decide) rfl rfl (by decide) rfl dL_law_1035 (Nat.le_of_ble_eq_true rfl) rfl rfl ?_
                                                            refine g_lcmp_eq X dL_law_1038 rfl dL_law_1039 (tgt := 1057) rfl rfl (fun c320 => ?_) (fun c320 => ?_)
                                                            · replace h := if_t c320 h
                                                              exact ok_law_b1057 X Y Z hk18 σ318 h
                                                            · replace h := if_f c320 h
                                                              refine g_iconst X kI_0 dL_law_1042 rfl ?_
                                                              exact absurd (rt_e h).1 (by decide)
                                                          · replace h := if_f c311 h
                                                            by_cases c321 : ((xs x3.toNatClampNeg) &&& 31) = 28
                                                            · replace h := if_t c321 h
                                                              refine g_tin X dL_law_33 (by rw [c321]; decide) (by rw [c321]; decide) (off := 1011) (by rw [c321]; rfl) (tgt := 1044) rfl ?_
                                                              refine g_aload_n X dL_law_1044 rfl rfl ?_
                                                              obtain ⟨r324, σ323, h322, h⟩ := bd_e h
                                                              refine g_callVI X [] (ok_HG_status X.inj h322) my_yX8_status mi_yX8_status ms_yX8_status ml_RL_135 (by decide) rfl rfl (by decide) rfl dL_law_1045 (Nat.le_of_ble_eq_true rfl) rfl rfl ?_
                                                              refine g_aload_n X dL_law_1048 rfl rfl ?_
                                                              obtain ⟨r327, σ326, h325, h⟩ := bd_e h
                                                              refine g_callVI X [] (ok_HM_status X.inj h325) my_yX9_status mi_yX9_status ms_yX9_status ml_RL_138 (by decide) rfl rfl (by decide) rfl dL_law_1049 (Nat.le_of_ble_eq_true rfl) rfl rfl ?_
                                                              refine g_icmp_eq X dL_law_1052 (tgt := 1057) rfl rfl (fun c328 => ?_) (fun c328 => ?_)
                                                              · replace h := if_t c328 h
                                                                exact ok_law_b1057 X Y Z hk18 σ326 h
                                                              · replace h := if_f c328 h
                                                                refine g_iconst X kI_0 dL_law_1055 rfl ?_
                                                                exact absurd (rt_e h).1 (by decide)
                                                            · replace h := if_f c321 h
                                                              refine g_tout X dL_law_33 (swo (fun z z1 z2 => ?_)) (tgt := 1057) rfl ?_
                                                              · have zz : z = 0 ∨ z = 1 ∨ z = 2 ∨ z = 3 ∨ z = 4 ∨ z = 5 ∨ z = 6 ∨ z = 7 ∨ z = 8 ∨ z = 9 ∨ z = 10 ∨ z = 11 ∨ z = 12 ∨ z = 13 ∨ z = 14 ∨ z = 15 ∨ z = 16 ∨ z = 17 ∨ z = 18 ∨ z = 19 ∨ z = 20 ∨ z = 21 ∨ z = 22 ∨ z = 23 ∨ z = 24 ∨ z = 25 ∨ z = 26 ∨ z = 27 ∨ z = 28 := by omega
                                                                rcases zz with rfl | rfl | rfl | rfl | rfl | rfl | rfl | rfl | rfl | rfl | rfl | rfl | rfl | rfl | rfl | rfl | rfl | rfl | rfl | rfl | rfl | rfl | rfl | rfl | rfl | rfl | rfl | rfl | rfl
                                                                · exact sw1 c3 rfl
                                                                · exact sw1 c17 rfl
                                                                · exact sw1 c31 rfl
                                                                · exact sw1 c49 rfl
                                                                · exact sw1 c59 rfl
                                                                · exact sw1 c73 rfl
                                                                · exact sw1 c81 rfl
                                                                · exact sw1 c89 rfl
                                                                · exact sw1 c101 rfl
                                                                · exact sw1 c113 rfl
                                                                · exact sw1 c123 rfl
                                                                · exact sw1 c137 rfl
                                                                · exact sw1 c149 rfl
                                                                · exact sw1 c157 rfl
                                                                · exact sw1 c169 rfl
                                                                · exact sw1 c181 rfl
                                                                · exact sw1 c191 rfl
                                                                · exact sw1 c203 rfl
                                                                · exact sw1 c213 rfl
                                                                · exact sw1 c225 rfl
                                                                · exact sw1 c235 rfl
                                                                · exact sw1 c245 rfl
                                                                · exact sw1 c257 rfl
                                                                · exact sw1 c267 rfl
                                                                · exact sw1 c277 rfl
                                                                · exact sw1 c289 rfl
                                                                · exact sw1 c301 rfl
                                                                · exact sw1 c311 rfl
                                                                · exact sw1 c321 rfl
                                                              ·
                                                                exact ok_law_b1057 X Y Z hk18 σ h
def f_law_l18 (LL : Nat) (xs : Nat → Int32) : Int32 → St → Option (Int32 × St) := lp (fun _ _ => none) (f_law_b18 LL xs) FU
theorem ok_law_l18 {E : gE} {w : wT} {σ' : St} (X : gC E w cL_law 4 RL 100) (Y : True) {b LL : Nat} {xs : Nat → Int32} (Z : gZ E w b LL xs) {x3 : Int32} (σ : St) (h : f_law_l18 LL xs x3 σ = some (1, σ')) : gW E w 4 σ 18 [some (.ref b), some (.ref (w.1 0)), some (.ref (w.1 9)), some (.int x3)] [] :=
  lp_ind (P := fun (k : Int32 → St → Option (Int32 × St)) => ∀ (x3 : Int32) (σ : St), k x3 σ = some (1, σ') → gW E w 4 σ 18 [some (.ref b), some (.ref (w.1 0)), some (.ref (w.1 9)), some (.int x3)] []) (fun _ _ hh => nn hh) (fun k hk x3 σ  hh => ok_law_b18 X Y Z hk σ hh) FU x3 σ  h
