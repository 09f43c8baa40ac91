/-! THE CLAIM OUT OF ONE WALK OF THE LAW'S BODY. Your part is whole_start (and what it stands on); all else here is the same for every law, but numbers. -/
def R_law : String := "RdsDeskLaw"
def lw_P (b : Addr) (xs : List Int32) (args : Array Value) (s : State) : Prop := args = #[.ref b] ∧ s.IntsAt b xs ∧ xs.length ≤ 1536 ∧ (Jvm.Cond.and given_1 narrow_1).before args s = true
def lw_Q (_ : Array Value) (s : State) (o : Outcome) (t : State) : Prop := o = .returned (some (.int 1)) ∧ Framed s o t [] 600000 7302250
def lw_Z (below : List Frame) (a : Array Value) (s : State) : State → Prop := fun t => ∃ o, t.status = .running ∧ Ended t below o ∧ lw_Q a s o t
/-- the law's own end, with 1 on the stack, nothing written that was there before, its room as the claim has it -/
theorem lw_ret {p : Program} {l : Launch} {e : Env} {s : State} {m : MethodId} {below : List Frame} {meth : Method} {c : Code} {b : Nat} (hx : p.tables.exec = Jvm.exec) (hb : c.code = code) (hr : meth.sig.returnType = ret) (hlocks : meth.locks = false) {pc : Nat} {H : Heap} {ls : Array Slot} (hdg : decode code pc = .ok (.ireturn, 1)) : W p l e room_1 s m #[Value.ref b] below meth c H [] 600000 7302250 (lw_Z below #[Value.ref b] s) (F0 m pc ls [.int 1]) := by
  intro T hT X
  obtain ⟨fs, hret, hrun, hended, hW, hframe⟩ := X.leave (v := some (.int 1)) (hlocks := hlocks) (fun h => by rw [hr] at h; cases h)
  have hmeth' : T.vm.method? m = some meth := X.method'
  refine ⟨T.setFrames fs, ?_, .returned (some (.int 1)), hrun, hended, rfl, ⟨_, rfl⟩, hW, hframe⟩
  jvm_step X.here [X.here.top, hx, hb, hdg, hmeth', hr, ret, narrow_b1]
  (try refine ⟨rfl, ?_⟩); (try refine ⟨rfl, ?_⟩)
  first | (intro acts; rw [hret _ acts rfl rfl rfl]) | rw [hret _ _ rfl rfl rfl]
  exact Steps.refl _
/-- what holds at the law's entry: the machine, the code, the tables' words (any of lw_tbl by 'hts w (by decide +kernel)'), the script of L ints xs at the cell b, what the Statement gives of the start (any of its parts by flat_of_before) -/
def lw_At (p : Program) (s : State) (m : MethodId) (meth : Method) (c : Code) (b L : Nat) (xs : Nat → Int32) : Prop :=
  p.tables.exec = Jvm.exec ∧ c.code = code ∧ meth.sig.returnType = ret ∧ c.maxLocals = 4 ∧ s.vm.findClass R_law = some m.cls ∧ (∀ w ∈ lw_tbl, w.before #[Value.ref b] s = true) ∧ va_X b L xs s s.heap ∧ b < s.heap.size ∧ meth.locks = false ∧ (Jvm.Cond.and given_1 narrow_1).before #[Value.ref b] s = true
abbrev G_L_law : rd_G := (RL, cL_law, 4, ret, false, room_1)
/-- the law's end: where it answers 1 it is the claim's -/
def rd_LQ (cx : rd_Cx) : Int32 → rd_T := fun r below args s t => args = #[Value.ref (xb cx)] → s.heap.size = xh cx + 1 → r = 1 → lw_Z below args s t
theorem ry_lawret {cx : rd_Cx} {pc : Nat} {lv : List (Nat × rd_V)} {w : rd_W} {S : rd_S} {kc ks : Nat} {x : Int32} (hd : decode cL_law pc = .ok (.ireturn, 1)) (hkc : kc ≤ 600000) (hks : ks ≤ 7302250) : rd_Y cx G_L_law (rd_LQ cx) (some x) pc lv [.inl x] w S kc ks :=
  fun r hr p l e s m args below meth c H locs ls hC hK hH hZ hq hl => by
    cases hr
    by_cases h : args = #[Value.ref (xb cx)] ∧ s.heap.size = xh cx + 1 ∧ x = 1
    · obtain ⟨h1, h2, h3⟩ := h
      subst h1
      subst h3
      intro T hT X
      obtain ⟨t, a, b⟩ := va_forget (fun q hq' => by have := hq q hq'; omega) (W.widen hkc hks (lw_ret (l := l) (e := e) (m := m) (below := below) (ls := ls) (H := H) hC.1 hC.2.1 hC.2.2.2.1 hC.2.2.2.2.1 hd)) T hT X
      exact ⟨t, a, fun _ _ _ => b⟩
    · intro T hT X
      exact ⟨_, Steps.refl _, fun h1 h2 h3 => absurd ⟨h1, h2, h3⟩ h⟩
theorem dL_law_0 : decode cL_law 0 = .ok (.new 7, 3) := by decide +kernel
theorem dL_law_3 : decode cL_law 3 = .ok (.dup, 1) := by decide +kernel
theorem dL_law_4 : decode cL_law 4 = .ok (.invokespecial 9, 3) := by decide +kernel
theorem dL_law_7 : decode cL_law 7 = .ok (.astore_n 1, 1) := by decide +kernel
theorem dL_law_8 : decode cL_law 8 = .ok (.new 10, 3) := by decide +kernel
theorem dL_law_11 : decode cL_law 11 = .ok (.dup, 1) := by decide +kernel
theorem dL_law_12 : decode cL_law 12 = .ok (.invokespecial 12, 3) := by decide +kernel
theorem dL_law_15 : decode cL_law 15 = .ok (.astore_n 2, 1) := by decide +kernel
theorem dL_law_16 : decode cL_law 16 = .ok (.iconst 0, 1) := by decide +kernel
theorem dL_law_17 : decode cL_law 17 = .ok (.istore_n 3, 1) := by decide +kernel
theorem dL_law_18 : decode cL_law 18 = .ok (.iload_n 3, 1) := by decide +kernel
theorem dL_law_19 : decode cL_law 19 = .ok (.aload_n 0, 1) := by decide +kernel
theorem dL_law_20 : decode cL_law 20 = .ok (.arraylength, 1) := by decide +kernel
theorem dL_law_21 : decode cL_law 21 = .ok (.iconst 3, 1) := by decide +kernel
theorem dL_law_22 : decode cL_law 22 = .ok (.isub, 1) := by decide +kernel
theorem dL_law_23 : decode cL_law 23 = .ok (.if_icmp .gt 521, 3) := by decide +kernel
theorem dL_law_26 : decode cL_law 26 = .ok (.aload_n 0, 1) := by decide +kernel
theorem dL_law_27 : decode cL_law 27 = .ok (.iload_n 3, 1) := by decide +kernel
theorem dL_law_28 : decode cL_law 28 = .ok (.iaload, 1) := by decide +kernel
theorem dL_law_29 : decode cL_law 29 = .ok (.bipush 15, 2) := by decide +kernel
theorem dL_law_31 : decode cL_law 31 = .ok (.iand, 1) := by decide +kernel
theorem dL_law_32 : decode cL_law 32 = .ok (.tableswitch 506 0 15 #[80, 113, 146, 179, 190, 213, 236, 259, 282, 315, 338, 361, 384, 417, 440, 473], 80) := by decide +kernel
theorem dL_law_112 : decode cL_law 112 = .ok (.aload_n 1, 1) := by decide +kernel
theorem dL_law_113 : decode cL_law 113 = .ok (.aload_n 0, 1) := by decide +kernel
theorem dL_law_114 : decode cL_law 114 = .ok (.iload_n 3, 1) := by decide +kernel
theorem dL_law_115 : decode cL_law 115 = .ok (.iconst 1, 1) := by decide +kernel
theorem dL_law_116 : decode cL_law 116 = .ok (.iadd, 1) := by decide +kernel
theorem dL_law_117 : decode cL_law 117 = .ok (.iaload, 1) := by decide +kernel
theorem dL_law_118 : decode cL_law 118 = .ok (.aload_n 0, 1) := by decide +kernel
theorem dL_law_119 : decode cL_law 119 = .ok (.iload_n 3, 1) := by decide +kernel
theorem dL_law_120 : decode cL_law 120 = .ok (.iconst 2, 1) := by decide +kernel
theorem dL_law_121 : decode cL_law 121 = .ok (.iadd, 1) := by decide +kernel
theorem dL_law_122 : decode cL_law 122 = .ok (.iaload, 1) := by decide +kernel
theorem dL_law_123 : decode cL_law 123 = .ok (.invokevirtual 13, 3) := by decide +kernel
theorem dL_law_126 : decode cL_law 126 = .ok (.aload_n 2, 1) := by decide +kernel
theorem dL_law_127 : decode cL_law 127 = .ok (.aload_n 0, 1) := by decide +kernel
theorem dL_law_128 : decode cL_law 128 = .ok (.iload_n 3, 1) := by decide +kernel
theorem dL_law_129 : decode cL_law 129 = .ok (.iconst 1, 1) := by decide +kernel
theorem dL_law_130 : decode cL_law 130 = .ok (.iadd, 1) := by decide +kernel
theorem dL_law_131 : decode cL_law 131 = .ok (.iaload, 1) := by decide +kernel
theorem dL_law_132 : decode cL_law 132 = .ok (.aload_n 0, 1) := by decide +kernel
theorem dL_law_133 : decode cL_law 133 = .ok (.iload_n 3, 1) := by decide +kernel
theorem dL_law_134 : decode cL_law 134 = .ok (.iconst 2, 1) := by decide +kernel
theorem dL_law_135 : decode cL_law 135 = .ok (.iadd, 1) := by decide +kernel
theorem dL_law_136 : decode cL_law 136 = .ok (.iaload, 1) := by decide +kernel
theorem dL_law_137 : decode cL_law 137 = .ok (.invokevirtual 17, 3) := by decide +kernel
theorem dL_law_140 : decode cL_law 140 = .ok (.if_icmp .eq 398, 3) := by decide +kernel
theorem dL_law_143 : decode cL_law 143 = .ok (.iconst 0, 1) := by decide +kernel
theorem dL_law_144 : decode cL_law 144 = .ok (.ireturn, 1) := by decide +kernel
theorem dL_law_145 : decode cL_law 145 = .ok (.aload_n 1, 1) := by decide +kernel
theorem dL_law_146 : decode cL_law 146 = .ok (.aload_n 0, 1) := by decide +kernel
theorem dL_law_147 : decode cL_law 147 = .ok (.iload_n 3, 1) := by decide +kernel
theorem dL_law_148 : decode cL_law 148 = .ok (.iconst 1, 1) := by decide +kernel
theorem dL_law_149 : decode cL_law 149 = .ok (.iadd, 1) := by decide +kernel
theorem dL_law_150 : decode cL_law 150 = .ok (.iaload, 1) := by decide +kernel
theorem dL_law_151 : decode cL_law 151 = .ok (.aload_n 0, 1) := by decide +kernel
theorem dL_law_152 : decode cL_law 152 = .ok (.iload_n 3, 1) := by decide +kernel
theorem dL_law_153 : decode cL_law 153 = .ok (.iconst 2, 1) := by decide +kernel
theorem dL_law_154 : decode cL_law 154 = .ok (.iadd, 1) := by decide +kernel
theorem dL_law_155 : decode cL_law 155 = .ok (.iaload, 1) := by decide +kernel
theorem dL_law_156 : decode cL_law 156 = .ok (.invokevirtual 18, 3) := by decide +kernel
theorem dL_law_159 : decode cL_law 159 = .ok (.aload_n 2, 1) := by decide +kernel
theorem dL_law_160 : decode cL_law 160 = .ok (.aload_n 0, 1) := by decide +kernel
theorem dL_law_161 : decode cL_law 161 = .ok (.iload_n 3, 1) := by decide +kernel
theorem dL_law_162 : decode cL_law 162 = .ok (.iconst 1, 1) := by decide +kernel
theorem dL_law_163 : decode cL_law 163 = .ok (.iadd, 1) := by decide +kernel
theorem dL_law_164 : decode cL_law 164 = .ok (.iaload, 1) := by decide +kernel
theorem dL_law_165 : decode cL_law 165 = .ok (.aload_n 0, 1) := by decide +kernel
theorem dL_law_166 : decode cL_law 166 = .ok (.iload_n 3, 1) := by decide +kernel
theorem dL_law_167 : decode cL_law 167 = .ok (.iconst 2, 1) := by decide +kernel
theorem dL_law_168 : decode cL_law 168 = .ok (.iadd, 1) := by decide +kernel
theorem dL_law_169 : decode cL_law 169 = .ok (.iaload, 1) := by decide +kernel
theorem dL_law_170 : decode cL_law 170 = .ok (.invokevirtual 22, 3) := by decide +kernel
theorem dL_law_173 : decode cL_law 173 = .ok (.if_icmp .eq 365, 3) := by decide +kernel
theorem dL_law_176 : decode cL_law 176 = .ok (.iconst 0, 1) := by decide +kernel
theorem dL_law_177 : decode cL_law 177 = .ok (.ireturn, 1) := by decide +kernel
theorem dL_law_178 : decode cL_law 178 = .ok (.aload_n 1, 1) := by decide +kernel
theorem dL_law_179 : decode cL_law 179 = .ok (.aload_n 0, 1) := by decide +kernel
theorem dL_law_180 : decode cL_law 180 = .ok (.iload_n 3, 1) := by decide +kernel
theorem dL_law_181 : decode cL_law 181 = .ok (.iconst 1, 1) := by decide +kernel
theorem dL_law_182 : decode cL_law 182 = .ok (.iadd, 1) := by decide +kernel
theorem dL_law_183 : decode cL_law 183 = .ok (.iaload, 1) := by decide +kernel
theorem dL_law_184 : decode cL_law 184 = .ok (.aload_n 0, 1) := by decide +kernel
theorem dL_law_185 : decode cL_law 185 = .ok (.iload_n 3, 1) := by decide +kernel
theorem dL_law_186 : decode cL_law 186 = .ok (.iconst 2, 1) := by decide +kernel
theorem dL_law_187 : decode cL_law 187 = .ok (.iadd, 1) := by decide +kernel
theorem dL_law_188 : decode cL_law 188 = .ok (.iaload, 1) := by decide +kernel
theorem dL_law_189 : decode cL_law 189 = .ok (.invokevirtual 23, 3) := by decide +kernel
theorem dL_law_192 : decode cL_law 192 = .ok (.aload_n 2, 1) := by decide +kernel
theorem dL_law_193 : decode cL_law 193 = .ok (.aload_n 0, 1) := by decide +kernel
theorem dL_law_194 : decode cL_law 194 = .ok (.iload_n 3, 1) := by decide +kernel
theorem dL_law_195 : decode cL_law 195 = .ok (.iconst 1, 1) := by decide +kernel
theorem dL_law_196 : decode cL_law 196 = .ok (.iadd, 1) := by decide +kernel
theorem dL_law_197 : decode cL_law 197 = .ok (.iaload, 1) := by decide +kernel
theorem dL_law_198 : decode cL_law 198 = .ok (.aload_n 0, 1) := by decide +kernel
theorem dL_law_199 : decode cL_law 199 = .ok (.iload_n 3, 1) := by decide +kernel
theorem dL_law_200 : decode cL_law 200 = .ok (.iconst 2, 1) := by decide +kernel
theorem dL_law_201 : decode cL_law 201 = .ok (.iadd, 1) := by decide +kernel
theorem dL_law_202 : decode cL_law 202 = .ok (.iaload, 1) := by decide +kernel
theorem dL_law_203 : decode cL_law 203 = .ok (.invokevirtual 26, 3) := by decide +kernel
theorem dL_law_206 : decode cL_law 206 = .ok (.if_icmp .eq 332, 3) := by decide +kernel
theorem dL_law_209 : decode cL_law 209 = .ok (.iconst 0, 1) := by decide +kernel
theorem dL_law_210 : decode cL_law 210 = .ok (.ireturn, 1) := by decide +kernel
theorem dL_law_211 : decode cL_law 211 = .ok (.aload_n 1, 1) := by decide +kernel
theorem dL_law_212 : decode cL_law 212 = .ok (.invokevirtual 27, 3) := by decide +kernel
theorem dL_law_215 : decode cL_law 215 = .ok (.aload_n 2, 1) := by decide +kernel
theorem dL_law_216 : decode cL_law 216 = .ok (.invokevirtual 30, 3) := by decide +kernel
theorem dL_law_219 : decode cL_law 219 = .ok (.goto 319, 3) := by decide +kernel
theorem dL_law_222 : decode cL_law 222 = .ok (.aload_n 1, 1) := by decide +kernel
theorem dL_law_223 : decode cL_law 223 = .ok (.aload_n 0, 1) := by decide +kernel
theorem dL_law_224 : decode cL_law 224 = .ok (.iload_n 3, 1) := by decide +kernel
theorem dL_law_225 : decode cL_law 225 = .ok (.iconst 1, 1) := by decide +kernel
theorem dL_law_226 : decode cL_law 226 = .ok (.iadd, 1) := by decide +kernel
theorem dL_law_227 : decode cL_law 227 = .ok (.iaload, 1) := by decide +kernel
theorem dL_law_228 : decode cL_law 228 = .ok (.invokevirtual 31, 3) := by decide +kernel
theorem dL_law_231 : decode cL_law 231 = .ok (.aload_n 2, 1) := by decide +kernel
theorem dL_law_232 : decode cL_law 232 = .ok (.aload_n 0, 1) := by decide +kernel
theorem dL_law_233 : decode cL_law 233 = .ok (.iload_n 3, 1) := by decide +kernel
theorem dL_law_234 : decode cL_law 234 = .ok (.iconst 1, 1) := by decide +kernel
theorem dL_law_235 : decode cL_law 235 = .ok (.iadd, 1) := by decide +kernel
theorem dL_law_236 : decode cL_law 236 = .ok (.iaload, 1) := by decide +kernel
theorem dL_law_237 : decode cL_law 237 = .ok (.invokevirtual 35, 3) := by decide +kernel
theorem dL_law_240 : decode cL_law 240 = .ok (.if_icmp .eq 298, 3) := by decide +kernel
theorem dL_law_243 : decode cL_law 243 = .ok (.iconst 0, 1) := by decide +kernel
theorem dL_law_244 : decode cL_law 244 = .ok (.ireturn, 1) := by decide +kernel
theorem dL_law_245 : decode cL_law 245 = .ok (.aload_n 1, 1) := by decide +kernel
theorem dL_law_246 : decode cL_law 246 = .ok (.aload_n 0, 1) := by decide +kernel
theorem dL_law_247 : decode cL_law 247 = .ok (.iload_n 3, 1) := by decide +kernel
theorem dL_law_248 : decode cL_law 248 = .ok (.iconst 1, 1) := by decide +kernel
theorem dL_law_249 : decode cL_law 249 = .ok (.iadd, 1) := by decide +kernel
theorem dL_law_250 : decode cL_law 250 = .ok (.iaload, 1) := by decide +kernel
theorem dL_law_251 : decode cL_law 251 = .ok (.invokevirtual 36, 3) := by decide +kernel
theorem dL_law_254 : decode cL_law 254 = .ok (.aload_n 2, 1) := by decide +kernel
theorem dL_law_255 : decode cL_law 255 = .ok (.aload_n 0, 1) := by decide +kernel
theorem dL_law_256 : decode cL_law 256 = .ok (.iload_n 3, 1) := by decide +kernel
theorem dL_law_257 : decode cL_law 257 = .ok (.iconst 1, 1) := by decide +kernel
theorem dL_law_258 : decode cL_law 258 = .ok (.iadd, 1) := by decide +kernel
theorem dL_law_259 : decode cL_law 259 = .ok (.iaload, 1) := by decide +kernel
theorem dL_law_260 : decode cL_law 260 = .ok (.invokevirtual 39, 3) := by decide +kernel
theorem dL_law_263 : decode cL_law 263 = .ok (.if_icmp .eq 275, 3) := by decide +kernel
theorem dL_law_266 : decode cL_law 266 = .ok (.iconst 0, 1) := by decide +kernel
theorem dL_law_267 : decode cL_law 267 = .ok (.ireturn, 1) := by decide +kernel
theorem dL_law_268 : decode cL_law 268 = .ok (.aload_n 1, 1) := by decide +kernel
theorem dL_law_269 : decode cL_law 269 = .ok (.aload_n 0, 1) := by decide +kernel
theorem dL_law_270 : decode cL_law 270 = .ok (.iload_n 3, 1) := by decide +kernel
theorem dL_law_271 : decode cL_law 271 = .ok (.iconst 1, 1) := by decide +kernel
theorem dL_law_272 : decode cL_law 272 = .ok (.iadd, 1) := by decide +kernel
theorem dL_law_273 : decode cL_law 273 = .ok (.iaload, 1) := by decide +kernel
theorem dL_law_274 : decode cL_law 274 = .ok (.invokevirtual 40, 3) := by decide +kernel
theorem dL_law_277 : decode cL_law 277 = .ok (.aload_n 2, 1) := by decide +kernel
theorem dL_law_278 : decode cL_law 278 = .ok (.aload_n 0, 1) := by decide +kernel
theorem dL_law_279 : decode cL_law 279 = .ok (.iload_n 3, 1) := by decide +kernel
theorem dL_law_280 : decode cL_law 280 = .ok (.iconst 1, 1) := by decide +kernel
theorem dL_law_281 : decode cL_law 281 = .ok (.iadd, 1) := by decide +kernel
theorem dL_law_282 : decode cL_law 282 = .ok (.iaload, 1) := by decide +kernel
theorem dL_law_283 : decode cL_law 283 = .ok (.invokevirtual 43, 3) := by decide +kernel
theorem dL_law_286 : decode cL_law 286 = .ok (.if_icmp .eq 252, 3) := by decide +kernel
theorem dL_law_289 : decode cL_law 289 = .ok (.iconst 0, 1) := by decide +kernel
theorem dL_law_290 : decode cL_law 290 = .ok (.ireturn, 1) := by decide +kernel
theorem dL_law_291 : decode cL_law 291 = .ok (.aload_n 1, 1) := by decide +kernel
theorem dL_law_292 : decode cL_law 292 = .ok (.aload_n 0, 1) := by decide +kernel
theorem dL_law_293 : decode cL_law 293 = .ok (.iload_n 3, 1) := by decide +kernel
theorem dL_law_294 : decode cL_law 294 = .ok (.iconst 1, 1) := by decide +kernel
theorem dL_law_295 : decode cL_law 295 = .ok (.iadd, 1) := by decide +kernel
theorem dL_law_296 : decode cL_law 296 = .ok (.iaload, 1) := by decide +kernel
theorem dL_law_297 : decode cL_law 297 = .ok (.invokevirtual 44, 3) := by decide +kernel
theorem dL_law_300 : decode cL_law 300 = .ok (.aload_n 2, 1) := by decide +kernel
theorem dL_law_301 : decode cL_law 301 = .ok (.aload_n 0, 1) := by decide +kernel
theorem dL_law_302 : decode cL_law 302 = .ok (.iload_n 3, 1) := by decide +kernel
theorem dL_law_303 : decode cL_law 303 = .ok (.iconst 1, 1) := by decide +kernel
theorem dL_law_304 : decode cL_law 304 = .ok (.iadd, 1) := by decide +kernel
theorem dL_law_305 : decode cL_law 305 = .ok (.iaload, 1) := by decide +kernel
theorem dL_law_306 : decode cL_law 306 = .ok (.invokevirtual 47, 3) := by decide +kernel
theorem dL_law_309 : decode cL_law 309 = .ok (.if_icmp .eq 229, 3) := by decide +kernel
theorem dL_law_312 : decode cL_law 312 = .ok (.iconst 0, 1) := by decide +kernel
theorem dL_law_313 : decode cL_law 313 = .ok (.ireturn, 1) := by decide +kernel
theorem dL_law_314 : decode cL_law 314 = .ok (.aload_n 1, 1) := by decide +kernel
theorem dL_law_315 : decode cL_law 315 = .ok (.aload_n 0, 1) := by decide +kernel
theorem dL_law_316 : decode cL_law 316 = .ok (.iload_n 3, 1) := by decide +kernel
theorem dL_law_317 : decode cL_law 317 = .ok (.iconst 1, 1) := by decide +kernel
theorem dL_law_318 : decode cL_law 318 = .ok (.iadd, 1) := by decide +kernel
theorem dL_law_319 : decode cL_law 319 = .ok (.iaload, 1) := by decide +kernel
theorem dL_law_320 : decode cL_law 320 = .ok (.aload_n 0, 1) := by decide +kernel
theorem dL_law_321 : decode cL_law 321 = .ok (.iload_n 3, 1) := by decide +kernel
theorem dL_law_322 : decode cL_law 322 = .ok (.iconst 2, 1) := by decide +kernel
theorem dL_law_323 : decode cL_law 323 = .ok (.iadd, 1) := by decide +kernel
theorem dL_law_324 : decode cL_law 324 = .ok (.iaload, 1) := by decide +kernel
theorem dL_law_325 : decode cL_law 325 = .ok (.invokevirtual 48, 3) := by decide +kernel
theorem dL_law_328 : decode cL_law 328 = .ok (.aload_n 2, 1) := by decide +kernel
theorem dL_law_329 : decode cL_law 329 = .ok (.aload_n 0, 1) := by decide +kernel
theorem dL_law_330 : decode cL_law 330 = .ok (.iload_n 3, 1) := by decide +kernel
theorem dL_law_331 : decode cL_law 331 = .ok (.iconst 1, 1) := by decide +kernel
theorem dL_law_332 : decode cL_law 332 = .ok (.iadd, 1) := by decide +kernel
theorem dL_law_333 : decode cL_law 333 = .ok (.iaload, 1) := by decide +kernel
theorem dL_law_334 : decode cL_law 334 = .ok (.aload_n 0, 1) := by decide +kernel
theorem dL_law_335 : decode cL_law 335 = .ok (.iload_n 3, 1) := by decide +kernel
theorem dL_law_336 : decode cL_law 336 = .ok (.iconst 2, 1) := by decide +kernel
theorem dL_law_337 : decode cL_law 337 = .ok (.iadd, 1) := by decide +kernel
theorem dL_law_338 : decode cL_law 338 = .ok (.iaload, 1) := by decide +kernel
theorem dL_law_339 : decode cL_law 339 = .ok (.invokevirtual 51, 3) := by decide +kernel
theorem dL_law_342 : decode cL_law 342 = .ok (.if_icmp .eq 196, 3) := by decide +kernel
theorem dL_law_345 : decode cL_law 345 = .ok (.iconst 0, 1) := by decide +kernel
theorem dL_law_346 : decode cL_law 346 = .ok (.ireturn, 1) := by decide +kernel
theorem dL_law_347 : decode cL_law 347 = .ok (.aload_n 1, 1) := by decide +kernel
theorem dL_law_348 : decode cL_law 348 = .ok (.aload_n 0, 1) := by decide +kernel
theorem dL_law_349 : decode cL_law 349 = .ok (.iload_n 3, 1) := by decide +kernel
theorem dL_law_350 : decode cL_law 350 = .ok (.iconst 1, 1) := by decide +kernel
theorem dL_law_351 : decode cL_law 351 = .ok (.iadd, 1) := by decide +kernel
theorem dL_law_352 : decode cL_law 352 = .ok (.iaload, 1) := by decide +kernel
theorem dL_law_353 : decode cL_law 353 = .ok (.invokevirtual 52, 3) := by decide +kernel
theorem dL_law_356 : decode cL_law 356 = .ok (.aload_n 2, 1) := by decide +kernel
theorem dL_law_357 : decode cL_law 357 = .ok (.aload_n 0, 1) := by decide +kernel
theorem dL_law_358 : decode cL_law 358 = .ok (.iload_n 3, 1) := by decide +kernel
theorem dL_law_359 : decode cL_law 359 = .ok (.iconst 1, 1) := by decide +kernel
theorem dL_law_360 : decode cL_law 360 = .ok (.iadd, 1) := by decide +kernel
theorem dL_law_361 : decode cL_law 361 = .ok (.iaload, 1) := by decide +kernel
theorem dL_law_362 : decode cL_law 362 = .ok (.invokevirtual 55, 3) := by decide +kernel
theorem dL_law_365 : decode cL_law 365 = .ok (.if_icmp .eq 173, 3) := by decide +kernel
theorem dL_law_368 : decode cL_law 368 = .ok (.iconst 0, 1) := by decide +kernel
theorem dL_law_369 : decode cL_law 369 = .ok (.ireturn, 1) := by decide +kernel
theorem dL_law_370 : decode cL_law 370 = .ok (.aload_n 1, 1) := by decide +kernel
theorem dL_law_371 : decode cL_law 371 = .ok (.aload_n 0, 1) := by decide +kernel
theorem dL_law_372 : decode cL_law 372 = .ok (.iload_n 3, 1) := by decide +kernel
theorem dL_law_373 : decode cL_law 373 = .ok (.iconst 1, 1) := by decide +kernel
theorem dL_law_374 : decode cL_law 374 = .ok (.iadd, 1) := by decide +kernel
theorem dL_law_375 : decode cL_law 375 = .ok (.iaload, 1) := by decide +kernel
theorem dL_law_376 : decode cL_law 376 = .ok (.invokevirtual 56, 3) := by decide +kernel
theorem dL_law_379 : decode cL_law 379 = .ok (.aload_n 2, 1) := by decide +kernel
theorem dL_law_380 : decode cL_law 380 = .ok (.aload_n 0, 1) := by decide +kernel
theorem dL_law_381 : decode cL_law 381 = .ok (.iload_n 3, 1) := by decide +kernel
theorem dL_law_382 : decode cL_law 382 = .ok (.iconst 1, 1) := by decide +kernel
theorem dL_law_383 : decode cL_law 383 = .ok (.iadd, 1) := by decide +kernel
theorem dL_law_384 : decode cL_law 384 = .ok (.iaload, 1) := by decide +kernel
theorem dL_law_385 : decode cL_law 385 = .ok (.invokevirtual 59, 3) := by decide +kernel
theorem dL_law_388 : decode cL_law 388 = .ok (.if_icmp .eq 150, 3) := by decide +kernel
theorem dL_law_391 : decode cL_law 391 = .ok (.iconst 0, 1) := by decide +kernel
theorem dL_law_392 : decode cL_law 392 = .ok (.ireturn, 1) := by decide +kernel
theorem dL_law_393 : decode cL_law 393 = .ok (.aload_n 1, 1) := by decide +kernel
theorem dL_law_394 : decode cL_law 394 = .ok (.aload_n 0, 1) := by decide +kernel
theorem dL_law_395 : decode cL_law 395 = .ok (.iload_n 3, 1) := by decide +kernel
theorem dL_law_396 : decode cL_law 396 = .ok (.iconst 1, 1) := by decide +kernel
theorem dL_law_397 : decode cL_law 397 = .ok (.iadd, 1) := by decide +kernel
theorem dL_law_398 : decode cL_law 398 = .ok (.iaload, 1) := by decide +kernel
theorem dL_law_399 : decode cL_law 399 = .ok (.invokevirtual 60, 3) := by decide +kernel
theorem dL_law_402 : decode cL_law 402 = .ok (.aload_n 2, 1) := by decide +kernel
theorem dL_law_403 : decode cL_law 403 = .ok (.aload_n 0, 1) := by decide +kernel
theorem dL_law_404 : decode cL_law 404 = .ok (.iload_n 3, 1) := by decide +kernel
theorem dL_law_405 : decode cL_law 405 = .ok (.iconst 1, 1) := by decide +kernel
theorem dL_law_406 : decode cL_law 406 = .ok (.iadd, 1) := by decide +kernel
theorem dL_law_407 : decode cL_law 407 = .ok (.iaload, 1) := by decide +kernel
theorem dL_law_408 : decode cL_law 408 = .ok (.invokevirtual 63, 3) := by decide +kernel
theorem dL_law_411 : decode cL_law 411 = .ok (.if_icmp .eq 127, 3) := by decide +kernel
theorem dL_law_414 : decode cL_law 414 = .ok (.iconst 0, 1) := by decide +kernel
theorem dL_law_415 : decode cL_law 415 = .ok (.ireturn, 1) := by decide +kernel
theorem dL_law_416 : decode cL_law 416 = .ok (.aload_n 1, 1) := by decide +kernel
theorem dL_law_417 : decode cL_law 417 = .ok (.aload_n 0, 1) := by decide +kernel
theorem dL_law_418 : decode cL_law 418 = .ok (.iload_n 3, 1) := by decide +kernel
theorem dL_law_419 : decode cL_law 419 = .ok (.iconst 1, 1) := by decide +kernel
theorem dL_law_420 : decode cL_law 420 = .ok (.iadd, 1) := by decide +kernel
theorem dL_law_421 : decode cL_law 421 = .ok (.iaload, 1) := by decide +kernel
theorem dL_law_422 : decode cL_law 422 = .ok (.aload_n 0, 1) := by decide +kernel
theorem dL_law_423 : decode cL_law 423 = .ok (.iload_n 3, 1) := by decide +kernel
theorem dL_law_424 : decode cL_law 424 = .ok (.iconst 2, 1) := by decide +kernel
theorem dL_law_425 : decode cL_law 425 = .ok (.iadd, 1) := by decide +kernel
theorem dL_law_426 : decode cL_law 426 = .ok (.iaload, 1) := by decide +kernel
theorem dL_law_427 : decode cL_law 427 = .ok (.invokevirtual 64, 3) := by decide +kernel
theorem dL_law_430 : decode cL_law 430 = .ok (.aload_n 2, 1) := by decide +kernel
theorem dL_law_431 : decode cL_law 431 = .ok (.aload_n 0, 1) := by decide +kernel
theorem dL_law_432 : decode cL_law 432 = .ok (.iload_n 3, 1) := by decide +kernel
theorem dL_law_433 : decode cL_law 433 = .ok (.iconst 1, 1) := by decide +kernel
theorem dL_law_434 : decode cL_law 434 = .ok (.iadd, 1) := by decide +kernel
theorem dL_law_435 : decode cL_law 435 = .ok (.iaload, 1) := by decide +kernel
theorem dL_law_436 : decode cL_law 436 = .ok (.aload_n 0, 1) := by decide +kernel
theorem dL_law_437 : decode cL_law 437 = .ok (.iload_n 3, 1) := by decide +kernel
theorem dL_law_438 : decode cL_law 438 = .ok (.iconst 2, 1) := by decide +kernel
theorem dL_law_439 : decode cL_law 439 = .ok (.iadd, 1) := by decide +kernel
theorem dL_law_440 : decode cL_law 440 = .ok (.iaload, 1) := by decide +kernel
theorem dL_law_441 : decode cL_law 441 = .ok (.invokevirtual 67, 3) := by decide +kernel
theorem dL_law_444 : decode cL_law 444 = .ok (.if_icmp .eq 94, 3) := by decide +kernel
theorem dL_law_447 : decode cL_law 447 = .ok (.iconst 0, 1) := by decide +kernel
theorem dL_law_448 : decode cL_law 448 = .ok (.ireturn, 1) := by decide +kernel
theorem dL_law_449 : decode cL_law 449 = .ok (.aload_n 1, 1) := by decide +kernel
theorem dL_law_450 : decode cL_law 450 = .ok (.aload_n 0, 1) := by decide +kernel
theorem dL_law_451 : decode cL_law 451 = .ok (.iload_n 3, 1) := by decide +kernel
theorem dL_law_452 : decode cL_law 452 = .ok (.iconst 1, 1) := by decide +kernel
theorem dL_law_453 : decode cL_law 453 = .ok (.iadd, 1) := by decide +kernel
theorem dL_law_454 : decode cL_law 454 = .ok (.iaload, 1) := by decide +kernel
theorem dL_law_455 : decode cL_law 455 = .ok (.invokevirtual 68, 3) := by decide +kernel
theorem dL_law_458 : decode cL_law 458 = .ok (.aload_n 2, 1) := by decide +kernel
theorem dL_law_459 : decode cL_law 459 = .ok (.aload_n 0, 1) := by decide +kernel
theorem dL_law_460 : decode cL_law 460 = .ok (.iload_n 3, 1) := by decide +kernel
theorem dL_law_461 : decode cL_law 461 = .ok (.iconst 1, 1) := by decide +kernel
theorem dL_law_462 : decode cL_law 462 = .ok (.iadd, 1) := by decide +kernel
theorem dL_law_463 : decode cL_law 463 = .ok (.iaload, 1) := by decide +kernel
theorem dL_law_464 : decode cL_law 464 = .ok (.invokevirtual 71, 3) := by decide +kernel
theorem dL_law_467 : decode cL_law 467 = .ok (.if_icmp .eq 71, 3) := by decide +kernel
theorem dL_law_470 : decode cL_law 470 = .ok (.iconst 0, 1) := by decide +kernel
theorem dL_law_471 : decode cL_law 471 = .ok (.ireturn, 1) := by decide +kernel
theorem dL_law_472 : decode cL_law 472 = .ok (.aload_n 1, 1) := by decide +kernel
theorem dL_law_473 : decode cL_law 473 = .ok (.aload_n 0, 1) := by decide +kernel
theorem dL_law_474 : decode cL_law 474 = .ok (.iload_n 3, 1) := by decide +kernel
theorem dL_law_475 : decode cL_law 475 = .ok (.iconst 1, 1) := by decide +kernel
theorem dL_law_476 : decode cL_law 476 = .ok (.iadd, 1) := by decide +kernel
theorem dL_law_477 : decode cL_law 477 = .ok (.iaload, 1) := by decide +kernel
theorem dL_law_478 : decode cL_law 478 = .ok (.aload_n 0, 1) := by decide +kernel
theorem dL_law_479 : decode cL_law 479 = .ok (.iload_n 3, 1) := by decide +kernel
theorem dL_law_480 : decode cL_law 480 = .ok (.iconst 2, 1) := by decide +kernel
theorem dL_law_481 : decode cL_law 481 = .ok (.iadd, 1) := by decide +kernel
theorem dL_law_482 : decode cL_law 482 = .ok (.iaload, 1) := by decide +kernel
theorem dL_law_483 : decode cL_law 483 = .ok (.invokevirtual 72, 3) := by decide +kernel
theorem dL_law_486 : decode cL_law 486 = .ok (.aload_n 2, 1) := by decide +kernel
theorem dL_law_487 : decode cL_law 487 = .ok (.aload_n 0, 1) := by decide +kernel
theorem dL_law_488 : decode cL_law 488 = .ok (.iload_n 3, 1) := by decide +kernel
theorem dL_law_489 : decode cL_law 489 = .ok (.iconst 1, 1) := by decide +kernel
theorem dL_law_490 : decode cL_law 490 = .ok (.iadd, 1) := by decide +kernel
theorem dL_law_491 : decode cL_law 491 = .ok (.iaload, 1) := by decide +kernel
theorem dL_law_492 : decode cL_law 492 = .ok (.aload_n 0, 1) := by decide +kernel
theorem dL_law_493 : decode cL_law 493 = .ok (.iload_n 3, 1) := by decide +kernel
theorem dL_law_494 : decode cL_law 494 = .ok (.iconst 2, 1) := by decide +kernel
theorem dL_law_495 : decode cL_law 495 = .ok (.iadd, 1) := by decide +kernel
theorem dL_law_496 : decode cL_law 496 = .ok (.iaload, 1) := by decide +kernel
theorem dL_law_497 : decode cL_law 497 = .ok (.invokevirtual 75, 3) := by decide +kernel
theorem dL_law_500 : decode cL_law 500 = .ok (.if_icmp .eq 38, 3) := by decide +kernel
theorem dL_law_503 : decode cL_law 503 = .ok (.iconst 0, 1) := by decide +kernel
theorem dL_law_504 : decode cL_law 504 = .ok (.ireturn, 1) := by decide +kernel
theorem dL_law_505 : decode cL_law 505 = .ok (.aload_n 1, 1) := by decide +kernel
theorem dL_law_506 : decode cL_law 506 = .ok (.aload_n 0, 1) := by decide +kernel
theorem dL_law_507 : decode cL_law 507 = .ok (.iload_n 3, 1) := by decide +kernel
theorem dL_law_508 : decode cL_law 508 = .ok (.iconst 1, 1) := by decide +kernel
theorem dL_law_509 : decode cL_law 509 = .ok (.iadd, 1) := by decide +kernel
theorem dL_law_510 : decode cL_law 510 = .ok (.iaload, 1) := by decide +kernel
theorem dL_law_511 : decode cL_law 511 = .ok (.aload_n 0, 1) := by decide +kernel
theorem dL_law_512 : decode cL_law 512 = .ok (.iload_n 3, 1) := by decide +kernel
theorem dL_law_513 : decode cL_law 513 = .ok (.iconst 2, 1) := by decide +kernel
theorem dL_law_514 : decode cL_law 514 = .ok (.iadd, 1) := by decide +kernel
theorem dL_law_515 : decode cL_law 515 = .ok (.iaload, 1) := by decide +kernel
theorem dL_law_516 : decode cL_law 516 = .ok (.invokevirtual 76, 3) := by decide +kernel
theorem dL_law_519 : decode cL_law 519 = .ok (.aload_n 2, 1) := by decide +kernel
theorem dL_law_520 : decode cL_law 520 = .ok (.aload_n 0, 1) := by decide +kernel
theorem dL_law_521 : decode cL_law 521 = .ok (.iload_n 3, 1) := by decide +kernel
theorem dL_law_522 : decode cL_law 522 = .ok (.iconst 1, 1) := by decide +kernel
theorem dL_law_523 : decode cL_law 523 = .ok (.iadd, 1) := by decide +kernel
theorem dL_law_524 : decode cL_law 524 = .ok (.iaload, 1) := by decide +kernel
theorem dL_law_525 : decode cL_law 525 = .ok (.aload_n 0, 1) := by decide +kernel
theorem dL_law_526 : decode cL_law 526 = .ok (.iload_n 3, 1) := by decide +kernel
theorem dL_law_527 : decode cL_law 527 = .ok (.iconst 2, 1) := by decide +kernel
theorem dL_law_528 : decode cL_law 528 = .ok (.iadd, 1) := by decide +kernel
theorem dL_law_529 : decode cL_law 529 = .ok (.iaload, 1) := by decide +kernel
theorem dL_law_530 : decode cL_law 530 = .ok (.invokevirtual 79, 3) := by decide +kernel
theorem dL_law_533 : decode cL_law 533 = .ok (.if_icmp .eq 5, 3) := by decide +kernel
theorem dL_law_536 : decode cL_law 536 = .ok (.iconst 0, 1) := by decide +kernel
theorem dL_law_537 : decode cL_law 537 = .ok (.ireturn, 1) := by decide +kernel
theorem dL_law_538 : decode cL_law 538 = .ok (.iinc 3 3, 3) := by decide +kernel
theorem dL_law_541 : decode cL_law 541 = .ok (.goto (-523), 3) := by decide +kernel
theorem dL_law_544 : decode cL_law 544 = .ok (.iconst 1, 1) := by decide +kernel
theorem dL_law_545 : decode cL_law 545 = .ok (.ireturn, 1) := by decide +kernel
def B_L_law_538 (cx : rd_Cx) (w : rd_W) (k18 : Nat → Nat → Int32 → rd_S → Option (Int32)) (a1 : Nat) (a2 : Nat) (x3 : Int32) (S : rd_S) : Option (Int32) :=
  rd_let (x3 + 3) fun v13 =>
  k18 a1 a2 v13 S
theorem yb_L_law_538 (cx : rd_Cx) (w : rd_W) (kc ks : Nat) (hkc : kc ≤ 600000) (hks : ks ≤ 7302250) {k18 : Nat → Nat → Int32 → rd_S → Option (Int32)} (hk18 : ∀ (a1 : Nat) (a2 : Nat) (x3 : Int32) (ha1 : rd_ok w a1 11) (ha2 : rd_ok w a2 12) (S : rd_S), rd_Y cx G_L_law (rd_LQ cx) (k18 a1 a2 x3 S) 18 [(0, .inr (some 1000000)), (1, .inr (some a1)), (2, .inr (some a2)), (3, .inl x3)] [] w S kc ks) (a1 : Nat) (a2 : Nat) (x3 : Int32) (ha1 : rd_ok w a1 11) (ha2 : rd_ok w a2 12) (S : rd_S) : rd_Y cx G_L_law (rd_LQ cx) (B_L_law_538 cx w k18 a1 a2 x3 S) 538 [(0, .inr (some 1000000)), (1, .inr (some a1)), (2, .inr (some a2)), (3, .inl x3)] [] w S kc ks := by
  unfold B_L_law_538
  refine ry_iinc (v := 3) dL_law_538 rfl (by decide) (by decide) ?_
  refine ry_let (fun v13 => ?_)
  refine ry_goto 18 dL_law_541 (by decide) ?_
  exact ry_to (hk18 a1 a2 v13 ha1 ha2 S) ⟨rfl, rfl, rfl, rfl, trivial⟩
def B_L_law_18 (cx : rd_Cx) (w : rd_W) (k18 : Nat → Nat → Int32 → rd_S → Option (Int32)) (a1 : Nat) (a2 : Nat) (x3 : Int32) (S : rd_S) : Option (Int32) :=
  if ((nI (xL cx)) - 3) < x3 then
  (some 1)
  else
  (rd_i x3 (xL cx) <|
  rd_let ((xX cx x3.toNatClampNeg) &&& 15) fun v2 =>
  if v2 = 0 then
  (rd_let (x3 + 1) fun v4 =>
  rd_i v4 (xL cx) <|
  rd_let (x3 + 2) fun v5 =>
  rd_i v5 (xL cx) <|
  rd_b (F_X11_feed w a1 (xX cx v4.toNatClampNeg) (xX cx v5.toNatClampNeg) S) fun v7 s6 =>
  rd_let (x3 + 1) fun v8 =>
  rd_i v8 (xL cx) <|
  rd_let (x3 + 2) fun v9 =>
  rd_i v9 (xL cx) <|
  rd_b (F_X12_feed w a2 (xX cx v8.toNatClampNeg) (xX cx v9.toNatClampNeg) s6) fun v11 s10 =>
  if v7 = v11 then
  (B_L_law_538 cx w k18 a1 a2 x3 s10)
  else
  (some 0))
  else
  if v2 = 1 then
  (rd_let (x3 + 1) fun v15 =>
  rd_i v15 (xL cx) <|
  rd_let (x3 + 2) fun v16 =>
  rd_i v16 (xL cx) <|
  rd_b (F_X11_block w a1 (xX cx v15.toNatClampNeg) (xX cx v16.toNatClampNeg) S) fun v18 s17 =>
  rd_let (x3 + 1) fun v19 =>
  rd_i v19 (xL cx) <|
  rd_let (x3 + 2) fun v20 =>
  rd_i v20 (xL cx) <|
  rd_b (F_X12_block w a2 (xX cx v19.toNatClampNeg) (xX cx v20.toNatClampNeg) s17) fun v22 s21 =>
  if v18 = v22 then
  (B_L_law_538 cx w k18 a1 a2 x3 s21)
  else
  (some 0))
  else
  if v2 = 2 then
  (rd_let (x3 + 1) fun v25 =>
  rd_i v25 (xL cx) <|
  rd_let (x3 + 2) fun v26 =>
  rd_i v26 (xL cx) <|
  rd_b (F_X11_set w a1 (xX cx v25.toNatClampNeg) (xX cx v26.toNatClampNeg) S) fun v28 s27 =>
  rd_let (x3 + 1) fun v29 =>
  rd_i v29 (xL cx) <|
  rd_let (x3 + 2) fun v30 =>
  rd_i v30 (xL cx) <|
  rd_b (F_X12_set w a2 (xX cx v29.toNatClampNeg) (xX cx v30.toNatClampNeg) s27) fun v32 s31 =>
  if v28 = v32 then
  (B_L_law_538 cx w k18 a1 a2 x3 s31)
  else
  (some 0))
  else
  if v2 = 3 then
  (rd_c (F_X11_forget w a1 S) fun s35 =>
  rd_c (F_X12_forget w a2 s35) fun s36 =>
  B_L_law_538 cx w k18 a1 a2 x3 s36)
  else
  if v2 = 4 then
  (rd_let (x3 + 1) fun v38 =>
  rd_i v38 (xL cx) <|
  rd_b (F_X11_state w a1 (xX cx v38.toNatClampNeg) S) fun v40 s39 =>
  rd_let (x3 + 1) fun v41 =>
  rd_i v41 (xL cx) <|
  rd_b (F_X12_state w a2 (xX cx v41.toNatClampNeg) s39) fun v43 s42 =>
  if v40 = v43 then
  (B_L_law_538 cx w k18 a1 a2 x3 s42)
  else
  (some 0))
  else
  if v2 = 5 then
  (rd_let (x3 + 1) fun v46 =>
  rd_i v46 (xL cx) <|
  rd_b (F_X11_group w a1 (xX cx v46.toNatClampNeg) S) fun v48 s47 =>
  rd_let (x3 + 1) fun v49 =>
  rd_i v49 (xL cx) <|
  rd_b (F_X12_group w a2 (xX cx v49.toNatClampNeg) s47) fun v51 s50 =>
  if v48 = v51 then
  (B_L_law_538 cx w k18 a1 a2 x3 s50)
  else
  (some 0))
  else
  if v2 = 6 then
  (rd_let (x3 + 1) fun v54 =>
  rd_i v54 (xL cx) <|
  rd_b (F_X11_programme w a1 (xX cx v54.toNatClampNeg) S) fun v56 s55 =>
  rd_let (x3 + 1) fun v57 =>
  rd_i v57 (xL cx) <|
  rd_b (F_X12_programme w a2 (xX cx v57.toNatClampNeg) s55) fun v59 s58 =>
  if v56 = v59 then
  (B_L_law_538 cx w k18 a1 a2 x3 s58)
  else
  (some 0))
  else
  if v2 = 7 then
  (rd_let (x3 + 1) fun v62 =>
  rd_i v62 (xL cx) <|
  rd_b (F_X11_reports w a1 (xX cx v62.toNatClampNeg) S) fun v64 s63 =>
  rd_let (x3 + 1) fun v65 =>
  rd_i v65 (xL cx) <|
  rd_b (F_X12_reports w a2 (xX cx v65.toNatClampNeg) s63) fun v67 s66 =>
  if v64 = v67 then
  (B_L_law_538 cx w k18 a1 a2 x3 s66)
  else
  (some 0))
  else
  if v2 = 8 then
  (rd_let (x3 + 1) fun v70 =>
  rd_i v70 (xL cx) <|
  rd_let (x3 + 2) fun v71 =>
  rd_i v71 (xL cx) <|
  rd_b (F_X11_letter w a1 (xX cx v70.toNatClampNeg) (xX cx v71.toNatClampNeg) S) fun v73 s72 =>
  rd_let (x3 + 1) fun v74 =>
  rd_i v74 (xL cx) <|
  rd_let (x3 + 2) fun v75 =>
  rd_i v75 (xL cx) <|
  rd_b (F_X12_letter w a2 (xX cx v74.toNatClampNeg) (xX cx v75.toNatClampNeg) s72) fun v77 s76 =>
  if v73 = v77 then
  (B_L_law_538 cx w k18 a1 a2 x3 s76)
  else
  (some 0))
  else
  if v2 = 9 then
  (rd_let (x3 + 1) fun v80 =>
  rd_i v80 (xL cx) <|
  rd_b (F_X11_marks w a1 (xX cx v80.toNatClampNeg) S) fun v82 s81 =>
  rd_let (x3 + 1) fun v83 =>
  rd_i v83 (xL cx) <|
  rd_b (F_X12_marks w a2 (xX cx v83.toNatClampNeg) s81) fun v85 s84 =>
  if v82 = v85 then
  (B_L_law_538 cx w k18 a1 a2 x3 s84)
  else
  (some 0))
  else
  if v2 = 10 then
  (rd_let (x3 + 1) fun v88 =>
  rd_i v88 (xL cx) <|
  rd_b (F_X11_frequency w a1 (xX cx v88.toNatClampNeg) S) fun v90 s89 =>
  rd_let (x3 + 1) fun v91 =>
  rd_i v91 (xL cx) <|
  rd_b (F_X12_frequency w a2 (xX cx v91.toNatClampNeg) s89) fun v93 s92 =>
  if v90 = v93 then
  (B_L_law_538 cx w k18 a1 a2 x3 s92)
  else
  (some 0))
  else
  if v2 = 11 then
  (rd_let (x3 + 1) fun v96 =>
  rd_i v96 (xL cx) <|
  rd_b (F_X11_time w a1 (xX cx v96.toNatClampNeg) S) fun v98 s97 =>
  rd_let (x3 + 1) fun v99 =>
  rd_i v99 (xL cx) <|
  rd_b (F_X12_time w a2 (xX cx v99.toNatClampNeg) s97) fun v101 s100 =>
  if v98 = v101 then
  (B_L_law_538 cx w k18 a1 a2 x3 s100)
  else
  (some 0))
  else
  if v2 = 12 then
  (rd_let (x3 + 1) fun v104 =>
  rd_i v104 (xL cx) <|
  rd_let (x3 + 2) fun v105 =>
  rd_i v105 (xL cx) <|
  rd_b (F_X11_oda w a1 (xX cx v104.toNatClampNeg) (xX cx v105.toNatClampNeg) S) fun v107 s106 =>
  rd_let (x3 + 1) fun v108 =>
  rd_i v108 (xL cx) <|
  rd_let (x3 + 2) fun v109 =>
  rd_i v109 (xL cx) <|
  rd_b (F_X12_oda w a2 (xX cx v108.toNatClampNeg) (xX cx v109.toNatClampNeg) s106) fun v111 s110 =>
  if v107 = v111 then
  (B_L_law_538 cx w k18 a1 a2 x3 s110)
  else
  (some 0))
  else
  if v2 = 13 then
  (rd_let (x3 + 1) fun v114 =>
  rd_i v114 (xL cx) <|
  rd_b (F_X11_tag w a1 (xX cx v114.toNatClampNeg) S) fun v116 s115 =>
  rd_let (x3 + 1) fun v117 =>
  rd_i v117 (xL cx) <|
  rd_b (F_X12_tag w a2 (xX cx v117.toNatClampNeg) s115) fun v119 s118 =>
  if v116 = v119 then
  (B_L_law_538 cx w k18 a1 a2 x3 s118)
  else
  (some 0))
  else
  if v2 = 14 then
  (rd_let (x3 + 1) fun v122 =>
  rd_i v122 (xL cx) <|
  rd_let (x3 + 2) fun v123 =>
  rd_i v123 (xL cx) <|
  rd_b (F_X11_other w a1 (xX cx v122.toNatClampNeg) (xX cx v123.toNatClampNeg) S) fun v125 s124 =>
  rd_let (x3 + 1) fun v126 =>
  rd_i v126 (xL cx) <|
  rd_let (x3 + 2) fun v127 =>
  rd_i v127 (xL cx) <|
  rd_b (F_X12_other w a2 (xX cx v126.toNatClampNeg) (xX cx v127.toNatClampNeg) s124) fun v129 s128 =>
  if v125 = v129 then
  (B_L_law_538 cx w k18 a1 a2 x3 s128)
  else
  (some 0))
  else
  if v2 = 15 then
  (rd_let (x3 + 1) fun v132 =>
  rd_i v132 (xL cx) <|
  rd_let (x3 + 2) fun v133 =>
  rd_i v133 (xL cx) <|
  rd_b (F_X11_otherLetter w a1 (xX cx v132.toNatClampNeg) (xX cx v133.toNatClampNeg) S) fun v135 s134 =>
  rd_let (x3 + 1) fun v136 =>
  rd_i v136 (xL cx) <|
  rd_let (x3 + 2) fun v137 =>
  rd_i v137 (xL cx) <|
  rd_b (F_X12_otherLetter w a2 (xX cx v136.toNatClampNeg) (xX cx v137.toNatClampNeg) s134) fun v139 s138 =>
  if v135 = v139 then
  (B_L_law_538 cx w k18 a1 a2 x3 s138)
  else
  (some 0))
  else
  (B_L_law_538 cx w k18 a1 a2 x3 S))
theorem yb_L_law_18 (cx : rd_Cx) (w : rd_W) (kc ks : Nat) (hkc : kc ≤ 600000) (hks : ks ≤ 7302250) {k18 : Nat → Nat → Int32 → rd_S → Option (Int32)} (hk18 : ∀ (a1 : Nat) (a2 : Nat) (x3 : Int32) (ha1 : rd_ok w a1 11) (ha2 : rd_ok w a2 12) (S : rd_S), rd_Y cx G_L_law (rd_LQ cx) (k18 a1 a2 x3 S) 18 [(0, .inr (some 1000000)), (1, .inr (some a1)), (2, .inr (some a2)), (3, .inl x3)] [] w S kc ks) (a1 : Nat) (a2 : Nat) (x3 : Int32) (ha1 : rd_ok w a1 11) (ha2 : rd_ok w a2 12) (S : rd_S) : rd_Y cx G_L_law (rd_LQ cx) (B_L_law_18 cx w k18 a1 a2 x3 S) 18 [(0, .inr (some 1000000)), (1, .inr (some a1)), (2, .inr (some a2)), (3, .inl x3)] [] w S kc ks := by
  unfold B_L_law_18
  refine ry_iload_n dL_law_18 rfl ?_
  refine ry_aload_n dL_law_19 rfl ?_
  refine ry_slen dL_law_20 ?_
  refine ry_iconst (v := 3) dL_law_21 (by decide) ?_
  refine ry_isub dL_law_22 ?_
  refine ry_icmp_gt 544 dL_law_23 (by decide) (fun c1 => ?_) (fun c1 => ?_)
  · refine ry_iconst (v := 1) dL_law_544 (by decide) ?_
    exact ry_lawret dL_law_545 hkc hks
  · refine ry_aload_n dL_law_26 rfl ?_
    refine ry_iload_n dL_law_27 rfl ?_
    refine ry_sld dL_law_28 ?_
    refine ry_bipush (v := 15) dL_law_29 (by decide) ?_
    refine ry_iand dL_law_31 ?_
    refine ry_lets (fun v2 => ?_)
    refine ry_split _ (fun c3 => ?_) (fun c3 => ?_)
    · refine ry_tsIn 112 0 c3 dL_law_32 (by decide) (by decide) rfl (by decide) ?_
      refine ry_aload_n dL_law_112 rfl ?_
      refine ry_aload_n dL_law_113 rfl ?_
      refine ry_iload_n dL_law_114 rfl ?_
      refine ry_iconst (v := 1) dL_law_115 (by decide) ?_
      refine ry_iadd dL_law_116 ?_
      refine ry_lets (fun v4 => ?_)
      refine ry_sld dL_law_117 ?_
      refine ry_aload_n dL_law_118 rfl ?_
      refine ry_iload_n dL_law_119 rfl ?_
      refine ry_iconst (v := 2) dL_law_120 (by decide) ?_
      refine ry_iadd dL_law_121 ?_
      refine ry_lets (fun v5 => ?_)
      refine ry_sld dL_law_122 ?_
      refine ry_callI (fun l r9 h9 => cm_X11_feed l cx w a1 (xX cx v4.toNatClampNeg) (xX cx v5.toNatClampNeg) ha1 S r9 h9) (rd_runV (vs := [.inl (xX cx v4.toNatClampNeg), .inl (xX cx v5.toNatClampNeg)]) dL_law_123 ha1 rfl rfl yf_X11_feed mi_X11_feed ms_X11_feed ml_RL_13 ⟨Nat.le_of_ble_eq_true rfl, Nat.le_of_ble_eq_true rfl⟩ (Nat.le_of_ble_eq_true rfl) rfl) rfl rfl hkc hks (fun v7 s6 => ?_)
      refine ry_aload_n dL_law_126 rfl ?_
      refine ry_aload_n dL_law_127 rfl ?_
      refine ry_iload_n dL_law_128 rfl ?_
      refine ry_iconst (v := 1) dL_law_129 (by decide) ?_
      refine ry_iadd dL_law_130 ?_
      refine ry_lets (fun v8 => ?_)
      refine ry_sld dL_law_131 ?_
      refine ry_aload_n dL_law_132 rfl ?_
      refine ry_iload_n dL_law_133 rfl ?_
      refine ry_iconst (v := 2) dL_law_134 (by decide) ?_
      refine ry_iadd dL_law_135 ?_
      refine ry_lets (fun v9 => ?_)
      refine ry_sld dL_law_136 ?_
      refine ry_callI (fun l r9 h9 => cm_X12_feed l cx w a2 (xX cx v8.toNatClampNeg) (xX cx v9.toNatClampNeg) ha2 s6 r9 h9) (rd_runV (vs := [.inl (xX cx v8.toNatClampNeg), .inl (xX cx v9.toNatClampNeg)]) dL_law_137 ha2 rfl rfl yf_X12_feed mi_X12_feed ms_X12_feed ml_RL_17 ⟨Nat.le_of_ble_eq_true rfl, Nat.le_of_ble_eq_true rfl⟩ (Nat.le_of_ble_eq_true rfl) rfl) rfl rfl hkc hks (fun v11 s10 => ?_)
      refine ry_icmp_eq 538 dL_law_140 (by decide) (fun c12 => ?_) (fun c12 => ?_)
      · exact ry_to (yb_L_law_538 cx w kc ks hkc hks (k18 := k18) hk18 a1 a2 x3 ha1 ha2 s10) ⟨rfl, rfl, rfl, rfl, trivial⟩
      · refine ry_iconst (v := 0) dL_law_143 (by decide) ?_
        exact ry_lawret dL_law_144 hkc hks
    refine ry_split _ (fun c14 => ?_) (fun c14 => ?_)
    · refine ry_tsIn 145 1 c14 dL_law_32 (by decide) (by decide) rfl (by decide) ?_
      refine ry_aload_n dL_law_145 rfl ?_
      refine ry_aload_n dL_law_146 rfl ?_
      refine ry_iload_n dL_law_147 rfl ?_
      refine ry_iconst (v := 1) dL_law_148 (by decide) ?_
      refine ry_iadd dL_law_149 ?_
      refine ry_lets (fun v15 => ?_)
      refine ry_sld dL_law_150 ?_
      refine ry_aload_n dL_law_151 rfl ?_
      refine ry_iload_n dL_law_152 rfl ?_
      refine ry_iconst (v := 2) dL_law_153 (by decide) ?_
      refine ry_iadd dL_law_154 ?_
      refine ry_lets (fun v16 => ?_)
      refine ry_sld dL_law_155 ?_
      refine ry_callI (fun l r9 h9 => cm_X11_block l cx w a1 (xX cx v15.toNatClampNeg) (xX cx v16.toNatClampNeg) ha1 S r9 h9) (rd_runV (vs := [.inl (xX cx v15.toNatClampNeg), .inl (xX cx v16.toNatClampNeg)]) dL_law_156 ha1 rfl rfl yf_X11_block mi_X11_block ms_X11_block ml_RL_18 ⟨Nat.le_of_ble_eq_true rfl, Nat.le_of_ble_eq_true rfl⟩ (Nat.le_of_ble_eq_true rfl) rfl) rfl rfl hkc hks (fun v18 s17 => ?_)
      refine ry_aload_n dL_law_159 rfl ?_
      refine ry_aload_n dL_law_160 rfl ?_
      refine ry_iload_n dL_law_161 rfl ?_
      refine ry_iconst (v := 1) dL_law_162 (by decide) ?_
      refine ry_iadd dL_law_163 ?_
      refine ry_lets (fun v19 => ?_)
      refine ry_sld dL_law_164 ?_
      refine ry_aload_n dL_law_165 rfl ?_
      refine ry_iload_n dL_law_166 rfl ?_
      refine ry_iconst (v := 2) dL_law_167 (by decide) ?_
      refine ry_iadd dL_law_168 ?_
      refine ry_lets (fun v20 => ?_)
      refine ry_sld dL_law_169 ?_
      refine ry_callI (fun l r9 h9 => cm_X12_block l cx w a2 (xX cx v19.toNatClampNeg) (xX cx v20.toNatClampNeg) ha2 s17 r9 h9) (rd_runV (vs := [.inl (xX cx v19.toNatClampNeg), .inl (xX cx v20.toNatClampNeg)]) dL_law_170 ha2 rfl rfl yf_X12_block mi_X12_block ms_X12_block ml_RL_22 ⟨Nat.le_of_ble_eq_true rfl, Nat.le_of_ble_eq_true rfl⟩ (Nat.le_of_ble_eq_true rfl) rfl) rfl rfl hkc hks (fun v22 s21 => ?_)
      refine ry_icmp_eq 538 dL_law_173 (by decide) (fun c23 => ?_) (fun c23 => ?_)
      · exact ry_to (yb_L_law_538 cx w kc ks hkc hks (k18 := k18) hk18 a1 a2 x3 ha1 ha2 s21) ⟨rfl, rfl, rfl, rfl, trivial⟩
      · refine ry_iconst (v := 0) dL_law_176 (by decide) ?_
        exact ry_lawret dL_law_177 hkc hks
    refine ry_split _ (fun c24 => ?_) (fun c24 => ?_)
    · refine ry_tsIn 178 2 c24 dL_law_32 (by decide) (by decide) rfl (by decide) ?_
      refine ry_aload_n dL_law_178 rfl ?_
      refine ry_aload_n dL_law_179 rfl ?_
      refine ry_iload_n dL_law_180 rfl ?_
      refine ry_iconst (v := 1) dL_law_181 (by decide) ?_
      refine ry_iadd dL_law_182 ?_
      refine ry_lets (fun v25 => ?_)
      refine ry_sld dL_law_183 ?_
      refine ry_aload_n dL_law_184 rfl ?_
      refine ry_iload_n dL_law_185 rfl ?_
      refine ry_iconst (v := 2) dL_law_186 (by decide) ?_
      refine ry_iadd dL_law_187 ?_
      refine ry_lets (fun v26 => ?_)
      refine ry_sld dL_law_188 ?_
      refine ry_callI (fun l r9 h9 => cm_X11_set l cx w a1 (xX cx v25.toNatClampNeg) (xX cx v26.toNatClampNeg) ha1 S r9 h9) (rd_runV (vs := [.inl (xX cx v25.toNatClampNeg), .inl (xX cx v26.toNatClampNeg)]) dL_law_189 ha1 rfl rfl yf_X11_set mi_X11_set ms_X11_set ml_RL_23 ⟨Nat.le_of_ble_eq_true rfl, Nat.le_of_ble_eq_true rfl⟩ (Nat.le_of_ble_eq_true rfl) rfl) rfl rfl hkc hks (fun v28 s27 => ?_)
      refine ry_aload_n dL_law_192 rfl ?_
      refine ry_aload_n dL_law_193 rfl ?_
      refine ry_iload_n dL_law_194 rfl ?_
      refine ry_iconst (v := 1) dL_law_195 (by decide) ?_
      refine ry_iadd dL_law_196 ?_
      refine ry_lets (fun v29 => ?_)
      refine ry_sld dL_law_197 ?_
      refine ry_aload_n dL_law_198 rfl ?_
      refine ry_iload_n dL_law_199 rfl ?_
      refine ry_iconst (v := 2) dL_law_200 (by decide) ?_
      refine ry_iadd dL_law_201 ?_
      refine ry_lets (fun v30 => ?_)
      refine ry_sld dL_law_202 ?_
      refine ry_callI (fun l r9 h9 => cm_X12_set l cx w a2 (xX cx v29.toNatClampNeg) (xX cx v30.toNatClampNeg) ha2 s27 r9 h9) (rd_runV (vs := [.inl (xX cx v29.toNatClampNeg), .inl (xX cx v30.toNatClampNeg)]) dL_law_203 ha2 rfl rfl yf_X12_set mi_X12_set ms_X12_set ml_RL_26 ⟨Nat.le_of_ble_eq_true rfl, Nat.le_of_ble_eq_true rfl⟩ (Nat.le_of_ble_eq_true rfl) rfl) rfl rfl hkc hks (fun v32 s31 => ?_)
      refine ry_icmp_eq 538 dL_law_206 (by decide) (fun c33 => ?_) (fun c33 => ?_)
      · exact ry_to (yb_L_law_538 cx w kc ks hkc hks (k18 := k18) hk18 a1 a2 x3 ha1 ha2 s31) ⟨rfl, rfl, rfl, rfl, trivial⟩
      · refine ry_iconst (v := 0) dL_law_209 (by decide) ?_
        exact ry_lawret dL_law_210 hkc hks
    refine ry_split _ (fun c34 => ?_) (fun c34 => ?_)
    · refine ry_tsIn 211 3 c34 dL_law_32 (by decide) (by decide) rfl (by decide) ?_
      refine ry_aload_n dL_law_211 rfl ?_
      refine ry_callv (fun l r9 h9 => cm_X11_forget l cx w a1 ha1 S r9 h9) (rd_runV (vs := []) dL_law_212 ha1 rfl rfl yf_X11_forget mi_X11_forget ms_X11_forget ml_RL_27 ⟨Nat.le_of_ble_eq_true rfl, Nat.le_of_ble_eq_true rfl⟩ (Nat.le_of_ble_eq_true rfl) rfl) rfl rfl hkc hks (fun s35 => ?_)
      refine ry_aload_n dL_law_215 rfl ?_
      refine ry_callv (fun l r9 h9 => cm_X12_forget l cx w a2 ha2 s35 r9 h9) (rd_runV (vs := []) dL_law_216 ha2 rfl rfl yf_X12_forget mi_X12_forget ms_X12_forget ml_RL_30 ⟨Nat.le_of_ble_eq_true rfl, Nat.le_of_ble_eq_true rfl⟩ (Nat.le_of_ble_eq_true rfl) rfl) rfl rfl hkc hks (fun s36 => ?_)
      refine ry_goto 538 dL_law_219 (by decide) ?_
      exact ry_to (yb_L_law_538 cx w kc ks hkc hks (k18 := k18) hk18 a1 a2 x3 ha1 ha2 s36) ⟨rfl, rfl, rfl, rfl, trivial⟩
    refine ry_split _ (fun c37 => ?_) (fun c37 => ?_)
    · refine ry_tsIn 222 4 c37 dL_law_32 (by decide) (by decide) rfl (by decide) ?_
      refine ry_aload_n dL_law_222 rfl ?_
      refine ry_aload_n dL_law_223 rfl ?_
      refine ry_iload_n dL_law_224 rfl ?_
      refine ry_iconst (v := 1) dL_law_225 (by decide) ?_
      refine ry_iadd dL_law_226 ?_
      refine ry_lets (fun v38 => ?_)
      refine ry_sld dL_law_227 ?_
      refine ry_callI (fun l r9 h9 => cm_X11_state l cx w a1 (xX cx v38.toNatClampNeg) ha1 S r9 h9) (rd_runV (vs := [.inl (xX cx v38.toNatClampNeg)]) dL_law_228 ha1 rfl rfl yf_X11_state mi_X11_state ms_X11_state ml_RL_31 ⟨Nat.le_of_ble_eq_true rfl, Nat.le_of_ble_eq_true rfl⟩ (Nat.le_of_ble_eq_true rfl) rfl) rfl rfl hkc hks (fun v40 s39 => ?_)
      refine ry_aload_n dL_law_231 rfl ?_
      refine ry_aload_n dL_law_232 rfl ?_
      refine ry_iload_n dL_law_233 rfl ?_
      refine ry_iconst (v := 1) dL_law_234 (by decide) ?_
      refine ry_iadd dL_law_235 ?_
      refine ry_lets (fun v41 => ?_)
      refine ry_sld dL_law_236 ?_
      refine ry_callI (fun l r9 h9 => cm_X12_state l cx w a2 (xX cx v41.toNatClampNeg) ha2 s39 r9 h9) (rd_runV (vs := [.inl (xX cx v41.toNatClampNeg)]) dL_law_237 ha2 rfl rfl yf_X12_state mi_X12_state ms_X12_state ml_RL_35 ⟨Nat.le_of_ble_eq_true rfl, Nat.le_of_ble_eq_true rfl⟩ (Nat.le_of_ble_eq_true rfl) rfl) rfl rfl hkc hks (fun v43 s42 => ?_)
      refine ry_icmp_eq 538 dL_law_240 (by decide) (fun c44 => ?_) (fun c44 => ?_)
      · exact ry_to (yb_L_law_538 cx w kc ks hkc hks (k18 := k18) hk18 a1 a2 x3 ha1 ha2 s42) ⟨rfl, rfl, rfl, rfl, trivial⟩
      · refine ry_iconst (v := 0) dL_law_243 (by decide) ?_
        exact ry_lawret dL_law_244 hkc hks
    refine ry_split _ (fun c45 => ?_) (fun c45 => ?_)
    · refine ry_tsIn 245 5 c45 dL_law_32 (by decide) (by decide) rfl (by decide) ?_
      refine ry_aload_n dL_law_245 rfl ?_
      refine ry_aload_n dL_law_246 rfl ?_
      refine ry_iload_n dL_law_247 rfl ?_
      refine ry_iconst (v := 1) dL_law_248 (by decide) ?_
      refine ry_iadd dL_law_249 ?_
      refine ry_lets (fun v46 => ?_)
      refine ry_sld dL_law_250 ?_
      refine ry_callI (fun l r9 h9 => cm_X11_group l cx w a1 (xX cx v46.toNatClampNeg) ha1 S r9 h9) (rd_runV (vs := [.inl (xX cx v46.toNatClampNeg)]) dL_law_251 ha1 rfl rfl yf_X11_group mi_X11_group ms_X11_group ml_RL_36 ⟨Nat.le_of_ble_eq_true rfl, Nat.le_of_ble_eq_true rfl⟩ (Nat.le_of_ble_eq_true rfl) rfl) rfl rfl hkc hks (fun v48 s47 => ?_)
      refine ry_aload_n dL_law_254 rfl ?_
      refine ry_aload_n dL_law_255 rfl ?_
      refine ry_iload_n dL_law_256 rfl ?_
      refine ry_iconst (v := 1) dL_law_257 (by decide) ?_
      refine ry_iadd dL_law_258 ?_
      refine ry_lets (fun v49 => ?_)
      refine ry_sld dL_law_259 ?_
      refine ry_callI (fun l r9 h9 => cm_X12_group l cx w a2 (xX cx v49.toNatClampNeg) ha2 s47 r9 h9) (rd_runV (vs := [.inl (xX cx v49.toNatClampNeg)]) dL_law_260 ha2 rfl rfl yf_X12_group mi_X12_group ms_X12_group ml_RL_39 ⟨Nat.le_of_ble_eq_true rfl, Nat.le_of_ble_eq_true rfl⟩ (Nat.le_of_ble_eq_true rfl) rfl) rfl rfl hkc hks (fun v51 s50 => ?_)
      refine ry_icmp_eq 538 dL_law_263 (by decide) (fun c52 => ?_) (fun c52 => ?_)
      · exact ry_to (yb_L_law_538 cx w kc ks hkc hks (k18 := k18) hk18 a1 a2 x3 ha1 ha2 s50) ⟨rfl, rfl, rfl, rfl, trivial⟩
      · refine ry_iconst (v := 0) dL_law_266 (by decide) ?_
        exact ry_lawret dL_law_267 hkc hks
    refine ry_split _ (fun c53 => ?_) (fun c53 => ?_)
    · refine ry_tsIn 268 6 c53 dL_law_32 (by decide) (by decide) rfl (by decide) ?_
      refine ry_aload_n dL_law_268 rfl ?_
      refine ry_aload_n dL_law_269 rfl ?_
      refine ry_iload_n dL_law_270 rfl ?_
      refine ry_iconst (v := 1) dL_law_271 (by decide) ?_
      refine ry_iadd dL_law_272 ?_
      refine ry_lets (fun v54 => ?_)
      refine ry_sld dL_law_273 ?_
      refine ry_callI (fun l r9 h9 => cm_X11_programme l cx w a1 (xX cx v54.toNatClampNeg) ha1 S r9 h9) (rd_runV (vs := [.inl (xX cx v54.toNatClampNeg)]) dL_law_274 ha1 rfl rfl yf_X11_programme mi_X11_programme ms_X11_programme ml_RL_40 ⟨Nat.le_of_ble_eq_true rfl, Nat.le_of_ble_eq_true rfl⟩ (Nat.le_of_ble_eq_true rfl) rfl) rfl rfl hkc hks (fun v56 s55 => ?_)
      refine ry_aload_n dL_law_277 rfl ?_
      refine ry_aload_n dL_law_278 rfl ?_
      refine ry_iload_n dL_law_279 rfl ?_
      refine ry_iconst (v := 1) dL_law_280 (by decide) ?_
      refine ry_iadd dL_law_281 ?_
      refine ry_lets (fun v57 => ?_)
      refine ry_sld dL_law_282 ?_
      refine ry_callI (fun l r9 h9 => cm_X12_programme l cx w a2 (xX cx v57.toNatClampNeg) ha2 s55 r9 h9) (rd_runV (vs := [.inl (xX cx v57.toNatClampNeg)]) dL_law_283 ha2 rfl rfl yf_X12_programme mi_X12_programme ms_X12_programme ml_RL_43 ⟨Nat.le_of_ble_eq_true rfl, Nat.le_of_ble_eq_true rfl⟩ (Nat.le_of_ble_eq_true rfl) rfl) rfl rfl hkc hks (fun v59 s58 => ?_)
      refine ry_icmp_eq 538 dL_law_286 (by decide) (fun c60 => ?_) (fun c60 => ?_)
      · exact ry_to (yb_L_law_538 cx w kc ks hkc hks (k18 := k18) hk18 a1 a2 x3 ha1 ha2 s58) ⟨rfl, rfl, rfl, rfl, trivial⟩
      · refine ry_iconst (v := 0) dL_law_289 (by decide) ?_
        exact ry_lawret dL_law_290 hkc hks
    refine ry_split _ (fun c61 => ?_) (fun c61 => ?_)
    · refine ry_tsIn 291 7 c61 dL_law_32 (by decide) (by decide) rfl (by decide) ?_
      refine ry_aload_n dL_law_291 rfl ?_
      refine ry_aload_n dL_law_292 rfl ?_
      refine ry_iload_n dL_law_293 rfl ?_
      refine ry_iconst (v := 1) dL_law_294 (by decide) ?_
      refine ry_iadd dL_law_295 ?_
      refine ry_lets (fun v62 => ?_)
      refine ry_sld dL_law_296 ?_
      refine ry_callI (fun l r9 h9 => cm_X11_reports l cx w a1 (xX cx v62.toNatClampNeg) ha1 S r9 h9) (rd_runV (vs := [.inl (xX cx v62.toNatClampNeg)]) dL_law_297 ha1 rfl rfl yf_X11_reports mi_X11_reports ms_X11_reports ml_RL_44 ⟨Nat.le_of_ble_eq_true rfl, Nat.le_of_ble_eq_true rfl⟩ (Nat.le_of_ble_eq_true rfl) rfl) rfl rfl hkc hks (fun v64 s63 => ?_)
      refine ry_aload_n dL_law_300 rfl ?_
      refine ry_aload_n dL_law_301 rfl ?_
      refine ry_iload_n dL_law_302 rfl ?_
      refine ry_iconst (v := 1) dL_law_303 (by decide) ?_
      refine ry_iadd dL_law_304 ?_
      refine ry_lets (fun v65 => ?_)
      refine ry_sld dL_law_305 ?_
      refine ry_callI (fun l r9 h9 => cm_X12_reports l cx w a2 (xX cx v65.toNatClampNeg) ha2 s63 r9 h9) (rd_runV (vs := [.inl (xX cx v65.toNatClampNeg)]) dL_law_306 ha2 rfl rfl yf_X12_reports mi_X12_reports ms_X12_reports ml_RL_47 ⟨Nat.le_of_ble_eq_true rfl, Nat.le_of_ble_eq_true rfl⟩ (Nat.le_of_ble_eq_true rfl) rfl) rfl rfl hkc hks (fun v67 s66 => ?_)
      refine ry_icmp_eq 538 dL_law_309 (by decide) (fun c68 => ?_) (fun c68 => ?_)
      · exact ry_to (yb_L_law_538 cx w kc ks hkc hks (k18 := k18) hk18 a1 a2 x3 ha1 ha2 s66) ⟨rfl, rfl, rfl, rfl, trivial⟩
      · refine ry_iconst (v := 0) dL_law_312 (by decide) ?_
        exact ry_lawret dL_law_313 hkc hks
    refine ry_split _ (fun c69 => ?_) (fun c69 => ?_)
    · refine ry_tsIn 314 8 c69 dL_law_32 (by decide) (by decide) rfl (by decide) ?_
      refine ry_aload_n dL_law_314 rfl ?_
      refine ry_aload_n dL_law_315 rfl ?_
      refine ry_iload_n dL_law_316 rfl ?_
      refine ry_iconst (v := 1) dL_law_317 (by decide) ?_
      refine ry_iadd dL_law_318 ?_
      refine ry_lets (fun v70 => ?_)
      refine ry_sld dL_law_319 ?_
      refine ry_aload_n dL_law_320 rfl ?_
      refine ry_iload_n dL_law_321 rfl ?_
      refine ry_iconst (v := 2) dL_law_322 (by decide) ?_
      refine ry_iadd dL_law_323 ?_
      refine ry_lets (fun v71 => ?_)
      refine ry_sld dL_law_324 ?_
      refine ry_callI (fun l r9 h9 => cm_X11_letter l cx w a1 (xX cx v70.toNatClampNeg) (xX cx v71.toNatClampNeg) ha1 S r9 h9) (rd_runV (vs := [.inl (xX cx v70.toNatClampNeg), .inl (xX cx v71.toNatClampNeg)]) dL_law_325 ha1 rfl rfl yf_X11_letter mi_X11_letter ms_X11_letter ml_RL_48 ⟨Nat.le_of_ble_eq_true rfl, Nat.le_of_ble_eq_true rfl⟩ (Nat.le_of_ble_eq_true rfl) rfl) rfl rfl hkc hks (fun v73 s72 => ?_)
      refine ry_aload_n dL_law_328 rfl ?_
      refine ry_aload_n dL_law_329 rfl ?_
      refine ry_iload_n dL_law_330 rfl ?_
      refine ry_iconst (v := 1) dL_law_331 (by decide) ?_
      refine ry_iadd dL_law_332 ?_
      refine ry_lets (fun v74 => ?_)
      refine ry_sld dL_law_333 ?_
      refine ry_aload_n dL_law_334 rfl ?_
      refine ry_iload_n dL_law_335 rfl ?_
      refine ry_iconst (v := 2) dL_law_336 (by decide) ?_
      refine ry_iadd dL_law_337 ?_
      refine ry_lets (fun v75 => ?_)
      refine ry_sld dL_law_338 ?_
      refine ry_callI (fun l r9 h9 => cm_X12_letter l cx w a2 (xX cx v74.toNatClampNeg) (xX cx v75.toNatClampNeg) ha2 s72 r9 h9) (rd_runV (vs := [.inl (xX cx v74.toNatClampNeg), .inl (xX cx v75.toNatClampNeg)]) dL_law_339 ha2 rfl rfl yf_X12_letter mi_X12_letter ms_X12_letter ml_RL_51 ⟨Nat.le_of_ble_eq_true rfl, Nat.le_of_ble_eq_true rfl⟩ (Nat.le_of_ble_eq_true rfl) rfl) rfl rfl hkc hks (fun v77 s76 => ?_)
      refine ry_icmp_eq 538 dL_law_342 (by decide) (fun c78 => ?_) (fun c78 => ?_)
      · exact ry_to (yb_L_law_538 cx w kc ks hkc hks (k18 := k18) hk18 a1 a2 x3 ha1 ha2 s76) ⟨rfl, rfl, rfl, rfl, trivial⟩
      · refine ry_iconst (v := 0) dL_law_345 (by decide) ?_
        exact ry_lawret dL_law_346 hkc hks
    refine ry_split _ (fun c79 => ?_) (fun c79 => ?_)
    · refine ry_tsIn 347 9 c79 dL_law_32 (by decide) (by decide) rfl (by decide) ?_
      refine ry_aload_n dL_law_347 rfl ?_
      refine ry_aload_n dL_law_348 rfl ?_
      refine ry_iload_n dL_law_349 rfl ?_
      refine ry_iconst (v := 1) dL_law_350 (by decide) ?_
      refine ry_iadd dL_law_351 ?_
      refine ry_lets (fun v80 => ?_)
      refine ry_sld dL_law_352 ?_
      refine ry_callI (fun l r9 h9 => cm_X11_marks l cx w a1 (xX cx v80.toNatClampNeg) ha1 S r9 h9) (rd_runV (vs := [.inl (xX cx v80.toNatClampNeg)]) dL_law_353 ha1 rfl rfl yf_X11_marks mi_X11_marks ms_X11_marks ml_RL_52 ⟨Nat.le_of_ble_eq_true rfl, Nat.le_of_ble_eq_true rfl⟩ (Nat.le_of_ble_eq_true rfl) rfl) rfl rfl hkc hks (fun v82 s81 => ?_)
      refine ry_aload_n dL_law_356 rfl ?_
      refine ry_aload_n dL_law_357 rfl ?_
      refine ry_iload_n dL_law_358 rfl ?_
      refine ry_iconst (v := 1) dL_law_359 (by decide) ?_
      refine ry_iadd dL_law_360 ?_
      refine ry_lets (fun v83 => ?_)
      refine ry_sld dL_law_361 ?_
      refine ry_callI (fun l r9 h9 => cm_X12_marks l cx w a2 (xX cx v83.toNatClampNeg) ha2 s81 r9 h9) (rd_runV (vs := [.inl (xX cx v83.toNatClampNeg)]) dL_law_362 ha2 rfl rfl yf_X12_marks mi_X12_marks ms_X12_marks ml_RL_55 ⟨Nat.le_of_ble_eq_true rfl, Nat.le_of_ble_eq_true rfl⟩ (Nat.le_of_ble_eq_true rfl) rfl) rfl rfl hkc hks (fun v85 s84 => ?_)
      refine ry_icmp_eq 538 dL_law_365 (by decide) (fun c86 => ?_) (fun c86 => ?_)
      · exact ry_to (yb_L_law_538 cx w kc ks hkc hks (k18 := k18) hk18 a1 a2 x3 ha1 ha2 s84) ⟨rfl, rfl, rfl, rfl, trivial⟩
      · refine ry_iconst (v := 0) dL_law_368 (by decide) ?_
        exact ry_lawret dL_law_369 hkc hks
    refine ry_split _ (fun c87 => ?_) (fun c87 => ?_)
    · refine ry_tsIn 370 10 c87 dL_law_32 (by decide) (by decide) rfl (by decide) ?_
      refine ry_aload_n dL_law_370 rfl ?_
      refine ry_aload_n dL_law_371 rfl ?_
      refine ry_iload_n dL_law_372 rfl ?_
      refine ry_iconst (v := 1) dL_law_373 (by decide) ?_
      refine ry_iadd dL_law_374 ?_
      refine ry_lets (fun v88 => ?_)
      refine ry_sld dL_law_375 ?_
      refine ry_callI (fun l r9 h9 => cm_X11_frequency l cx w a1 (xX cx v88.toNatClampNeg) ha1 S r9 h9) (rd_runV (vs := [.inl (xX cx v88.toNatClampNeg)]) dL_law_376 ha1 rfl rfl yf_X11_frequency mi_X11_frequency ms_X11_frequency ml_RL_56 ⟨Nat.le_of_ble_eq_true rfl, Nat.le_of_ble_eq_true rfl⟩ (Nat.le_of_ble_eq_true rfl) rfl) rfl rfl hkc hks (fun v90 s89 => ?_)
      refine ry_aload_n dL_law_379 rfl ?_
      refine ry_aload_n dL_law_380 rfl ?_
      refine ry_iload_n dL_law_381 rfl ?_
      refine ry_iconst (v := 1) dL_law_382 (by decide) ?_
      refine ry_iadd dL_law_383 ?_
      refine ry_lets (fun v91 => ?_)
      refine ry_sld dL_law_384 ?_
      refine ry_callI (fun l r9 h9 => cm_X12_frequency l cx w a2 (xX cx v91.toNatClampNeg) ha2 s89 r9 h9) (rd_runV (vs := [.inl (xX cx v91.toNatClampNeg)]) dL_law_385 ha2 rfl rfl yf_X12_frequency mi_X12_frequency ms_X12_frequency ml_RL_59 ⟨Nat.le_of_ble_eq_true rfl, Nat.le_of_ble_eq_true rfl⟩ (Nat.le_of_ble_eq_true rfl) rfl) rfl rfl hkc hks (fun v93 s92 => ?_)
      refine ry_icmp_eq 538 dL_law_388 (by decide) (fun c94 => ?_) (fun c94 => ?_)
      · exact ry_to (yb_L_law_538 cx w kc ks hkc hks (k18 := k18) hk18 a1 a2 x3 ha1 ha2 s92) ⟨rfl, rfl, rfl, rfl, trivial⟩
      · refine ry_iconst (v := 0) dL_law_391 (by decide) ?_
        exact ry_lawret dL_law_392 hkc hks
    refine ry_split _ (fun c95 => ?_) (fun c95 => ?_)
    · refine ry_tsIn 393 11 c95 dL_law_32 (by decide) (by decide) rfl (by decide) ?_
      refine ry_aload_n dL_law_393 rfl ?_
      refine ry_aload_n dL_law_394 rfl ?_
      refine ry_iload_n dL_law_395 rfl ?_
      refine ry_iconst (v := 1) dL_law_396 (by decide) ?_
      refine ry_iadd dL_law_397 ?_
      refine ry_lets (fun v96 => ?_)
      refine ry_sld dL_law_398 ?_
      refine ry_callI (fun l r9 h9 => cm_X11_time l cx w a1 (xX cx v96.toNatClampNeg) ha1 S r9 h9) (rd_runV (vs := [.inl (xX cx v96.toNatClampNeg)]) dL_law_399 ha1 rfl rfl yf_X11_time mi_X11_time ms_X11_time ml_RL_60 ⟨Nat.le_of_ble_eq_true rfl, Nat.le_of_ble_eq_true rfl⟩ (Nat.le_of_ble_eq_true rfl) rfl) rfl rfl hkc hks (fun v98 s97 => ?_)
      refine ry_aload_n dL_law_402 rfl ?_
      refine ry_aload_n dL_law_403 rfl ?_
      refine ry_iload_n dL_law_404 rfl ?_
      refine ry_iconst (v := 1) dL_law_405 (by decide) ?_
      refine ry_iadd dL_law_406 ?_
      refine ry_lets (fun v99 => ?_)
      refine ry_sld dL_law_407 ?_
      refine ry_callI (fun l r9 h9 => cm_X12_time l cx w a2 (xX cx v99.toNatClampNeg) ha2 s97 r9 h9) (rd_runV (vs := [.inl (xX cx v99.toNatClampNeg)]) dL_law_408 ha2 rfl rfl yf_X12_time mi_X12_time ms_X12_time ml_RL_63 ⟨Nat.le_of_ble_eq_true rfl, Nat.le_of_ble_eq_true rfl⟩ (Nat.le_of_ble_eq_true rfl) rfl) rfl rfl hkc hks (fun v101 s100 => ?_)
      refine ry_icmp_eq 538 dL_law_411 (by decide) (fun c102 => ?_) (fun c102 => ?_)
      · exact ry_to (yb_L_law_538 cx w kc ks hkc hks (k18 := k18) hk18 a1 a2 x3 ha1 ha2 s100) ⟨rfl, rfl, rfl, rfl, trivial⟩
      · refine ry_iconst (v := 0) dL_law_414 (by decide) ?_
        exact ry_lawret dL_law_415 hkc hks
    refine ry_split _ (fun c103 => ?_) (fun c103 => ?_)
    · refine ry_tsIn 416 12 c103 dL_law_32 (by decide) (by decide) rfl (by decide) ?_
      refine ry_aload_n dL_law_416 rfl ?_
      refine ry_aload_n dL_law_417 rfl ?_
      refine ry_iload_n dL_law_418 rfl ?_
      refine ry_iconst (v := 1) dL_law_419 (by decide) ?_
      refine ry_iadd dL_law_420 ?_
      refine ry_lets (fun v104 => ?_)
      refine ry_sld dL_law_421 ?_
      refine ry_aload_n dL_law_422 rfl ?_
      refine ry_iload_n dL_law_423 rfl ?_
      refine ry_iconst (v := 2) dL_law_424 (by decide) ?_
      refine ry_iadd dL_law_425 ?_
      refine ry_lets (fun v105 => ?_)
      refine ry_sld dL_law_426 ?_
      refine ry_callI (fun l r9 h9 => cm_X11_oda l cx w a1 (xX cx v104.toNatClampNeg) (xX cx v105.toNatClampNeg) ha1 S r9 h9) (rd_runV (vs := [.inl (xX cx v104.toNatClampNeg), .inl (xX cx v105.toNatClampNeg)]) dL_law_427 ha1 rfl rfl yf_X11_oda mi_X11_oda ms_X11_oda ml_RL_64 ⟨Nat.le_of_ble_eq_true rfl, Nat.le_of_ble_eq_true rfl⟩ (Nat.le_of_ble_eq_true rfl) rfl) rfl rfl hkc hks (fun v107 s106 => ?_)
      refine ry_aload_n dL_law_430 rfl ?_
      refine ry_aload_n dL_law_431 rfl ?_
      refine ry_iload_n dL_law_432 rfl ?_
      refine ry_iconst (v := 1) dL_law_433 (by decide) ?_
      refine ry_iadd dL_law_434 ?_
      refine ry_lets (fun v108 => ?_)
      refine ry_sld dL_law_435 ?_
      refine ry_aload_n dL_law_436 rfl ?_
      refine ry_iload_n dL_law_437 rfl ?_
      refine ry_iconst (v := 2) dL_law_438 (by decide) ?_
      refine ry_iadd dL_law_439 ?_
      refine ry_lets (fun v109 => ?_)
      refine ry_sld dL_law_440 ?_
      refine ry_callI (fun l r9 h9 => cm_X12_oda l cx w a2 (xX cx v108.toNatClampNeg) (xX cx v109.toNatClampNeg) ha2 s106 r9 h9) (rd_runV (vs := [.inl (xX cx v108.toNatClampNeg), .inl (xX cx v109.toNatClampNeg)]) dL_law_441 ha2 rfl rfl yf_X12_oda mi_X12_oda ms_X12_oda ml_RL_67 ⟨Nat.le_of_ble_eq_true rfl, Nat.le_of_ble_eq_true rfl⟩ (Nat.le_of_ble_eq_true rfl) rfl) rfl rfl hkc hks (fun v111 s110 => ?_)
      refine ry_icmp_eq 538 dL_law_444 (by decide) (fun c112 => ?_) (fun c112 => ?_)
      · exact ry_to (yb_L_law_538 cx w kc ks hkc hks (k18 := k18) hk18 a1 a2 x3 ha1 ha2 s110) ⟨rfl, rfl, rfl, rfl, trivial⟩
      · refine ry_iconst (v := 0) dL_law_447 (by decide) ?_
        exact ry_lawret dL_law_448 hkc hks
    refine ry_split _ (fun c113 => ?_) (fun c113 => ?_)
    · refine ry_tsIn 449 13 c113 dL_law_32 (by decide) (by decide) rfl (by decide) ?_
      refine ry_aload_n dL_law_449 rfl ?_
      refine ry_aload_n dL_law_450 rfl ?_
      refine ry_iload_n dL_law_451 rfl ?_
      refine ry_iconst (v := 1) dL_law_452 (by decide) ?_
      refine ry_iadd dL_law_453 ?_
      refine ry_lets (fun v114 => ?_)
      refine ry_sld dL_law_454 ?_
      refine ry_callI (fun l r9 h9 => cm_X11_tag l cx w a1 (xX cx v114.toNatClampNeg) ha1 S r9 h9) (rd_runV (vs := [.inl (xX cx v114.toNatClampNeg)]) dL_law_455 ha1 rfl rfl yf_X11_tag mi_X11_tag ms_X11_tag ml_RL_68 ⟨Nat.le_of_ble_eq_true rfl, Nat.le_of_ble_eq_true rfl⟩ (Nat.le_of_ble_eq_true rfl) rfl) rfl rfl hkc hks (fun v116 s115 => ?_)
      refine ry_aload_n dL_law_458 rfl ?_
      refine ry_aload_n dL_law_459 rfl ?_
      refine ry_iload_n dL_law_460 rfl ?_
      refine ry_iconst (v := 1) dL_law_461 (by decide) ?_
      refine ry_iadd dL_law_462 ?_
      refine ry_lets (fun v117 => ?_)
      refine ry_sld dL_law_463 ?_
      refine ry_callI (fun l r9 h9 => cm_X12_tag l cx w a2 (xX cx v117.toNatClampNeg) ha2 s115 r9 h9) (rd_runV (vs := [.inl (xX cx v117.toNatClampNeg)]) dL_law_464 ha2 rfl rfl yf_X12_tag mi_X12_tag ms_X12_tag ml_RL_71 ⟨Nat.le_of_ble_eq_true rfl, Nat.le_of_ble_eq_true rfl⟩ (Nat.le_of_ble_eq_true rfl) rfl) rfl rfl hkc hks (fun v119 s118 => ?_)
      refine ry_icmp_eq 538 dL_law_467 (by decide) (fun c120 => ?_) (fun c120 => ?_)
      · exact ry_to (yb_L_law_538 cx w kc ks hkc hks (k18 := k18) hk18 a1 a2 x3 ha1 ha2 s118) ⟨rfl, rfl, rfl, rfl, trivial⟩
      · refine ry_iconst (v := 0) dL_law_470 (by decide) ?_
        exact ry_lawret dL_law_471 hkc hks
    refine ry_split _ (fun c121 => ?_) (fun c121 => ?_)
    · refine ry_tsIn 472 14 c121 dL_law_32 (by decide) (by decide) rfl (by decide) ?_
      refine ry_aload_n dL_law_472 rfl ?_
      refine ry_aload_n dL_law_473 rfl ?_
      refine ry_iload_n dL_law_474 rfl ?_
      refine ry_iconst (v := 1) dL_law_475 (by decide) ?_
      refine ry_iadd dL_law_476 ?_
      refine ry_lets (fun v122 => ?_)
      refine ry_sld dL_law_477 ?_
      refine ry_aload_n dL_law_478 rfl ?_
      refine ry_iload_n dL_law_479 rfl ?_
      refine ry_iconst (v := 2) dL_law_480 (by decide) ?_
      refine ry_iadd dL_law_481 ?_
      refine ry_lets (fun v123 => ?_)
      refine ry_sld dL_law_482 ?_
      refine ry_callI (fun l r9 h9 => cm_X11_other l cx w a1 (xX cx v122.toNatClampNeg) (xX cx v123.toNatClampNeg) ha1 S r9 h9) (rd_runV (vs := [.inl (xX cx v122.toNatClampNeg), .inl (xX cx v123.toNatClampNeg)]) dL_law_483 ha1 rfl rfl yf_X11_other mi_X11_other ms_X11_other ml_RL_72 ⟨Nat.le_of_ble_eq_true rfl, Nat.le_of_ble_eq_true rfl⟩ (Nat.le_of_ble_eq_true rfl) rfl) rfl rfl hkc hks (fun v125 s124 => ?_)
      refine ry_aload_n dL_law_486 rfl ?_
      refine ry_aload_n dL_law_487 rfl ?_
      refine ry_iload_n dL_law_488 rfl ?_
      refine ry_iconst (v := 1) dL_law_489 (by decide) ?_
      refine ry_iadd dL_law_490 ?_
      refine ry_lets (fun v126 => ?_)
      refine ry_sld dL_law_491 ?_
      refine ry_aload_n dL_law_492 rfl ?_
      refine ry_iload_n dL_law_493 rfl ?_
      refine ry_iconst (v := 2) dL_law_494 (by decide) ?_
      refine ry_iadd dL_law_495 ?_
      refine ry_lets (fun v127 => ?_)
      refine ry_sld dL_law_496 ?_
      refine ry_callI (fun l r9 h9 => cm_X12_other l cx w a2 (xX cx v126.toNatClampNeg) (xX cx v127.toNatClampNeg) ha2 s124 r9 h9) (rd_runV (vs := [.inl (xX cx v126.toNatClampNeg), .inl (xX cx v127.toNatClampNeg)]) dL_law_497 ha2 rfl rfl yf_X12_other mi_X12_other ms_X12_other ml_RL_75 ⟨Nat.le_of_ble_eq_true rfl, Nat.le_of_ble_eq_true rfl⟩ (Nat.le_of_ble_eq_true rfl) rfl) rfl rfl hkc hks (fun v129 s128 => ?_)
      refine ry_icmp_eq 538 dL_law_500 (by decide) (fun c130 => ?_) (fun c130 => ?_)
      · exact ry_to (yb_L_law_538 cx w kc ks hkc hks (k18 := k18) hk18 a1 a2 x3 ha1 ha2 s128) ⟨rfl, rfl, rfl, rfl, trivial⟩
      · refine ry_iconst (v := 0) dL_law_503 (by decide) ?_
        exact ry_lawret dL_law_504 hkc hks
    refine ry_split _ (fun c131 => ?_) (fun c131 => ?_)
    · refine ry_tsIn 505 15 c131 dL_law_32 (by decide) (by decide) rfl (by decide) ?_
      refine ry_aload_n dL_law_505 rfl ?_
      refine ry_aload_n dL_law_506 rfl ?_
      refine ry_iload_n dL_law_507 rfl ?_
      refine ry_iconst (v := 1) dL_law_508 (by decide) ?_
      refine ry_iadd dL_law_509 ?_
      refine ry_lets (fun v132 => ?_)
      refine ry_sld dL_law_510 ?_
      refine ry_aload_n dL_law_511 rfl ?_
      refine ry_iload_n dL_law_512 rfl ?_
      refine ry_iconst (v := 2) dL_law_513 (by decide) ?_
      refine ry_iadd dL_law_514 ?_
      refine ry_lets (fun v133 => ?_)
      refine ry_sld dL_law_515 ?_
      refine ry_callI (fun l r9 h9 => cm_X11_otherLetter l cx w a1 (xX cx v132.toNatClampNeg) (xX cx v133.toNatClampNeg) ha1 S r9 h9) (rd_runV (vs := [.inl (xX cx v132.toNatClampNeg), .inl (xX cx v133.toNatClampNeg)]) dL_law_516 ha1 rfl rfl yf_X11_otherLetter mi_X11_otherLetter ms_X11_otherLetter ml_RL_76 ⟨Nat.le_of_ble_eq_true rfl, Nat.le_of_ble_eq_true rfl⟩ (Nat.le_of_ble_eq_true rfl) rfl) rfl rfl hkc hks (fun v135 s134 => ?_)
      refine ry_aload_n dL_law_519 rfl ?_
      refine ry_aload_n dL_law_520 rfl ?_
      refine ry_iload_n dL_law_521 rfl ?_
      refine ry_iconst (v := 1) dL_law_522 (by decide) ?_
      refine ry_iadd dL_law_523 ?_
      refine ry_lets (fun v136 => ?_)
      refine ry_sld dL_law_524 ?_
      refine ry_aload_n dL_law_525 rfl ?_
      refine ry_iload_n dL_law_526 rfl ?_
      refine ry_iconst (v := 2) dL_law_527 (by decide) ?_
      refine ry_iadd dL_law_528 ?_
      refine ry_lets (fun v137 => ?_)
      refine ry_sld dL_law_529 ?_
      refine ry_callI (fun l r9 h9 => cm_X12_otherLetter l cx w a2 (xX cx v136.toNatClampNeg) (xX cx v137.toNatClampNeg) ha2 s134 r9 h9) (rd_runV (vs := [.inl (xX cx v136.toNatClampNeg), .inl (xX cx v137.toNatClampNeg)]) dL_law_530 ha2 rfl rfl yf_X12_otherLetter mi_X12_otherLetter ms_X12_otherLetter ml_RL_79 ⟨Nat.le_of_ble_eq_true rfl, Nat.le_of_ble_eq_true rfl⟩ (Nat.le_of_ble_eq_true rfl) rfl) rfl rfl hkc hks (fun v139 s138 => ?_)
      refine ry_icmp_eq 538 dL_law_533 (by decide) (fun c140 => ?_) (fun c140 => ?_)
      · exact ry_to (yb_L_law_538 cx w kc ks hkc hks (k18 := k18) hk18 a1 a2 x3 ha1 ha2 s138) ⟨rfl, rfl, rfl, rfl, trivial⟩
      · refine ry_iconst (v := 0) dL_law_536 (by decide) ?_
        exact ry_lawret dL_law_537 hkc hks
    refine ry_tsD 538 [(0, 0), (1, 1), (2, 2), (3, 3), (4, 4), (5, 5), (6, 6), (7, 7), (8, 8), (9, 9), (10, 10), (11, 11), (12, 12), (13, 13), (14, 14), (15, 15)] 16 dL_law_32 (by decide) (by decide +kernel) (by decide +kernel) ⟨c3, c14, c24, c34, c37, c45, c53, c61, c69, c79, c87, c95, c103, c113, c121, c131, trivial⟩ (by decide) ?_
    exact ry_to (yb_L_law_538 cx w kc ks hkc hks (k18 := k18) hk18 a1 a2 x3 ha1 ha2 S) ⟨rfl, rfl, rfl, rfl, trivial⟩
def F_L_law_18 (cx : rd_Cx) (w : rd_W) (n : Nat) : Nat → Nat → Int32 → rd_S → Option (Int32) :=
  Nat.rec (motive := fun _ => Nat → Nat → Int32 → rd_S → Option (Int32)) (fun _ _ _ _ => none) (fun _ ih => B_L_law_18 cx w ih) n
theorem yl_L_law_18 (cx : rd_Cx) (w : rd_W) (kc ks : Nat) (hkc : kc ≤ 600000) (hks : ks ≤ 7302250) : ∀ (n : Nat) (a1 : Nat) (a2 : Nat) (x3 : Int32) (ha1 : rd_ok w a1 11) (ha2 : rd_ok w a2 12) (S : rd_S), rd_Y cx G_L_law (rd_LQ cx) (F_L_law_18 cx w n a1 a2 x3 S) 18 [(0, .inr (some 1000000)), (1, .inr (some a1)), (2, .inr (some a2)), (3, .inl x3)] [] w S kc ks := by
  intro n
  induction n with
  | zero => intro a1 a2 x3 ha1 ha2 S; exact ry_none
  | succ n ih => intro a1 a2 x3 ha1 ha2 S; exact yb_L_law_18 cx w kc ks hkc hks ih a1 a2 x3 ha1 ha2 S
def F_L_law (cx : rd_Cx) (w : rd_W) (S : rd_S) : Option (Int32) :=
  rd_np w <|
  rd_b (F_X11_init (rd_push w 11 0) (w.1 + 1) S) fun w3 s2 =>
  rd_np w3 <|
  rd_b (F_X12_init (rd_push w3 12 0) (w3.1 + 1) s2) fun w7 s6 =>
  F_L_law_18 cx w7 rd_big (w.1 + 1) (w3.1 + 1) 0 s6
theorem ym_L_law (cx : rd_Cx) (w : rd_W) (S : rd_S) : rd_Y cx G_L_law (rd_LQ cx) (F_L_law cx w S) 0 [(0, .inr (some 1000000))] [] w S 0 0 := by
  unfold F_L_law
  refine ry_new dL_law_0 cl_11 kl_RL_7 ci_11 cn_11 cd_11 (Nat.le_of_ble_eq_true rfl) (Nat.le_of_ble_eq_true rfl) (fun h1 => ?_)
  refine ry_dup dL_law_3 ?_
  refine ry_callC 75 1907 (fun l r9 h9 => cm_X11_init l cx (rd_push w 11 0) (w.1 + 1) h1 S r9 h9) (rd_runI (vs := []) dL_law_4 h1 yf_X11_init rfl rfl mi_X11_init ml_RL_9 ⟨Nat.le_of_ble_eq_true rfl, Nat.le_of_ble_eq_true rfl⟩ (Nat.le_of_ble_eq_true rfl) rfl) rfl rfl (Nat.le_of_ble_eq_true rfl) (Nat.le_of_ble_eq_true rfl) (fun w3 s2 l4 => ?_)
  refine ry_astore_n dL_law_7 (by decide) ?_
  refine ry_new dL_law_8 cl_12 kl_RL_10 ci_12 cn_12 cd_12 (Nat.le_of_ble_eq_true rfl) (Nat.le_of_ble_eq_true rfl) (fun h5 => ?_)
  refine ry_dup dL_law_11 ?_
  refine ry_callC 98 3910 (fun l r9 h9 => cm_X12_init l cx (rd_push w3 12 0) (w3.1 + 1) h5 s2 r9 h9) (rd_runI (vs := []) dL_law_12 h5 yf_X12_init rfl rfl mi_X12_init ml_RL_12 ⟨Nat.le_of_ble_eq_true rfl, Nat.le_of_ble_eq_true rfl⟩ (Nat.le_of_ble_eq_true rfl) rfl) rfl rfl (Nat.le_of_ble_eq_true rfl) (Nat.le_of_ble_eq_true rfl) (fun w7 s6 l8 => ?_)
  refine ry_astore_n dL_law_15 (by decide) ?_
  refine ry_iconst (v := 0) dL_law_16 (by decide) ?_
  refine ry_istore_n dL_law_17 (by decide) ?_
  exact ry_to (yl_L_law_18 cx w7 98 3910 (Nat.le_of_ble_eq_true rfl) (Nat.le_of_ble_eq_true rfl) rd_big (w.1 + 1) (w3.1 + 1) 0 (((h1.le l4).le (rd_push_le _ _ _)).le l8) (h5.le l8) s6) ⟨rfl, rfl, rfl, rfl, trivial⟩
