abbrev G_X12_take : rd_G := (RX12, cX12_take, 3, none, false, { frames := 4, cells := 0, slots := 0, locals := 101 })
theorem yf_X12_take : rd_YL yX12_take G_X12_take 0 := ⟨rd_mem 902 (by decide +kernel) rfl, rd_mem 75 (by decide +kernel) rfl, by decide +kernel, by decide +kernel, by decide +kernel⟩
theorem mi_X12_take : Cond.instanceMethod yX12_take ∈ rd_gw := rd_mem 901 (by decide +kernel) rfl
theorem ms_X12_take : Cond.selects (MethodName.cls yX12_take) yX12_take yX12_take ∈ rd_gw := rd_mem 41 (by decide +kernel) rfl
theorem dX12_take_0 : decode cX12_take 0 = .ok (.aload_n 0, 1) := by decide +kernel
theorem dX12_take_1 : decode cX12_take 1 = .ok (.dup, 1) := by decide +kernel
theorem dX12_take_2 : decode cX12_take 2 = .ok (.getfield 105, 3) := by decide +kernel
theorem dX12_take_5 : decode cX12_take 5 = .ok (.iconst 1, 1) := by decide +kernel
theorem dX12_take_6 : decode cX12_take 6 = .ok (.iadd, 1) := by decide +kernel
theorem dX12_take_7 : decode cX12_take 7 = .ok (.putfield 105, 3) := by decide +kernel
theorem dX12_take_10 : decode cX12_take 10 = .ok (.iconst 1, 1) := by decide +kernel
theorem dX12_take_11 : decode cX12_take 11 = .ok (.istore_n 1, 1) := by decide +kernel
theorem dX12_take_12 : decode cX12_take 12 = .ok (.iconst 0, 1) := by decide +kernel
theorem dX12_take_13 : decode cX12_take 13 = .ok (.istore_n 2, 1) := by decide +kernel
theorem dX12_take_14 : decode cX12_take 14 = .ok (.iload_n 2, 1) := by decide +kernel
theorem dX12_take_15 : decode cX12_take 15 = .ok (.iconst 4, 1) := by decide +kernel
theorem dX12_take_16 : decode cX12_take 16 = .ok (.if_icmp .ge 63, 3) := by decide +kernel
theorem dX12_take_19 : decode cX12_take 19 = .ok (.aload_n 0, 1) := by decide +kernel
theorem dX12_take_20 : decode cX12_take 20 = .ok (.getfield 108, 3) := by decide +kernel
theorem dX12_take_23 : decode cX12_take 23 = .ok (.iload_n 2, 1) := by decide +kernel
theorem dX12_take_24 : decode cX12_take 24 = .ok (.aload_n 0, 1) := by decide +kernel
theorem dX12_take_25 : decode cX12_take 25 = .ok (.getfield 74, 3) := by decide +kernel
theorem dX12_take_28 : decode cX12_take 28 = .ok (.iload_n 2, 1) := by decide +kernel
theorem dX12_take_29 : decode cX12_take 29 = .ok (.iaload, 1) := by decide +kernel
theorem dX12_take_30 : decode cX12_take 30 = .ok (.iastore, 1) := by decide +kernel
theorem dX12_take_31 : decode cX12_take 31 = .ok (.aload_n 0, 1) := by decide +kernel
theorem dX12_take_32 : decode cX12_take 32 = .ok (.getfield 111, 3) := by decide +kernel
theorem dX12_take_35 : decode cX12_take 35 = .ok (.iload_n 2, 1) := by decide +kernel
theorem dX12_take_36 : decode cX12_take 36 = .ok (.aload_n 0, 1) := by decide +kernel
theorem dX12_take_37 : decode cX12_take 37 = .ok (.iload_n 2, 1) := by decide +kernel
theorem dX12_take_38 : decode cX12_take 38 = .ok (.invokevirtual 114, 3) := by decide +kernel
theorem dX12_take_41 : decode cX12_take 41 = .ok (.ifCond .eq 12, 3) := by decide +kernel
theorem dX12_take_44 : decode cX12_take 44 = .ok (.aload_n 0, 1) := by decide +kernel
theorem dX12_take_45 : decode cX12_take 45 = .ok (.getfield 77, 3) := by decide +kernel
theorem dX12_take_48 : decode cX12_take 48 = .ok (.iload_n 2, 1) := by decide +kernel
theorem dX12_take_49 : decode cX12_take 49 = .ok (.iaload, 1) := by decide +kernel
theorem dX12_take_50 : decode cX12_take 50 = .ok (.goto 4, 3) := by decide +kernel
theorem dX12_take_53 : decode cX12_take 53 = .ok (.iconst (-1), 1) := by decide +kernel
theorem dX12_take_54 : decode cX12_take 54 = .ok (.iastore, 1) := by decide +kernel
theorem dX12_take_55 : decode cX12_take 55 = .ok (.iload_n 1, 1) := by decide +kernel
theorem dX12_take_56 : decode cX12_take 56 = .ok (.ifCond .eq 15, 3) := by decide +kernel
theorem dX12_take_59 : decode cX12_take 59 = .ok (.aload_n 0, 1) := by decide +kernel
theorem dX12_take_60 : decode cX12_take 60 = .ok (.iload_n 2, 1) := by decide +kernel
theorem dX12_take_61 : decode cX12_take 61 = .ok (.invokevirtual 114, 3) := by decide +kernel
theorem dX12_take_64 : decode cX12_take 64 = .ok (.ifCond .eq 7, 3) := by decide +kernel
theorem dX12_take_67 : decode cX12_take 67 = .ok (.iconst 1, 1) := by decide +kernel
theorem dX12_take_68 : decode cX12_take 68 = .ok (.goto 4, 3) := by decide +kernel
theorem dX12_take_71 : decode cX12_take 71 = .ok (.iconst 0, 1) := by decide +kernel
theorem dX12_take_72 : decode cX12_take 72 = .ok (.istore_n 1, 1) := by decide +kernel
theorem dX12_take_73 : decode cX12_take 73 = .ok (.iinc 2 1, 3) := by decide +kernel
theorem dX12_take_76 : decode cX12_take 76 = .ok (.goto (-62), 3) := by decide +kernel
theorem dX12_take_79 : decode cX12_take 79 = .ok (.iload_n 1, 1) := by decide +kernel
theorem dX12_take_80 : decode cX12_take 80 = .ok (.ifCond .eq 13, 3) := by decide +kernel
theorem dX12_take_83 : decode cX12_take 83 = .ok (.aload_n 0, 1) := by decide +kernel
theorem dX12_take_84 : decode cX12_take 84 = .ok (.dup, 1) := by decide +kernel
theorem dX12_take_85 : decode cX12_take 85 = .ok (.getfield 118, 3) := by decide +kernel
theorem dX12_take_88 : decode cX12_take 88 = .ok (.iconst 1, 1) := by decide +kernel
theorem dX12_take_89 : decode cX12_take 89 = .ok (.iadd, 1) := by decide +kernel
theorem dX12_take_90 : decode cX12_take 90 = .ok (.putfield 118, 3) := by decide +kernel
theorem dX12_take_93 : decode cX12_take 93 = .ok (.aload_n 0, 1) := by decide +kernel
theorem dX12_take_94 : decode cX12_take 94 = .ok (.iconst 1, 1) := by decide +kernel
theorem dX12_take_95 : decode cX12_take 95 = .ok (.putfield 121, 3) := by decide +kernel
theorem dX12_take_98 : decode cX12_take 98 = .ok (.aload_n 0, 1) := by decide +kernel
theorem dX12_take_99 : decode cX12_take 99 = .ok (.aload_n 0, 1) := by decide +kernel
theorem dX12_take_100 : decode cX12_take 100 = .ok (.iconst 1, 1) := by decide +kernel
theorem dX12_take_101 : decode cX12_take 101 = .ok (.invokevirtual 114, 3) := by decide +kernel
theorem dX12_take_104 : decode cX12_take 104 = .ok (.ifCond .eq 18, 3) := by decide +kernel
theorem dX12_take_107 : decode cX12_take 107 = .ok (.aload_n 0, 1) := by decide +kernel
theorem dX12_take_108 : decode cX12_take 108 = .ok (.getfield 77, 3) := by decide +kernel
theorem dX12_take_111 : decode cX12_take 111 = .ok (.iconst 1, 1) := by decide +kernel
theorem dX12_take_112 : decode cX12_take 112 = .ok (.iaload, 1) := by decide +kernel
theorem dX12_take_113 : decode cX12_take 113 = .ok (.bipush 11, 2) := by decide +kernel
theorem dX12_take_115 : decode cX12_take 115 = .ok (.ishr, 1) := by decide +kernel
theorem dX12_take_116 : decode cX12_take 116 = .ok (.bipush 31, 2) := by decide +kernel
theorem dX12_take_118 : decode cX12_take 118 = .ok (.iand, 1) := by decide +kernel
theorem dX12_take_119 : decode cX12_take 119 = .ok (.goto 4, 3) := by decide +kernel
theorem dX12_take_122 : decode cX12_take 122 = .ok (.iconst (-1), 1) := by decide +kernel
theorem dX12_take_123 : decode cX12_take 123 = .ok (.putfield 124, 3) := by decide +kernel
theorem dX12_take_126 : decode cX12_take 126 = .ok (.aload_n 0, 1) := by decide +kernel
theorem dX12_take_127 : decode cX12_take 127 = .ok (.iconst 0, 1) := by decide +kernel
theorem dX12_take_128 : decode cX12_take 128 = .ok (.invokevirtual 114, 3) := by decide +kernel
theorem dX12_take_131 : decode cX12_take 131 = .ok (.ifCond .eq 12, 3) := by decide +kernel
theorem dX12_take_134 : decode cX12_take 134 = .ok (.aload_n 0, 1) := by decide +kernel
theorem dX12_take_135 : decode cX12_take 135 = .ok (.getfield 77, 3) := by decide +kernel
theorem dX12_take_138 : decode cX12_take 138 = .ok (.iconst 0, 1) := by decide +kernel
theorem dX12_take_139 : decode cX12_take 139 = .ok (.iaload, 1) := by decide +kernel
theorem dX12_take_140 : decode cX12_take 140 = .ok (.goto 28, 3) := by decide +kernel
theorem dX12_take_143 : decode cX12_take 143 = .ok (.aload_n 0, 1) := by decide +kernel
theorem dX12_take_144 : decode cX12_take 144 = .ok (.iconst 2, 1) := by decide +kernel
theorem dX12_take_145 : decode cX12_take 145 = .ok (.invokevirtual 114, 3) := by decide +kernel
theorem dX12_take_148 : decode cX12_take 148 = .ok (.ifCond .eq 19, 3) := by decide +kernel
theorem dX12_take_151 : decode cX12_take 151 = .ok (.aload_n 0, 1) := by decide +kernel
theorem dX12_take_152 : decode cX12_take 152 = .ok (.getfield 80, 3) := by decide +kernel
theorem dX12_take_155 : decode cX12_take 155 = .ok (.ifCond .eq 12, 3) := by decide +kernel
theorem dX12_take_158 : decode cX12_take 158 = .ok (.aload_n 0, 1) := by decide +kernel
theorem dX12_take_159 : decode cX12_take 159 = .ok (.getfield 77, 3) := by decide +kernel
theorem dX12_take_162 : decode cX12_take 162 = .ok (.iconst 2, 1) := by decide +kernel
theorem dX12_take_163 : decode cX12_take 163 = .ok (.iaload, 1) := by decide +kernel
theorem dX12_take_164 : decode cX12_take 164 = .ok (.goto 4, 3) := by decide +kernel
theorem dX12_take_167 : decode cX12_take 167 = .ok (.iconst (-1), 1) := by decide +kernel
theorem dX12_take_168 : decode cX12_take 168 = .ok (.istore_n 2, 1) := by decide +kernel
theorem dX12_take_169 : decode cX12_take 169 = .ok (.iload_n 2, 1) := by decide +kernel
theorem dX12_take_170 : decode cX12_take 170 = .ok (.iconst (-1), 1) := by decide +kernel
theorem dX12_take_171 : decode cX12_take 171 = .ok (.if_icmp .eq 34, 3) := by decide +kernel
theorem dX12_take_174 : decode cX12_take 174 = .ok (.aload_n 0, 1) := by decide +kernel
theorem dX12_take_175 : decode cX12_take 175 = .ok (.getfield 127, 3) := by decide +kernel
theorem dX12_take_178 : decode cX12_take 178 = .ok (.iconst 0, 1) := by decide +kernel
theorem dX12_take_179 : decode cX12_take 179 = .ok (.iaload, 1) := by decide +kernel
theorem dX12_take_180 : decode cX12_take 180 = .ok (.iconst (-1), 1) := by decide +kernel
theorem dX12_take_181 : decode cX12_take 181 = .ok (.if_icmp .eq 17, 3) := by decide +kernel
theorem dX12_take_184 : decode cX12_take 184 = .ok (.aload_n 0, 1) := by decide +kernel
theorem dX12_take_185 : decode cX12_take 185 = .ok (.getfield 127, 3) := by decide +kernel
theorem dX12_take_188 : decode cX12_take 188 = .ok (.iconst 0, 1) := by decide +kernel
theorem dX12_take_189 : decode cX12_take 189 = .ok (.iaload, 1) := by decide +kernel
theorem dX12_take_190 : decode cX12_take 190 = .ok (.iload_n 2, 1) := by decide +kernel
theorem dX12_take_191 : decode cX12_take 191 = .ok (.if_icmp .eq 7, 3) := by decide +kernel
theorem dX12_take_194 : decode cX12_take 194 = .ok (.aload_n 0, 1) := by decide +kernel
theorem dX12_take_195 : decode cX12_take 195 = .ok (.invokevirtual 130, 3) := by decide +kernel
theorem dX12_take_198 : decode cX12_take 198 = .ok (.aload_n 0, 1) := by decide +kernel
theorem dX12_take_199 : decode cX12_take 199 = .ok (.getfield 127, 3) := by decide +kernel
theorem dX12_take_202 : decode cX12_take 202 = .ok (.iconst 0, 1) := by decide +kernel
theorem dX12_take_203 : decode cX12_take 203 = .ok (.iload_n 2, 1) := by decide +kernel
theorem dX12_take_204 : decode cX12_take 204 = .ok (.iastore, 1) := by decide +kernel
theorem dX12_take_205 : decode cX12_take 205 = .ok (.aload_n 0, 1) := by decide +kernel
theorem dX12_take_206 : decode cX12_take 206 = .ok (.iconst 1, 1) := by decide +kernel
theorem dX12_take_207 : decode cX12_take 207 = .ok (.invokevirtual 114, 3) := by decide +kernel
theorem dX12_take_210 : decode cX12_take 210 = .ok (.ifCond .ne 4, 3) := by decide +kernel
theorem dX12_take_213 : decode cX12_take 213 = .ok (.return_, 1) := by decide +kernel
theorem dX12_take_214 : decode cX12_take 214 = .ok (.aload_n 0, 1) := by decide +kernel
theorem dX12_take_215 : decode cX12_take 215 = .ok (.getfield 127, 3) := by decide +kernel
theorem dX12_take_218 : decode cX12_take 218 = .ok (.iconst 1, 1) := by decide +kernel
theorem dX12_take_219 : decode cX12_take 219 = .ok (.aload_n 0, 1) := by decide +kernel
theorem dX12_take_220 : decode cX12_take 220 = .ok (.getfield 77, 3) := by decide +kernel
theorem dX12_take_223 : decode cX12_take 223 = .ok (.iconst 1, 1) := by decide +kernel
theorem dX12_take_224 : decode cX12_take 224 = .ok (.iaload, 1) := by decide +kernel
theorem dX12_take_225 : decode cX12_take 225 = .ok (.bipush 10, 2) := by decide +kernel
theorem dX12_take_227 : decode cX12_take 227 = .ok (.ishr, 1) := by decide +kernel
theorem dX12_take_228 : decode cX12_take 228 = .ok (.iconst 1, 1) := by decide +kernel
theorem dX12_take_229 : decode cX12_take 229 = .ok (.iand, 1) := by decide +kernel
theorem dX12_take_230 : decode cX12_take 230 = .ok (.iastore, 1) := by decide +kernel
theorem dX12_take_231 : decode cX12_take 231 = .ok (.aload_n 0, 1) := by decide +kernel
theorem dX12_take_232 : decode cX12_take 232 = .ok (.getfield 127, 3) := by decide +kernel
theorem dX12_take_235 : decode cX12_take 235 = .ok (.iconst 2, 1) := by decide +kernel
theorem dX12_take_236 : decode cX12_take 236 = .ok (.aload_n 0, 1) := by decide +kernel
theorem dX12_take_237 : decode cX12_take 237 = .ok (.getfield 77, 3) := by decide +kernel
theorem dX12_take_240 : decode cX12_take 240 = .ok (.iconst 1, 1) := by decide +kernel
theorem dX12_take_241 : decode cX12_take 241 = .ok (.iaload, 1) := by decide +kernel
theorem dX12_take_242 : decode cX12_take 242 = .ok (.iconst 5, 1) := by decide +kernel
theorem dX12_take_243 : decode cX12_take 243 = .ok (.ishr, 1) := by decide +kernel
theorem dX12_take_244 : decode cX12_take 244 = .ok (.bipush 31, 2) := by decide +kernel
theorem dX12_take_246 : decode cX12_take 246 = .ok (.iand, 1) := by decide +kernel
theorem dX12_take_247 : decode cX12_take 247 = .ok (.iastore, 1) := by decide +kernel
theorem dX12_take_248 : decode cX12_take 248 = .ok (.aload_n 0, 1) := by decide +kernel
theorem dX12_take_249 : decode cX12_take 249 = .ok (.getfield 124, 3) := by decide +kernel
theorem dX12_take_252 : decode cX12_take 252 = .ok (.iconst 1, 1) := by decide +kernel
theorem dX12_take_253 : decode cX12_take 253 = .ok (.iand, 1) := by decide +kernel
theorem dX12_take_254 : decode cX12_take 254 = .ok (.ifCond .ne 34, 3) := by decide +kernel
theorem dX12_take_257 : decode cX12_take 257 = .ok (.aload_n 0, 1) := by decide +kernel
theorem dX12_take_258 : decode cX12_take 258 = .ok (.iconst 2, 1) := by decide +kernel
theorem dX12_take_259 : decode cX12_take 259 = .ok (.invokevirtual 114, 3) := by decide +kernel
theorem dX12_take_262 : decode cX12_take 262 = .ok (.ifCond .eq 26, 3) := by decide +kernel
theorem dX12_take_265 : decode cX12_take 265 = .ok (.aload_n 0, 1) := by decide +kernel
theorem dX12_take_266 : decode cX12_take 266 = .ok (.iconst 3, 1) := by decide +kernel
theorem dX12_take_267 : decode cX12_take 267 = .ok (.invokevirtual 114, 3) := by decide +kernel
theorem dX12_take_270 : decode cX12_take 270 = .ok (.ifCond .eq 18, 3) := by decide +kernel
theorem dX12_take_273 : decode cX12_take 273 = .ok (.aload_n 0, 1) := by decide +kernel
theorem dX12_take_274 : decode cX12_take 274 = .ok (.aload_n 0, 1) := by decide +kernel
theorem dX12_take_275 : decode cX12_take 275 = .ok (.getfield 124, 3) := by decide +kernel
theorem dX12_take_278 : decode cX12_take 278 = .ok (.invokevirtual 133, 3) := by decide +kernel
theorem dX12_take_281 : decode cX12_take 281 = .ok (.ifCond .eq 7, 3) := by decide +kernel
theorem dX12_take_284 : decode cX12_take 284 = .ok (.aload_n 0, 1) := by decide +kernel
theorem dX12_take_285 : decode cX12_take 285 = .ok (.invokevirtual 136, 3) := by decide +kernel
theorem dX12_take_288 : decode cX12_take 288 = .ok (.aload_n 0, 1) := by decide +kernel
theorem dX12_take_289 : decode cX12_take 289 = .ok (.aload_n 0, 1) := by decide +kernel
theorem dX12_take_290 : decode cX12_take 290 = .ok (.getfield 124, 3) := by decide +kernel
theorem dX12_take_293 : decode cX12_take 293 = .ok (.iconst 1, 1) := by decide +kernel
theorem dX12_take_294 : decode cX12_take 294 = .ok (.ishr, 1) := by decide +kernel
theorem dX12_take_295 : decode cX12_take 295 = .ok (.aload_n 0, 1) := by decide +kernel
theorem dX12_take_296 : decode cX12_take 296 = .ok (.getfield 124, 3) := by decide +kernel
theorem dX12_take_299 : decode cX12_take 299 = .ok (.iconst 1, 1) := by decide +kernel
theorem dX12_take_300 : decode cX12_take 300 = .ok (.iand, 1) := by decide +kernel
theorem dX12_take_301 : decode cX12_take 301 = .ok (.invokevirtual 139, 3) := by decide +kernel
theorem dX12_take_304 : decode cX12_take 304 = .ok (.return_, 1) := by decide +kernel
def B_X12_take_288 (w : rd_W) (a0 : Nat) (S : rd_S) : Option (rd_S) :=
  rd_c (F_X12_byType w a0 (rd_shr (gI S a0 23) 1) ((gI S a0 23) &&& 1) S) fun s29 =>
  some s29
theorem yb_X12_take_288 (cx : rd_Cx) (w : rd_W) (a0 : Nat) (ha0 : rd_ok w a0 12) (S : rd_S) : rd_Y cx G_X12_take (fun r => rd_P cx G_X12_take.2.2.2.2.2 0 w (rd_rV w r)) (B_X12_take_288 w a0 S) 288 [(0, .inr (some a0))] [] w S 0 0 := by
  unfold B_X12_take_288
  refine ry_aload_n dX12_take_288 rfl ?_
  refine ry_aload_n dX12_take_289 rfl ?_
  refine ry_geti dX12_take_290 ha0 fl_RX12_124 rfl ?_
  refine ry_iconst (v := 1) dX12_take_293 (by decide) ?_
  refine ry_ishr dX12_take_294 ?_
  refine ry_aload_n dX12_take_295 rfl ?_
  refine ry_geti dX12_take_296 ha0 fl_RX12_124 rfl ?_
  refine ry_iconst (v := 1) dX12_take_299 (by decide) ?_
  refine ry_iand dX12_take_300 ?_
  refine ry_callv (fun l r9 h9 => cm_X12_byType l cx w a0 (rd_shr (gI S a0 23) 1) ((gI S a0 23) &&& 1) ha0 S r9 h9) (rd_runV (vs := [.inl (rd_shr (gI S a0 23) 1), .inl ((gI S a0 23) &&& 1)]) dX12_take_301 ha0 rfl rfl yf_X12_byType mi_X12_byType ms_X12_byType ml_RX12_139 ⟨Nat.le_of_ble_eq_true rfl, Nat.le_of_ble_eq_true rfl⟩ (Nat.le_of_ble_eq_true rfl) rfl) rfl rfl (Nat.le_of_ble_eq_true rfl) (Nat.le_of_ble_eq_true rfl) (fun s29 => ?_)
  exact ry_vret dX12_take_304 rfl (Nat.le_of_ble_eq_true rfl) (Nat.le_of_ble_eq_true rfl)
def B_X12_take_205 (w : rd_W) (a0 : Nat) (S : rd_S) : Option (rd_S) :=
  rd_b (F_X12_isKnown w a0 1 S) fun v17 s16 =>
  if v17 = 0 then
  (some s16)
  else
  (rd_c (gR s16 a0 25) fun b19 =>
  rd_c (gR s16 a0 18) fun b20 =>
  rd_i 1 (w.2.2 b20) <|
  rd_i 1 (w.2.2 b19) <|
  rd_let (pI s16 b19 (1 : Int32).toNatClampNeg ((rd_shr (gI s16 b20 (1 : Int32).toNatClampNeg) 10) &&& 1)) fun s21 =>
  rd_c (gR s21 a0 25) fun b22 =>
  rd_c (gR s21 a0 18) fun b23 =>
  rd_i 1 (w.2.2 b23) <|
  rd_i 2 (w.2.2 b22) <|
  rd_let (pI s21 b22 (2 : Int32).toNatClampNeg ((rd_shr (gI s21 b23 (1 : Int32).toNatClampNeg) 5) &&& 31)) fun s24 =>
  if ((gI s24 a0 23) &&& 1) = 0 then
  (rd_b (F_X12_isKnown w a0 2 s24) fun v27 s26 =>
  if v27 = 0 then
  (B_X12_take_288 w a0 s26)
  else
  (rd_b (F_X12_isKnown w a0 3 s26) fun v31 s30 =>
  if v31 = 0 then
  (B_X12_take_288 w a0 s30)
  else
  (rd_b (F_X12_tagsAre w a0 (gI s30 a0 23) s30) fun v34 s33 =>
  if v34 = 0 then
  (B_X12_take_288 w a0 s33)
  else
  (rd_c (F_X12_tags w a0 s33) fun s36 =>
  B_X12_take_288 w a0 s36))))
  else
  (B_X12_take_288 w a0 s24))
theorem yb_X12_take_205 (cx : rd_Cx) (w : rd_W) (a0 : Nat) (ha0 : rd_ok w a0 12) (S : rd_S) : rd_Y cx G_X12_take (fun r => rd_P cx G_X12_take.2.2.2.2.2 0 w (rd_rV w r)) (B_X12_take_205 w a0 S) 205 [(0, .inr (some a0))] [] w S 0 0 := by
  unfold B_X12_take_205
  refine ry_aload_n dX12_take_205 rfl ?_
  refine ry_iconst (v := 1) dX12_take_206 (by decide) ?_
  refine ry_callI (fun l r9 h9 => cm_X12_isKnown l cx w a0 1 ha0 S r9 h9) (rd_runV (vs := [.inl 1]) dX12_take_207 ha0 rfl rfl yf_X12_isKnown mi_X12_isKnown ms_X12_isKnown ml_RX12_114 ⟨Nat.le_of_ble_eq_true rfl, Nat.le_of_ble_eq_true rfl⟩ (Nat.le_of_ble_eq_true rfl) rfl) rfl rfl (Nat.le_of_ble_eq_true rfl) (Nat.le_of_ble_eq_true rfl) (fun v17 s16 => ?_)
  refine ry_if_ne 214 dX12_take_210 (by decide) (fun c18 => ?_) (fun c18 => ?_)
  · exact ry_vret dX12_take_213 rfl (Nat.le_of_ble_eq_true rfl) (Nat.le_of_ble_eq_true rfl)
  · refine ry_aload_n dX12_take_214 rfl ?_
    refine ry_getr dX12_take_215 ha0 fl_RX12_127 rfl (fun b19 hb19 => ?_)
    refine ry_iconst (v := 1) dX12_take_218 (by decide) ?_
    refine ry_aload_n dX12_take_219 rfl ?_
    refine ry_getr dX12_take_220 ha0 fl_RX12_77 rfl (fun b20 hb20 => ?_)
    refine ry_iconst (v := 1) dX12_take_223 (by decide) ?_
    refine ry_iald dX12_take_224 hb20 ?_
    refine ry_bipush (v := 10) dX12_take_225 (by decide) ?_
    refine ry_ishr dX12_take_227 ?_
    refine ry_iconst (v := 1) dX12_take_228 (by decide) ?_
    refine ry_iand dX12_take_229 ?_
    refine ry_iast dX12_take_230 hb19 ?_
    refine ry_letS (fun s21 => ?_)
    refine ry_aload_n dX12_take_231 rfl ?_
    refine ry_getr dX12_take_232 ha0 fl_RX12_127 rfl (fun b22 hb22 => ?_)
    refine ry_iconst (v := 2) dX12_take_235 (by decide) ?_
    refine ry_aload_n dX12_take_236 rfl ?_
    refine ry_getr dX12_take_237 ha0 fl_RX12_77 rfl (fun b23 hb23 => ?_)
    refine ry_iconst (v := 1) dX12_take_240 (by decide) ?_
    refine ry_iald dX12_take_241 hb23 ?_
    refine ry_iconst (v := 5) dX12_take_242 (by decide) ?_
    refine ry_ishr dX12_take_243 ?_
    refine ry_bipush (v := 31) dX12_take_244 (by decide) ?_
    refine ry_iand dX12_take_246 ?_
    refine ry_iast dX12_take_247 hb22 ?_
    refine ry_letS (fun s24 => ?_)
    refine ry_aload_n dX12_take_248 rfl ?_
    refine ry_geti dX12_take_249 ha0 fl_RX12_124 rfl ?_
    refine ry_iconst (v := 1) dX12_take_252 (by decide) ?_
    refine ry_iand dX12_take_253 ?_
    refine ry_if_ne 288 dX12_take_254 (by decide) (fun c25 => ?_) (fun c25 => ?_)
    · refine ry_aload_n dX12_take_257 rfl ?_
      refine ry_iconst (v := 2) dX12_take_258 (by decide) ?_
      refine ry_callI (fun l r9 h9 => cm_X12_isKnown l cx w a0 2 ha0 s24 r9 h9) (rd_runV (vs := [.inl 2]) dX12_take_259 ha0 rfl rfl yf_X12_isKnown mi_X12_isKnown ms_X12_isKnown ml_RX12_114 ⟨Nat.le_of_ble_eq_true rfl, Nat.le_of_ble_eq_true rfl⟩ (Nat.le_of_ble_eq_true rfl) rfl) rfl rfl (Nat.le_of_ble_eq_true rfl) (Nat.le_of_ble_eq_true rfl) (fun v27 s26 => ?_)
      refine ry_if_eq 288 dX12_take_262 (by decide) (fun c28 => ?_) (fun c28 => ?_)
      · exact ry_to (yb_X12_take_288 cx w a0 ha0 s26) ⟨rfl, trivial⟩
      · refine ry_aload_n dX12_take_265 rfl ?_
        refine ry_iconst (v := 3) dX12_take_266 (by decide) ?_
        refine ry_callI (fun l r9 h9 => cm_X12_isKnown l cx w a0 3 ha0 s26 r9 h9) (rd_runV (vs := [.inl 3]) dX12_take_267 ha0 rfl rfl yf_X12_isKnown mi_X12_isKnown ms_X12_isKnown ml_RX12_114 ⟨Nat.le_of_ble_eq_true rfl, Nat.le_of_ble_eq_true rfl⟩ (Nat.le_of_ble_eq_true rfl) rfl) rfl rfl (Nat.le_of_ble_eq_true rfl) (Nat.le_of_ble_eq_true rfl) (fun v31 s30 => ?_)
        refine ry_if_eq 288 dX12_take_270 (by decide) (fun c32 => ?_) (fun c32 => ?_)
        · exact ry_to (yb_X12_take_288 cx w a0 ha0 s30) ⟨rfl, trivial⟩
        · refine ry_aload_n dX12_take_273 rfl ?_
          refine ry_aload_n dX12_take_274 rfl ?_
          refine ry_geti dX12_take_275 ha0 fl_RX12_124 rfl ?_
          refine ry_callI (fun l r9 h9 => cm_X12_tagsAre l cx w a0 (gI s30 a0 23) ha0 s30 r9 h9) (rd_runV (vs := [.inl (gI s30 a0 23)]) dX12_take_278 ha0 rfl rfl yf_X12_tagsAre mi_X12_tagsAre ms_X12_tagsAre ml_RX12_133 ⟨Nat.le_of_ble_eq_true rfl, Nat.le_of_ble_eq_true rfl⟩ (Nat.le_of_ble_eq_true rfl) rfl) rfl rfl (Nat.le_of_ble_eq_true rfl) (Nat.le_of_ble_eq_true rfl) (fun v34 s33 => ?_)
          refine ry_if_eq 288 dX12_take_281 (by decide) (fun c35 => ?_) (fun c35 => ?_)
          · exact ry_to (yb_X12_take_288 cx w a0 ha0 s33) ⟨rfl, trivial⟩
          · refine ry_aload_n dX12_take_284 rfl ?_
            refine ry_callv (fun l r9 h9 => cm_X12_tags l cx w a0 ha0 s33 r9 h9) (rd_runV (vs := []) dX12_take_285 ha0 rfl rfl yf_X12_tags mi_X12_tags ms_X12_tags ml_RX12_136 ⟨Nat.le_of_ble_eq_true rfl, Nat.le_of_ble_eq_true rfl⟩ (Nat.le_of_ble_eq_true rfl) rfl) rfl rfl (Nat.le_of_ble_eq_true rfl) (Nat.le_of_ble_eq_true rfl) (fun s36 => ?_)
            exact ry_to (yb_X12_take_288 cx w a0 ha0 s36) ⟨rfl, trivial⟩
    · exact ry_to (yb_X12_take_288 cx w a0 ha0 s24) ⟨rfl, trivial⟩
def B_X12_take_198 (w : rd_W) (a0 : Nat) (x2 : Int32) (S : rd_S) : Option (rd_S) :=
  rd_c (gR S a0 25) fun b39 =>
  rd_i 0 (w.2.2 b39) <|
  rd_let (pI S b39 (0 : Int32).toNatClampNeg x2) fun s40 =>
  B_X12_take_205 w a0 s40
theorem yb_X12_take_198 (cx : rd_Cx) (w : rd_W) (a0 : Nat) (x2 : Int32) (ha0 : rd_ok w a0 12) (S : rd_S) : rd_Y cx G_X12_take (fun r => rd_P cx G_X12_take.2.2.2.2.2 0 w (rd_rV w r)) (B_X12_take_198 w a0 x2 S) 198 [(0, .inr (some a0)), (2, .inl x2)] [] w S 0 0 := by
  unfold B_X12_take_198
  refine ry_aload_n dX12_take_198 rfl ?_
  refine ry_getr dX12_take_199 ha0 fl_RX12_127 rfl (fun b39 hb39 => ?_)
  refine ry_iconst (v := 0) dX12_take_202 (by decide) ?_
  refine ry_iload_n dX12_take_203 rfl ?_
  refine ry_iast dX12_take_204 hb39 ?_
  refine ry_letS (fun s40 => ?_)
  exact ry_to (yb_X12_take_205 cx w a0 ha0 s40) ⟨rfl, trivial⟩
def B_X12_take_168 (w : rd_W) (a0 : Nat) (t0 : Int32) (S : rd_S) : Option (rd_S) :=
  if t0 = (-1) then
  (B_X12_take_205 w a0 S)
  else
  (rd_c (gR S a0 25) fun b37 =>
  rd_i 0 (w.2.2 b37) <|
  if (gI S b37 (0 : Int32).toNatClampNeg) = (-1) then
  (B_X12_take_198 w a0 t0 S)
  else
  (rd_c (gR S a0 25) fun b41 =>
  rd_i 0 (w.2.2 b41) <|
  if (gI S b41 (0 : Int32).toNatClampNeg) = t0 then
  (B_X12_take_198 w a0 t0 S)
  else
  (rd_c (F_X12_unknown w a0 S) fun s43 =>
  B_X12_take_198 w a0 t0 s43)))
theorem yb_X12_take_168 (cx : rd_Cx) (w : rd_W) (a0 : Nat) (t0 : Int32) (ha0 : rd_ok w a0 12) (S : rd_S) : rd_Y cx G_X12_take (fun r => rd_P cx G_X12_take.2.2.2.2.2 0 w (rd_rV w r)) (B_X12_take_168 w a0 t0 S) 168 [(0, .inr (some a0))] [.inl t0] w S 0 0 := by
  unfold B_X12_take_168
  refine ry_istore_n dX12_take_168 (by decide) ?_
  refine ry_iload_n dX12_take_169 rfl ?_
  refine ry_iconst (v := (-1)) dX12_take_170 (by decide) ?_
  refine ry_icmp_eq 205 dX12_take_171 (by decide) (fun c15 => ?_) (fun c15 => ?_)
  · exact ry_to (yb_X12_take_205 cx w a0 ha0 S) ⟨rfl, trivial⟩
  · refine ry_aload_n dX12_take_174 rfl ?_
    refine ry_getr dX12_take_175 ha0 fl_RX12_127 rfl (fun b37 hb37 => ?_)
    refine ry_iconst (v := 0) dX12_take_178 (by decide) ?_
    refine ry_iald dX12_take_179 hb37 ?_
    refine ry_iconst (v := (-1)) dX12_take_180 (by decide) ?_
    refine ry_icmp_eq 198 dX12_take_181 (by decide) (fun c38 => ?_) (fun c38 => ?_)
    · exact ry_to (yb_X12_take_198 cx w a0 t0 ha0 S) ⟨rfl, rfl, trivial⟩
    · refine ry_aload_n dX12_take_184 rfl ?_
      refine ry_getr dX12_take_185 ha0 fl_RX12_127 rfl (fun b41 hb41 => ?_)
      refine ry_iconst (v := 0) dX12_take_188 (by decide) ?_
      refine ry_iald dX12_take_189 hb41 ?_
      refine ry_iload_n dX12_take_190 rfl ?_
      refine ry_icmp_eq 198 dX12_take_191 (by decide) (fun c42 => ?_) (fun c42 => ?_)
      · exact ry_to (yb_X12_take_198 cx w a0 t0 ha0 S) ⟨rfl, rfl, trivial⟩
      · refine ry_aload_n dX12_take_194 rfl ?_
        refine ry_callv (fun l r9 h9 => cm_X12_unknown l cx w a0 ha0 S r9 h9) (rd_runV (vs := []) dX12_take_195 ha0 rfl rfl yf_X12_unknown mi_X12_unknown ms_X12_unknown ml_RX12_130 ⟨Nat.le_of_ble_eq_true rfl, Nat.le_of_ble_eq_true rfl⟩ (Nat.le_of_ble_eq_true rfl) rfl) rfl rfl (Nat.le_of_ble_eq_true rfl) (Nat.le_of_ble_eq_true rfl) (fun s43 => ?_)
        exact ry_to (yb_X12_take_198 cx w a0 t0 ha0 s43) ⟨rfl, rfl, trivial⟩
def B_X12_take_167 (w : rd_W) (a0 : Nat) (S : rd_S) : Option (rd_S) :=
  B_X12_take_168 w a0 (-1) S
theorem yb_X12_take_167 (cx : rd_Cx) (w : rd_W) (a0 : Nat) (ha0 : rd_ok w a0 12) (S : rd_S) : rd_Y cx G_X12_take (fun r => rd_P cx G_X12_take.2.2.2.2.2 0 w (rd_rV w r)) (B_X12_take_167 w a0 S) 167 [(0, .inr (some a0))] [] w S 0 0 := by
  unfold B_X12_take_167
  refine ry_iconst (v := (-1)) dX12_take_167 (by decide) ?_
  exact ry_to (yb_X12_take_168 cx w a0 (-1) ha0 S) ⟨rfl, trivial⟩
def B_X12_take_123 (w : rd_W) (a0 : Nat) (t0 : Int32) (e1 : Nat) (S : rd_S) : Option (rd_S) :=
  rd_let (pI S e1 23 t0) fun s8 =>
  rd_b (F_X12_isKnown w a0 0 s8) fun v10 s9 =>
  if v10 = 0 then
  (rd_b (F_X12_isKnown w a0 2 s9) fun v13 s12 =>
  if v13 = 0 then
  (B_X12_take_167 w a0 s12)
  else
  (if (gI s12 a0 20) = 0 then
  (B_X12_take_167 w a0 s12)
  else
  (rd_c (gR s12 a0 18) fun b45 =>
  rd_i 2 (w.2.2 b45) <|
  B_X12_take_168 w a0 (gI s12 b45 (2 : Int32).toNatClampNeg) s12)))
  else
  (rd_c (gR s9 a0 18) fun b46 =>
  rd_i 0 (w.2.2 b46) <|
  B_X12_take_168 w a0 (gI s9 b46 (0 : Int32).toNatClampNeg) s9)
theorem yb_X12_take_123 (cx : rd_Cx) (w : rd_W) (a0 : Nat) (t0 : Int32) (e1 : Nat) (ha0 : rd_ok w a0 12) (he1 : rd_ok w e1 12) (S : rd_S) : rd_Y cx G_X12_take (fun r => rd_P cx G_X12_take.2.2.2.2.2 0 w (rd_rV w r)) (B_X12_take_123 w a0 t0 e1 S) 123 [(0, .inr (some a0))] [.inl t0, .inr (some e1)] w S 0 0 := by
  unfold B_X12_take_123
  refine ry_puti dX12_take_123 he1 fl_RX12_124 rfl rfl rfl ?_
  refine ry_letS (fun s8 => ?_)
  refine ry_aload_n dX12_take_126 rfl ?_
  refine ry_iconst (v := 0) dX12_take_127 (by decide) ?_
  refine ry_callI (fun l r9 h9 => cm_X12_isKnown l cx w a0 0 ha0 s8 r9 h9) (rd_runV (vs := [.inl 0]) dX12_take_128 ha0 rfl rfl yf_X12_isKnown mi_X12_isKnown ms_X12_isKnown ml_RX12_114 ⟨Nat.le_of_ble_eq_true rfl, Nat.le_of_ble_eq_true rfl⟩ (Nat.le_of_ble_eq_true rfl) rfl) rfl rfl (Nat.le_of_ble_eq_true rfl) (Nat.le_of_ble_eq_true rfl) (fun v10 s9 => ?_)
  refine ry_if_eq 143 dX12_take_131 (by decide) (fun c11 => ?_) (fun c11 => ?_)
  · refine ry_aload_n dX12_take_143 rfl ?_
    refine ry_iconst (v := 2) dX12_take_144 (by decide) ?_
    refine ry_callI (fun l r9 h9 => cm_X12_isKnown l cx w a0 2 ha0 s9 r9 h9) (rd_runV (vs := [.inl 2]) dX12_take_145 ha0 rfl rfl yf_X12_isKnown mi_X12_isKnown ms_X12_isKnown ml_RX12_114 ⟨Nat.le_of_ble_eq_true rfl, Nat.le_of_ble_eq_true rfl⟩ (Nat.le_of_ble_eq_true rfl) rfl) rfl rfl (Nat.le_of_ble_eq_true rfl) (Nat.le_of_ble_eq_true rfl) (fun v13 s12 => ?_)
    refine ry_if_eq 167 dX12_take_148 (by decide) (fun c14 => ?_) (fun c14 => ?_)
    · exact ry_to (yb_X12_take_167 cx w a0 ha0 s12) ⟨rfl, trivial⟩
    · refine ry_aload_n dX12_take_151 rfl ?_
      refine ry_geti dX12_take_152 ha0 fl_RX12_80 rfl ?_
      refine ry_if_eq 167 dX12_take_155 (by decide) (fun c44 => ?_) (fun c44 => ?_)
      · exact ry_to (yb_X12_take_167 cx w a0 ha0 s12) ⟨rfl, trivial⟩
      · refine ry_aload_n dX12_take_158 rfl ?_
        refine ry_getr dX12_take_159 ha0 fl_RX12_77 rfl (fun b45 hb45 => ?_)
        refine ry_iconst (v := 2) dX12_take_162 (by decide) ?_
        refine ry_iald dX12_take_163 hb45 ?_
        refine ry_goto 168 dX12_take_164 (by decide) ?_
        exact ry_to (yb_X12_take_168 cx w a0 (gI s12 b45 (2 : Int32).toNatClampNeg) ha0 s12) ⟨rfl, trivial⟩
  · refine ry_aload_n dX12_take_134 rfl ?_
    refine ry_getr dX12_take_135 ha0 fl_RX12_77 rfl (fun b46 hb46 => ?_)
    refine ry_iconst (v := 0) dX12_take_138 (by decide) ?_
    refine ry_iald dX12_take_139 hb46 ?_
    refine ry_goto 168 dX12_take_140 (by decide) ?_
    exact ry_to (yb_X12_take_168 cx w a0 (gI s9 b46 (0 : Int32).toNatClampNeg) ha0 s9) ⟨rfl, trivial⟩
def B_X12_take_93 (w : rd_W) (a0 : Nat) (S : rd_S) : Option (rd_S) :=
  rd_let (pI S a0 24 1) fun s4 =>
  rd_b (F_X12_isKnown w a0 1 s4) fun v6 s5 =>
  if v6 = 0 then
  (B_X12_take_123 w a0 (-1) a0 s5)
  else
  (rd_c (gR s5 a0 18) fun b47 =>
  rd_i 1 (w.2.2 b47) <|
  B_X12_take_123 w a0 ((rd_shr (gI s5 b47 (1 : Int32).toNatClampNeg) 11) &&& 31) a0 s5)
theorem yb_X12_take_93 (cx : rd_Cx) (w : rd_W) (a0 : Nat) (ha0 : rd_ok w a0 12) (S : rd_S) : rd_Y cx G_X12_take (fun r => rd_P cx G_X12_take.2.2.2.2.2 0 w (rd_rV w r)) (B_X12_take_93 w a0 S) 93 [(0, .inr (some a0))] [] w S 0 0 := by
  unfold B_X12_take_93
  refine ry_aload_n dX12_take_93 rfl ?_
  refine ry_iconst (v := 1) dX12_take_94 (by decide) ?_
  refine ry_putz dX12_take_95 ha0 fl_RX12_121 rfl rfl rfl (by decide) ?_
  refine ry_letS (fun s4 => ?_)
  refine ry_aload_n dX12_take_98 rfl ?_
  refine ry_aload_n dX12_take_99 rfl ?_
  refine ry_iconst (v := 1) dX12_take_100 (by decide) ?_
  refine ry_callI (fun l r9 h9 => cm_X12_isKnown l cx w a0 1 ha0 s4 r9 h9) (rd_runV (vs := [.inl 1]) dX12_take_101 ha0 rfl rfl yf_X12_isKnown mi_X12_isKnown ms_X12_isKnown ml_RX12_114 ⟨Nat.le_of_ble_eq_true rfl, Nat.le_of_ble_eq_true rfl⟩ (Nat.le_of_ble_eq_true rfl) rfl) rfl rfl (Nat.le_of_ble_eq_true rfl) (Nat.le_of_ble_eq_true rfl) (fun v6 s5 => ?_)
  refine ry_if_eq 122 dX12_take_104 (by decide) (fun c7 => ?_) (fun c7 => ?_)
  · refine ry_iconst (v := (-1)) dX12_take_122 (by decide) ?_
    exact ry_to (yb_X12_take_123 cx w a0 (-1) a0 ha0 ha0 s5) ⟨rfl, trivial⟩
  · refine ry_aload_n dX12_take_107 rfl ?_
    refine ry_getr dX12_take_108 ha0 fl_RX12_77 rfl (fun b47 hb47 => ?_)
    refine ry_iconst (v := 1) dX12_take_111 (by decide) ?_
    refine ry_iald dX12_take_112 hb47 ?_
    refine ry_bipush (v := 11) dX12_take_113 (by decide) ?_
    refine ry_ishr dX12_take_115 ?_
    refine ry_bipush (v := 31) dX12_take_116 (by decide) ?_
    refine ry_iand dX12_take_118 ?_
    refine ry_goto 123 dX12_take_119 (by decide) ?_
    exact ry_to (yb_X12_take_123 cx w a0 ((rd_shr (gI s5 b47 (1 : Int32).toNatClampNeg) 11) &&& 31) a0 ha0 ha0 s5) ⟨rfl, trivial⟩
def B_X12_take_72 (w : rd_W) (k14 : Nat → Int32 → Int32 → rd_S → Option (rd_S)) (a0 : Nat) (x2 : Int32) (t0 : Int32) (S : rd_S) : Option (rd_S) :=
  rd_let (x2 + 1) fun v58 =>
  k14 a0 t0 v58 S
theorem yb_X12_take_72 (cx : rd_Cx) (w : rd_W) {k14 : Nat → Int32 → Int32 → rd_S → Option (rd_S)} (hk14 : ∀ (a0 : Nat) (x1 : Int32) (x2 : Int32) (ha0 : rd_ok w a0 12) (S : rd_S), rd_Y cx G_X12_take (fun r => rd_P cx G_X12_take.2.2.2.2.2 0 w (rd_rV w r)) (k14 a0 x1 x2 S) 14 [(0, .inr (some a0)), (1, .inl x1), (2, .inl x2)] [] w S 0 0) (a0 : Nat) (x2 : Int32) (t0 : Int32) (ha0 : rd_ok w a0 12) (S : rd_S) : rd_Y cx G_X12_take (fun r => rd_P cx G_X12_take.2.2.2.2.2 0 w (rd_rV w r)) (B_X12_take_72 w k14 a0 x2 t0 S) 72 [(0, .inr (some a0)), (2, .inl x2)] [.inl t0] w S 0 0 := by
  unfold B_X12_take_72
  refine ry_istore_n dX12_take_72 (by decide) ?_
  refine ry_iinc (v := 1) dX12_take_73 rfl (by decide) (by decide) ?_
  refine ry_let (fun v58 => ?_)
  refine ry_goto 14 dX12_take_76 (by decide) ?_
  exact ry_to (hk14 a0 t0 v58 ha0 S) ⟨rfl, rfl, rfl, trivial⟩
def B_X12_take_71 (w : rd_W) (k14 : Nat → Int32 → Int32 → rd_S → Option (rd_S)) (a0 : Nat) (x2 : Int32) (S : rd_S) : Option (rd_S) :=
  B_X12_take_72 w k14 a0 x2 0 S
theorem yb_X12_take_71 (cx : rd_Cx) (w : rd_W) {k14 : Nat → Int32 → Int32 → rd_S → Option (rd_S)} (hk14 : ∀ (a0 : Nat) (x1 : Int32) (x2 : Int32) (ha0 : rd_ok w a0 12) (S : rd_S), rd_Y cx G_X12_take (fun r => rd_P cx G_X12_take.2.2.2.2.2 0 w (rd_rV w r)) (k14 a0 x1 x2 S) 14 [(0, .inr (some a0)), (1, .inl x1), (2, .inl x2)] [] w S 0 0) (a0 : Nat) (x2 : Int32) (ha0 : rd_ok w a0 12) (S : rd_S) : rd_Y cx G_X12_take (fun r => rd_P cx G_X12_take.2.2.2.2.2 0 w (rd_rV w r)) (B_X12_take_71 w k14 a0 x2 S) 71 [(0, .inr (some a0)), (2, .inl x2)] [] w S 0 0 := by
  unfold B_X12_take_71
  refine ry_iconst (v := 0) dX12_take_71 (by decide) ?_
  exact ry_to (yb_X12_take_72 cx w (k14 := k14) hk14 a0 x2 0 ha0 S) ⟨rfl, rfl, trivial⟩
def B_X12_take_54 (w : rd_W) (k14 : Nat → Int32 → Int32 → rd_S → Option (rd_S)) (a0 : Nat) (x1 : Int32) (x2 : Int32) (t0 : Int32) (t1 : Int32) (e2 : Nat) (S : rd_S) : Option (rd_S) :=
  rd_i t1 (w.2.2 e2) <|
  rd_let (pI S e2 t1.toNatClampNeg t0) fun s56 =>
  if x1 = 0 then
  (B_X12_take_71 w k14 a0 x2 s56)
  else
  (rd_b (F_X12_isKnown w a0 x2 s56) fun v60 s59 =>
  if v60 = 0 then
  (B_X12_take_71 w k14 a0 x2 s59)
  else
  (B_X12_take_72 w k14 a0 x2 1 s59))
theorem yb_X12_take_54 (cx : rd_Cx) (w : rd_W) {k14 : Nat → Int32 → Int32 → rd_S → Option (rd_S)} (hk14 : ∀ (a0 : Nat) (x1 : Int32) (x2 : Int32) (ha0 : rd_ok w a0 12) (S : rd_S), rd_Y cx G_X12_take (fun r => rd_P cx G_X12_take.2.2.2.2.2 0 w (rd_rV w r)) (k14 a0 x1 x2 S) 14 [(0, .inr (some a0)), (1, .inl x1), (2, .inl x2)] [] w S 0 0) (a0 : Nat) (x1 : Int32) (x2 : Int32) (t0 : Int32) (t1 : Int32) (e2 : Nat) (ha0 : rd_ok w a0 12) (he2 : rd_ok w e2 13) (S : rd_S) : rd_Y cx G_X12_take (fun r => rd_P cx G_X12_take.2.2.2.2.2 0 w (rd_rV w r)) (B_X12_take_54 w k14 a0 x1 x2 t0 t1 e2 S) 54 [(0, .inr (some a0)), (1, .inl x1), (2, .inl x2)] [.inl t0, .inl t1, .inr (some e2)] w S 0 0 := by
  unfold B_X12_take_54
  refine ry_iast dX12_take_54 he2 ?_
  refine ry_letS (fun s56 => ?_)
  refine ry_iload_n dX12_take_55 rfl ?_
  refine ry_if_eq 71 dX12_take_56 (by decide) (fun c57 => ?_) (fun c57 => ?_)
  · exact ry_to (yb_X12_take_71 cx w (k14 := k14) hk14 a0 x2 ha0 s56) ⟨rfl, rfl, trivial⟩
  · refine ry_aload_n dX12_take_59 rfl ?_
    refine ry_iload_n dX12_take_60 rfl ?_
    refine ry_callI (fun l r9 h9 => cm_X12_isKnown l cx w a0 x2 ha0 s56 r9 h9) (rd_runV (vs := [.inl x2]) dX12_take_61 ha0 rfl rfl yf_X12_isKnown mi_X12_isKnown ms_X12_isKnown ml_RX12_114 ⟨Nat.le_of_ble_eq_true rfl, Nat.le_of_ble_eq_true rfl⟩ (Nat.le_of_ble_eq_true rfl) rfl) rfl rfl (Nat.le_of_ble_eq_true rfl) (Nat.le_of_ble_eq_true rfl) (fun v60 s59 => ?_)
    refine ry_if_eq 71 dX12_take_64 (by decide) (fun c61 => ?_) (fun c61 => ?_)
    · exact ry_to (yb_X12_take_71 cx w (k14 := k14) hk14 a0 x2 ha0 s59) ⟨rfl, rfl, trivial⟩
    · refine ry_iconst (v := 1) dX12_take_67 (by decide) ?_
      refine ry_goto 72 dX12_take_68 (by decide) ?_
      exact ry_to (yb_X12_take_72 cx w (k14 := k14) hk14 a0 x2 1 ha0 s59) ⟨rfl, rfl, trivial⟩
def B_X12_take_14 (w : rd_W) (k14 : Nat → Int32 → Int32 → rd_S → Option (rd_S)) (a0 : Nat) (x1 : Int32) (x2 : Int32) (S : rd_S) : Option (rd_S) :=
  if 4 ≤ x2 then
  (if x1 = 0 then
  (B_X12_take_93 w a0 S)
  else
  (rd_let (pI S a0 17 ((gI S a0 17) + 1)) fun s48 =>
  B_X12_take_93 w a0 s48))
  else
  (rd_c (gR S a0 22) fun b49 =>
  rd_c (gR S a0 19) fun b50 =>
  rd_i x2 (w.2.2 b50) <|
  rd_i x2 (w.2.2 b49) <|
  rd_let (pI S b49 x2.toNatClampNeg (gI S b50 x2.toNatClampNeg)) fun s51 =>
  rd_c (gR s51 a0 21) fun b52 =>
  rd_b (F_X12_isKnown w a0 x2 s51) fun v54 s53 =>
  if v54 = 0 then
  (B_X12_take_54 w k14 a0 x1 x2 (-1) x2 b52 s53)
  else
  (rd_c (gR s53 a0 18) fun b62 =>
  rd_i x2 (w.2.2 b62) <|
  B_X12_take_54 w k14 a0 x1 x2 (gI s53 b62 x2.toNatClampNeg) x2 b52 s53))
theorem yb_X12_take_14 (cx : rd_Cx) (w : rd_W) {k14 : Nat → Int32 → Int32 → rd_S → Option (rd_S)} (hk14 : ∀ (a0 : Nat) (x1 : Int32) (x2 : Int32) (ha0 : rd_ok w a0 12) (S : rd_S), rd_Y cx G_X12_take (fun r => rd_P cx G_X12_take.2.2.2.2.2 0 w (rd_rV w r)) (k14 a0 x1 x2 S) 14 [(0, .inr (some a0)), (1, .inl x1), (2, .inl x2)] [] w S 0 0) (a0 : Nat) (x1 : Int32) (x2 : Int32) (ha0 : rd_ok w a0 12) (S : rd_S) : rd_Y cx G_X12_take (fun r => rd_P cx G_X12_take.2.2.2.2.2 0 w (rd_rV w r)) (B_X12_take_14 w k14 a0 x1 x2 S) 14 [(0, .inr (some a0)), (1, .inl x1), (2, .inl x2)] [] w S 0 0 := by
  unfold B_X12_take_14
  refine ry_iload_n dX12_take_14 rfl ?_
  refine ry_iconst (v := 4) dX12_take_15 (by decide) ?_
  refine ry_icmp_ge 79 dX12_take_16 (by decide) (fun c2 => ?_) (fun c2 => ?_)
  · refine ry_iload_n dX12_take_79 rfl ?_
    refine ry_if_eq 93 dX12_take_80 (by decide) (fun c3 => ?_) (fun c3 => ?_)
    · exact ry_to (yb_X12_take_93 cx w a0 ha0 S) ⟨rfl, trivial⟩
    · refine ry_aload_n dX12_take_83 rfl ?_
      refine ry_dup dX12_take_84 ?_
      refine ry_geti dX12_take_85 ha0 fl_RX12_118 rfl ?_
      refine ry_iconst (v := 1) dX12_take_88 (by decide) ?_
      refine ry_iadd dX12_take_89 ?_
      refine ry_puti dX12_take_90 ha0 fl_RX12_118 rfl rfl rfl ?_
      refine ry_letS (fun s48 => ?_)
      exact ry_to (yb_X12_take_93 cx w a0 ha0 s48) ⟨rfl, trivial⟩
  · refine ry_aload_n dX12_take_19 rfl ?_
    refine ry_getr dX12_take_20 ha0 fl_RX12_108 rfl (fun b49 hb49 => ?_)
    refine ry_iload_n dX12_take_23 rfl ?_
    refine ry_aload_n dX12_take_24 rfl ?_
    refine ry_getr dX12_take_25 ha0 fl_RX12_74 rfl (fun b50 hb50 => ?_)
    refine ry_iload_n dX12_take_28 rfl ?_
    refine ry_iald dX12_take_29 hb50 ?_
    refine ry_iast dX12_take_30 hb49 ?_
    refine ry_letS (fun s51 => ?_)
    refine ry_aload_n dX12_take_31 rfl ?_
    refine ry_getr dX12_take_32 ha0 fl_RX12_111 rfl (fun b52 hb52 => ?_)
    refine ry_iload_n dX12_take_35 rfl ?_
    refine ry_aload_n dX12_take_36 rfl ?_
    refine ry_iload_n dX12_take_37 rfl ?_
    refine ry_callI (fun l r9 h9 => cm_X12_isKnown l cx w a0 x2 ha0 s51 r9 h9) (rd_runV (vs := [.inl x2]) dX12_take_38 ha0 rfl rfl yf_X12_isKnown mi_X12_isKnown ms_X12_isKnown ml_RX12_114 ⟨Nat.le_of_ble_eq_true rfl, Nat.le_of_ble_eq_true rfl⟩ (Nat.le_of_ble_eq_true rfl) rfl) rfl rfl (Nat.le_of_ble_eq_true rfl) (Nat.le_of_ble_eq_true rfl) (fun v54 s53 => ?_)
    refine ry_if_eq 53 dX12_take_41 (by decide) (fun c55 => ?_) (fun c55 => ?_)
    · refine ry_iconst (v := (-1)) dX12_take_53 (by decide) ?_
      exact ry_to (yb_X12_take_54 cx w (k14 := k14) hk14 a0 x1 x2 (-1) x2 b52 ha0 hb52 s53) ⟨rfl, rfl, rfl, trivial⟩
    · refine ry_aload_n dX12_take_44 rfl ?_
      refine ry_getr dX12_take_45 ha0 fl_RX12_77 rfl (fun b62 hb62 => ?_)
      refine ry_iload_n dX12_take_48 rfl ?_
      refine ry_iald dX12_take_49 hb62 ?_
      refine ry_goto 54 dX12_take_50 (by decide) ?_
      exact ry_to (yb_X12_take_54 cx w (k14 := k14) hk14 a0 x1 x2 (gI s53 b62 x2.toNatClampNeg) x2 b52 ha0 hb52 s53) ⟨rfl, rfl, rfl, trivial⟩
def F_X12_take_14 (w : rd_W) (n : Nat) : Nat → Int32 → Int32 → rd_S → Option (rd_S) :=
  Nat.rec (motive := fun _ => Nat → Int32 → Int32 → rd_S → Option (rd_S)) (fun _ _ _ _ => none) (fun _ ih => B_X12_take_14 w ih) n
theorem yl_X12_take_14 (cx : rd_Cx) (w : rd_W) : ∀ (n : Nat) (a0 : Nat) (x1 : Int32) (x2 : Int32) (ha0 : rd_ok w a0 12) (S : rd_S), rd_Y cx G_X12_take (fun r => rd_P cx G_X12_take.2.2.2.2.2 0 w (rd_rV w r)) (F_X12_take_14 w n a0 x1 x2 S) 14 [(0, .inr (some a0)), (1, .inl x1), (2, .inl x2)] [] w S 0 0 := by
  intro n
  induction n with
  | zero => intro a0 x1 x2 ha0 S; exact ry_none
  | succ n ih => intro a0 x1 x2 ha0 S; exact yb_X12_take_14 cx w ih a0 x1 x2 ha0 S
def F_X12_take (w : rd_W) (a0 : Nat) (S : rd_S) : Option (rd_S) :=
  rd_let (pI S a0 16 ((gI S a0 16) + 1)) fun s1 =>
  F_X12_take_14 w rd_big a0 1 0 s1
theorem ym_X12_take (cx : rd_Cx) (w : rd_W) (a0 : Nat) (ha0 : rd_ok w a0 12) (S : rd_S) : rd_Y cx G_X12_take (fun r => rd_P cx G_X12_take.2.2.2.2.2 0 w (rd_rV w r)) (F_X12_take w a0 S) 0 (rd_as 0 [.inr (some a0)]) [] w S 0 0 := by
  unfold F_X12_take
  refine ry_aload_n dX12_take_0 rfl ?_
  refine ry_dup dX12_take_1 ?_
  refine ry_geti dX12_take_2 ha0 fl_RX12_105 rfl ?_
  refine ry_iconst (v := 1) dX12_take_5 (by decide) ?_
  refine ry_iadd dX12_take_6 ?_
  refine ry_puti dX12_take_7 ha0 fl_RX12_105 rfl rfl rfl ?_
  refine ry_letS (fun s1 => ?_)
  refine ry_iconst (v := 1) dX12_take_10 (by decide) ?_
  refine ry_istore_n dX12_take_11 (by decide) ?_
  refine ry_iconst (v := 0) dX12_take_12 (by decide) ?_
  refine ry_istore_n dX12_take_13 (by decide) ?_
  exact ry_to (yl_X12_take_14 cx w rd_big a0 1 0 ha0 s1) ⟨rfl, rfl, rfl, trivial⟩
theorem cm_X12_take (l : Launch) (cx : rd_Cx) (w : rd_W) (a0 : Nat) (ha0 : rd_ok w a0 12) (S : rd_S) (r : rd_S) (h : F_X12_take w a0 S = some r) : rd_M l cx yX12_take G_X12_take 0 [.inr (some a0)] w S (rd_rV w r) :=
  rd_enter (plainFor_of_name (by decide +kernel)) rfl (fun h => by cases h) (Nat.le_of_ble_eq_true rfl) (ym_X12_take cx w a0 ha0 S r h)
abbrev G_X12_restart : rd_G := (RX12, cX12_restart, 1, none, false, { frames := 0, cells := 0, slots := 0, locals := 0 })
theorem yf_X12_restart : rd_YL yX12_restart G_X12_restart 0 := ⟨rd_mem 982 (by decide +kernel) rfl, rd_mem 75 (by decide +kernel) rfl, by decide +kernel, by decide +kernel, by decide +kernel⟩
theorem mi_X12_restart : Cond.instanceMethod yX12_restart ∈ rd_gw := rd_mem 981 (by decide +kernel) rfl
theorem ms_X12_restart : Cond.selects (MethodName.cls yX12_restart) yX12_restart yX12_restart ∈ rd_gw := rd_mem 60 (by decide +kernel) rfl
theorem dX12_restart_0 : decode cX12_restart 0 = .ok (.aload_n 0, 1) := by decide +kernel
theorem dX12_restart_1 : decode cX12_restart 1 = .ok (.iconst 0, 1) := by decide +kernel
theorem dX12_restart_2 : decode cX12_restart 2 = .ok (.putfield 42, 3) := by decide +kernel
theorem dX12_restart_5 : decode cX12_restart 5 = .ok (.aload_n 0, 1) := by decide +kernel
theorem dX12_restart_6 : decode cX12_restart 6 = .ok (.iconst 0, 1) := by decide +kernel
theorem dX12_restart_7 : decode cX12_restart 7 = .ok (.putfield 29, 3) := by decide +kernel
theorem dX12_restart_10 : decode cX12_restart 10 = .ok (.aload_n 0, 1) := by decide +kernel
theorem dX12_restart_11 : decode cX12_restart 11 = .ok (.iconst 0, 1) := by decide +kernel
theorem dX12_restart_12 : decode cX12_restart 12 = .ok (.putfield 50, 3) := by decide +kernel
theorem dX12_restart_15 : decode cX12_restart 15 = .ok (.aload_n 0, 1) := by decide +kernel
theorem dX12_restart_16 : decode cX12_restart 16 = .ok (.iconst 0, 1) := by decide +kernel
theorem dX12_restart_17 : decode cX12_restart 17 = .ok (.putfield 65, 3) := by decide +kernel
theorem dX12_restart_20 : decode cX12_restart 20 = .ok (.aload_n 0, 1) := by decide +kernel
theorem dX12_restart_21 : decode cX12_restart 21 = .ok (.iconst 0, 1) := by decide +kernel
theorem dX12_restart_22 : decode cX12_restart 22 = .ok (.putfield 68, 3) := by decide +kernel
theorem dX12_restart_25 : decode cX12_restart 25 = .ok (.return_, 1) := by decide +kernel
def F_X12_restart (w : rd_W) (a0 : Nat) (S : rd_S) : Option (rd_S) :=
  rd_let (pI S a0 7 0) fun s1 =>
  rd_let (pI s1 a0 5 0) fun s2 =>
  rd_let (pI s2 a0 9 0) fun s3 =>
  rd_let (pI s3 a0 11 0) fun s4 =>
  rd_let (pI s4 a0 12 0) fun s5 =>
  some s5
theorem ym_X12_restart (cx : rd_Cx) (w : rd_W) (a0 : Nat) (ha0 : rd_ok w a0 12) (S : rd_S) : rd_Y cx G_X12_restart (fun r => rd_P cx G_X12_restart.2.2.2.2.2 0 w (rd_rV w r)) (F_X12_restart w a0 S) 0 (rd_as 0 [.inr (some a0)]) [] w S 0 0 := by
  unfold F_X12_restart
  refine ry_aload_n dX12_restart_0 rfl ?_
  refine ry_iconst (v := 0) dX12_restart_1 (by decide) ?_
  refine ry_putz dX12_restart_2 ha0 fl_RX12_42 rfl rfl rfl (by decide) ?_
  refine ry_letS (fun s1 => ?_)
  refine ry_aload_n dX12_restart_5 rfl ?_
  refine ry_iconst (v := 0) dX12_restart_6 (by decide) ?_
  refine ry_puti dX12_restart_7 ha0 fl_RX12_29 rfl rfl rfl ?_
  refine ry_letS (fun s2 => ?_)
  refine ry_aload_n dX12_restart_10 rfl ?_
  refine ry_iconst (v := 0) dX12_restart_11 (by decide) ?_
  refine ry_puti dX12_restart_12 ha0 fl_RX12_50 rfl rfl rfl ?_
  refine ry_letS (fun s3 => ?_)
  refine ry_aload_n dX12_restart_15 rfl ?_
  refine ry_iconst (v := 0) dX12_restart_16 (by decide) ?_
  refine ry_puti dX12_restart_17 ha0 fl_RX12_65 rfl rfl rfl ?_
  refine ry_letS (fun s4 => ?_)
  refine ry_aload_n dX12_restart_20 rfl ?_
  refine ry_iconst (v := 0) dX12_restart_21 (by decide) ?_
  refine ry_puti dX12_restart_22 ha0 fl_RX12_68 rfl rfl rfl ?_
  refine ry_letS (fun s5 => ?_)
  exact ry_vret dX12_restart_25 rfl (Nat.le_of_ble_eq_true rfl) (Nat.le_of_ble_eq_true rfl)
theorem cm_X12_restart (l : Launch) (cx : rd_Cx) (w : rd_W) (a0 : Nat) (ha0 : rd_ok w a0 12) (S : rd_S) (r : rd_S) (h : F_X12_restart w a0 S = some r) : rd_M l cx yX12_restart G_X12_restart 0 [.inr (some a0)] w S (rd_rV w r) :=
  rd_enter (plainFor_of_name (by decide +kernel)) rfl (fun h => by cases h) (Nat.le_of_ble_eq_true rfl) (ym_X12_restart cx w a0 ha0 S r h)
abbrev G_X12_look : rd_G := (RX12, cX12_look, 7, none, false, { frames := 5, cells := 0, slots := 0, locals := 123 })
theorem yf_X12_look : rd_YL yX12_look G_X12_look 1 := ⟨rd_mem 890 (by decide +kernel) rfl, rd_mem 75 (by decide +kernel) rfl, by decide +kernel, by decide +kernel, by decide +kernel⟩
theorem mi_X12_look : Cond.instanceMethod yX12_look ∈ rd_gw := rd_mem 889 (by decide +kernel) rfl
theorem ms_X12_look : Cond.selects (MethodName.cls yX12_look) yX12_look yX12_look ∈ rd_gw := rd_mem 38 (by decide +kernel) rfl
theorem dX12_look_0 : decode cX12_look 0 = .ok (.aload_n 0, 1) := by decide +kernel
theorem dX12_look_1 : decode cX12_look 1 = .ok (.getfield 71, 3) := by decide +kernel
theorem dX12_look_4 : decode cX12_look 4 = .ok (.istore_n 2, 1) := by decide +kernel
theorem dX12_look_5 : decode cX12_look 5 = .ok (.iload_n 2, 1) := by decide +kernel
theorem dX12_look_6 : decode cX12_look 6 = .ok (.ifCond .ne 8, 3) := by decide +kernel
theorem dX12_look_9 : decode cX12_look 9 = .ok (.aload_n 0, 1) := by decide +kernel
theorem dX12_look_10 : decode cX12_look 10 = .ok (.iconst 0, 1) := by decide +kernel
theorem dX12_look_11 : decode cX12_look 11 = .ok (.putfield 80, 3) := by decide +kernel
theorem dX12_look_14 : decode cX12_look 14 = .ok (.iload_n 2, 1) := by decide +kernel
theorem dX12_look_15 : decode cX12_look 15 = .ok (.iconst 2, 1) := by decide +kernel
theorem dX12_look_16 : decode cX12_look 16 = .ok (.if_icmp .ne 15, 3) := by decide +kernel
theorem dX12_look_19 : decode cX12_look 19 = .ok (.iload_n 1, 1) := by decide +kernel
theorem dX12_look_20 : decode cX12_look 20 = .ok (.iconst 4, 1) := by decide +kernel
theorem dX12_look_21 : decode cX12_look 21 = .ok (.invokestatic 14, 3) := by decide +kernel
theorem dX12_look_24 : decode cX12_look 24 = .ok (.ifCond .eq 7, 3) := by decide +kernel
theorem dX12_look_27 : decode cX12_look 27 = .ok (.iconst 1, 1) := by decide +kernel
theorem dX12_look_28 : decode cX12_look 28 = .ok (.goto 4, 3) := by decide +kernel
theorem dX12_look_31 : decode cX12_look 31 = .ok (.iconst 0, 1) := by decide +kernel
theorem dX12_look_32 : decode cX12_look 32 = .ok (.istore_n 3, 1) := by decide +kernel
theorem dX12_look_33 : decode cX12_look 33 = .ok (.iconst 2, 1) := by decide +kernel
theorem dX12_look_34 : decode cX12_look 34 = .ok (.istore 4, 2) := by decide +kernel
theorem dX12_look_36 : decode cX12_look 36 = .ok (.iconst (-1), 1) := by decide +kernel
theorem dX12_look_37 : decode cX12_look 37 = .ok (.istore 5, 2) := by decide +kernel
theorem dX12_look_39 : decode cX12_look 39 = .ok (.iload_n 1, 1) := by decide +kernel
theorem dX12_look_40 : decode cX12_look 40 = .ok (.iload_n 2, 1) := by decide +kernel
theorem dX12_look_41 : decode cX12_look 41 = .ok (.invokestatic 14, 3) := by decide +kernel
theorem dX12_look_44 : decode cX12_look 44 = .ok (.ifCond .ne 7, 3) := by decide +kernel
theorem dX12_look_47 : decode cX12_look 47 = .ok (.iload_n 3, 1) := by decide +kernel
theorem dX12_look_48 : decode cX12_look 48 = .ok (.ifCond .eq 22, 3) := by decide +kernel
theorem dX12_look_51 : decode cX12_look 51 = .ok (.iconst 0, 1) := by decide +kernel
theorem dX12_look_52 : decode cX12_look 52 = .ok (.istore 4, 2) := by decide +kernel
theorem dX12_look_54 : decode cX12_look 54 = .ok (.iload_n 1, 1) := by decide +kernel
theorem dX12_look_55 : decode cX12_look 55 = .ok (.istore 5, 2) := by decide +kernel
theorem dX12_look_57 : decode cX12_look 57 = .ok (.iload_n 2, 1) := by decide +kernel
theorem dX12_look_58 : decode cX12_look 58 = .ok (.iconst 2, 1) := by decide +kernel
theorem dX12_look_59 : decode cX12_look 59 = .ok (.if_icmp .ne 110, 3) := by decide +kernel
theorem dX12_look_62 : decode cX12_look 62 = .ok (.aload_n 0, 1) := by decide +kernel
theorem dX12_look_63 : decode cX12_look 63 = .ok (.iload_n 3, 1) := by decide +kernel
theorem dX12_look_64 : decode cX12_look 64 = .ok (.putfield 80, 3) := by decide +kernel
theorem dX12_look_67 : decode cX12_look 67 = .ok (.goto 102, 3) := by decide +kernel
theorem dX12_look_70 : decode cX12_look 70 = .ok (.iload_n 2, 1) := by decide +kernel
theorem dX12_look_71 : decode cX12_look 71 = .ok (.iconst 2, 1) := by decide +kernel
theorem dX12_look_72 : decode cX12_look 72 = .ok (.if_icmp .eq 7, 3) := by decide +kernel
theorem dX12_look_75 : decode cX12_look 75 = .ok (.iload_n 2, 1) := by decide +kernel
theorem dX12_look_76 : decode cX12_look 76 = .ok (.goto 37, 3) := by decide +kernel
theorem dX12_look_79 : decode cX12_look 79 = .ok (.aload_n 0, 1) := by decide +kernel
theorem dX12_look_80 : decode cX12_look 80 = .ok (.getfield 74, 3) := by decide +kernel
theorem dX12_look_83 : decode cX12_look 83 = .ok (.iconst 1, 1) := by decide +kernel
theorem dX12_look_84 : decode cX12_look 84 = .ok (.iaload, 1) := by decide +kernel
theorem dX12_look_85 : decode cX12_look 85 = .ok (.iconst 1, 1) := by decide +kernel
theorem dX12_look_86 : decode cX12_look 86 = .ok (.if_icmp .le 7, 3) := by decide +kernel
theorem dX12_look_89 : decode cX12_look 89 = .ok (.iconst (-1), 1) := by decide +kernel
theorem dX12_look_90 : decode cX12_look 90 = .ok (.goto 23, 3) := by decide +kernel
theorem dX12_look_93 : decode cX12_look 93 = .ok (.aload_n 0, 1) := by decide +kernel
theorem dX12_look_94 : decode cX12_look 94 = .ok (.getfield 77, 3) := by decide +kernel
theorem dX12_look_97 : decode cX12_look 97 = .ok (.iconst 1, 1) := by decide +kernel
theorem dX12_look_98 : decode cX12_look 98 = .ok (.iaload, 1) := by decide +kernel
theorem dX12_look_99 : decode cX12_look 99 = .ok (.bipush 11, 2) := by decide +kernel
theorem dX12_look_101 : decode cX12_look 101 = .ok (.ishr, 1) := by decide +kernel
theorem dX12_look_102 : decode cX12_look 102 = .ok (.iconst 1, 1) := by decide +kernel
theorem dX12_look_103 : decode cX12_look 103 = .ok (.iand, 1) := by decide +kernel
theorem dX12_look_104 : decode cX12_look 104 = .ok (.iconst 1, 1) := by decide +kernel
theorem dX12_look_105 : decode cX12_look 105 = .ok (.if_icmp .ne 7, 3) := by decide +kernel
theorem dX12_look_108 : decode cX12_look 108 = .ok (.iconst 4, 1) := by decide +kernel
theorem dX12_look_109 : decode cX12_look 109 = .ok (.goto 4, 3) := by decide +kernel
theorem dX12_look_112 : decode cX12_look 112 = .ok (.iconst 2, 1) := by decide +kernel
theorem dX12_look_113 : decode cX12_look 113 = .ok (.istore 6, 2) := by decide +kernel
theorem dX12_look_115 : decode cX12_look 115 = .ok (.iload 6, 2) := by decide +kernel
theorem dX12_look_117 : decode cX12_look 117 = .ok (.iconst (-1), 1) := by decide +kernel
theorem dX12_look_118 : decode cX12_look 118 = .ok (.if_icmp .ne 7, 3) := by decide +kernel
theorem dX12_look_121 : decode cX12_look 121 = .ok (.iconst (-1), 1) := by decide +kernel
theorem dX12_look_122 : decode cX12_look 122 = .ok (.goto 10, 3) := by decide +kernel
theorem dX12_look_125 : decode cX12_look 125 = .ok (.aload_n 0, 1) := by decide +kernel
theorem dX12_look_126 : decode cX12_look 126 = .ok (.iload_n 1, 1) := by decide +kernel
theorem dX12_look_127 : decode cX12_look 127 = .ok (.iload 6, 2) := by decide +kernel
theorem dX12_look_129 : decode cX12_look 129 = .ok (.invokevirtual 83, 3) := by decide +kernel
theorem dX12_look_132 : decode cX12_look 132 = .ok (.istore 5, 2) := by decide +kernel
theorem dX12_look_134 : decode cX12_look 134 = .ok (.iload 5, 2) := by decide +kernel
theorem dX12_look_136 : decode cX12_look 136 = .ok (.iconst (-1), 1) := by decide +kernel
theorem dX12_look_137 : decode cX12_look 137 = .ok (.if_icmp .eq 6, 3) := by decide +kernel
theorem dX12_look_140 : decode cX12_look 140 = .ok (.iconst 1, 1) := by decide +kernel
theorem dX12_look_141 : decode cX12_look 141 = .ok (.istore 4, 2) := by decide +kernel
theorem dX12_look_143 : decode cX12_look 143 = .ok (.iload_n 2, 1) := by decide +kernel
theorem dX12_look_144 : decode cX12_look 144 = .ok (.iconst 2, 1) := by decide +kernel
theorem dX12_look_145 : decode cX12_look 145 = .ok (.if_icmp .ne 24, 3) := by decide +kernel
theorem dX12_look_148 : decode cX12_look 148 = .ok (.aload_n 0, 1) := by decide +kernel
theorem dX12_look_149 : decode cX12_look 149 = .ok (.iload 5, 2) := by decide +kernel
theorem dX12_look_151 : decode cX12_look 151 = .ok (.iconst (-1), 1) := by decide +kernel
theorem dX12_look_152 : decode cX12_look 152 = .ok (.if_icmp .eq 13, 3) := by decide +kernel
theorem dX12_look_155 : decode cX12_look 155 = .ok (.iload 6, 2) := by decide +kernel
theorem dX12_look_157 : decode cX12_look 157 = .ok (.iconst 4, 1) := by decide +kernel
theorem dX12_look_158 : decode cX12_look 158 = .ok (.if_icmp .ne 7, 3) := by decide +kernel
theorem dX12_look_161 : decode cX12_look 161 = .ok (.iconst 1, 1) := by decide +kernel
theorem dX12_look_162 : decode cX12_look 162 = .ok (.goto 4, 3) := by decide +kernel
theorem dX12_look_165 : decode cX12_look 165 = .ok (.iconst 0, 1) := by decide +kernel
theorem dX12_look_166 : decode cX12_look 166 = .ok (.putfield 80, 3) := by decide +kernel
theorem dX12_look_169 : decode cX12_look 169 = .ok (.aload_n 0, 1) := by decide +kernel
theorem dX12_look_170 : decode cX12_look 170 = .ok (.getfield 74, 3) := by decide +kernel
theorem dX12_look_173 : decode cX12_look 173 = .ok (.iload_n 2, 1) := by decide +kernel
theorem dX12_look_174 : decode cX12_look 174 = .ok (.iload 4, 2) := by decide +kernel
theorem dX12_look_176 : decode cX12_look 176 = .ok (.iastore, 1) := by decide +kernel
theorem dX12_look_177 : decode cX12_look 177 = .ok (.aload_n 0, 1) := by decide +kernel
theorem dX12_look_178 : decode cX12_look 178 = .ok (.getfield 77, 3) := by decide +kernel
theorem dX12_look_181 : decode cX12_look 181 = .ok (.iload_n 2, 1) := by decide +kernel
theorem dX12_look_182 : decode cX12_look 182 = .ok (.iload 5, 2) := by decide +kernel
theorem dX12_look_184 : decode cX12_look 184 = .ok (.iconst (-1), 1) := by decide +kernel
theorem dX12_look_185 : decode cX12_look 185 = .ok (.if_icmp .ne 7, 3) := by decide +kernel
theorem dX12_look_188 : decode cX12_look 188 = .ok (.iconst (-1), 1) := by decide +kernel
theorem dX12_look_189 : decode cX12_look 189 = .ok (.goto 8, 3) := by decide +kernel
theorem dX12_look_192 : decode cX12_look 192 = .ok (.iload 5, 2) := by decide +kernel
theorem dX12_look_194 : decode cX12_look 194 = .ok (.bipush 10, 2) := by decide +kernel
theorem dX12_look_196 : decode cX12_look 196 = .ok (.ishr, 1) := by decide +kernel
theorem dX12_look_197 : decode cX12_look 197 = .ok (.iastore, 1) := by decide +kernel
theorem dX12_look_198 : decode cX12_look 198 = .ok (.aload_n 0, 1) := by decide +kernel
theorem dX12_look_199 : decode cX12_look 199 = .ok (.getfield 87, 3) := by decide +kernel
theorem dX12_look_202 : decode cX12_look 202 = .ok (.iload 4, 2) := by decide +kernel
theorem dX12_look_204 : decode cX12_look 204 = .ok (.dup2, 1) := by decide +kernel
theorem dX12_look_205 : decode cX12_look 205 = .ok (.iaload, 1) := by decide +kernel
theorem dX12_look_206 : decode cX12_look 206 = .ok (.iconst 1, 1) := by decide +kernel
theorem dX12_look_207 : decode cX12_look 207 = .ok (.iadd, 1) := by decide +kernel
theorem dX12_look_208 : decode cX12_look 208 = .ok (.iastore, 1) := by decide +kernel
theorem dX12_look_209 : decode cX12_look 209 = .ok (.aload_n 0, 1) := by decide +kernel
theorem dX12_look_210 : decode cX12_look 210 = .ok (.iload 4, 2) := by decide +kernel
theorem dX12_look_212 : decode cX12_look 212 = .ok (.invokevirtual 90, 3) := by decide +kernel
theorem dX12_look_215 : decode cX12_look 215 = .ok (.aload_n 0, 1) := by decide +kernel
theorem dX12_look_216 : decode cX12_look 216 = .ok (.iload_n 2, 1) := by decide +kernel
theorem dX12_look_217 : decode cX12_look 217 = .ok (.iconst 1, 1) := by decide +kernel
theorem dX12_look_218 : decode cX12_look 218 = .ok (.iadd, 1) := by decide +kernel
theorem dX12_look_219 : decode cX12_look 219 = .ok (.iconst 3, 1) := by decide +kernel
theorem dX12_look_220 : decode cX12_look 220 = .ok (.iand, 1) := by decide +kernel
theorem dX12_look_221 : decode cX12_look 221 = .ok (.putfield 71, 3) := by decide +kernel
theorem dX12_look_224 : decode cX12_look 224 = .ok (.iload_n 2, 1) := by decide +kernel
theorem dX12_look_225 : decode cX12_look 225 = .ok (.iconst 3, 1) := by decide +kernel
theorem dX12_look_226 : decode cX12_look 226 = .ok (.if_icmp .ne 7, 3) := by decide +kernel
theorem dX12_look_229 : decode cX12_look 229 = .ok (.aload_n 0, 1) := by decide +kernel
theorem dX12_look_230 : decode cX12_look 230 = .ok (.invokevirtual 93, 3) := by decide +kernel
theorem dX12_look_233 : decode cX12_look 233 = .ok (.aload_n 0, 1) := by decide +kernel
theorem dX12_look_234 : decode cX12_look 234 = .ok (.getfield 68, 3) := by decide +kernel
theorem dX12_look_237 : decode cX12_look 237 = .ok (.aload_n 0, 1) := by decide +kernel
theorem dX12_look_238 : decode cX12_look 238 = .ok (.getfield 22, 3) := by decide +kernel
theorem dX12_look_241 : decode cX12_look 241 = .ok (.if_icmp .ge 4, 3) := by decide +kernel
theorem dX12_look_244 : decode cX12_look 244 = .ok (.return_, 1) := by decide +kernel
theorem dX12_look_245 : decode cX12_look 245 = .ok (.aload_n 0, 1) := by decide +kernel
theorem dX12_look_246 : decode cX12_look 246 = .ok (.dup, 1) := by decide +kernel
theorem dX12_look_247 : decode cX12_look 247 = .ok (.getfield 96, 3) := by decide +kernel
theorem dX12_look_250 : decode cX12_look 250 = .ok (.iconst 1, 1) := by decide +kernel
theorem dX12_look_251 : decode cX12_look 251 = .ok (.iadd, 1) := by decide +kernel
theorem dX12_look_252 : decode cX12_look 252 = .ok (.putfield 96, 3) := by decide +kernel
theorem dX12_look_255 : decode cX12_look 255 = .ok (.aload_n 0, 1) := by decide +kernel
theorem dX12_look_256 : decode cX12_look 256 = .ok (.invokevirtual 99, 3) := by decide +kernel
theorem dX12_look_259 : decode cX12_look 259 = .ok (.return_, 1) := by decide +kernel
def B_X12_look_233 (w : rd_W) (a0 : Nat) (S : rd_S) : Option (rd_S) :=
  if (gI S a0 2) ≤ (gI S a0 12) then
  (rd_let (pI S a0 15 ((gI S a0 15) + 1)) fun s35 =>
  rd_c (F_X12_restart w a0 s35) fun s36 =>
  some s36)
  else
  (some S)
theorem yb_X12_look_233 (cx : rd_Cx) (w : rd_W) (a0 : Nat) (ha0 : rd_ok w a0 12) (S : rd_S) : rd_Y cx G_X12_look (fun r => rd_P cx G_X12_look.2.2.2.2.2 0 w (rd_rV w r)) (B_X12_look_233 w a0 S) 233 [(0, .inr (some a0))] [] w S 0 0 := by
  unfold B_X12_look_233
  refine ry_aload_n dX12_look_233 rfl ?_
  refine ry_geti dX12_look_234 ha0 fl_RX12_68 rfl ?_
  refine ry_aload_n dX12_look_237 rfl ?_
  refine ry_geti dX12_look_238 ha0 fl_RX12_22 rfl ?_
  refine ry_icmp_ge 245 dX12_look_241 (by decide) (fun c34 => ?_) (fun c34 => ?_)
  · refine ry_aload_n dX12_look_245 rfl ?_
    refine ry_dup dX12_look_246 ?_
    refine ry_geti dX12_look_247 ha0 fl_RX12_96 rfl ?_
    refine ry_iconst (v := 1) dX12_look_250 (by decide) ?_
    refine ry_iadd dX12_look_251 ?_
    refine ry_puti dX12_look_252 ha0 fl_RX12_96 rfl rfl rfl ?_
    refine ry_letS (fun s35 => ?_)
    refine ry_aload_n dX12_look_255 rfl ?_
    refine ry_callv (fun l r9 h9 => cm_X12_restart l cx w a0 ha0 s35 r9 h9) (rd_runV (vs := []) dX12_look_256 ha0 rfl rfl yf_X12_restart mi_X12_restart ms_X12_restart ml_RX12_99 ⟨Nat.le_of_ble_eq_true rfl, Nat.le_of_ble_eq_true rfl⟩ (Nat.le_of_ble_eq_true rfl) rfl) rfl rfl (Nat.le_of_ble_eq_true rfl) (Nat.le_of_ble_eq_true rfl) (fun s36 => ?_)
    exact ry_vret dX12_look_259 rfl (Nat.le_of_ble_eq_true rfl) (Nat.le_of_ble_eq_true rfl)
  · exact ry_vret dX12_look_244 rfl (Nat.le_of_ble_eq_true rfl) (Nat.le_of_ble_eq_true rfl)
def B_X12_look_197 (w : rd_W) (a0 : Nat) (x2 : Int32) (x4 : Int32) (t0 : Int32) (t1 : Int32) (e2 : Nat) (S : rd_S) : Option (rd_S) :=
  rd_i t1 (w.2.2 e2) <|
  rd_let (pI S e2 t1.toNatClampNeg t0) fun s27 =>
  rd_c (gR s27 a0 13) fun b28 =>
  rd_i x4 (w.2.2 b28) <|
  rd_i x4 (w.2.2 b28) <|
  rd_let (pI s27 b28 x4.toNatClampNeg ((gI s27 b28 x4.toNatClampNeg) + 1)) fun s29 =>
  rd_c (F_X12_count w a0 x4 s29) fun s30 =>
  rd_let (pI s30 a0 8 ((x2 + 1) &&& 3)) fun s31 =>
  if x2 = 3 then
  (rd_c (F_X12_take w a0 s31) fun s33 =>
  B_X12_look_233 w a0 s33)
  else
  (B_X12_look_233 w a0 s31)
theorem yb_X12_look_197 (cx : rd_Cx) (w : rd_W) (a0 : Nat) (x2 : Int32) (x4 : Int32) (t0 : Int32) (t1 : Int32) (e2 : Nat) (ha0 : rd_ok w a0 12) (he2 : rd_ok w e2 13) (S : rd_S) : rd_Y cx G_X12_look (fun r => rd_P cx G_X12_look.2.2.2.2.2 0 w (rd_rV w r)) (B_X12_look_197 w a0 x2 x4 t0 t1 e2 S) 197 [(0, .inr (some a0)), (2, .inl x2), (4, .inl x4)] [.inl t0, .inl t1, .inr (some e2)] w S 0 0 := by
  unfold B_X12_look_197
  refine ry_iast dX12_look_197 he2 ?_
  refine ry_letS (fun s27 => ?_)
  refine ry_aload_n dX12_look_198 rfl ?_
  refine ry_getr dX12_look_199 ha0 fl_RX12_87 rfl (fun b28 hb28 => ?_)
  refine ry_iload dX12_look_202 rfl ?_
  refine ry_dup2 dX12_look_204 ?_
  refine ry_iald dX12_look_205 hb28 ?_
  refine ry_iconst (v := 1) dX12_look_206 (by decide) ?_
  refine ry_iadd dX12_look_207 ?_
  refine ry_iast dX12_look_208 hb28 ?_
  refine ry_letS (fun s29 => ?_)
  refine ry_aload_n dX12_look_209 rfl ?_
  refine ry_iload dX12_look_210 rfl ?_
  refine ry_callv (fun l r9 h9 => cm_X12_count l cx w a0 x4 ha0 s29 r9 h9) (rd_runV (vs := [.inl x4]) dX12_look_212 ha0 rfl rfl yf_X12_count mi_X12_count ms_X12_count ml_RX12_90 ⟨Nat.le_of_ble_eq_true rfl, Nat.le_of_ble_eq_true rfl⟩ (Nat.le_of_ble_eq_true rfl) rfl) rfl rfl (Nat.le_of_ble_eq_true rfl) (Nat.le_of_ble_eq_true rfl) (fun s30 => ?_)
  refine ry_aload_n dX12_look_215 rfl ?_
  refine ry_iload_n dX12_look_216 rfl ?_
  refine ry_iconst (v := 1) dX12_look_217 (by decide) ?_
  refine ry_iadd dX12_look_218 ?_
  refine ry_iconst (v := 3) dX12_look_219 (by decide) ?_
  refine ry_iand dX12_look_220 ?_
  refine ry_puti dX12_look_221 ha0 fl_RX12_71 rfl rfl rfl ?_
  refine ry_letS (fun s31 => ?_)
  refine ry_iload_n dX12_look_224 rfl ?_
  refine ry_iconst (v := 3) dX12_look_225 (by decide) ?_
  refine ry_icmp_ne 233 dX12_look_226 (by decide) (fun c32 => ?_) (fun c32 => ?_)
  · refine ry_aload_n dX12_look_229 rfl ?_
    refine ry_callv (fun l r9 h9 => cm_X12_take l cx w a0 ha0 s31 r9 h9) (rd_runV (vs := []) dX12_look_230 ha0 rfl rfl yf_X12_take mi_X12_take ms_X12_take ml_RX12_93 ⟨Nat.le_of_ble_eq_true rfl, Nat.le_of_ble_eq_true rfl⟩ (Nat.le_of_ble_eq_true rfl) rfl) rfl rfl (Nat.le_of_ble_eq_true rfl) (Nat.le_of_ble_eq_true rfl) (fun s33 => ?_)
    exact ry_to (yb_X12_look_233 cx w a0 ha0 s33) ⟨rfl, trivial⟩
  · exact ry_to (yb_X12_look_233 cx w a0 ha0 s31) ⟨rfl, trivial⟩
def B_X12_look_169 (w : rd_W) (a0 : Nat) (x2 : Int32) (x4 : Int32) (x5 : Int32) (S : rd_S) : Option (rd_S) :=
  rd_c (gR S a0 19) fun b23 =>
  rd_i x2 (w.2.2 b23) <|
  rd_let (pI S b23 x2.toNatClampNeg x4) fun s24 =>
  rd_c (gR s24 a0 18) fun b25 =>
  if x5 = (-1) then
  (B_X12_look_197 w a0 x2 x4 (-1) x2 b25 s24)
  else
  (B_X12_look_197 w a0 x2 x4 (rd_shr x5 10) x2 b25 s24)
theorem yb_X12_look_169 (cx : rd_Cx) (w : rd_W) (a0 : Nat) (x2 : Int32) (x4 : Int32) (x5 : Int32) (ha0 : rd_ok w a0 12) (S : rd_S) : rd_Y cx G_X12_look (fun r => rd_P cx G_X12_look.2.2.2.2.2 0 w (rd_rV w r)) (B_X12_look_169 w a0 x2 x4 x5 S) 169 [(0, .inr (some a0)), (2, .inl x2), (4, .inl x4), (5, .inl x5)] [] w S 0 0 := by
  unfold B_X12_look_169
  refine ry_aload_n dX12_look_169 rfl ?_
  refine ry_getr dX12_look_170 ha0 fl_RX12_74 rfl (fun b23 hb23 => ?_)
  refine ry_iload_n dX12_look_173 rfl ?_
  refine ry_iload dX12_look_174 rfl ?_
  refine ry_iast dX12_look_176 hb23 ?_
  refine ry_letS (fun s24 => ?_)
  refine ry_aload_n dX12_look_177 rfl ?_
  refine ry_getr dX12_look_178 ha0 fl_RX12_77 rfl (fun b25 hb25 => ?_)
  refine ry_iload_n dX12_look_181 rfl ?_
  refine ry_iload dX12_look_182 rfl ?_
  refine ry_iconst (v := (-1)) dX12_look_184 (by decide) ?_
  refine ry_icmp_ne 192 dX12_look_185 (by decide) (fun c26 => ?_) (fun c26 => ?_)
  · refine ry_iconst (v := (-1)) dX12_look_188 (by decide) ?_
    refine ry_goto 197 dX12_look_189 (by decide) ?_
    exact ry_to (yb_X12_look_197 cx w a0 x2 x4 (-1) x2 b25 ha0 hb25 s24) ⟨rfl, rfl, rfl, trivial⟩
  · refine ry_iload dX12_look_192 rfl ?_
    refine ry_bipush (v := 10) dX12_look_194 (by decide) ?_
    refine ry_ishr dX12_look_196 ?_
    exact ry_to (yb_X12_look_197 cx w a0 x2 x4 (rd_shr x5 10) x2 b25 ha0 hb25 s24) ⟨rfl, rfl, rfl, trivial⟩
def B_X12_look_166 (w : rd_W) (a0 : Nat) (x2 : Int32) (x4 : Int32) (x5 : Int32) (t0 : Int32) (e1 : Nat) (S : rd_S) : Option (rd_S) :=
  rd_z t0 <|
  rd_let (pI S e1 20 t0) fun s22 =>
  B_X12_look_169 w a0 x2 x4 x5 s22
theorem yb_X12_look_166 (cx : rd_Cx) (w : rd_W) (a0 : Nat) (x2 : Int32) (x4 : Int32) (x5 : Int32) (t0 : Int32) (e1 : Nat) (ha0 : rd_ok w a0 12) (he1 : rd_ok w e1 12) (S : rd_S) : rd_Y cx G_X12_look (fun r => rd_P cx G_X12_look.2.2.2.2.2 0 w (rd_rV w r)) (B_X12_look_166 w a0 x2 x4 x5 t0 e1 S) 166 [(0, .inr (some a0)), (2, .inl x2), (4, .inl x4), (5, .inl x5)] [.inl t0, .inr (some e1)] w S 0 0 := by
  unfold B_X12_look_166
  refine ry_zg (fun z21 => ?_)
  refine ry_putz dX12_look_166 he1 fl_RX12_80 rfl rfl rfl z21 ?_
  refine ry_letS (fun s22 => ?_)
  exact ry_to (yb_X12_look_169 cx w a0 x2 x4 x5 ha0 s22) ⟨rfl, rfl, rfl, rfl, trivial⟩
def B_X12_look_165 (w : rd_W) (a0 : Nat) (x2 : Int32) (x4 : Int32) (x5 : Int32) (e0 : Nat) (S : rd_S) : Option (rd_S) :=
  B_X12_look_166 w a0 x2 x4 x5 0 e0 S
theorem yb_X12_look_165 (cx : rd_Cx) (w : rd_W) (a0 : Nat) (x2 : Int32) (x4 : Int32) (x5 : Int32) (e0 : Nat) (ha0 : rd_ok w a0 12) (he0 : rd_ok w e0 12) (S : rd_S) : rd_Y cx G_X12_look (fun r => rd_P cx G_X12_look.2.2.2.2.2 0 w (rd_rV w r)) (B_X12_look_165 w a0 x2 x4 x5 e0 S) 165 [(0, .inr (some a0)), (2, .inl x2), (4, .inl x4), (5, .inl x5)] [.inr (some e0)] w S 0 0 := by
  unfold B_X12_look_165
  refine ry_iconst (v := 0) dX12_look_165 (by decide) ?_
  exact ry_to (yb_X12_look_166 cx w a0 x2 x4 x5 0 e0 ha0 he0 S) ⟨rfl, rfl, rfl, rfl, trivial⟩
def B_X12_look_143 (w : rd_W) (a0 : Nat) (x2 : Int32) (x4 : Int32) (x5 : Int32) (x6 : Int32) (S : rd_S) : Option (rd_S) :=
  if x2 = 2 then
  (if x5 = (-1) then
  (B_X12_look_165 w a0 x2 x4 x5 a0 S)
  else
  (if x6 = 4 then
  (B_X12_look_166 w a0 x2 x4 x5 1 a0 S)
  else
  (B_X12_look_165 w a0 x2 x4 x5 a0 S)))
  else
  (B_X12_look_169 w a0 x2 x4 x5 S)
theorem yb_X12_look_143 (cx : rd_Cx) (w : rd_W) (a0 : Nat) (x2 : Int32) (x4 : Int32) (x5 : Int32) (x6 : Int32) (ha0 : rd_ok w a0 12) (S : rd_S) : rd_Y cx G_X12_look (fun r => rd_P cx G_X12_look.2.2.2.2.2 0 w (rd_rV w r)) (B_X12_look_143 w a0 x2 x4 x5 x6 S) 143 [(0, .inr (some a0)), (2, .inl x2), (4, .inl x4), (5, .inl x5), (6, .inl x6)] [] w S 0 0 := by
  unfold B_X12_look_143
  refine ry_iload_n dX12_look_143 rfl ?_
  refine ry_iconst (v := 2) dX12_look_144 (by decide) ?_
  refine ry_icmp_ne 169 dX12_look_145 (by decide) (fun c19 => ?_) (fun c19 => ?_)
  · refine ry_aload_n dX12_look_148 rfl ?_
    refine ry_iload dX12_look_149 rfl ?_
    refine ry_iconst (v := (-1)) dX12_look_151 (by decide) ?_
    refine ry_icmp_eq 165 dX12_look_152 (by decide) (fun c20 => ?_) (fun c20 => ?_)
    · exact ry_to (yb_X12_look_165 cx w a0 x2 x4 x5 a0 ha0 ha0 S) ⟨rfl, rfl, rfl, rfl, trivial⟩
    · refine ry_iload dX12_look_155 rfl ?_
      refine ry_iconst (v := 4) dX12_look_157 (by decide) ?_
      refine ry_icmp_ne 165 dX12_look_158 (by decide) (fun c37 => ?_) (fun c37 => ?_)
      · refine ry_iconst (v := 1) dX12_look_161 (by decide) ?_
        refine ry_goto 166 dX12_look_162 (by decide) ?_
        exact ry_to (yb_X12_look_166 cx w a0 x2 x4 x5 1 a0 ha0 ha0 S) ⟨rfl, rfl, rfl, rfl, trivial⟩
      · exact ry_to (yb_X12_look_165 cx w a0 x2 x4 x5 a0 ha0 ha0 S) ⟨rfl, rfl, rfl, rfl, trivial⟩
  · exact ry_to (yb_X12_look_169 cx w a0 x2 x4 x5 ha0 S) ⟨rfl, rfl, rfl, rfl, trivial⟩
def B_X12_look_132 (w : rd_W) (a0 : Nat) (x2 : Int32) (x4 : Int32) (x6 : Int32) (t0 : Int32) (S : rd_S) : Option (rd_S) :=
  if t0 = (-1) then
  (B_X12_look_143 w a0 x2 x4 t0 x6 S)
  else
  (B_X12_look_143 w a0 x2 1 t0 x6 S)
theorem yb_X12_look_132 (cx : rd_Cx) (w : rd_W) (a0 : Nat) (x2 : Int32) (x4 : Int32) (x6 : Int32) (t0 : Int32) (ha0 : rd_ok w a0 12) (S : rd_S) : rd_Y cx G_X12_look (fun r => rd_P cx G_X12_look.2.2.2.2.2 0 w (rd_rV w r)) (B_X12_look_132 w a0 x2 x4 x6 t0 S) 132 [(0, .inr (some a0)), (2, .inl x2), (4, .inl x4), (6, .inl x6)] [.inl t0] w S 0 0 := by
  unfold B_X12_look_132
  refine ry_istore dX12_look_132 (by decide) ?_
  refine ry_iload dX12_look_134 rfl ?_
  refine ry_iconst (v := (-1)) dX12_look_136 (by decide) ?_
  refine ry_icmp_eq 143 dX12_look_137 (by decide) (fun c18 => ?_) (fun c18 => ?_)
  · exact ry_to (yb_X12_look_143 cx w a0 x2 x4 t0 x6 ha0 S) ⟨rfl, rfl, rfl, rfl, rfl, trivial⟩
  · refine ry_iconst (v := 1) dX12_look_140 (by decide) ?_
    refine ry_istore dX12_look_141 (by decide) ?_
    exact ry_to (yb_X12_look_143 cx w a0 x2 1 t0 x6 ha0 S) ⟨rfl, rfl, rfl, rfl, rfl, trivial⟩
def B_X12_look_113 (w : rd_W) (a0 : Nat) (x1 : Int32) (x2 : Int32) (x4 : Int32) (t0 : Int32) (S : rd_S) : Option (rd_S) :=
  if t0 = (-1) then
  (B_X12_look_132 w a0 x2 x4 t0 (-1) S)
  else
  (rd_b (F_X12_corrected w a0 x1 t0 S) fun v39 s38 =>
  B_X12_look_132 w a0 x2 x4 t0 v39 s38)
theorem yb_X12_look_113 (cx : rd_Cx) (w : rd_W) (a0 : Nat) (x1 : Int32) (x2 : Int32) (x4 : Int32) (t0 : Int32) (ha0 : rd_ok w a0 12) (S : rd_S) : rd_Y cx G_X12_look (fun r => rd_P cx G_X12_look.2.2.2.2.2 0 w (rd_rV w r)) (B_X12_look_113 w a0 x1 x2 x4 t0 S) 113 [(0, .inr (some a0)), (1, .inl x1), (2, .inl x2), (4, .inl x4)] [.inl t0] w S 0 0 := by
  unfold B_X12_look_113
  refine ry_istore dX12_look_113 (by decide) ?_
  refine ry_iload dX12_look_115 rfl ?_
  refine ry_iconst (v := (-1)) dX12_look_117 (by decide) ?_
  refine ry_icmp_ne 125 dX12_look_118 (by decide) (fun c17 => ?_) (fun c17 => ?_)
  · refine ry_iconst (v := (-1)) dX12_look_121 (by decide) ?_
    refine ry_goto 132 dX12_look_122 (by decide) ?_
    exact ry_to (yb_X12_look_132 cx w a0 x2 x4 t0 (-1) ha0 S) ⟨rfl, rfl, rfl, rfl, trivial⟩
  · refine ry_aload_n dX12_look_125 rfl ?_
    refine ry_iload_n dX12_look_126 rfl ?_
    refine ry_iload dX12_look_127 rfl ?_
    refine ry_callI (fun l r9 h9 => cm_X12_corrected l cx w a0 x1 t0 ha0 S r9 h9) (rd_runV (vs := [.inl x1, .inl t0]) dX12_look_129 ha0 rfl rfl yf_X12_corrected mi_X12_corrected ms_X12_corrected ml_RX12_83 ⟨Nat.le_of_ble_eq_true rfl, Nat.le_of_ble_eq_true rfl⟩ (Nat.le_of_ble_eq_true rfl) rfl) rfl rfl (Nat.le_of_ble_eq_true rfl) (Nat.le_of_ble_eq_true rfl) (fun v39 s38 => ?_)
    exact ry_to (yb_X12_look_132 cx w a0 x2 x4 t0 v39 ha0 s38) ⟨rfl, rfl, rfl, rfl, trivial⟩
def B_X12_look_51 (w : rd_W) (a0 : Nat) (x1 : Int32) (x2 : Int32) (x3 : Int32) (S : rd_S) : Option (rd_S) :=
  if x2 = 2 then
  (rd_z x3 <|
  rd_let (pI S a0 20 x3) fun s42 =>
  B_X12_look_169 w a0 x2 0 x1 s42)
  else
  (B_X12_look_169 w a0 x2 0 x1 S)
theorem yb_X12_look_51 (cx : rd_Cx) (w : rd_W) (a0 : Nat) (x1 : Int32) (x2 : Int32) (x3 : Int32) (ha0 : rd_ok w a0 12) (S : rd_S) : rd_Y cx G_X12_look (fun r => rd_P cx G_X12_look.2.2.2.2.2 0 w (rd_rV w r)) (B_X12_look_51 w a0 x1 x2 x3 S) 51 [(0, .inr (some a0)), (1, .inl x1), (2, .inl x2), (3, .inl x3)] [] w S 0 0 := by
  unfold B_X12_look_51
  refine ry_iconst (v := 0) dX12_look_51 (by decide) ?_
  refine ry_istore dX12_look_52 (by decide) ?_
  refine ry_iload_n dX12_look_54 rfl ?_
  refine ry_istore dX12_look_55 (by decide) ?_
  refine ry_iload_n dX12_look_57 rfl ?_
  refine ry_iconst (v := 2) dX12_look_58 (by decide) ?_
  refine ry_icmp_ne 169 dX12_look_59 (by decide) (fun c40 => ?_) (fun c40 => ?_)
  · refine ry_aload_n dX12_look_62 rfl ?_
    refine ry_iload_n dX12_look_63 rfl ?_
    refine ry_zg (fun z41 => ?_)
    refine ry_putz dX12_look_64 ha0 fl_RX12_80 rfl rfl rfl z41 ?_
    refine ry_letS (fun s42 => ?_)
    refine ry_goto 169 dX12_look_67 (by decide) ?_
    exact ry_to (yb_X12_look_169 cx w a0 x2 0 x1 ha0 s42) ⟨rfl, rfl, rfl, rfl, trivial⟩
  · exact ry_to (yb_X12_look_169 cx w a0 x2 0 x1 ha0 S) ⟨rfl, rfl, rfl, rfl, trivial⟩
def B_X12_look_32 (w : rd_W) (a0 : Nat) (x1 : Int32) (x2 : Int32) (t0 : Int32) (S : rd_S) : Option (rd_S) :=
  rd_b (F_X12_isGood w x1 x2 S) fun v9 s8 =>
  if v9 = 0 then
  (if t0 = 0 then
  (if x2 = 2 then
  (rd_c (gR s8 a0 19) fun b13 =>
  rd_i 1 (w.2.2 b13) <|
  if (gI s8 b13 (1 : Int32).toNatClampNeg) ≤ 1 then
  (rd_c (gR s8 a0 18) fun b15 =>
  rd_i 1 (w.2.2 b15) <|
  if ((rd_shr (gI s8 b15 (1 : Int32).toNatClampNeg) 11) &&& 1) = 1 then
  (B_X12_look_113 w a0 x1 x2 2 4 s8)
  else
  (B_X12_look_113 w a0 x1 x2 2 2 s8))
  else
  (B_X12_look_113 w a0 x1 x2 2 (-1) s8))
  else
  (B_X12_look_113 w a0 x1 x2 2 x2 s8))
  else
  (B_X12_look_51 w a0 x1 x2 t0 s8))
  else
  (B_X12_look_51 w a0 x1 x2 t0 s8)
theorem yb_X12_look_32 (cx : rd_Cx) (w : rd_W) (a0 : Nat) (x1 : Int32) (x2 : Int32) (t0 : Int32) (ha0 : rd_ok w a0 12) (S : rd_S) : rd_Y cx G_X12_look (fun r => rd_P cx G_X12_look.2.2.2.2.2 0 w (rd_rV w r)) (B_X12_look_32 w a0 x1 x2 t0 S) 32 [(0, .inr (some a0)), (1, .inl x1), (2, .inl x2)] [.inl t0] w S 0 0 := by
  unfold B_X12_look_32
  refine ry_istore_n dX12_look_32 (by decide) ?_
  refine ry_iconst (v := 2) dX12_look_33 (by decide) ?_
  refine ry_istore dX12_look_34 (by decide) ?_
  refine ry_iconst (v := (-1)) dX12_look_36 (by decide) ?_
  refine ry_istore dX12_look_37 (by decide) ?_
  refine ry_iload_n dX12_look_39 rfl ?_
  refine ry_iload_n dX12_look_40 rfl ?_
  refine ry_callI (fun l r9 h9 => cm_X12_isGood l cx w x1 x2 S r9 h9) (rd_runS (vs := [.inl x1, .inl x2]) dX12_look_41 yf_X12_isGood mt_X12_isGood ml_RX12_14 ⟨Nat.le_of_ble_eq_true rfl, Nat.le_of_ble_eq_true rfl⟩ (Nat.le_of_ble_eq_true rfl) rfl) rfl rfl (Nat.le_of_ble_eq_true rfl) (Nat.le_of_ble_eq_true rfl) (fun v9 s8 => ?_)
  refine ry_if_ne 51 dX12_look_44 (by decide) (fun c10 => ?_) (fun c10 => ?_)
  · refine ry_iload_n dX12_look_47 rfl ?_
    refine ry_if_eq 70 dX12_look_48 (by decide) (fun c11 => ?_) (fun c11 => ?_)
    · refine ry_iload_n dX12_look_70 rfl ?_
      refine ry_iconst (v := 2) dX12_look_71 (by decide) ?_
      refine ry_icmp_eq 79 dX12_look_72 (by decide) (fun c12 => ?_) (fun c12 => ?_)
      · refine ry_aload_n dX12_look_79 rfl ?_
        refine ry_getr dX12_look_80 ha0 fl_RX12_74 rfl (fun b13 hb13 => ?_)
        refine ry_iconst (v := 1) dX12_look_83 (by decide) ?_
        refine ry_iald dX12_look_84 hb13 ?_
        refine ry_iconst (v := 1) dX12_look_85 (by decide) ?_
        refine ry_icmp_le 93 dX12_look_86 (by decide) (fun c14 => ?_) (fun c14 => ?_)
        · refine ry_aload_n dX12_look_93 rfl ?_
          refine ry_getr dX12_look_94 ha0 fl_RX12_77 rfl (fun b15 hb15 => ?_)
          refine ry_iconst (v := 1) dX12_look_97 (by decide) ?_
          refine ry_iald dX12_look_98 hb15 ?_
          refine ry_bipush (v := 11) dX12_look_99 (by decide) ?_
          refine ry_ishr dX12_look_101 ?_
          refine ry_iconst (v := 1) dX12_look_102 (by decide) ?_
          refine ry_iand dX12_look_103 ?_
          refine ry_iconst (v := 1) dX12_look_104 (by decide) ?_
          refine ry_icmp_ne 112 dX12_look_105 (by decide) (fun c16 => ?_) (fun c16 => ?_)
          · refine ry_iconst (v := 4) dX12_look_108 (by decide) ?_
            refine ry_goto 113 dX12_look_109 (by decide) ?_
            exact ry_to (yb_X12_look_113 cx w a0 x1 x2 2 4 ha0 s8) ⟨rfl, rfl, rfl, rfl, trivial⟩
          · refine ry_iconst (v := 2) dX12_look_112 (by decide) ?_
            exact ry_to (yb_X12_look_113 cx w a0 x1 x2 2 2 ha0 s8) ⟨rfl, rfl, rfl, rfl, trivial⟩
        · refine ry_iconst (v := (-1)) dX12_look_89 (by decide) ?_
          refine ry_goto 113 dX12_look_90 (by decide) ?_
          exact ry_to (yb_X12_look_113 cx w a0 x1 x2 2 (-1) ha0 s8) ⟨rfl, rfl, rfl, rfl, trivial⟩
      · refine ry_iload_n dX12_look_75 rfl ?_
        refine ry_goto 113 dX12_look_76 (by decide) ?_
        exact ry_to (yb_X12_look_113 cx w a0 x1 x2 2 x2 ha0 s8) ⟨rfl, rfl, rfl, rfl, trivial⟩
    · exact ry_to (yb_X12_look_51 cx w a0 x1 x2 t0 ha0 s8) ⟨rfl, rfl, rfl, rfl, trivial⟩
  · exact ry_to (yb_X12_look_51 cx w a0 x1 x2 t0 ha0 s8) ⟨rfl, rfl, rfl, rfl, trivial⟩
def B_X12_look_31 (w : rd_W) (a0 : Nat) (x1 : Int32) (x2 : Int32) (S : rd_S) : Option (rd_S) :=
  B_X12_look_32 w a0 x1 x2 0 S
theorem yb_X12_look_31 (cx : rd_Cx) (w : rd_W) (a0 : Nat) (x1 : Int32) (x2 : Int32) (ha0 : rd_ok w a0 12) (S : rd_S) : rd_Y cx G_X12_look (fun r => rd_P cx G_X12_look.2.2.2.2.2 0 w (rd_rV w r)) (B_X12_look_31 w a0 x1 x2 S) 31 [(0, .inr (some a0)), (1, .inl x1), (2, .inl x2)] [] w S 0 0 := by
  unfold B_X12_look_31
  refine ry_iconst (v := 0) dX12_look_31 (by decide) ?_
  exact ry_to (yb_X12_look_32 cx w a0 x1 x2 0 ha0 S) ⟨rfl, rfl, rfl, trivial⟩
def B_X12_look_14 (w : rd_W) (a0 : Nat) (x1 : Int32) (x2 : Int32) (S : rd_S) : Option (rd_S) :=
  if x2 = 2 then
  (rd_b (F_X12_isGood w x1 4 S) fun v6 s5 =>
  if v6 = 0 then
  (B_X12_look_31 w a0 x1 x2 s5)
  else
  (B_X12_look_32 w a0 x1 x2 1 s5))
  else
  (B_X12_look_31 w a0 x1 x2 S)
theorem yb_X12_look_14 (cx : rd_Cx) (w : rd_W) (a0 : Nat) (x1 : Int32) (x2 : Int32) (ha0 : rd_ok w a0 12) (S : rd_S) : rd_Y cx G_X12_look (fun r => rd_P cx G_X12_look.2.2.2.2.2 0 w (rd_rV w r)) (B_X12_look_14 w a0 x1 x2 S) 14 [(0, .inr (some a0)), (1, .inl x1), (2, .inl x2)] [] w S 0 0 := by
  unfold B_X12_look_14
  refine ry_iload_n dX12_look_14 rfl ?_
  refine ry_iconst (v := 2) dX12_look_15 (by decide) ?_
  refine ry_icmp_ne 31 dX12_look_16 (by decide) (fun c4 => ?_) (fun c4 => ?_)
  · refine ry_iload_n dX12_look_19 rfl ?_
    refine ry_iconst (v := 4) dX12_look_20 (by decide) ?_
    refine ry_callI (fun l r9 h9 => cm_X12_isGood l cx w x1 4 S r9 h9) (rd_runS (vs := [.inl x1, .inl 4]) dX12_look_21 yf_X12_isGood mt_X12_isGood ml_RX12_14 ⟨Nat.le_of_ble_eq_true rfl, Nat.le_of_ble_eq_true rfl⟩ (Nat.le_of_ble_eq_true rfl) rfl) rfl rfl (Nat.le_of_ble_eq_true rfl) (Nat.le_of_ble_eq_true rfl) (fun v6 s5 => ?_)
    refine ry_if_eq 31 dX12_look_24 (by decide) (fun c7 => ?_) (fun c7 => ?_)
    · exact ry_to (yb_X12_look_31 cx w a0 x1 x2 ha0 s5) ⟨rfl, rfl, rfl, trivial⟩
    · refine ry_iconst (v := 1) dX12_look_27 (by decide) ?_
      refine ry_goto 32 dX12_look_28 (by decide) ?_
      exact ry_to (yb_X12_look_32 cx w a0 x1 x2 1 ha0 s5) ⟨rfl, rfl, rfl, trivial⟩
  · exact ry_to (yb_X12_look_31 cx w a0 x1 x2 ha0 S) ⟨rfl, rfl, rfl, trivial⟩
def F_X12_look (w : rd_W) (a0 : Nat) (x1 : Int32) (S : rd_S) : Option (rd_S) :=
  rd_let (gI S a0 8) fun v1 =>
  if v1 = 0 then
  (rd_let (pI S a0 20 0) fun s3 =>
  B_X12_look_14 w a0 x1 v1 s3)
  else
  (B_X12_look_14 w a0 x1 v1 S)
theorem ym_X12_look (cx : rd_Cx) (w : rd_W) (a0 : Nat) (x1 : Int32) (ha0 : rd_ok w a0 12) (S : rd_S) : rd_Y cx G_X12_look (fun r => rd_P cx G_X12_look.2.2.2.2.2 0 w (rd_rV w r)) (F_X12_look w a0 x1 S) 0 (rd_as 0 [.inr (some a0), .inl x1]) [] w S 0 0 := by
  unfold F_X12_look
  refine ry_aload_n dX12_look_0 rfl ?_
  refine ry_geti dX12_look_1 ha0 fl_RX12_71 rfl ?_
  refine ry_istore_n dX12_look_4 (by decide) ?_
  refine ry_let (fun v1 => ?_)
  refine ry_iload_n dX12_look_5 rfl ?_
  refine ry_if_ne 14 dX12_look_6 (by decide) (fun c2 => ?_) (fun c2 => ?_)
  · refine ry_aload_n dX12_look_9 rfl ?_
    refine ry_iconst (v := 0) dX12_look_10 (by decide) ?_
    refine ry_putz dX12_look_11 ha0 fl_RX12_80 rfl rfl rfl (by decide) ?_
    refine ry_letS (fun s3 => ?_)
    exact ry_to (yb_X12_look_14 cx w a0 x1 v1 ha0 s3) ⟨rfl, rfl, rfl, trivial⟩
  · exact ry_to (yb_X12_look_14 cx w a0 x1 v1 ha0 S) ⟨rfl, rfl, rfl, trivial⟩
theorem cm_X12_look (l : Launch) (cx : rd_Cx) (w : rd_W) (a0 : Nat) (x1 : Int32) (ha0 : rd_ok w a0 12) (S : rd_S) (r : rd_S) (h : F_X12_look w a0 x1 S = some r) : rd_M l cx yX12_look G_X12_look 0 [.inr (some a0), .inl x1] w S (rd_rV w r) :=
  rd_enter (plainFor_of_name (by decide +kernel)) rfl (fun h => by cases h) (Nat.le_of_ble_eq_true rfl) (ym_X12_look cx w a0 x1 ha0 S r h)
