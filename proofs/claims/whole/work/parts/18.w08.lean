abbrev G_X12_oneMore : rd_G := (RX12, cX12_oneMore, 3, (some .int), false, { frames := 0, cells := 0, slots := 0, locals := 0 })
theorem yf_X12_oneMore : rd_YL yX12_oneMore G_X12_oneMore 0 := ⟨rd_mem 978 (by decide +kernel) rfl, rd_mem 75 (by decide +kernel) rfl, by decide +kernel, by decide +kernel, by decide +kernel⟩
theorem mi_X12_oneMore : Cond.instanceMethod yX12_oneMore ∈ rd_gw := rd_mem 977 (by decide +kernel) rfl
theorem ms_X12_oneMore : Cond.selects (MethodName.cls yX12_oneMore) yX12_oneMore yX12_oneMore ∈ rd_gw := rd_mem 59 (by decide +kernel) rfl
theorem dX12_oneMore_0 : decode cX12_oneMore 0 = .ok (.aload_n 0, 1) := by decide +kernel
theorem dX12_oneMore_1 : decode cX12_oneMore 1 = .ok (.getfield 272, 3) := by decide +kernel
theorem dX12_oneMore_4 : decode cX12_oneMore 4 = .ok (.bipush 8, 2) := by decide +kernel
theorem dX12_oneMore_6 : decode cX12_oneMore 6 = .ok (.if_icmp .ne 172, 3) := by decide +kernel
theorem dX12_oneMore_9 : decode cX12_oneMore 9 = .ok (.iconst 0, 1) := by decide +kernel
theorem dX12_oneMore_10 : decode cX12_oneMore 10 = .ok (.istore_n 1, 1) := by decide +kernel
theorem dX12_oneMore_11 : decode cX12_oneMore 11 = .ok (.iload_n 1, 1) := by decide +kernel
theorem dX12_oneMore_12 : decode cX12_oneMore 12 = .ok (.bipush 77, 2) := by decide +kernel
theorem dX12_oneMore_14 : decode cX12_oneMore 14 = .ok (.if_icmp .ge 24, 3) := by decide +kernel
theorem dX12_oneMore_17 : decode cX12_oneMore 17 = .ok (.aload_n 0, 1) := by decide +kernel
theorem dX12_oneMore_18 : decode cX12_oneMore 18 = .ok (.getfield 275, 3) := by decide +kernel
theorem dX12_oneMore_21 : decode cX12_oneMore 21 = .ok (.iload_n 1, 1) := by decide +kernel
theorem dX12_oneMore_22 : decode cX12_oneMore 22 = .ok (.aload_n 0, 1) := by decide +kernel
theorem dX12_oneMore_23 : decode cX12_oneMore 23 = .ok (.getfield 275, 3) := by decide +kernel
theorem dX12_oneMore_26 : decode cX12_oneMore 26 = .ok (.iload_n 1, 1) := by decide +kernel
theorem dX12_oneMore_27 : decode cX12_oneMore 27 = .ok (.bipush 11, 2) := by decide +kernel
theorem dX12_oneMore_29 : decode cX12_oneMore 29 = .ok (.iadd, 1) := by decide +kernel
theorem dX12_oneMore_30 : decode cX12_oneMore 30 = .ok (.iaload, 1) := by decide +kernel
theorem dX12_oneMore_31 : decode cX12_oneMore 31 = .ok (.iastore, 1) := by decide +kernel
theorem dX12_oneMore_32 : decode cX12_oneMore 32 = .ok (.iinc 1 1, 3) := by decide +kernel
theorem dX12_oneMore_35 : decode cX12_oneMore 35 = .ok (.goto (-24), 3) := by decide +kernel
theorem dX12_oneMore_38 : decode cX12_oneMore 38 = .ok (.iconst 0, 1) := by decide +kernel
theorem dX12_oneMore_39 : decode cX12_oneMore 39 = .ok (.istore_n 1, 1) := by decide +kernel
theorem dX12_oneMore_40 : decode cX12_oneMore 40 = .ok (.iload_n 1, 1) := by decide +kernel
theorem dX12_oneMore_41 : decode cX12_oneMore 41 = .ok (.bipush 7, 2) := by decide +kernel
theorem dX12_oneMore_43 : decode cX12_oneMore 43 = .ok (.if_icmp .ge 129, 3) := by decide +kernel
theorem dX12_oneMore_46 : decode cX12_oneMore 46 = .ok (.aload_n 0, 1) := by decide +kernel
theorem dX12_oneMore_47 : decode cX12_oneMore 47 = .ok (.getfield 193, 3) := by decide +kernel
theorem dX12_oneMore_50 : decode cX12_oneMore 50 = .ok (.iload_n 1, 1) := by decide +kernel
theorem dX12_oneMore_51 : decode cX12_oneMore 51 = .ok (.aload_n 0, 1) := by decide +kernel
theorem dX12_oneMore_52 : decode cX12_oneMore 52 = .ok (.getfield 193, 3) := by decide +kernel
theorem dX12_oneMore_55 : decode cX12_oneMore 55 = .ok (.iload_n 1, 1) := by decide +kernel
theorem dX12_oneMore_56 : decode cX12_oneMore 56 = .ok (.iconst 1, 1) := by decide +kernel
theorem dX12_oneMore_57 : decode cX12_oneMore 57 = .ok (.iadd, 1) := by decide +kernel
theorem dX12_oneMore_58 : decode cX12_oneMore 58 = .ok (.iaload, 1) := by decide +kernel
theorem dX12_oneMore_59 : decode cX12_oneMore 59 = .ok (.iastore, 1) := by decide +kernel
theorem dX12_oneMore_60 : decode cX12_oneMore 60 = .ok (.aload_n 0, 1) := by decide +kernel
theorem dX12_oneMore_61 : decode cX12_oneMore 61 = .ok (.getfield 178, 3) := by decide +kernel
theorem dX12_oneMore_64 : decode cX12_oneMore 64 = .ok (.iconst 3, 1) := by decide +kernel
theorem dX12_oneMore_65 : decode cX12_oneMore 65 = .ok (.iload_n 1, 1) := by decide +kernel
theorem dX12_oneMore_66 : decode cX12_oneMore 66 = .ok (.iadd, 1) := by decide +kernel
theorem dX12_oneMore_67 : decode cX12_oneMore 67 = .ok (.aload_n 0, 1) := by decide +kernel
theorem dX12_oneMore_68 : decode cX12_oneMore 68 = .ok (.getfield 178, 3) := by decide +kernel
theorem dX12_oneMore_71 : decode cX12_oneMore 71 = .ok (.iconst 3, 1) := by decide +kernel
theorem dX12_oneMore_72 : decode cX12_oneMore 72 = .ok (.iload_n 1, 1) := by decide +kernel
theorem dX12_oneMore_73 : decode cX12_oneMore 73 = .ok (.iadd, 1) := by decide +kernel
theorem dX12_oneMore_74 : decode cX12_oneMore 74 = .ok (.iconst 1, 1) := by decide +kernel
theorem dX12_oneMore_75 : decode cX12_oneMore 75 = .ok (.iadd, 1) := by decide +kernel
theorem dX12_oneMore_76 : decode cX12_oneMore 76 = .ok (.iaload, 1) := by decide +kernel
theorem dX12_oneMore_77 : decode cX12_oneMore 77 = .ok (.iastore, 1) := by decide +kernel
theorem dX12_oneMore_78 : decode cX12_oneMore 78 = .ok (.aload_n 0, 1) := by decide +kernel
theorem dX12_oneMore_79 : decode cX12_oneMore 79 = .ok (.getfield 187, 3) := by decide +kernel
theorem dX12_oneMore_82 : decode cX12_oneMore 82 = .ok (.iconst 3, 1) := by decide +kernel
theorem dX12_oneMore_83 : decode cX12_oneMore 83 = .ok (.iload_n 1, 1) := by decide +kernel
theorem dX12_oneMore_84 : decode cX12_oneMore 84 = .ok (.iadd, 1) := by decide +kernel
theorem dX12_oneMore_85 : decode cX12_oneMore 85 = .ok (.aload_n 0, 1) := by decide +kernel
theorem dX12_oneMore_86 : decode cX12_oneMore 86 = .ok (.getfield 187, 3) := by decide +kernel
theorem dX12_oneMore_89 : decode cX12_oneMore 89 = .ok (.iconst 3, 1) := by decide +kernel
theorem dX12_oneMore_90 : decode cX12_oneMore 90 = .ok (.iload_n 1, 1) := by decide +kernel
theorem dX12_oneMore_91 : decode cX12_oneMore 91 = .ok (.iadd, 1) := by decide +kernel
theorem dX12_oneMore_92 : decode cX12_oneMore 92 = .ok (.iconst 1, 1) := by decide +kernel
theorem dX12_oneMore_93 : decode cX12_oneMore 93 = .ok (.iadd, 1) := by decide +kernel
theorem dX12_oneMore_94 : decode cX12_oneMore 94 = .ok (.iaload, 1) := by decide +kernel
theorem dX12_oneMore_95 : decode cX12_oneMore 95 = .ok (.iastore, 1) := by decide +kernel
theorem dX12_oneMore_96 : decode cX12_oneMore 96 = .ok (.iconst 0, 1) := by decide +kernel
theorem dX12_oneMore_97 : decode cX12_oneMore 97 = .ok (.istore_n 2, 1) := by decide +kernel
theorem dX12_oneMore_98 : decode cX12_oneMore 98 = .ok (.iload_n 2, 1) := by decide +kernel
theorem dX12_oneMore_99 : decode cX12_oneMore 99 = .ok (.bipush 8, 2) := by decide +kernel
theorem dX12_oneMore_101 : decode cX12_oneMore 101 = .ok (.if_icmp .ge 65, 3) := by decide +kernel
theorem dX12_oneMore_104 : decode cX12_oneMore 104 = .ok (.aload_n 0, 1) := by decide +kernel
theorem dX12_oneMore_105 : decode cX12_oneMore 105 = .ok (.getfield 171, 3) := by decide +kernel
theorem dX12_oneMore_108 : decode cX12_oneMore 108 = .ok (.iconst 3, 1) := by decide +kernel
theorem dX12_oneMore_109 : decode cX12_oneMore 109 = .ok (.iload_n 1, 1) := by decide +kernel
theorem dX12_oneMore_110 : decode cX12_oneMore 110 = .ok (.iadd, 1) := by decide +kernel
theorem dX12_oneMore_111 : decode cX12_oneMore 111 = .ok (.bipush 64, 2) := by decide +kernel
theorem dX12_oneMore_113 : decode cX12_oneMore 113 = .ok (.imul, 1) := by decide +kernel
theorem dX12_oneMore_114 : decode cX12_oneMore 114 = .ok (.iload_n 2, 1) := by decide +kernel
theorem dX12_oneMore_115 : decode cX12_oneMore 115 = .ok (.iadd, 1) := by decide +kernel
theorem dX12_oneMore_116 : decode cX12_oneMore 116 = .ok (.aload_n 0, 1) := by decide +kernel
theorem dX12_oneMore_117 : decode cX12_oneMore 117 = .ok (.getfield 171, 3) := by decide +kernel
theorem dX12_oneMore_120 : decode cX12_oneMore 120 = .ok (.iconst 3, 1) := by decide +kernel
theorem dX12_oneMore_121 : decode cX12_oneMore 121 = .ok (.iload_n 1, 1) := by decide +kernel
theorem dX12_oneMore_122 : decode cX12_oneMore 122 = .ok (.iadd, 1) := by decide +kernel
theorem dX12_oneMore_123 : decode cX12_oneMore 123 = .ok (.iconst 1, 1) := by decide +kernel
theorem dX12_oneMore_124 : decode cX12_oneMore 124 = .ok (.iadd, 1) := by decide +kernel
theorem dX12_oneMore_125 : decode cX12_oneMore 125 = .ok (.bipush 64, 2) := by decide +kernel
theorem dX12_oneMore_127 : decode cX12_oneMore 127 = .ok (.imul, 1) := by decide +kernel
theorem dX12_oneMore_128 : decode cX12_oneMore 128 = .ok (.iload_n 2, 1) := by decide +kernel
theorem dX12_oneMore_129 : decode cX12_oneMore 129 = .ok (.iadd, 1) := by decide +kernel
theorem dX12_oneMore_130 : decode cX12_oneMore 130 = .ok (.iaload, 1) := by decide +kernel
theorem dX12_oneMore_131 : decode cX12_oneMore 131 = .ok (.iastore, 1) := by decide +kernel
theorem dX12_oneMore_132 : decode cX12_oneMore 132 = .ok (.aload_n 0, 1) := by decide +kernel
theorem dX12_oneMore_133 : decode cX12_oneMore 133 = .ok (.getfield 184, 3) := by decide +kernel
theorem dX12_oneMore_136 : decode cX12_oneMore 136 = .ok (.iconst 3, 1) := by decide +kernel
theorem dX12_oneMore_137 : decode cX12_oneMore 137 = .ok (.iload_n 1, 1) := by decide +kernel
theorem dX12_oneMore_138 : decode cX12_oneMore 138 = .ok (.iadd, 1) := by decide +kernel
theorem dX12_oneMore_139 : decode cX12_oneMore 139 = .ok (.bipush 64, 2) := by decide +kernel
theorem dX12_oneMore_141 : decode cX12_oneMore 141 = .ok (.imul, 1) := by decide +kernel
theorem dX12_oneMore_142 : decode cX12_oneMore 142 = .ok (.iload_n 2, 1) := by decide +kernel
theorem dX12_oneMore_143 : decode cX12_oneMore 143 = .ok (.iadd, 1) := by decide +kernel
theorem dX12_oneMore_144 : decode cX12_oneMore 144 = .ok (.aload_n 0, 1) := by decide +kernel
theorem dX12_oneMore_145 : decode cX12_oneMore 145 = .ok (.getfield 184, 3) := by decide +kernel
theorem dX12_oneMore_148 : decode cX12_oneMore 148 = .ok (.iconst 3, 1) := by decide +kernel
theorem dX12_oneMore_149 : decode cX12_oneMore 149 = .ok (.iload_n 1, 1) := by decide +kernel
theorem dX12_oneMore_150 : decode cX12_oneMore 150 = .ok (.iadd, 1) := by decide +kernel
theorem dX12_oneMore_151 : decode cX12_oneMore 151 = .ok (.iconst 1, 1) := by decide +kernel
theorem dX12_oneMore_152 : decode cX12_oneMore 152 = .ok (.iadd, 1) := by decide +kernel
theorem dX12_oneMore_153 : decode cX12_oneMore 153 = .ok (.bipush 64, 2) := by decide +kernel
theorem dX12_oneMore_155 : decode cX12_oneMore 155 = .ok (.imul, 1) := by decide +kernel
theorem dX12_oneMore_156 : decode cX12_oneMore 156 = .ok (.iload_n 2, 1) := by decide +kernel
theorem dX12_oneMore_157 : decode cX12_oneMore 157 = .ok (.iadd, 1) := by decide +kernel
theorem dX12_oneMore_158 : decode cX12_oneMore 158 = .ok (.iaload, 1) := by decide +kernel
theorem dX12_oneMore_159 : decode cX12_oneMore 159 = .ok (.iastore, 1) := by decide +kernel
theorem dX12_oneMore_160 : decode cX12_oneMore 160 = .ok (.iinc 2 1, 3) := by decide +kernel
theorem dX12_oneMore_163 : decode cX12_oneMore 163 = .ok (.goto (-65), 3) := by decide +kernel
theorem dX12_oneMore_166 : decode cX12_oneMore 166 = .ok (.iinc 1 1, 3) := by decide +kernel
theorem dX12_oneMore_169 : decode cX12_oneMore 169 = .ok (.goto (-129), 3) := by decide +kernel
theorem dX12_oneMore_172 : decode cX12_oneMore 172 = .ok (.aload_n 0, 1) := by decide +kernel
theorem dX12_oneMore_173 : decode cX12_oneMore 173 = .ok (.bipush 7, 2) := by decide +kernel
theorem dX12_oneMore_175 : decode cX12_oneMore 175 = .ok (.putfield 272, 3) := by decide +kernel
theorem dX12_oneMore_178 : decode cX12_oneMore 178 = .ok (.aload_n 0, 1) := by decide +kernel
theorem dX12_oneMore_179 : decode cX12_oneMore 179 = .ok (.getfield 272, 3) := by decide +kernel
theorem dX12_oneMore_182 : decode cX12_oneMore 182 = .ok (.istore_n 1, 1) := by decide +kernel
theorem dX12_oneMore_183 : decode cX12_oneMore 183 = .ok (.aload_n 0, 1) := by decide +kernel
theorem dX12_oneMore_184 : decode cX12_oneMore 184 = .ok (.dup, 1) := by decide +kernel
theorem dX12_oneMore_185 : decode cX12_oneMore 185 = .ok (.getfield 272, 3) := by decide +kernel
theorem dX12_oneMore_188 : decode cX12_oneMore 188 = .ok (.iconst 1, 1) := by decide +kernel
theorem dX12_oneMore_189 : decode cX12_oneMore 189 = .ok (.iadd, 1) := by decide +kernel
theorem dX12_oneMore_190 : decode cX12_oneMore 190 = .ok (.putfield 272, 3) := by decide +kernel
theorem dX12_oneMore_193 : decode cX12_oneMore 193 = .ok (.iconst 1, 1) := by decide +kernel
theorem dX12_oneMore_194 : decode cX12_oneMore 194 = .ok (.istore_n 2, 1) := by decide +kernel
theorem dX12_oneMore_195 : decode cX12_oneMore 195 = .ok (.iload_n 2, 1) := by decide +kernel
theorem dX12_oneMore_196 : decode cX12_oneMore 196 = .ok (.bipush 11, 2) := by decide +kernel
theorem dX12_oneMore_198 : decode cX12_oneMore 198 = .ok (.if_icmp .ge 21, 3) := by decide +kernel
theorem dX12_oneMore_201 : decode cX12_oneMore 201 = .ok (.aload_n 0, 1) := by decide +kernel
theorem dX12_oneMore_202 : decode cX12_oneMore 202 = .ok (.getfield 275, 3) := by decide +kernel
theorem dX12_oneMore_205 : decode cX12_oneMore 205 = .ok (.bipush 11, 2) := by decide +kernel
theorem dX12_oneMore_207 : decode cX12_oneMore 207 = .ok (.iload_n 1, 1) := by decide +kernel
theorem dX12_oneMore_208 : decode cX12_oneMore 208 = .ok (.imul, 1) := by decide +kernel
theorem dX12_oneMore_209 : decode cX12_oneMore 209 = .ok (.iload_n 2, 1) := by decide +kernel
theorem dX12_oneMore_210 : decode cX12_oneMore 210 = .ok (.iadd, 1) := by decide +kernel
theorem dX12_oneMore_211 : decode cX12_oneMore 211 = .ok (.iconst (-1), 1) := by decide +kernel
theorem dX12_oneMore_212 : decode cX12_oneMore 212 = .ok (.iastore, 1) := by decide +kernel
theorem dX12_oneMore_213 : decode cX12_oneMore 213 = .ok (.iinc 2 1, 3) := by decide +kernel
theorem dX12_oneMore_216 : decode cX12_oneMore 216 = .ok (.goto (-21), 3) := by decide +kernel
theorem dX12_oneMore_219 : decode cX12_oneMore 219 = .ok (.aload_n 0, 1) := by decide +kernel
theorem dX12_oneMore_220 : decode cX12_oneMore 220 = .ok (.getfield 275, 3) := by decide +kernel
theorem dX12_oneMore_223 : decode cX12_oneMore 223 = .ok (.bipush 11, 2) := by decide +kernel
theorem dX12_oneMore_225 : decode cX12_oneMore 225 = .ok (.iload_n 1, 1) := by decide +kernel
theorem dX12_oneMore_226 : decode cX12_oneMore 226 = .ok (.imul, 1) := by decide +kernel
theorem dX12_oneMore_227 : decode cX12_oneMore 227 = .ok (.aload_n 0, 1) := by decide +kernel
theorem dX12_oneMore_228 : decode cX12_oneMore 228 = .ok (.getfield 77, 3) := by decide +kernel
theorem dX12_oneMore_231 : decode cX12_oneMore 231 = .ok (.iconst 3, 1) := by decide +kernel
theorem dX12_oneMore_232 : decode cX12_oneMore 232 = .ok (.iaload, 1) := by decide +kernel
theorem dX12_oneMore_233 : decode cX12_oneMore 233 = .ok (.iastore, 1) := by decide +kernel
theorem dX12_oneMore_234 : decode cX12_oneMore 234 = .ok (.aload_n 0, 1) := by decide +kernel
theorem dX12_oneMore_235 : decode cX12_oneMore 235 = .ok (.getfield 193, 3) := by decide +kernel
theorem dX12_oneMore_238 : decode cX12_oneMore 238 = .ok (.iload_n 1, 1) := by decide +kernel
theorem dX12_oneMore_239 : decode cX12_oneMore 239 = .ok (.iconst 0, 1) := by decide +kernel
theorem dX12_oneMore_240 : decode cX12_oneMore 240 = .ok (.iastore, 1) := by decide +kernel
theorem dX12_oneMore_241 : decode cX12_oneMore 241 = .ok (.aload_n 0, 1) := by decide +kernel
theorem dX12_oneMore_242 : decode cX12_oneMore 242 = .ok (.getfield 178, 3) := by decide +kernel
theorem dX12_oneMore_245 : decode cX12_oneMore 245 = .ok (.iconst 3, 1) := by decide +kernel
theorem dX12_oneMore_246 : decode cX12_oneMore 246 = .ok (.iload_n 1, 1) := by decide +kernel
theorem dX12_oneMore_247 : decode cX12_oneMore 247 = .ok (.iadd, 1) := by decide +kernel
theorem dX12_oneMore_248 : decode cX12_oneMore 248 = .ok (.iconst 0, 1) := by decide +kernel
theorem dX12_oneMore_249 : decode cX12_oneMore 249 = .ok (.iastore, 1) := by decide +kernel
theorem dX12_oneMore_250 : decode cX12_oneMore 250 = .ok (.aload_n 0, 1) := by decide +kernel
theorem dX12_oneMore_251 : decode cX12_oneMore 251 = .ok (.getfield 187, 3) := by decide +kernel
theorem dX12_oneMore_254 : decode cX12_oneMore 254 = .ok (.iconst 3, 1) := by decide +kernel
theorem dX12_oneMore_255 : decode cX12_oneMore 255 = .ok (.iload_n 1, 1) := by decide +kernel
theorem dX12_oneMore_256 : decode cX12_oneMore 256 = .ok (.iadd, 1) := by decide +kernel
theorem dX12_oneMore_257 : decode cX12_oneMore 257 = .ok (.iconst (-1), 1) := by decide +kernel
theorem dX12_oneMore_258 : decode cX12_oneMore 258 = .ok (.iastore, 1) := by decide +kernel
theorem dX12_oneMore_259 : decode cX12_oneMore 259 = .ok (.iload_n 1, 1) := by decide +kernel
theorem dX12_oneMore_260 : decode cX12_oneMore 260 = .ok (.ireturn, 1) := by decide +kernel
def B_X12_oneMore_195 (w : rd_W) (k195 : Nat → Int32 → Int32 → rd_S → Option (Int32 × rd_S)) (a0 : Nat) (x1 : Int32) (x2 : Int32) (S : rd_S) : Option (Int32 × rd_S) :=
  if 11 ≤ x2 then
  (rd_c (gR S a0 51) fun b8 =>
  rd_c (gR S a0 18) fun b9 =>
  rd_i 3 (w.2.2 b9) <|
  rd_i (11 * x1) (w.2.2 b8) <|
  rd_let (pI S b8 (11 * x1).toNatClampNeg (gI S b9 (3 : Int32).toNatClampNeg)) fun s10 =>
  rd_c (gR s10 a0 52) fun b11 =>
  rd_i x1 (w.2.2 b11) <|
  rd_let (pI s10 b11 x1.toNatClampNeg 0) fun s12 =>
  rd_c (gR s12 a0 28) fun b13 =>
  rd_i (3 + x1) (w.2.2 b13) <|
  rd_let (pI s12 b13 (3 + x1).toNatClampNeg 0) fun s14 =>
  rd_c (gR s14 a0 30) fun b15 =>
  rd_i (3 + x1) (w.2.2 b15) <|
  rd_let (pI s14 b15 (3 + x1).toNatClampNeg (-1)) fun s16 =>
  some (x1, s16))
  else
  (rd_c (gR S a0 51) fun b17 =>
  rd_i ((11 * x1) + x2) (w.2.2 b17) <|
  rd_let (pI S b17 ((11 * x1) + x2).toNatClampNeg (-1)) fun s18 =>
  rd_let (x2 + 1) fun v19 =>
  k195 a0 x1 v19 s18)
theorem yb_X12_oneMore_195 (cx : rd_Cx) (w : rd_W) {k195 : Nat → Int32 → Int32 → rd_S → Option (Int32 × rd_S)} (hk195 : ∀ (a0 : Nat) (x1 : Int32) (x2 : Int32) (ha0 : rd_ok w a0 12) (S : rd_S), rd_Y cx G_X12_oneMore (fun r => rd_P cx G_X12_oneMore.2.2.2.2.2 0 w (rd_rI w r)) (k195 a0 x1 x2 S) 195 [(0, .inr (some a0)), (1, .inl x1), (2, .inl x2)] [] w S 0 0) (a0 : Nat) (x1 : Int32) (x2 : Int32) (ha0 : rd_ok w a0 12) (S : rd_S) : rd_Y cx G_X12_oneMore (fun r => rd_P cx G_X12_oneMore.2.2.2.2.2 0 w (rd_rI w r)) (B_X12_oneMore_195 w k195 a0 x1 x2 S) 195 [(0, .inr (some a0)), (1, .inl x1), (2, .inl x2)] [] w S 0 0 := by
  unfold B_X12_oneMore_195
  refine ry_iload_n dX12_oneMore_195 rfl ?_
  refine ry_bipush (v := 11) dX12_oneMore_196 (by decide) ?_
  refine ry_icmp_ge 219 dX12_oneMore_198 (by decide) (fun c7 => ?_) (fun c7 => ?_)
  · refine ry_aload_n dX12_oneMore_219 rfl ?_
    refine ry_getr dX12_oneMore_220 ha0 fl_RX12_275 rfl (fun b8 hb8 => ?_)
    refine ry_bipush (v := 11) dX12_oneMore_223 (by decide) ?_
    refine ry_iload_n dX12_oneMore_225 rfl ?_
    refine ry_imul dX12_oneMore_226 ?_
    refine ry_aload_n dX12_oneMore_227 rfl ?_
    refine ry_getr dX12_oneMore_228 ha0 fl_RX12_77 rfl (fun b9 hb9 => ?_)
    refine ry_iconst (v := 3) dX12_oneMore_231 (by decide) ?_
    refine ry_iald dX12_oneMore_232 hb9 ?_
    refine ry_iast dX12_oneMore_233 hb8 ?_
    refine ry_letS (fun s10 => ?_)
    refine ry_aload_n dX12_oneMore_234 rfl ?_
    refine ry_getr dX12_oneMore_235 ha0 fl_RX12_193 rfl (fun b11 hb11 => ?_)
    refine ry_iload_n dX12_oneMore_238 rfl ?_
    refine ry_iconst (v := 0) dX12_oneMore_239 (by decide) ?_
    refine ry_iast dX12_oneMore_240 hb11 ?_
    refine ry_letS (fun s12 => ?_)
    refine ry_aload_n dX12_oneMore_241 rfl ?_
    refine ry_getr dX12_oneMore_242 ha0 fl_RX12_178 rfl (fun b13 hb13 => ?_)
    refine ry_iconst (v := 3) dX12_oneMore_245 (by decide) ?_
    refine ry_iload_n dX12_oneMore_246 rfl ?_
    refine ry_iadd dX12_oneMore_247 ?_
    refine ry_iconst (v := 0) dX12_oneMore_248 (by decide) ?_
    refine ry_iast dX12_oneMore_249 hb13 ?_
    refine ry_letS (fun s14 => ?_)
    refine ry_aload_n dX12_oneMore_250 rfl ?_
    refine ry_getr dX12_oneMore_251 ha0 fl_RX12_187 rfl (fun b15 hb15 => ?_)
    refine ry_iconst (v := 3) dX12_oneMore_254 (by decide) ?_
    refine ry_iload_n dX12_oneMore_255 rfl ?_
    refine ry_iadd dX12_oneMore_256 ?_
    refine ry_iconst (v := (-1)) dX12_oneMore_257 (by decide) ?_
    refine ry_iast dX12_oneMore_258 hb15 ?_
    refine ry_letS (fun s16 => ?_)
    refine ry_iload_n dX12_oneMore_259 rfl ?_
    exact ry_iret dX12_oneMore_260 rfl (Nat.le_of_ble_eq_true rfl) (Nat.le_of_ble_eq_true rfl)
  · refine ry_aload_n dX12_oneMore_201 rfl ?_
    refine ry_getr dX12_oneMore_202 ha0 fl_RX12_275 rfl (fun b17 hb17 => ?_)
    refine ry_bipush (v := 11) dX12_oneMore_205 (by decide) ?_
    refine ry_iload_n dX12_oneMore_207 rfl ?_
    refine ry_imul dX12_oneMore_208 ?_
    refine ry_iload_n dX12_oneMore_209 rfl ?_
    refine ry_iadd dX12_oneMore_210 ?_
    refine ry_iconst (v := (-1)) dX12_oneMore_211 (by decide) ?_
    refine ry_iast dX12_oneMore_212 hb17 ?_
    refine ry_letS (fun s18 => ?_)
    refine ry_iinc (v := 1) dX12_oneMore_213 rfl (by decide) (by decide) ?_
    refine ry_let (fun v19 => ?_)
    refine ry_goto 195 dX12_oneMore_216 (by decide) ?_
    exact ry_to (hk195 a0 x1 v19 ha0 s18) ⟨rfl, rfl, rfl, trivial⟩
def F_X12_oneMore_195 (w : rd_W) (n : Nat) : Nat → Int32 → Int32 → rd_S → Option (Int32 × rd_S) :=
  Nat.rec (motive := fun _ => Nat → Int32 → Int32 → rd_S → Option (Int32 × rd_S)) (fun _ _ _ _ => none) (fun _ ih => B_X12_oneMore_195 w ih) n
theorem yl_X12_oneMore_195 (cx : rd_Cx) (w : rd_W) : ∀ (n : Nat) (a0 : Nat) (x1 : Int32) (x2 : Int32) (ha0 : rd_ok w a0 12) (S : rd_S), rd_Y cx G_X12_oneMore (fun r => rd_P cx G_X12_oneMore.2.2.2.2.2 0 w (rd_rI w r)) (F_X12_oneMore_195 w n a0 x1 x2 S) 195 [(0, .inr (some a0)), (1, .inl x1), (2, .inl x2)] [] w S 0 0 := by
  intro n
  induction n with
  | zero => intro a0 x1 x2 ha0 S; exact ry_none
  | succ n ih => intro a0 x1 x2 ha0 S; exact yb_X12_oneMore_195 cx w ih a0 x1 x2 ha0 S
def B_X12_oneMore_178 (w : rd_W) (a0 : Nat) (S : rd_S) : Option (Int32 × rd_S) :=
  rd_let (gI S a0 53) fun v5 =>
  rd_let (pI S a0 53 ((gI S a0 53) + 1)) fun s6 =>
  F_X12_oneMore_195 w rd_big a0 v5 1 s6
theorem yb_X12_oneMore_178 (cx : rd_Cx) (w : rd_W) (a0 : Nat) (ha0 : rd_ok w a0 12) (S : rd_S) : rd_Y cx G_X12_oneMore (fun r => rd_P cx G_X12_oneMore.2.2.2.2.2 0 w (rd_rI w r)) (B_X12_oneMore_178 w a0 S) 178 [(0, .inr (some a0))] [] w S 0 0 := by
  unfold B_X12_oneMore_178
  refine ry_aload_n dX12_oneMore_178 rfl ?_
  refine ry_geti dX12_oneMore_179 ha0 fl_RX12_272 rfl ?_
  refine ry_istore_n dX12_oneMore_182 (by decide) ?_
  refine ry_let (fun v5 => ?_)
  refine ry_aload_n dX12_oneMore_183 rfl ?_
  refine ry_dup dX12_oneMore_184 ?_
  refine ry_geti dX12_oneMore_185 ha0 fl_RX12_272 rfl ?_
  refine ry_iconst (v := 1) dX12_oneMore_188 (by decide) ?_
  refine ry_iadd dX12_oneMore_189 ?_
  refine ry_puti dX12_oneMore_190 ha0 fl_RX12_272 rfl rfl rfl ?_
  refine ry_letS (fun s6 => ?_)
  refine ry_iconst (v := 1) dX12_oneMore_193 (by decide) ?_
  refine ry_istore_n dX12_oneMore_194 (by decide) ?_
  exact ry_to (yl_X12_oneMore_195 cx w rd_big a0 v5 1 ha0 s6) ⟨rfl, rfl, rfl, trivial⟩
def B_X12_oneMore_98 (w : rd_W) (k40 : Nat → Int32 → rd_S → Option (Int32 × rd_S)) (k98 : Nat → Int32 → Int32 → rd_S → Option (Int32 × rd_S)) (a0 : Nat) (x1 : Int32) (x2 : Int32) (S : rd_S) : Option (Int32 × rd_S) :=
  if 8 ≤ x2 then
  (rd_let (x1 + 1) fun v33 =>
  k40 a0 v33 S)
  else
  (rd_c (gR S a0 27) fun b34 =>
  rd_c (gR S a0 27) fun b35 =>
  rd_let ((((3 + x1) + 1) * 64) + x2) fun v36 =>
  rd_i v36 (w.2.2 b35) <|
  rd_i (((3 + x1) * 64) + x2) (w.2.2 b34) <|
  rd_let (pI S b34 (((3 + x1) * 64) + x2).toNatClampNeg (gI S b35 v36.toNatClampNeg)) fun s37 =>
  rd_c (gR s37 a0 29) fun b38 =>
  rd_c (gR s37 a0 29) fun b39 =>
  rd_let ((((3 + x1) + 1) * 64) + x2) fun v40 =>
  rd_i v40 (w.2.2 b39) <|
  rd_i (((3 + x1) * 64) + x2) (w.2.2 b38) <|
  rd_let (pI s37 b38 (((3 + x1) * 64) + x2).toNatClampNeg (gI s37 b39 v40.toNatClampNeg)) fun s41 =>
  rd_let (x2 + 1) fun v42 =>
  k98 a0 x1 v42 s41)
theorem yb_X12_oneMore_98 (cx : rd_Cx) (w : rd_W) {k40 : Nat → Int32 → rd_S → Option (Int32 × rd_S)} {k98 : Nat → Int32 → Int32 → rd_S → Option (Int32 × rd_S)} (hk40 : ∀ (a0 : Nat) (x1 : Int32) (ha0 : rd_ok w a0 12) (S : rd_S), rd_Y cx G_X12_oneMore (fun r => rd_P cx G_X12_oneMore.2.2.2.2.2 0 w (rd_rI w r)) (k40 a0 x1 S) 40 [(0, .inr (some a0)), (1, .inl x1)] [] w S 0 0) (hk98 : ∀ (a0 : Nat) (x1 : Int32) (x2 : Int32) (ha0 : rd_ok w a0 12) (S : rd_S), rd_Y cx G_X12_oneMore (fun r => rd_P cx G_X12_oneMore.2.2.2.2.2 0 w (rd_rI w r)) (k98 a0 x1 x2 S) 98 [(0, .inr (some a0)), (1, .inl x1), (2, .inl x2)] [] w S 0 0) (a0 : Nat) (x1 : Int32) (x2 : Int32) (ha0 : rd_ok w a0 12) (S : rd_S) : rd_Y cx G_X12_oneMore (fun r => rd_P cx G_X12_oneMore.2.2.2.2.2 0 w (rd_rI w r)) (B_X12_oneMore_98 w k40 k98 a0 x1 x2 S) 98 [(0, .inr (some a0)), (1, .inl x1), (2, .inl x2)] [] w S 0 0 := by
  unfold B_X12_oneMore_98
  refine ry_iload_n dX12_oneMore_98 rfl ?_
  refine ry_bipush (v := 8) dX12_oneMore_99 (by decide) ?_
  refine ry_icmp_ge 166 dX12_oneMore_101 (by decide) (fun c32 => ?_) (fun c32 => ?_)
  · refine ry_iinc (v := 1) dX12_oneMore_166 rfl (by decide) (by decide) ?_
    refine ry_let (fun v33 => ?_)
    refine ry_goto 40 dX12_oneMore_169 (by decide) ?_
    exact ry_to (hk40 a0 v33 ha0 S) ⟨rfl, rfl, trivial⟩
  · refine ry_aload_n dX12_oneMore_104 rfl ?_
    refine ry_getr dX12_oneMore_105 ha0 fl_RX12_171 rfl (fun b34 hb34 => ?_)
    refine ry_iconst (v := 3) dX12_oneMore_108 (by decide) ?_
    refine ry_iload_n dX12_oneMore_109 rfl ?_
    refine ry_iadd dX12_oneMore_110 ?_
    refine ry_bipush (v := 64) dX12_oneMore_111 (by decide) ?_
    refine ry_imul dX12_oneMore_113 ?_
    refine ry_iload_n dX12_oneMore_114 rfl ?_
    refine ry_iadd dX12_oneMore_115 ?_
    refine ry_aload_n dX12_oneMore_116 rfl ?_
    refine ry_getr dX12_oneMore_117 ha0 fl_RX12_171 rfl (fun b35 hb35 => ?_)
    refine ry_iconst (v := 3) dX12_oneMore_120 (by decide) ?_
    refine ry_iload_n dX12_oneMore_121 rfl ?_
    refine ry_iadd dX12_oneMore_122 ?_
    refine ry_iconst (v := 1) dX12_oneMore_123 (by decide) ?_
    refine ry_iadd dX12_oneMore_124 ?_
    refine ry_bipush (v := 64) dX12_oneMore_125 (by decide) ?_
    refine ry_imul dX12_oneMore_127 ?_
    refine ry_iload_n dX12_oneMore_128 rfl ?_
    refine ry_iadd dX12_oneMore_129 ?_
    refine ry_lets (fun v36 => ?_)
    refine ry_iald dX12_oneMore_130 hb35 ?_
    refine ry_iast dX12_oneMore_131 hb34 ?_
    refine ry_letS (fun s37 => ?_)
    refine ry_aload_n dX12_oneMore_132 rfl ?_
    refine ry_getr dX12_oneMore_133 ha0 fl_RX12_184 rfl (fun b38 hb38 => ?_)
    refine ry_iconst (v := 3) dX12_oneMore_136 (by decide) ?_
    refine ry_iload_n dX12_oneMore_137 rfl ?_
    refine ry_iadd dX12_oneMore_138 ?_
    refine ry_bipush (v := 64) dX12_oneMore_139 (by decide) ?_
    refine ry_imul dX12_oneMore_141 ?_
    refine ry_iload_n dX12_oneMore_142 rfl ?_
    refine ry_iadd dX12_oneMore_143 ?_
    refine ry_aload_n dX12_oneMore_144 rfl ?_
    refine ry_getr dX12_oneMore_145 ha0 fl_RX12_184 rfl (fun b39 hb39 => ?_)
    refine ry_iconst (v := 3) dX12_oneMore_148 (by decide) ?_
    refine ry_iload_n dX12_oneMore_149 rfl ?_
    refine ry_iadd dX12_oneMore_150 ?_
    refine ry_iconst (v := 1) dX12_oneMore_151 (by decide) ?_
    refine ry_iadd dX12_oneMore_152 ?_
    refine ry_bipush (v := 64) dX12_oneMore_153 (by decide) ?_
    refine ry_imul dX12_oneMore_155 ?_
    refine ry_iload_n dX12_oneMore_156 rfl ?_
    refine ry_iadd dX12_oneMore_157 ?_
    refine ry_lets (fun v40 => ?_)
    refine ry_iald dX12_oneMore_158 hb39 ?_
    refine ry_iast dX12_oneMore_159 hb38 ?_
    refine ry_letS (fun s41 => ?_)
    refine ry_iinc (v := 1) dX12_oneMore_160 rfl (by decide) (by decide) ?_
    refine ry_let (fun v42 => ?_)
    refine ry_goto 98 dX12_oneMore_163 (by decide) ?_
    exact ry_to (hk98 a0 x1 v42 ha0 s41) ⟨rfl, rfl, rfl, trivial⟩
def F_X12_oneMore_98 (w : rd_W) (k40 : Nat → Int32 → rd_S → Option (Int32 × rd_S)) (n : Nat) : Nat → Int32 → Int32 → rd_S → Option (Int32 × rd_S) :=
  Nat.rec (motive := fun _ => Nat → Int32 → Int32 → rd_S → Option (Int32 × rd_S)) (fun _ _ _ _ => none) (fun _ ih => B_X12_oneMore_98 w k40 ih) n
theorem yl_X12_oneMore_98 (cx : rd_Cx) (w : rd_W) {k40 : Nat → Int32 → rd_S → Option (Int32 × rd_S)} (hk40 : ∀ (a0 : Nat) (x1 : Int32) (ha0 : rd_ok w a0 12) (S : rd_S), rd_Y cx G_X12_oneMore (fun r => rd_P cx G_X12_oneMore.2.2.2.2.2 0 w (rd_rI w r)) (k40 a0 x1 S) 40 [(0, .inr (some a0)), (1, .inl x1)] [] w S 0 0) : ∀ (n : Nat) (a0 : Nat) (x1 : Int32) (x2 : Int32) (ha0 : rd_ok w a0 12) (S : rd_S), rd_Y cx G_X12_oneMore (fun r => rd_P cx G_X12_oneMore.2.2.2.2.2 0 w (rd_rI w r)) (F_X12_oneMore_98 w k40 n a0 x1 x2 S) 98 [(0, .inr (some a0)), (1, .inl x1), (2, .inl x2)] [] w S 0 0 := by
  intro n
  induction n with
  | zero => intro a0 x1 x2 ha0 S; exact ry_none
  | succ n ih => intro a0 x1 x2 ha0 S; exact yb_X12_oneMore_98 cx w hk40 ih a0 x1 x2 ha0 S
def B_X12_oneMore_40 (w : rd_W) (k40 : Nat → Int32 → rd_S → Option (Int32 × rd_S)) (a0 : Nat) (x1 : Int32) (S : rd_S) : Option (Int32 × rd_S) :=
  if 7 ≤ x1 then
  (rd_let (pI S a0 53 7) fun s4 =>
  B_X12_oneMore_178 w a0 s4)
  else
  (rd_c (gR S a0 52) fun b20 =>
  rd_c (gR S a0 52) fun b21 =>
  rd_let (x1 + 1) fun v22 =>
  rd_i v22 (w.2.2 b21) <|
  rd_i x1 (w.2.2 b20) <|
  rd_let (pI S b20 x1.toNatClampNeg (gI S b21 v22.toNatClampNeg)) fun s23 =>
  rd_c (gR s23 a0 28) fun b24 =>
  rd_c (gR s23 a0 28) fun b25 =>
  rd_let ((3 + x1) + 1) fun v26 =>
  rd_i v26 (w.2.2 b25) <|
  rd_i (3 + x1) (w.2.2 b24) <|
  rd_let (pI s23 b24 (3 + x1).toNatClampNeg (gI s23 b25 v26.toNatClampNeg)) fun s27 =>
  rd_c (gR s27 a0 30) fun b28 =>
  rd_c (gR s27 a0 30) fun b29 =>
  rd_let ((3 + x1) + 1) fun v30 =>
  rd_i v30 (w.2.2 b29) <|
  rd_i (3 + x1) (w.2.2 b28) <|
  rd_let (pI s27 b28 (3 + x1).toNatClampNeg (gI s27 b29 v30.toNatClampNeg)) fun s31 =>
  F_X12_oneMore_98 w k40 rd_big a0 x1 0 s31)
theorem yb_X12_oneMore_40 (cx : rd_Cx) (w : rd_W) {k40 : Nat → Int32 → rd_S → Option (Int32 × rd_S)} (hk40 : ∀ (a0 : Nat) (x1 : Int32) (ha0 : rd_ok w a0 12) (S : rd_S), rd_Y cx G_X12_oneMore (fun r => rd_P cx G_X12_oneMore.2.2.2.2.2 0 w (rd_rI w r)) (k40 a0 x1 S) 40 [(0, .inr (some a0)), (1, .inl x1)] [] w S 0 0) (a0 : Nat) (x1 : Int32) (ha0 : rd_ok w a0 12) (S : rd_S) : rd_Y cx G_X12_oneMore (fun r => rd_P cx G_X12_oneMore.2.2.2.2.2 0 w (rd_rI w r)) (B_X12_oneMore_40 w k40 a0 x1 S) 40 [(0, .inr (some a0)), (1, .inl x1)] [] w S 0 0 := by
  unfold B_X12_oneMore_40
  refine ry_iload_n dX12_oneMore_40 rfl ?_
  refine ry_bipush (v := 7) dX12_oneMore_41 (by decide) ?_
  refine ry_icmp_ge 172 dX12_oneMore_43 (by decide) (fun c3 => ?_) (fun c3 => ?_)
  · refine ry_aload_n dX12_oneMore_172 rfl ?_
    refine ry_bipush (v := 7) dX12_oneMore_173 (by decide) ?_
    refine ry_puti dX12_oneMore_175 ha0 fl_RX12_272 rfl rfl rfl ?_
    refine ry_letS (fun s4 => ?_)
    exact ry_to (yb_X12_oneMore_178 cx w a0 ha0 s4) ⟨rfl, trivial⟩
  · refine ry_aload_n dX12_oneMore_46 rfl ?_
    refine ry_getr dX12_oneMore_47 ha0 fl_RX12_193 rfl (fun b20 hb20 => ?_)
    refine ry_iload_n dX12_oneMore_50 rfl ?_
    refine ry_aload_n dX12_oneMore_51 rfl ?_
    refine ry_getr dX12_oneMore_52 ha0 fl_RX12_193 rfl (fun b21 hb21 => ?_)
    refine ry_iload_n dX12_oneMore_55 rfl ?_
    refine ry_iconst (v := 1) dX12_oneMore_56 (by decide) ?_
    refine ry_iadd dX12_oneMore_57 ?_
    refine ry_lets (fun v22 => ?_)
    refine ry_iald dX12_oneMore_58 hb21 ?_
    refine ry_iast dX12_oneMore_59 hb20 ?_
    refine ry_letS (fun s23 => ?_)
    refine ry_aload_n dX12_oneMore_60 rfl ?_
    refine ry_getr dX12_oneMore_61 ha0 fl_RX12_178 rfl (fun b24 hb24 => ?_)
    refine ry_iconst (v := 3) dX12_oneMore_64 (by decide) ?_
    refine ry_iload_n dX12_oneMore_65 rfl ?_
    refine ry_iadd dX12_oneMore_66 ?_
    refine ry_aload_n dX12_oneMore_67 rfl ?_
    refine ry_getr dX12_oneMore_68 ha0 fl_RX12_178 rfl (fun b25 hb25 => ?_)
    refine ry_iconst (v := 3) dX12_oneMore_71 (by decide) ?_
    refine ry_iload_n dX12_oneMore_72 rfl ?_
    refine ry_iadd dX12_oneMore_73 ?_
    refine ry_iconst (v := 1) dX12_oneMore_74 (by decide) ?_
    refine ry_iadd dX12_oneMore_75 ?_
    refine ry_lets (fun v26 => ?_)
    refine ry_iald dX12_oneMore_76 hb25 ?_
    refine ry_iast dX12_oneMore_77 hb24 ?_
    refine ry_letS (fun s27 => ?_)
    refine ry_aload_n dX12_oneMore_78 rfl ?_
    refine ry_getr dX12_oneMore_79 ha0 fl_RX12_187 rfl (fun b28 hb28 => ?_)
    refine ry_iconst (v := 3) dX12_oneMore_82 (by decide) ?_
    refine ry_iload_n dX12_oneMore_83 rfl ?_
    refine ry_iadd dX12_oneMore_84 ?_
    refine ry_aload_n dX12_oneMore_85 rfl ?_
    refine ry_getr dX12_oneMore_86 ha0 fl_RX12_187 rfl (fun b29 hb29 => ?_)
    refine ry_iconst (v := 3) dX12_oneMore_89 (by decide) ?_
    refine ry_iload_n dX12_oneMore_90 rfl ?_
    refine ry_iadd dX12_oneMore_91 ?_
    refine ry_iconst (v := 1) dX12_oneMore_92 (by decide) ?_
    refine ry_iadd dX12_oneMore_93 ?_
    refine ry_lets (fun v30 => ?_)
    refine ry_iald dX12_oneMore_94 hb29 ?_
    refine ry_iast dX12_oneMore_95 hb28 ?_
    refine ry_letS (fun s31 => ?_)
    refine ry_iconst (v := 0) dX12_oneMore_96 (by decide) ?_
    refine ry_istore_n dX12_oneMore_97 (by decide) ?_
    exact ry_to (yl_X12_oneMore_98 cx w (k40 := k40) hk40 rd_big a0 x1 0 ha0 s31) ⟨rfl, rfl, rfl, trivial⟩
def F_X12_oneMore_40 (w : rd_W) (n : Nat) : Nat → Int32 → rd_S → Option (Int32 × rd_S) :=
  Nat.rec (motive := fun _ => Nat → Int32 → rd_S → Option (Int32 × rd_S)) (fun _ _ _ => none) (fun _ ih => B_X12_oneMore_40 w ih) n
theorem yl_X12_oneMore_40 (cx : rd_Cx) (w : rd_W) : ∀ (n : Nat) (a0 : Nat) (x1 : Int32) (ha0 : rd_ok w a0 12) (S : rd_S), rd_Y cx G_X12_oneMore (fun r => rd_P cx G_X12_oneMore.2.2.2.2.2 0 w (rd_rI w r)) (F_X12_oneMore_40 w n a0 x1 S) 40 [(0, .inr (some a0)), (1, .inl x1)] [] w S 0 0 := by
  intro n
  induction n with
  | zero => intro a0 x1 ha0 S; exact ry_none
  | succ n ih => intro a0 x1 ha0 S; exact yb_X12_oneMore_40 cx w ih a0 x1 ha0 S
def B_X12_oneMore_11 (w : rd_W) (k11 : Nat → Int32 → rd_S → Option (Int32 × rd_S)) (a0 : Nat) (x1 : Int32) (S : rd_S) : Option (Int32 × rd_S) :=
  if 77 ≤ x1 then
  (F_X12_oneMore_40 w rd_big a0 0 S)
  else
  (rd_c (gR S a0 51) fun b43 =>
  rd_c (gR S a0 51) fun b44 =>
  rd_let (x1 + 11) fun v45 =>
  rd_i v45 (w.2.2 b44) <|
  rd_i x1 (w.2.2 b43) <|
  rd_let (pI S b43 x1.toNatClampNeg (gI S b44 v45.toNatClampNeg)) fun s46 =>
  rd_let (x1 + 1) fun v47 =>
  k11 a0 v47 s46)
theorem yb_X12_oneMore_11 (cx : rd_Cx) (w : rd_W) {k11 : Nat → Int32 → rd_S → Option (Int32 × rd_S)} (hk11 : ∀ (a0 : Nat) (x1 : Int32) (ha0 : rd_ok w a0 12) (S : rd_S), rd_Y cx G_X12_oneMore (fun r => rd_P cx G_X12_oneMore.2.2.2.2.2 0 w (rd_rI w r)) (k11 a0 x1 S) 11 [(0, .inr (some a0)), (1, .inl x1)] [] w S 0 0) (a0 : Nat) (x1 : Int32) (ha0 : rd_ok w a0 12) (S : rd_S) : rd_Y cx G_X12_oneMore (fun r => rd_P cx G_X12_oneMore.2.2.2.2.2 0 w (rd_rI w r)) (B_X12_oneMore_11 w k11 a0 x1 S) 11 [(0, .inr (some a0)), (1, .inl x1)] [] w S 0 0 := by
  unfold B_X12_oneMore_11
  refine ry_iload_n dX12_oneMore_11 rfl ?_
  refine ry_bipush (v := 77) dX12_oneMore_12 (by decide) ?_
  refine ry_icmp_ge 38 dX12_oneMore_14 (by decide) (fun c2 => ?_) (fun c2 => ?_)
  · refine ry_iconst (v := 0) dX12_oneMore_38 (by decide) ?_
    refine ry_istore_n dX12_oneMore_39 (by decide) ?_
    exact ry_to (yl_X12_oneMore_40 cx w rd_big a0 0 ha0 S) ⟨rfl, rfl, trivial⟩
  · refine ry_aload_n dX12_oneMore_17 rfl ?_
    refine ry_getr dX12_oneMore_18 ha0 fl_RX12_275 rfl (fun b43 hb43 => ?_)
    refine ry_iload_n dX12_oneMore_21 rfl ?_
    refine ry_aload_n dX12_oneMore_22 rfl ?_
    refine ry_getr dX12_oneMore_23 ha0 fl_RX12_275 rfl (fun b44 hb44 => ?_)
    refine ry_iload_n dX12_oneMore_26 rfl ?_
    refine ry_bipush (v := 11) dX12_oneMore_27 (by decide) ?_
    refine ry_iadd dX12_oneMore_29 ?_
    refine ry_lets (fun v45 => ?_)
    refine ry_iald dX12_oneMore_30 hb44 ?_
    refine ry_iast dX12_oneMore_31 hb43 ?_
    refine ry_letS (fun s46 => ?_)
    refine ry_iinc (v := 1) dX12_oneMore_32 rfl (by decide) (by decide) ?_
    refine ry_let (fun v47 => ?_)
    refine ry_goto 11 dX12_oneMore_35 (by decide) ?_
    exact ry_to (hk11 a0 v47 ha0 s46) ⟨rfl, rfl, trivial⟩
def F_X12_oneMore_11 (w : rd_W) (n : Nat) : Nat → Int32 → rd_S → Option (Int32 × rd_S) :=
  Nat.rec (motive := fun _ => Nat → Int32 → rd_S → Option (Int32 × rd_S)) (fun _ _ _ => none) (fun _ ih => B_X12_oneMore_11 w ih) n
theorem yl_X12_oneMore_11 (cx : rd_Cx) (w : rd_W) : ∀ (n : Nat) (a0 : Nat) (x1 : Int32) (ha0 : rd_ok w a0 12) (S : rd_S), rd_Y cx G_X12_oneMore (fun r => rd_P cx G_X12_oneMore.2.2.2.2.2 0 w (rd_rI w r)) (F_X12_oneMore_11 w n a0 x1 S) 11 [(0, .inr (some a0)), (1, .inl x1)] [] w S 0 0 := by
  intro n
  induction n with
  | zero => intro a0 x1 ha0 S; exact ry_none
  | succ n ih => intro a0 x1 ha0 S; exact yb_X12_oneMore_11 cx w ih a0 x1 ha0 S
def F_X12_oneMore (w : rd_W) (a0 : Nat) (S : rd_S) : Option (Int32 × rd_S) :=
  if (gI S a0 53) = 8 then
  (F_X12_oneMore_11 w rd_big a0 0 S)
  else
  (B_X12_oneMore_178 w a0 S)
theorem ym_X12_oneMore (cx : rd_Cx) (w : rd_W) (a0 : Nat) (ha0 : rd_ok w a0 12) (S : rd_S) : rd_Y cx G_X12_oneMore (fun r => rd_P cx G_X12_oneMore.2.2.2.2.2 0 w (rd_rI w r)) (F_X12_oneMore w a0 S) 0 (rd_as 0 [.inr (some a0)]) [] w S 0 0 := by
  unfold F_X12_oneMore
  refine ry_aload_n dX12_oneMore_0 rfl ?_
  refine ry_geti dX12_oneMore_1 ha0 fl_RX12_272 rfl ?_
  refine ry_bipush (v := 8) dX12_oneMore_4 (by decide) ?_
  refine ry_icmp_ne 178 dX12_oneMore_6 (by decide) (fun c1 => ?_) (fun c1 => ?_)
  · refine ry_iconst (v := 0) dX12_oneMore_9 (by decide) ?_
    refine ry_istore_n dX12_oneMore_10 (by decide) ?_
    exact ry_to (yl_X12_oneMore_11 cx w rd_big a0 0 ha0 S) ⟨rfl, rfl, trivial⟩
  · exact ry_to (yb_X12_oneMore_178 cx w a0 ha0 S) ⟨rfl, trivial⟩
theorem cm_X12_oneMore (l : Launch) (cx : rd_Cx) (w : rd_W) (a0 : Nat) (ha0 : rd_ok w a0 12) (S : rd_S) (r : Int32 × rd_S) (h : F_X12_oneMore w a0 S = some r) : rd_M l cx yX12_oneMore G_X12_oneMore 0 [.inr (some a0)] w S (rd_rI w r) :=
  rd_enter (plainFor_of_name (by decide +kernel)) rfl (fun h => by cases h) (Nat.le_of_ble_eq_true rfl) (ym_X12_oneMore cx w a0 ha0 S r h)
abbrev G_X12_another : rd_G := (RX12, cX12_another, 6, none, false, { frames := 2, cells := 0, slots := 0, locals := 54 })
theorem yf_X12_another : rd_YL yX12_another G_X12_another 1 := ⟨rd_mem 974 (by decide +kernel) rfl, rd_mem 75 (by decide +kernel) rfl, by decide +kernel, by decide +kernel, by decide +kernel⟩
theorem mi_X12_another : Cond.instanceMethod yX12_another ∈ rd_gw := rd_mem 973 (by decide +kernel) rfl
theorem ms_X12_another : Cond.selects (MethodName.cls yX12_another) yX12_another yX12_another ∈ rd_gw := rd_mem 58 (by decide +kernel) rfl
theorem dX12_another_0 : decode cX12_another 0 = .ok (.iconst 0, 1) := by decide +kernel
theorem dX12_another_1 : decode cX12_another 1 = .ok (.istore_n 2, 1) := by decide +kernel
theorem dX12_another_2 : decode cX12_another 2 = .ok (.iload_n 2, 1) := by decide +kernel
theorem dX12_another_3 : decode cX12_another 3 = .ok (.aload_n 0, 1) := by decide +kernel
theorem dX12_another_4 : decode cX12_another 4 = .ok (.getfield 272, 3) := by decide +kernel
theorem dX12_another_7 : decode cX12_another 7 = .ok (.if_icmp .ge 27, 3) := by decide +kernel
theorem dX12_another_10 : decode cX12_another 10 = .ok (.aload_n 0, 1) := by decide +kernel
theorem dX12_another_11 : decode cX12_another 11 = .ok (.getfield 275, 3) := by decide +kernel
theorem dX12_another_14 : decode cX12_another 14 = .ok (.bipush 11, 2) := by decide +kernel
theorem dX12_another_16 : decode cX12_another 16 = .ok (.iload_n 2, 1) := by decide +kernel
theorem dX12_another_17 : decode cX12_another 17 = .ok (.imul, 1) := by decide +kernel
theorem dX12_another_18 : decode cX12_another 18 = .ok (.iaload, 1) := by decide +kernel
theorem dX12_another_19 : decode cX12_another 19 = .ok (.aload_n 0, 1) := by decide +kernel
theorem dX12_another_20 : decode cX12_another 20 = .ok (.getfield 77, 3) := by decide +kernel
theorem dX12_another_23 : decode cX12_another 23 = .ok (.iconst 3, 1) := by decide +kernel
theorem dX12_another_24 : decode cX12_another 24 = .ok (.iaload, 1) := by decide +kernel
theorem dX12_another_25 : decode cX12_another 25 = .ok (.if_icmp .eq 9, 3) := by decide +kernel
theorem dX12_another_28 : decode cX12_another 28 = .ok (.iinc 2 1, 3) := by decide +kernel
theorem dX12_another_31 : decode cX12_another 31 = .ok (.goto (-29), 3) := by decide +kernel
theorem dX12_another_34 : decode cX12_another 34 = .ok (.iload_n 2, 1) := by decide +kernel
theorem dX12_another_35 : decode cX12_another 35 = .ok (.aload_n 0, 1) := by decide +kernel
theorem dX12_another_36 : decode cX12_another 36 = .ok (.getfield 272, 3) := by decide +kernel
theorem dX12_another_39 : decode cX12_another 39 = .ok (.if_icmp .ne 8, 3) := by decide +kernel
theorem dX12_another_42 : decode cX12_another 42 = .ok (.aload_n 0, 1) := by decide +kernel
theorem dX12_another_43 : decode cX12_another 43 = .ok (.invokevirtual 277, 3) := by decide +kernel
theorem dX12_another_46 : decode cX12_another 46 = .ok (.istore_n 2, 1) := by decide +kernel
theorem dX12_another_47 : decode cX12_another 47 = .ok (.aload_n 0, 1) := by decide +kernel
theorem dX12_another_48 : decode cX12_another 48 = .ok (.getfield 77, 3) := by decide +kernel
theorem dX12_another_51 : decode cX12_another 51 = .ok (.iconst 1, 1) := by decide +kernel
theorem dX12_another_52 : decode cX12_another 52 = .ok (.iaload, 1) := by decide +kernel
theorem dX12_another_53 : decode cX12_another 53 = .ok (.istore_n 3, 1) := by decide +kernel
theorem dX12_another_54 : decode cX12_another 54 = .ok (.aload_n 0, 1) := by decide +kernel
theorem dX12_another_55 : decode cX12_another 55 = .ok (.getfield 275, 3) := by decide +kernel
theorem dX12_another_58 : decode cX12_another 58 = .ok (.bipush 11, 2) := by decide +kernel
theorem dX12_another_60 : decode cX12_another 60 = .ok (.iload_n 2, 1) := by decide +kernel
theorem dX12_another_61 : decode cX12_another 61 = .ok (.imul, 1) := by decide +kernel
theorem dX12_another_62 : decode cX12_another 62 = .ok (.iconst 1, 1) := by decide +kernel
theorem dX12_another_63 : decode cX12_another 63 = .ok (.iadd, 1) := by decide +kernel
theorem dX12_another_64 : decode cX12_another 64 = .ok (.iload_n 3, 1) := by decide +kernel
theorem dX12_another_65 : decode cX12_another 65 = .ok (.iconst 4, 1) := by decide +kernel
theorem dX12_another_66 : decode cX12_another 66 = .ok (.ishr, 1) := by decide +kernel
theorem dX12_another_67 : decode cX12_another 67 = .ok (.iconst 1, 1) := by decide +kernel
theorem dX12_another_68 : decode cX12_another 68 = .ok (.iand, 1) := by decide +kernel
theorem dX12_another_69 : decode cX12_another 69 = .ok (.iastore, 1) := by decide +kernel
theorem dX12_another_70 : decode cX12_another 70 = .ok (.iload_n 1, 1) := by decide +kernel
theorem dX12_another_71 : decode cX12_another 71 = .ok (.iconst 1, 1) := by decide +kernel
theorem dX12_another_72 : decode cX12_another 72 = .ok (.if_icmp .ne 20, 3) := by decide +kernel
theorem dX12_another_75 : decode cX12_another 75 = .ok (.aload_n 0, 1) := by decide +kernel
theorem dX12_another_76 : decode cX12_another 76 = .ok (.getfield 275, 3) := by decide +kernel
theorem dX12_another_79 : decode cX12_another 79 = .ok (.bipush 11, 2) := by decide +kernel
theorem dX12_another_81 : decode cX12_another 81 = .ok (.iload_n 2, 1) := by decide +kernel
theorem dX12_another_82 : decode cX12_another 82 = .ok (.imul, 1) := by decide +kernel
theorem dX12_another_83 : decode cX12_another 83 = .ok (.iconst 3, 1) := by decide +kernel
theorem dX12_another_84 : decode cX12_another 84 = .ok (.iadd, 1) := by decide +kernel
theorem dX12_another_85 : decode cX12_another 85 = .ok (.iload_n 3, 1) := by decide +kernel
theorem dX12_another_86 : decode cX12_another 86 = .ok (.iconst 3, 1) := by decide +kernel
theorem dX12_another_87 : decode cX12_another 87 = .ok (.ishr, 1) := by decide +kernel
theorem dX12_another_88 : decode cX12_another 88 = .ok (.iconst 1, 1) := by decide +kernel
theorem dX12_another_89 : decode cX12_another 89 = .ok (.iand, 1) := by decide +kernel
theorem dX12_another_90 : decode cX12_another 90 = .ok (.iastore, 1) := by decide +kernel
theorem dX12_another_91 : decode cX12_another 91 = .ok (.return_, 1) := by decide +kernel
theorem dX12_another_92 : decode cX12_another 92 = .ok (.aload_n 0, 1) := by decide +kernel
theorem dX12_another_93 : decode cX12_another 93 = .ok (.iconst 2, 1) := by decide +kernel
theorem dX12_another_94 : decode cX12_another 94 = .ok (.invokevirtual 114, 3) := by decide +kernel
theorem dX12_another_97 : decode cX12_another 97 = .ok (.ifCond .ne 4, 3) := by decide +kernel
theorem dX12_another_100 : decode cX12_another 100 = .ok (.return_, 1) := by decide +kernel
theorem dX12_another_101 : decode cX12_another 101 = .ok (.aload_n 0, 1) := by decide +kernel
theorem dX12_another_102 : decode cX12_another 102 = .ok (.getfield 77, 3) := by decide +kernel
theorem dX12_another_105 : decode cX12_another 105 = .ok (.iconst 2, 1) := by decide +kernel
theorem dX12_another_106 : decode cX12_another 106 = .ok (.iaload, 1) := by decide +kernel
theorem dX12_another_107 : decode cX12_another 107 = .ok (.istore 4, 2) := by decide +kernel
theorem dX12_another_109 : decode cX12_another 109 = .ok (.iload_n 3, 1) := by decide +kernel
theorem dX12_another_110 : decode cX12_another 110 = .ok (.bipush 15, 2) := by decide +kernel
theorem dX12_another_112 : decode cX12_another 112 = .ok (.iand, 1) := by decide +kernel
theorem dX12_another_113 : decode cX12_another 113 = .ok (.istore 5, 2) := by decide +kernel
theorem dX12_another_115 : decode cX12_another 115 = .ok (.iload 5, 2) := by decide +kernel
theorem dX12_another_117 : decode cX12_another 117 = .ok (.iconst 4, 1) := by decide +kernel
theorem dX12_another_118 : decode cX12_another 118 = .ok (.if_icmp .ge 19, 3) := by decide +kernel
theorem dX12_another_121 : decode cX12_another 121 = .ok (.aload_n 0, 1) := by decide +kernel
theorem dX12_another_122 : decode cX12_another 122 = .ok (.iconst 3, 1) := by decide +kernel
theorem dX12_another_123 : decode cX12_another 123 = .ok (.iload_n 2, 1) := by decide +kernel
theorem dX12_another_124 : decode cX12_another 124 = .ok (.iadd, 1) := by decide +kernel
theorem dX12_another_125 : decode cX12_another 125 = .ok (.iload 5, 2) := by decide +kernel
theorem dX12_another_127 : decode cX12_another 127 = .ok (.iload 4, 2) := by decide +kernel
theorem dX12_another_129 : decode cX12_another 129 = .ok (.iconst 0, 1) := by decide +kernel
theorem dX12_another_130 : decode cX12_another 130 = .ok (.iconst 2, 1) := by decide +kernel
theorem dX12_another_131 : decode cX12_another 131 = .ok (.invokevirtual 146, 3) := by decide +kernel
theorem dX12_another_134 : decode cX12_another 134 = .ok (.goto 139, 3) := by decide +kernel
theorem dX12_another_137 : decode cX12_another 137 = .ok (.iload 5, 2) := by decide +kernel
theorem dX12_another_139 : decode cX12_another 139 = .ok (.iconst 4, 1) := by decide +kernel
theorem dX12_another_140 : decode cX12_another 140 = .ok (.if_icmp .ne 20, 3) := by decide +kernel
theorem dX12_another_143 : decode cX12_another 143 = .ok (.aload_n 0, 1) := by decide +kernel
theorem dX12_another_144 : decode cX12_another 144 = .ok (.getfield 275, 3) := by decide +kernel
theorem dX12_another_147 : decode cX12_another 147 = .ok (.bipush 11, 2) := by decide +kernel
theorem dX12_another_149 : decode cX12_another 149 = .ok (.iload_n 2, 1) := by decide +kernel
theorem dX12_another_150 : decode cX12_another 150 = .ok (.imul, 1) := by decide +kernel
theorem dX12_another_151 : decode cX12_another 151 = .ok (.bipush 6, 2) := by decide +kernel
theorem dX12_another_153 : decode cX12_another 153 = .ok (.iadd, 1) := by decide +kernel
theorem dX12_another_154 : decode cX12_another 154 = .ok (.iload 4, 2) := by decide +kernel
theorem dX12_another_156 : decode cX12_another 156 = .ok (.iastore, 1) := by decide +kernel
theorem dX12_another_157 : decode cX12_another 157 = .ok (.goto 116, 3) := by decide +kernel
theorem dX12_another_160 : decode cX12_another 160 = .ok (.iload 5, 2) := by decide +kernel
theorem dX12_another_162 : decode cX12_another 162 = .ok (.bipush 9, 2) := by decide +kernel
theorem dX12_another_164 : decode cX12_another 164 = .ok (.if_icmp .ge 22, 3) := by decide +kernel
theorem dX12_another_167 : decode cX12_another 167 = .ok (.aload_n 0, 1) := by decide +kernel
theorem dX12_another_168 : decode cX12_another 168 = .ok (.getfield 275, 3) := by decide +kernel
theorem dX12_another_171 : decode cX12_another 171 = .ok (.bipush 11, 2) := by decide +kernel
theorem dX12_another_173 : decode cX12_another 173 = .ok (.iload_n 2, 1) := by decide +kernel
theorem dX12_another_174 : decode cX12_another 174 = .ok (.imul, 1) := by decide +kernel
theorem dX12_another_175 : decode cX12_another 175 = .ok (.iconst 2, 1) := by decide +kernel
theorem dX12_another_176 : decode cX12_another 176 = .ok (.iadd, 1) := by decide +kernel
theorem dX12_another_177 : decode cX12_another 177 = .ok (.iload 5, 2) := by decide +kernel
theorem dX12_another_179 : decode cX12_another 179 = .ok (.iadd, 1) := by decide +kernel
theorem dX12_another_180 : decode cX12_another 180 = .ok (.iload 4, 2) := by decide +kernel
theorem dX12_another_182 : decode cX12_another 182 = .ok (.iastore, 1) := by decide +kernel
theorem dX12_another_183 : decode cX12_another 183 = .ok (.goto 90, 3) := by decide +kernel
theorem dX12_another_186 : decode cX12_another 186 = .ok (.iload 5, 2) := by decide +kernel
theorem dX12_another_188 : decode cX12_another 188 = .ok (.bipush 12, 2) := by decide +kernel
theorem dX12_another_190 : decode cX12_another 190 = .ok (.if_icmp .ne 19, 3) := by decide +kernel
theorem dX12_another_193 : decode cX12_another 193 = .ok (.aload_n 0, 1) := by decide +kernel
theorem dX12_another_194 : decode cX12_another 194 = .ok (.getfield 275, 3) := by decide +kernel
theorem dX12_another_197 : decode cX12_another 197 = .ok (.bipush 11, 2) := by decide +kernel
theorem dX12_another_199 : decode cX12_another 199 = .ok (.iload_n 2, 1) := by decide +kernel
theorem dX12_another_200 : decode cX12_another 200 = .ok (.imul, 1) := by decide +kernel
theorem dX12_another_201 : decode cX12_another 201 = .ok (.iconst 5, 1) := by decide +kernel
theorem dX12_another_202 : decode cX12_another 202 = .ok (.iadd, 1) := by decide +kernel
theorem dX12_another_203 : decode cX12_another 203 = .ok (.iload 4, 2) := by decide +kernel
theorem dX12_another_205 : decode cX12_another 205 = .ok (.iastore, 1) := by decide +kernel
theorem dX12_another_206 : decode cX12_another 206 = .ok (.goto 67, 3) := by decide +kernel
theorem dX12_another_209 : decode cX12_another 209 = .ok (.iload 5, 2) := by decide +kernel
theorem dX12_another_211 : decode cX12_another 211 = .ok (.bipush 14, 2) := by decide +kernel
theorem dX12_another_213 : decode cX12_another 213 = .ok (.if_icmp .ne 19, 3) := by decide +kernel
theorem dX12_another_216 : decode cX12_another 216 = .ok (.aload_n 0, 1) := by decide +kernel
theorem dX12_another_217 : decode cX12_another 217 = .ok (.getfield 275, 3) := by decide +kernel
theorem dX12_another_220 : decode cX12_another 220 = .ok (.bipush 11, 2) := by decide +kernel
theorem dX12_another_222 : decode cX12_another 222 = .ok (.iload_n 2, 1) := by decide +kernel
theorem dX12_another_223 : decode cX12_another 223 = .ok (.imul, 1) := by decide +kernel
theorem dX12_another_224 : decode cX12_another 224 = .ok (.iconst 4, 1) := by decide +kernel
theorem dX12_another_225 : decode cX12_another 225 = .ok (.iadd, 1) := by decide +kernel
theorem dX12_another_226 : decode cX12_another 226 = .ok (.iload 4, 2) := by decide +kernel
theorem dX12_another_228 : decode cX12_another 228 = .ok (.iastore, 1) := by decide +kernel
theorem dX12_another_229 : decode cX12_another 229 = .ok (.goto 44, 3) := by decide +kernel
theorem dX12_another_232 : decode cX12_another 232 = .ok (.iload 5, 2) := by decide +kernel
theorem dX12_another_234 : decode cX12_another 234 = .ok (.bipush 13, 2) := by decide +kernel
theorem dX12_another_236 : decode cX12_another 236 = .ok (.if_icmp .ne 37, 3) := by decide +kernel
theorem dX12_another_239 : decode cX12_another 239 = .ok (.aload_n 0, 1) := by decide +kernel
theorem dX12_another_240 : decode cX12_another 240 = .ok (.getfield 275, 3) := by decide +kernel
theorem dX12_another_243 : decode cX12_another 243 = .ok (.bipush 11, 2) := by decide +kernel
theorem dX12_another_245 : decode cX12_another 245 = .ok (.iload_n 2, 1) := by decide +kernel
theorem dX12_another_246 : decode cX12_another 246 = .ok (.imul, 1) := by decide +kernel
theorem dX12_another_247 : decode cX12_another 247 = .ok (.iconst 2, 1) := by decide +kernel
theorem dX12_another_248 : decode cX12_another 248 = .ok (.iadd, 1) := by decide +kernel
theorem dX12_another_249 : decode cX12_another 249 = .ok (.iload 4, 2) := by decide +kernel
theorem dX12_another_251 : decode cX12_another 251 = .ok (.bipush 11, 2) := by decide +kernel
theorem dX12_another_253 : decode cX12_another 253 = .ok (.ishr, 1) := by decide +kernel
theorem dX12_another_254 : decode cX12_another 254 = .ok (.bipush 31, 2) := by decide +kernel
theorem dX12_another_256 : decode cX12_another 256 = .ok (.iand, 1) := by decide +kernel
theorem dX12_another_257 : decode cX12_another 257 = .ok (.iastore, 1) := by decide +kernel
theorem dX12_another_258 : decode cX12_another 258 = .ok (.aload_n 0, 1) := by decide +kernel
theorem dX12_another_259 : decode cX12_another 259 = .ok (.getfield 275, 3) := by decide +kernel
theorem dX12_another_262 : decode cX12_another 262 = .ok (.bipush 11, 2) := by decide +kernel
theorem dX12_another_264 : decode cX12_another 264 = .ok (.iload_n 2, 1) := by decide +kernel
theorem dX12_another_265 : decode cX12_another 265 = .ok (.imul, 1) := by decide +kernel
theorem dX12_another_266 : decode cX12_another 266 = .ok (.iconst 3, 1) := by decide +kernel
theorem dX12_another_267 : decode cX12_another 267 = .ok (.iadd, 1) := by decide +kernel
theorem dX12_another_268 : decode cX12_another 268 = .ok (.iload 4, 2) := by decide +kernel
theorem dX12_another_270 : decode cX12_another 270 = .ok (.iconst 1, 1) := by decide +kernel
theorem dX12_another_271 : decode cX12_another 271 = .ok (.iand, 1) := by decide +kernel
theorem dX12_another_272 : decode cX12_another 272 = .ok (.iastore, 1) := by decide +kernel
theorem dX12_another_273 : decode cX12_another 273 = .ok (.return_, 1) := by decide +kernel
def B_X12_another_273 (w : rd_W) (S : rd_S) : Option (rd_S) :=
  some S
theorem yb_X12_another_273 (cx : rd_Cx) (w : rd_W) (S : rd_S) : rd_Y cx G_X12_another (fun r => rd_P cx G_X12_another.2.2.2.2.2 0 w (rd_rV w r)) (B_X12_another_273 w S) 273 [] [] w S 0 0 := by
  unfold B_X12_another_273
  exact ry_vret dX12_another_273 rfl (Nat.le_of_ble_eq_true rfl) (Nat.le_of_ble_eq_true rfl)
def B_X12_another_47 (w : rd_W) (a0 : Nat) (x1 : Int32) (x2 : Int32) (S : rd_S) : Option (rd_S) :=
  rd_c (gR S a0 18) fun b5 =>
  rd_i 1 (w.2.2 b5) <|
  rd_let (gI S b5 (1 : Int32).toNatClampNeg) fun v6 =>
  rd_c (gR S a0 51) fun b7 =>
  rd_i ((11 * x2) + 1) (w.2.2 b7) <|
  rd_let (pI S b7 ((11 * x2) + 1).toNatClampNeg ((rd_shr v6 4) &&& 1)) fun s8 =>
  if x1 = 1 then
  (rd_c (gR s8 a0 51) fun b10 =>
  rd_i ((11 * x2) + 3) (w.2.2 b10) <|
  rd_let (pI s8 b10 ((11 * x2) + 3).toNatClampNeg ((rd_shr v6 3) &&& 1)) fun s11 =>
  some s11)
  else
  (rd_b (F_X12_isKnown w a0 2 s8) fun v13 s12 =>
  if v13 = 0 then
  (some s12)
  else
  (rd_c (gR s12 a0 18) fun b15 =>
  rd_i 2 (w.2.2 b15) <|
  rd_let (gI s12 b15 (2 : Int32).toNatClampNeg) fun v16 =>
  rd_let (v6 &&& 15) fun v17 =>
  if 4 ≤ v17 then
  (if v17 = 4 then
  (rd_c (gR s12 a0 51) fun b20 =>
  rd_i ((11 * x2) + 6) (w.2.2 b20) <|
  rd_let (pI s12 b20 ((11 * x2) + 6).toNatClampNeg v16) fun s21 =>
  B_X12_another_273 w s21)
  else
  (if 9 ≤ v17 then
  (if v17 = 12 then
  (rd_c (gR s12 a0 51) fun b24 =>
  rd_i ((11 * x2) + 5) (w.2.2 b24) <|
  rd_let (pI s12 b24 ((11 * x2) + 5).toNatClampNeg v16) fun s25 =>
  B_X12_another_273 w s25)
  else
  (if v17 = 14 then
  (rd_c (gR s12 a0 51) fun b27 =>
  rd_i ((11 * x2) + 4) (w.2.2 b27) <|
  rd_let (pI s12 b27 ((11 * x2) + 4).toNatClampNeg v16) fun s28 =>
  B_X12_another_273 w s28)
  else
  (if v17 = 13 then
  (rd_c (gR s12 a0 51) fun b30 =>
  rd_i ((11 * x2) + 2) (w.2.2 b30) <|
  rd_let (pI s12 b30 ((11 * x2) + 2).toNatClampNeg ((rd_shr v16 11) &&& 31)) fun s31 =>
  rd_c (gR s31 a0 51) fun b32 =>
  rd_i ((11 * x2) + 3) (w.2.2 b32) <|
  rd_let (pI s31 b32 ((11 * x2) + 3).toNatClampNeg (v16 &&& 1)) fun s33 =>
  B_X12_another_273 w s33)
  else
  (B_X12_another_273 w s12))))
  else
  (rd_c (gR s12 a0 51) fun b34 =>
  rd_i (((11 * x2) + 2) + v17) (w.2.2 b34) <|
  rd_let (pI s12 b34 (((11 * x2) + 2) + v17).toNatClampNeg v16) fun s35 =>
  B_X12_another_273 w s35)))
  else
  (rd_c (F_X12_piece w a0 (3 + x2) v17 v16 0 2 s12) fun s36 =>
  B_X12_another_273 w s36)))
theorem yb_X12_another_47 (cx : rd_Cx) (w : rd_W) (a0 : Nat) (x1 : Int32) (x2 : Int32) (ha0 : rd_ok w a0 12) (S : rd_S) : rd_Y cx G_X12_another (fun r => rd_P cx G_X12_another.2.2.2.2.2 0 w (rd_rV w r)) (B_X12_another_47 w a0 x1 x2 S) 47 [(0, .inr (some a0)), (1, .inl x1), (2, .inl x2)] [] w S 0 0 := by
  unfold B_X12_another_47
  refine ry_aload_n dX12_another_47 rfl ?_
  refine ry_getr dX12_another_48 ha0 fl_RX12_77 rfl (fun b5 hb5 => ?_)
  refine ry_iconst (v := 1) dX12_another_51 (by decide) ?_
  refine ry_iald dX12_another_52 hb5 ?_
  refine ry_istore_n dX12_another_53 (by decide) ?_
  refine ry_let (fun v6 => ?_)
  refine ry_aload_n dX12_another_54 rfl ?_
  refine ry_getr dX12_another_55 ha0 fl_RX12_275 rfl (fun b7 hb7 => ?_)
  refine ry_bipush (v := 11) dX12_another_58 (by decide) ?_
  refine ry_iload_n dX12_another_60 rfl ?_
  refine ry_imul dX12_another_61 ?_
  refine ry_iconst (v := 1) dX12_another_62 (by decide) ?_
  refine ry_iadd dX12_another_63 ?_
  refine ry_iload_n dX12_another_64 rfl ?_
  refine ry_iconst (v := 4) dX12_another_65 (by decide) ?_
  refine ry_ishr dX12_another_66 ?_
  refine ry_iconst (v := 1) dX12_another_67 (by decide) ?_
  refine ry_iand dX12_another_68 ?_
  refine ry_iast dX12_another_69 hb7 ?_
  refine ry_letS (fun s8 => ?_)
  refine ry_iload_n dX12_another_70 rfl ?_
  refine ry_iconst (v := 1) dX12_another_71 (by decide) ?_
  refine ry_icmp_ne 92 dX12_another_72 (by decide) (fun c9 => ?_) (fun c9 => ?_)
  · refine ry_aload_n dX12_another_75 rfl ?_
    refine ry_getr dX12_another_76 ha0 fl_RX12_275 rfl (fun b10 hb10 => ?_)
    refine ry_bipush (v := 11) dX12_another_79 (by decide) ?_
    refine ry_iload_n dX12_another_81 rfl ?_
    refine ry_imul dX12_another_82 ?_
    refine ry_iconst (v := 3) dX12_another_83 (by decide) ?_
    refine ry_iadd dX12_another_84 ?_
    refine ry_iload_n dX12_another_85 rfl ?_
    refine ry_iconst (v := 3) dX12_another_86 (by decide) ?_
    refine ry_ishr dX12_another_87 ?_
    refine ry_iconst (v := 1) dX12_another_88 (by decide) ?_
    refine ry_iand dX12_another_89 ?_
    refine ry_iast dX12_another_90 hb10 ?_
    refine ry_letS (fun s11 => ?_)
    exact ry_vret dX12_another_91 rfl (Nat.le_of_ble_eq_true rfl) (Nat.le_of_ble_eq_true rfl)
  · refine ry_aload_n dX12_another_92 rfl ?_
    refine ry_iconst (v := 2) dX12_another_93 (by decide) ?_
    refine ry_callI (fun l r9 h9 => cm_X12_isKnown l cx w a0 2 ha0 s8 r9 h9) (rd_runV (vs := [.inl 2]) dX12_another_94 ha0 rfl rfl yf_X12_isKnown mi_X12_isKnown ms_X12_isKnown ml_RX12_114 ⟨Nat.le_of_ble_eq_true rfl, Nat.le_of_ble_eq_true rfl⟩ (Nat.le_of_ble_eq_true rfl) rfl) rfl rfl (Nat.le_of_ble_eq_true rfl) (Nat.le_of_ble_eq_true rfl) (fun v13 s12 => ?_)
    refine ry_if_ne 101 dX12_another_97 (by decide) (fun c14 => ?_) (fun c14 => ?_)
    · exact ry_vret dX12_another_100 rfl (Nat.le_of_ble_eq_true rfl) (Nat.le_of_ble_eq_true rfl)
    · refine ry_aload_n dX12_another_101 rfl ?_
      refine ry_getr dX12_another_102 ha0 fl_RX12_77 rfl (fun b15 hb15 => ?_)
      refine ry_iconst (v := 2) dX12_another_105 (by decide) ?_
      refine ry_iald dX12_another_106 hb15 ?_
      refine ry_istore dX12_another_107 (by decide) ?_
      refine ry_let (fun v16 => ?_)
      refine ry_iload_n dX12_another_109 rfl ?_
      refine ry_bipush (v := 15) dX12_another_110 (by decide) ?_
      refine ry_iand dX12_another_112 ?_
      refine ry_istore dX12_another_113 (by decide) ?_
      refine ry_let (fun v17 => ?_)
      refine ry_iload dX12_another_115 rfl ?_
      refine ry_iconst (v := 4) dX12_another_117 (by decide) ?_
      refine ry_icmp_ge 137 dX12_another_118 (by decide) (fun c18 => ?_) (fun c18 => ?_)
      · refine ry_iload dX12_another_137 rfl ?_
        refine ry_iconst (v := 4) dX12_another_139 (by decide) ?_
        refine ry_icmp_ne 160 dX12_another_140 (by decide) (fun c19 => ?_) (fun c19 => ?_)
        · refine ry_aload_n dX12_another_143 rfl ?_
          refine ry_getr dX12_another_144 ha0 fl_RX12_275 rfl (fun b20 hb20 => ?_)
          refine ry_bipush (v := 11) dX12_another_147 (by decide) ?_
          refine ry_iload_n dX12_another_149 rfl ?_
          refine ry_imul dX12_another_150 ?_
          refine ry_bipush (v := 6) dX12_another_151 (by decide) ?_
          refine ry_iadd dX12_another_153 ?_
          refine ry_iload dX12_another_154 rfl ?_
          refine ry_iast dX12_another_156 hb20 ?_
          refine ry_letS (fun s21 => ?_)
          refine ry_goto 273 dX12_another_157 (by decide) ?_
          exact ry_to (yb_X12_another_273 cx w s21) trivial
        · refine ry_iload dX12_another_160 rfl ?_
          refine ry_bipush (v := 9) dX12_another_162 (by decide) ?_
          refine ry_icmp_ge 186 dX12_another_164 (by decide) (fun c22 => ?_) (fun c22 => ?_)
          · refine ry_iload dX12_another_186 rfl ?_
            refine ry_bipush (v := 12) dX12_another_188 (by decide) ?_
            refine ry_icmp_ne 209 dX12_another_190 (by decide) (fun c23 => ?_) (fun c23 => ?_)
            · refine ry_aload_n dX12_another_193 rfl ?_
              refine ry_getr dX12_another_194 ha0 fl_RX12_275 rfl (fun b24 hb24 => ?_)
              refine ry_bipush (v := 11) dX12_another_197 (by decide) ?_
              refine ry_iload_n dX12_another_199 rfl ?_
              refine ry_imul dX12_another_200 ?_
              refine ry_iconst (v := 5) dX12_another_201 (by decide) ?_
              refine ry_iadd dX12_another_202 ?_
              refine ry_iload dX12_another_203 rfl ?_
              refine ry_iast dX12_another_205 hb24 ?_
              refine ry_letS (fun s25 => ?_)
              refine ry_goto 273 dX12_another_206 (by decide) ?_
              exact ry_to (yb_X12_another_273 cx w s25) trivial
            · refine ry_iload dX12_another_209 rfl ?_
              refine ry_bipush (v := 14) dX12_another_211 (by decide) ?_
              refine ry_icmp_ne 232 dX12_another_213 (by decide) (fun c26 => ?_) (fun c26 => ?_)
              · refine ry_aload_n dX12_another_216 rfl ?_
                refine ry_getr dX12_another_217 ha0 fl_RX12_275 rfl (fun b27 hb27 => ?_)
                refine ry_bipush (v := 11) dX12_another_220 (by decide) ?_
                refine ry_iload_n dX12_another_222 rfl ?_
                refine ry_imul dX12_another_223 ?_
                refine ry_iconst (v := 4) dX12_another_224 (by decide) ?_
                refine ry_iadd dX12_another_225 ?_
                refine ry_iload dX12_another_226 rfl ?_
                refine ry_iast dX12_another_228 hb27 ?_
                refine ry_letS (fun s28 => ?_)
                refine ry_goto 273 dX12_another_229 (by decide) ?_
                exact ry_to (yb_X12_another_273 cx w s28) trivial
              · refine ry_iload dX12_another_232 rfl ?_
                refine ry_bipush (v := 13) dX12_another_234 (by decide) ?_
                refine ry_icmp_ne 273 dX12_another_236 (by decide) (fun c29 => ?_) (fun c29 => ?_)
                · refine ry_aload_n dX12_another_239 rfl ?_
                  refine ry_getr dX12_another_240 ha0 fl_RX12_275 rfl (fun b30 hb30 => ?_)
                  refine ry_bipush (v := 11) dX12_another_243 (by decide) ?_
                  refine ry_iload_n dX12_another_245 rfl ?_
                  refine ry_imul dX12_another_246 ?_
                  refine ry_iconst (v := 2) dX12_another_247 (by decide) ?_
                  refine ry_iadd dX12_another_248 ?_
                  refine ry_iload dX12_another_249 rfl ?_
                  refine ry_bipush (v := 11) dX12_another_251 (by decide) ?_
                  refine ry_ishr dX12_another_253 ?_
                  refine ry_bipush (v := 31) dX12_another_254 (by decide) ?_
                  refine ry_iand dX12_another_256 ?_
                  refine ry_iast dX12_another_257 hb30 ?_
                  refine ry_letS (fun s31 => ?_)
                  refine ry_aload_n dX12_another_258 rfl ?_
                  refine ry_getr dX12_another_259 ha0 fl_RX12_275 rfl (fun b32 hb32 => ?_)
                  refine ry_bipush (v := 11) dX12_another_262 (by decide) ?_
                  refine ry_iload_n dX12_another_264 rfl ?_
                  refine ry_imul dX12_another_265 ?_
                  refine ry_iconst (v := 3) dX12_another_266 (by decide) ?_
                  refine ry_iadd dX12_another_267 ?_
                  refine ry_iload dX12_another_268 rfl ?_
                  refine ry_iconst (v := 1) dX12_another_270 (by decide) ?_
                  refine ry_iand dX12_another_271 ?_
                  refine ry_iast dX12_another_272 hb32 ?_
                  refine ry_letS (fun s33 => ?_)
                  exact ry_to (yb_X12_another_273 cx w s33) trivial
                · exact ry_to (yb_X12_another_273 cx w s12) trivial
          · refine ry_aload_n dX12_another_167 rfl ?_
            refine ry_getr dX12_another_168 ha0 fl_RX12_275 rfl (fun b34 hb34 => ?_)
            refine ry_bipush (v := 11) dX12_another_171 (by decide) ?_
            refine ry_iload_n dX12_another_173 rfl ?_
            refine ry_imul dX12_another_174 ?_
            refine ry_iconst (v := 2) dX12_another_175 (by decide) ?_
            refine ry_iadd dX12_another_176 ?_
            refine ry_iload dX12_another_177 rfl ?_
            refine ry_iadd dX12_another_179 ?_
            refine ry_iload dX12_another_180 rfl ?_
            refine ry_iast dX12_another_182 hb34 ?_
            refine ry_letS (fun s35 => ?_)
            refine ry_goto 273 dX12_another_183 (by decide) ?_
            exact ry_to (yb_X12_another_273 cx w s35) trivial
      · refine ry_aload_n dX12_another_121 rfl ?_
        refine ry_iconst (v := 3) dX12_another_122 (by decide) ?_
        refine ry_iload_n dX12_another_123 rfl ?_
        refine ry_iadd dX12_another_124 ?_
        refine ry_iload dX12_another_125 rfl ?_
        refine ry_iload dX12_another_127 rfl ?_
        refine ry_iconst (v := 0) dX12_another_129 (by decide) ?_
        refine ry_iconst (v := 2) dX12_another_130 (by decide) ?_
        refine ry_callv (fun l r9 h9 => cm_X12_piece l cx w a0 (3 + x2) v17 v16 0 2 ha0 s12 r9 h9) (rd_runV (vs := [.inl (3 + x2), .inl v17, .inl v16, .inl 0, .inl 2]) dX12_another_131 ha0 rfl rfl yf_X12_piece mi_X12_piece ms_X12_piece ml_RX12_146 ⟨Nat.le_of_ble_eq_true rfl, Nat.le_of_ble_eq_true rfl⟩ (Nat.le_of_ble_eq_true rfl) rfl) rfl rfl (Nat.le_of_ble_eq_true rfl) (Nat.le_of_ble_eq_true rfl) (fun s36 => ?_)
        refine ry_goto 273 dX12_another_134 (by decide) ?_
        exact ry_to (yb_X12_another_273 cx w s36) trivial
def B_X12_another_34 (w : rd_W) (a0 : Nat) (x1 : Int32) (x2 : Int32) (S : rd_S) : Option (rd_S) :=
  if x2 = (gI S a0 53) then
  (rd_b (F_X12_oneMore w a0 S) fun v4 s3 =>
  B_X12_another_47 w a0 x1 v4 s3)
  else
  (B_X12_another_47 w a0 x1 x2 S)
theorem yb_X12_another_34 (cx : rd_Cx) (w : rd_W) (a0 : Nat) (x1 : Int32) (x2 : Int32) (ha0 : rd_ok w a0 12) (S : rd_S) : rd_Y cx G_X12_another (fun r => rd_P cx G_X12_another.2.2.2.2.2 0 w (rd_rV w r)) (B_X12_another_34 w a0 x1 x2 S) 34 [(0, .inr (some a0)), (1, .inl x1), (2, .inl x2)] [] w S 0 0 := by
  unfold B_X12_another_34
  refine ry_iload_n dX12_another_34 rfl ?_
  refine ry_aload_n dX12_another_35 rfl ?_
  refine ry_geti dX12_another_36 ha0 fl_RX12_272 rfl ?_
  refine ry_icmp_ne 47 dX12_another_39 (by decide) (fun c2 => ?_) (fun c2 => ?_)
  · refine ry_aload_n dX12_another_42 rfl ?_
    refine ry_callI (fun l r9 h9 => cm_X12_oneMore l cx w a0 ha0 S r9 h9) (rd_runV (vs := []) dX12_another_43 ha0 rfl rfl yf_X12_oneMore mi_X12_oneMore ms_X12_oneMore ml_RX12_277 ⟨Nat.le_of_ble_eq_true rfl, Nat.le_of_ble_eq_true rfl⟩ (Nat.le_of_ble_eq_true rfl) rfl) rfl rfl (Nat.le_of_ble_eq_true rfl) (Nat.le_of_ble_eq_true rfl) (fun v4 s3 => ?_)
    refine ry_istore_n dX12_another_46 (by decide) ?_
    exact ry_to (yb_X12_another_47 cx w a0 x1 v4 ha0 s3) ⟨rfl, rfl, rfl, trivial⟩
  · exact ry_to (yb_X12_another_47 cx w a0 x1 x2 ha0 S) ⟨rfl, rfl, rfl, trivial⟩
def B_X12_another_2 (w : rd_W) (k2 : Nat → Int32 → Int32 → rd_S → Option (rd_S)) (a0 : Nat) (x1 : Int32) (x2 : Int32) (S : rd_S) : Option (rd_S) :=
  if (gI S a0 53) ≤ x2 then
  (B_X12_another_34 w a0 x1 x2 S)
  else
  (rd_c (gR S a0 51) fun b37 =>
  rd_let (11 * x2) fun v38 =>
  rd_i v38 (w.2.2 b37) <|
  rd_c (gR S a0 18) fun b39 =>
  rd_i 3 (w.2.2 b39) <|
  if (gI S b37 v38.toNatClampNeg) = (gI S b39 (3 : Int32).toNatClampNeg) then
  (B_X12_another_34 w a0 x1 x2 S)
  else
  (rd_let (x2 + 1) fun v41 =>
  k2 a0 x1 v41 S))
theorem yb_X12_another_2 (cx : rd_Cx) (w : rd_W) {k2 : Nat → Int32 → Int32 → rd_S → Option (rd_S)} (hk2 : ∀ (a0 : Nat) (x1 : Int32) (x2 : Int32) (ha0 : rd_ok w a0 12) (S : rd_S), rd_Y cx G_X12_another (fun r => rd_P cx G_X12_another.2.2.2.2.2 0 w (rd_rV w r)) (k2 a0 x1 x2 S) 2 [(0, .inr (some a0)), (1, .inl x1), (2, .inl x2)] [] w S 0 0) (a0 : Nat) (x1 : Int32) (x2 : Int32) (ha0 : rd_ok w a0 12) (S : rd_S) : rd_Y cx G_X12_another (fun r => rd_P cx G_X12_another.2.2.2.2.2 0 w (rd_rV w r)) (B_X12_another_2 w k2 a0 x1 x2 S) 2 [(0, .inr (some a0)), (1, .inl x1), (2, .inl x2)] [] w S 0 0 := by
  unfold B_X12_another_2
  refine ry_iload_n dX12_another_2 rfl ?_
  refine ry_aload_n dX12_another_3 rfl ?_
  refine ry_geti dX12_another_4 ha0 fl_RX12_272 rfl ?_
  refine ry_icmp_ge 34 dX12_another_7 (by decide) (fun c1 => ?_) (fun c1 => ?_)
  · exact ry_to (yb_X12_another_34 cx w a0 x1 x2 ha0 S) ⟨rfl, rfl, rfl, trivial⟩
  · refine ry_aload_n dX12_another_10 rfl ?_
    refine ry_getr dX12_another_11 ha0 fl_RX12_275 rfl (fun b37 hb37 => ?_)
    refine ry_bipush (v := 11) dX12_another_14 (by decide) ?_
    refine ry_iload_n dX12_another_16 rfl ?_
    refine ry_imul dX12_another_17 ?_
    refine ry_lets (fun v38 => ?_)
    refine ry_iald dX12_another_18 hb37 ?_
    refine ry_aload_n dX12_another_19 rfl ?_
    refine ry_getr dX12_another_20 ha0 fl_RX12_77 rfl (fun b39 hb39 => ?_)
    refine ry_iconst (v := 3) dX12_another_23 (by decide) ?_
    refine ry_iald dX12_another_24 hb39 ?_
    refine ry_icmp_eq 34 dX12_another_25 (by decide) (fun c40 => ?_) (fun c40 => ?_)
    · exact ry_to (yb_X12_another_34 cx w a0 x1 x2 ha0 S) ⟨rfl, rfl, rfl, trivial⟩
    · refine ry_iinc (v := 1) dX12_another_28 rfl (by decide) (by decide) ?_
      refine ry_let (fun v41 => ?_)
      refine ry_goto 2 dX12_another_31 (by decide) ?_
      exact ry_to (hk2 a0 x1 v41 ha0 S) ⟨rfl, rfl, rfl, trivial⟩
def F_X12_another_2 (w : rd_W) (n : Nat) : Nat → Int32 → Int32 → rd_S → Option (rd_S) :=
  Nat.rec (motive := fun _ => Nat → Int32 → Int32 → rd_S → Option (rd_S)) (fun _ _ _ _ => none) (fun _ ih => B_X12_another_2 w ih) n
theorem yl_X12_another_2 (cx : rd_Cx) (w : rd_W) : ∀ (n : Nat) (a0 : Nat) (x1 : Int32) (x2 : Int32) (ha0 : rd_ok w a0 12) (S : rd_S), rd_Y cx G_X12_another (fun r => rd_P cx G_X12_another.2.2.2.2.2 0 w (rd_rV w r)) (F_X12_another_2 w n a0 x1 x2 S) 2 [(0, .inr (some a0)), (1, .inl x1), (2, .inl x2)] [] w S 0 0 := by
  intro n
  induction n with
  | zero => intro a0 x1 x2 ha0 S; exact ry_none
  | succ n ih => intro a0 x1 x2 ha0 S; exact yb_X12_another_2 cx w ih a0 x1 x2 ha0 S
def F_X12_another (w : rd_W) (a0 : Nat) (x1 : Int32) (S : rd_S) : Option (rd_S) :=
  F_X12_another_2 w rd_big a0 x1 0 S
theorem ym_X12_another (cx : rd_Cx) (w : rd_W) (a0 : Nat) (x1 : Int32) (ha0 : rd_ok w a0 12) (S : rd_S) : rd_Y cx G_X12_another (fun r => rd_P cx G_X12_another.2.2.2.2.2 0 w (rd_rV w r)) (F_X12_another w a0 x1 S) 0 (rd_as 0 [.inr (some a0), .inl x1]) [] w S 0 0 := by
  unfold F_X12_another
  refine ry_iconst (v := 0) dX12_another_0 (by decide) ?_
  refine ry_istore_n dX12_another_1 (by decide) ?_
  exact ry_to (yl_X12_another_2 cx w rd_big a0 x1 0 ha0 S) ⟨rfl, rfl, rfl, trivial⟩
theorem cm_X12_another (l : Launch) (cx : rd_Cx) (w : rd_W) (a0 : Nat) (x1 : Int32) (ha0 : rd_ok w a0 12) (S : rd_S) (r : rd_S) (h : F_X12_another w a0 x1 S = some r) : rd_M l cx yX12_another G_X12_another 0 [.inr (some a0), .inl x1] w S (rd_rV w r) :=
  rd_enter (plainFor_of_name (by decide +kernel)) rfl (fun h => by cases h) (Nat.le_of_ble_eq_true rfl) (ym_X12_another cx w a0 x1 ha0 S r h)
abbrev G_X12_byType : rd_G := (RX12, cX12_byType, 3, none, false, { frames := 3, cells := 0, slots := 0, locals := 79 })
theorem yf_X12_byType : rd_YL yX12_byType G_X12_byType 2 := ⟨rd_mem 922 (by decide +kernel) rfl, rd_mem 75 (by decide +kernel) rfl, by decide +kernel, by decide +kernel, by decide +kernel⟩
theorem mi_X12_byType : Cond.instanceMethod yX12_byType ∈ rd_gw := rd_mem 921 (by decide +kernel) rfl
theorem ms_X12_byType : Cond.selects (MethodName.cls yX12_byType) yX12_byType yX12_byType ∈ rd_gw := rd_mem 46 (by decide +kernel) rfl
theorem dX12_byType_0 : decode cX12_byType 0 = .ok (.iload_n 1, 1) := by decide +kernel
theorem dX12_byType_1 : decode cX12_byType 1 = .ok (.tableswitch 279 0 15 #[79, 154, 162, 170, 197, 279, 279, 279, 279, 279, 224, 279, 279, 279, 251, 267], 79) := by decide +kernel
theorem dX12_byType_80 : decode cX12_byType 80 = .ok (.aload_n 0, 1) := by decide +kernel
theorem dX12_byType_81 : decode cX12_byType 81 = .ok (.invokevirtual 143, 3) := by decide +kernel
theorem dX12_byType_84 : decode cX12_byType 84 = .ok (.aload_n 0, 1) := by decide +kernel
theorem dX12_byType_85 : decode cX12_byType 85 = .ok (.iconst 3, 1) := by decide +kernel
theorem dX12_byType_86 : decode cX12_byType 86 = .ok (.invokevirtual 114, 3) := by decide +kernel
theorem dX12_byType_89 : decode cX12_byType 89 = .ok (.ifCond .eq 24, 3) := by decide +kernel
theorem dX12_byType_92 : decode cX12_byType 92 = .ok (.aload_n 0, 1) := by decide +kernel
theorem dX12_byType_93 : decode cX12_byType 93 = .ok (.iconst 0, 1) := by decide +kernel
theorem dX12_byType_94 : decode cX12_byType 94 = .ok (.aload_n 0, 1) := by decide +kernel
theorem dX12_byType_95 : decode cX12_byType 95 = .ok (.getfield 77, 3) := by decide +kernel
theorem dX12_byType_98 : decode cX12_byType 98 = .ok (.iconst 1, 1) := by decide +kernel
theorem dX12_byType_99 : decode cX12_byType 99 = .ok (.iaload, 1) := by decide +kernel
theorem dX12_byType_100 : decode cX12_byType 100 = .ok (.iconst 3, 1) := by decide +kernel
theorem dX12_byType_101 : decode cX12_byType 101 = .ok (.iand, 1) := by decide +kernel
theorem dX12_byType_102 : decode cX12_byType 102 = .ok (.aload_n 0, 1) := by decide +kernel
theorem dX12_byType_103 : decode cX12_byType 103 = .ok (.getfield 77, 3) := by decide +kernel
theorem dX12_byType_106 : decode cX12_byType 106 = .ok (.iconst 3, 1) := by decide +kernel
theorem dX12_byType_107 : decode cX12_byType 107 = .ok (.iaload, 1) := by decide +kernel
theorem dX12_byType_108 : decode cX12_byType 108 = .ok (.iconst 0, 1) := by decide +kernel
theorem dX12_byType_109 : decode cX12_byType 109 = .ok (.iconst 2, 1) := by decide +kernel
theorem dX12_byType_110 : decode cX12_byType 110 = .ok (.invokevirtual 146, 3) := by decide +kernel
theorem dX12_byType_113 : decode cX12_byType 113 = .ok (.iload_n 2, 1) := by decide +kernel
theorem dX12_byType_114 : decode cX12_byType 114 = .ok (.ifCond .ne 166, 3) := by decide +kernel
theorem dX12_byType_117 : decode cX12_byType 117 = .ok (.aload_n 0, 1) := by decide +kernel
theorem dX12_byType_118 : decode cX12_byType 118 = .ok (.iconst 2, 1) := by decide +kernel
theorem dX12_byType_119 : decode cX12_byType 119 = .ok (.invokevirtual 114, 3) := by decide +kernel
theorem dX12_byType_122 : decode cX12_byType 122 = .ok (.ifCond .eq 158, 3) := by decide +kernel
theorem dX12_byType_125 : decode cX12_byType 125 = .ok (.aload_n 0, 1) := by decide +kernel
theorem dX12_byType_126 : decode cX12_byType 126 = .ok (.aload_n 0, 1) := by decide +kernel
theorem dX12_byType_127 : decode cX12_byType 127 = .ok (.getfield 77, 3) := by decide +kernel
theorem dX12_byType_130 : decode cX12_byType 130 = .ok (.iconst 2, 1) := by decide +kernel
theorem dX12_byType_131 : decode cX12_byType 131 = .ok (.iaload, 1) := by decide +kernel
theorem dX12_byType_132 : decode cX12_byType 132 = .ok (.bipush 8, 2) := by decide +kernel
theorem dX12_byType_134 : decode cX12_byType 134 = .ok (.ishr, 1) := by decide +kernel
theorem dX12_byType_135 : decode cX12_byType 135 = .ok (.invokevirtual 150, 3) := by decide +kernel
theorem dX12_byType_138 : decode cX12_byType 138 = .ok (.aload_n 0, 1) := by decide +kernel
theorem dX12_byType_139 : decode cX12_byType 139 = .ok (.aload_n 0, 1) := by decide +kernel
theorem dX12_byType_140 : decode cX12_byType 140 = .ok (.getfield 77, 3) := by decide +kernel
theorem dX12_byType_143 : decode cX12_byType 143 = .ok (.iconst 2, 1) := by decide +kernel
theorem dX12_byType_144 : decode cX12_byType 144 = .ok (.iaload, 1) := by decide +kernel
theorem dX12_byType_145 : decode cX12_byType 145 = .ok (.sipush 255, 3) := by decide +kernel
theorem dX12_byType_148 : decode cX12_byType 148 = .ok (.iand, 1) := by decide +kernel
theorem dX12_byType_149 : decode cX12_byType 149 = .ok (.invokevirtual 150, 3) := by decide +kernel
theorem dX12_byType_152 : decode cX12_byType 152 = .ok (.goto 128, 3) := by decide +kernel
theorem dX12_byType_155 : decode cX12_byType 155 = .ok (.aload_n 0, 1) := by decide +kernel
theorem dX12_byType_156 : decode cX12_byType 156 = .ok (.iload_n 2, 1) := by decide +kernel
theorem dX12_byType_157 : decode cX12_byType 157 = .ok (.invokevirtual 153, 3) := by decide +kernel
theorem dX12_byType_160 : decode cX12_byType 160 = .ok (.goto 120, 3) := by decide +kernel
theorem dX12_byType_163 : decode cX12_byType 163 = .ok (.aload_n 0, 1) := by decide +kernel
theorem dX12_byType_164 : decode cX12_byType 164 = .ok (.iload_n 2, 1) := by decide +kernel
theorem dX12_byType_165 : decode cX12_byType 165 = .ok (.invokevirtual 156, 3) := by decide +kernel
theorem dX12_byType_168 : decode cX12_byType 168 = .ok (.goto 112, 3) := by decide +kernel
theorem dX12_byType_171 : decode cX12_byType 171 = .ok (.iload_n 2, 1) := by decide +kernel
theorem dX12_byType_172 : decode cX12_byType 172 = .ok (.ifCond .ne 108, 3) := by decide +kernel
theorem dX12_byType_175 : decode cX12_byType 175 = .ok (.aload_n 0, 1) := by decide +kernel
theorem dX12_byType_176 : decode cX12_byType 176 = .ok (.iconst 2, 1) := by decide +kernel
theorem dX12_byType_177 : decode cX12_byType 177 = .ok (.invokevirtual 114, 3) := by decide +kernel
theorem dX12_byType_180 : decode cX12_byType 180 = .ok (.ifCond .eq 100, 3) := by decide +kernel
theorem dX12_byType_183 : decode cX12_byType 183 = .ok (.aload_n 0, 1) := by decide +kernel
theorem dX12_byType_184 : decode cX12_byType 184 = .ok (.iconst 3, 1) := by decide +kernel
theorem dX12_byType_185 : decode cX12_byType 185 = .ok (.invokevirtual 114, 3) := by decide +kernel
theorem dX12_byType_188 : decode cX12_byType 188 = .ok (.ifCond .eq 92, 3) := by decide +kernel
theorem dX12_byType_191 : decode cX12_byType 191 = .ok (.aload_n 0, 1) := by decide +kernel
theorem dX12_byType_192 : decode cX12_byType 192 = .ok (.invokevirtual 159, 3) := by decide +kernel
theorem dX12_byType_195 : decode cX12_byType 195 = .ok (.goto 85, 3) := by decide +kernel
theorem dX12_byType_198 : decode cX12_byType 198 = .ok (.iload_n 2, 1) := by decide +kernel
theorem dX12_byType_199 : decode cX12_byType 199 = .ok (.ifCond .ne 81, 3) := by decide +kernel
theorem dX12_byType_202 : decode cX12_byType 202 = .ok (.aload_n 0, 1) := by decide +kernel
theorem dX12_byType_203 : decode cX12_byType 203 = .ok (.iconst 2, 1) := by decide +kernel
theorem dX12_byType_204 : decode cX12_byType 204 = .ok (.invokevirtual 114, 3) := by decide +kernel
theorem dX12_byType_207 : decode cX12_byType 207 = .ok (.ifCond .eq 73, 3) := by decide +kernel
theorem dX12_byType_210 : decode cX12_byType 210 = .ok (.aload_n 0, 1) := by decide +kernel
theorem dX12_byType_211 : decode cX12_byType 211 = .ok (.iconst 3, 1) := by decide +kernel
theorem dX12_byType_212 : decode cX12_byType 212 = .ok (.invokevirtual 114, 3) := by decide +kernel
theorem dX12_byType_215 : decode cX12_byType 215 = .ok (.ifCond .eq 65, 3) := by decide +kernel
theorem dX12_byType_218 : decode cX12_byType 218 = .ok (.aload_n 0, 1) := by decide +kernel
theorem dX12_byType_219 : decode cX12_byType 219 = .ok (.invokevirtual 162, 3) := by decide +kernel
theorem dX12_byType_222 : decode cX12_byType 222 = .ok (.goto 58, 3) := by decide +kernel
theorem dX12_byType_225 : decode cX12_byType 225 = .ok (.iload_n 2, 1) := by decide +kernel
theorem dX12_byType_226 : decode cX12_byType 226 = .ok (.ifCond .ne 54, 3) := by decide +kernel
theorem dX12_byType_229 : decode cX12_byType 229 = .ok (.aload_n 0, 1) := by decide +kernel
theorem dX12_byType_230 : decode cX12_byType 230 = .ok (.iconst 2, 1) := by decide +kernel
theorem dX12_byType_231 : decode cX12_byType 231 = .ok (.invokevirtual 114, 3) := by decide +kernel
theorem dX12_byType_234 : decode cX12_byType 234 = .ok (.ifCond .eq 46, 3) := by decide +kernel
theorem dX12_byType_237 : decode cX12_byType 237 = .ok (.aload_n 0, 1) := by decide +kernel
theorem dX12_byType_238 : decode cX12_byType 238 = .ok (.iconst 3, 1) := by decide +kernel
theorem dX12_byType_239 : decode cX12_byType 239 = .ok (.invokevirtual 114, 3) := by decide +kernel
theorem dX12_byType_242 : decode cX12_byType 242 = .ok (.ifCond .eq 38, 3) := by decide +kernel
theorem dX12_byType_245 : decode cX12_byType 245 = .ok (.aload_n 0, 1) := by decide +kernel
theorem dX12_byType_246 : decode cX12_byType 246 = .ok (.invokevirtual 165, 3) := by decide +kernel
theorem dX12_byType_249 : decode cX12_byType 249 = .ok (.goto 31, 3) := by decide +kernel
theorem dX12_byType_252 : decode cX12_byType 252 = .ok (.aload_n 0, 1) := by decide +kernel
theorem dX12_byType_253 : decode cX12_byType 253 = .ok (.iconst 3, 1) := by decide +kernel
theorem dX12_byType_254 : decode cX12_byType 254 = .ok (.invokevirtual 114, 3) := by decide +kernel
theorem dX12_byType_257 : decode cX12_byType 257 = .ok (.ifCond .eq 23, 3) := by decide +kernel
theorem dX12_byType_260 : decode cX12_byType 260 = .ok (.aload_n 0, 1) := by decide +kernel
theorem dX12_byType_261 : decode cX12_byType 261 = .ok (.iload_n 2, 1) := by decide +kernel
theorem dX12_byType_262 : decode cX12_byType 262 = .ok (.invokevirtual 168, 3) := by decide +kernel
theorem dX12_byType_265 : decode cX12_byType 265 = .ok (.goto 15, 3) := by decide +kernel
theorem dX12_byType_268 : decode cX12_byType 268 = .ok (.iload_n 2, 1) := by decide +kernel
theorem dX12_byType_269 : decode cX12_byType 269 = .ok (.iconst 1, 1) := by decide +kernel
theorem dX12_byType_270 : decode cX12_byType 270 = .ok (.if_icmp .ne 10, 3) := by decide +kernel
theorem dX12_byType_273 : decode cX12_byType 273 = .ok (.aload_n 0, 1) := by decide +kernel
theorem dX12_byType_274 : decode cX12_byType 274 = .ok (.invokevirtual 143, 3) := by decide +kernel
theorem dX12_byType_277 : decode cX12_byType 277 = .ok (.goto 3, 3) := by decide +kernel
theorem dX12_byType_280 : decode cX12_byType 280 = .ok (.return_, 1) := by decide +kernel
def B_X12_byType_280 (w : rd_W) (S : rd_S) : Option (rd_S) :=
  some S
theorem yb_X12_byType_280 (cx : rd_Cx) (w : rd_W) (S : rd_S) : rd_Y cx G_X12_byType (fun r => rd_P cx G_X12_byType.2.2.2.2.2 0 w (rd_rV w r)) (B_X12_byType_280 w S) 280 [] [] w S 0 0 := by
  unfold B_X12_byType_280
  exact ry_vret dX12_byType_280 rfl (Nat.le_of_ble_eq_true rfl) (Nat.le_of_ble_eq_true rfl)
def B_X12_byType_113 (w : rd_W) (a0 : Nat) (x2 : Int32) (S : rd_S) : Option (rd_S) :=
  if x2 = 0 then
  (rd_b (F_X12_isKnown w a0 2 S) fun v8 s7 =>
  if v8 = 0 then
  (B_X12_byType_280 w s7)
  else
  (rd_c (gR s7 a0 18) fun b10 =>
  rd_i 2 (w.2.2 b10) <|
  rd_c (F_X12_frequency0 w a0 (rd_shr (gI s7 b10 (2 : Int32).toNatClampNeg) 8) s7) fun s11 =>
  rd_c (gR s11 a0 18) fun b12 =>
  rd_i 2 (w.2.2 b12) <|
  rd_c (F_X12_frequency0 w a0 ((gI s11 b12 (2 : Int32).toNatClampNeg) &&& 255) s11) fun s13 =>
  B_X12_byType_280 w s13))
  else
  (B_X12_byType_280 w S)
theorem yb_X12_byType_113 (cx : rd_Cx) (w : rd_W) (a0 : Nat) (x2 : Int32) (ha0 : rd_ok w a0 12) (S : rd_S) : rd_Y cx G_X12_byType (fun r => rd_P cx G_X12_byType.2.2.2.2.2 0 w (rd_rV w r)) (B_X12_byType_113 w a0 x2 S) 113 [(0, .inr (some a0)), (2, .inl x2)] [] w S 0 0 := by
  unfold B_X12_byType_113
  refine ry_iload_n dX12_byType_113 rfl ?_
  refine ry_if_ne 280 dX12_byType_114 (by decide) (fun c6 => ?_) (fun c6 => ?_)
  · refine ry_aload_n dX12_byType_117 rfl ?_
    refine ry_iconst (v := 2) dX12_byType_118 (by decide) ?_
    refine ry_callI (fun l r9 h9 => cm_X12_isKnown l cx w a0 2 ha0 S r9 h9) (rd_runV (vs := [.inl 2]) dX12_byType_119 ha0 rfl rfl yf_X12_isKnown mi_X12_isKnown ms_X12_isKnown ml_RX12_114 ⟨Nat.le_of_ble_eq_true rfl, Nat.le_of_ble_eq_true rfl⟩ (Nat.le_of_ble_eq_true rfl) rfl) rfl rfl (Nat.le_of_ble_eq_true rfl) (Nat.le_of_ble_eq_true rfl) (fun v8 s7 => ?_)
    refine ry_if_eq 280 dX12_byType_122 (by decide) (fun c9 => ?_) (fun c9 => ?_)
    · exact ry_to (yb_X12_byType_280 cx w s7) trivial
    · refine ry_aload_n dX12_byType_125 rfl ?_
      refine ry_aload_n dX12_byType_126 rfl ?_
      refine ry_getr dX12_byType_127 ha0 fl_RX12_77 rfl (fun b10 hb10 => ?_)
      refine ry_iconst (v := 2) dX12_byType_130 (by decide) ?_
      refine ry_iald dX12_byType_131 hb10 ?_
      refine ry_bipush (v := 8) dX12_byType_132 (by decide) ?_
      refine ry_ishr dX12_byType_134 ?_
      refine ry_callv (fun l r9 h9 => cm_X12_frequency0 l cx w a0 (rd_shr (gI s7 b10 (2 : Int32).toNatClampNeg) 8) ha0 s7 r9 h9) (rd_runV (vs := [.inl (rd_shr (gI s7 b10 (2 : Int32).toNatClampNeg) 8)]) dX12_byType_135 ha0 rfl rfl yf_X12_frequency0 mi_X12_frequency0 ms_X12_frequency0 ml_RX12_150 ⟨Nat.le_of_ble_eq_true rfl, Nat.le_of_ble_eq_true rfl⟩ (Nat.le_of_ble_eq_true rfl) rfl) rfl rfl (Nat.le_of_ble_eq_true rfl) (Nat.le_of_ble_eq_true rfl) (fun s11 => ?_)
      refine ry_aload_n dX12_byType_138 rfl ?_
      refine ry_aload_n dX12_byType_139 rfl ?_
      refine ry_getr dX12_byType_140 ha0 fl_RX12_77 rfl (fun b12 hb12 => ?_)
      refine ry_iconst (v := 2) dX12_byType_143 (by decide) ?_
      refine ry_iald dX12_byType_144 hb12 ?_
      refine ry_sipush (v := 255) dX12_byType_145 (by decide) ?_
      refine ry_iand dX12_byType_148 ?_
      refine ry_callv (fun l r9 h9 => cm_X12_frequency0 l cx w a0 ((gI s11 b12 (2 : Int32).toNatClampNeg) &&& 255) ha0 s11 r9 h9) (rd_runV (vs := [.inl ((gI s11 b12 (2 : Int32).toNatClampNeg) &&& 255)]) dX12_byType_149 ha0 rfl rfl yf_X12_frequency0 mi_X12_frequency0 ms_X12_frequency0 ml_RX12_150 ⟨Nat.le_of_ble_eq_true rfl, Nat.le_of_ble_eq_true rfl⟩ (Nat.le_of_ble_eq_true rfl) rfl) rfl rfl (Nat.le_of_ble_eq_true rfl) (Nat.le_of_ble_eq_true rfl) (fun s13 => ?_)
      refine ry_goto 280 dX12_byType_152 (by decide) ?_
      exact ry_to (yb_X12_byType_280 cx w s13) trivial
  · exact ry_to (yb_X12_byType_280 cx w S) trivial
def F_X12_byType (w : rd_W) (a0 : Nat) (x1 : Int32) (x2 : Int32) (S : rd_S) : Option (rd_S) :=
  if x1 = 0 then
  (rd_c (F_X12_flags w a0 S) fun s2 =>
  rd_b (F_X12_isKnown w a0 3 s2) fun v4 s3 =>
  if v4 = 0 then
  (B_X12_byType_113 w a0 x2 s3)
  else
  (rd_c (gR s3 a0 18) fun b14 =>
  rd_i 1 (w.2.2 b14) <|
  rd_c (gR s3 a0 18) fun b15 =>
  rd_i 3 (w.2.2 b15) <|
  rd_c (F_X12_piece w a0 0 ((gI s3 b14 (1 : Int32).toNatClampNeg) &&& 3) (gI s3 b15 (3 : Int32).toNatClampNeg) 0 2 s3) fun s16 =>
  B_X12_byType_113 w a0 x2 s16))
  else
  if x1 = 1 then
  (rd_c (F_X12_programmeItem w a0 x2 S) fun s18 =>
  B_X12_byType_280 w s18)
  else
  if x1 = 2 then
  (rd_c (F_X12_text w a0 x2 S) fun s20 =>
  B_X12_byType_280 w s20)
  else
  if x1 = 3 then
  (if x2 = 0 then
  (rd_b (F_X12_isKnown w a0 2 S) fun v24 s23 =>
  if v24 = 0 then
  (B_X12_byType_280 w s23)
  else
  (rd_b (F_X12_isKnown w a0 3 s23) fun v27 s26 =>
  if v27 = 0 then
  (B_X12_byType_280 w s26)
  else
  (rd_c (F_X12_application w a0 s26) fun s29 =>
  B_X12_byType_280 w s29)))
  else
  (B_X12_byType_280 w S))
  else
  if x1 = 4 then
  (if x2 = 0 then
  (rd_b (F_X12_isKnown w a0 2 S) fun v33 s32 =>
  if v33 = 0 then
  (B_X12_byType_280 w s32)
  else
  (rd_b (F_X12_isKnown w a0 3 s32) fun v36 s35 =>
  if v36 = 0 then
  (B_X12_byType_280 w s35)
  else
  (rd_c (F_X12_clock w a0 s35) fun s38 =>
  B_X12_byType_280 w s38)))
  else
  (B_X12_byType_280 w S))
  else
  if x1 = 10 then
  (if x2 = 0 then
  (rd_b (F_X12_isKnown w a0 2 S) fun v42 s41 =>
  if v42 = 0 then
  (B_X12_byType_280 w s41)
  else
  (rd_b (F_X12_isKnown w a0 3 s41) fun v45 s44 =>
  if v45 = 0 then
  (B_X12_byType_280 w s44)
  else
  (rd_c (F_X12_kindPiece w a0 s44) fun s47 =>
  B_X12_byType_280 w s47)))
  else
  (B_X12_byType_280 w S))
  else
  if x1 = 14 then
  (rd_b (F_X12_isKnown w a0 3 S) fun v50 s49 =>
  if v50 = 0 then
  (B_X12_byType_280 w s49)
  else
  (rd_c (F_X12_another w a0 x2 s49) fun s52 =>
  B_X12_byType_280 w s52))
  else
  if x1 = 15 then
  (if x2 = 1 then
  (rd_c (F_X12_flags w a0 S) fun s55 =>
  B_X12_byType_280 w s55)
  else
  (B_X12_byType_280 w S))
  else
  (B_X12_byType_280 w S)
theorem ym_X12_byType (cx : rd_Cx) (w : rd_W) (a0 : Nat) (x1 : Int32) (x2 : Int32) (ha0 : rd_ok w a0 12) (S : rd_S) : rd_Y cx G_X12_byType (fun r => rd_P cx G_X12_byType.2.2.2.2.2 0 w (rd_rV w r)) (F_X12_byType w a0 x1 x2 S) 0 (rd_as 0 [.inr (some a0), .inl x1, .inl x2]) [] w S 0 0 := by
  unfold F_X12_byType
  refine ry_iload_n dX12_byType_0 rfl ?_
  refine ry_split _ (fun c1 => ?_) (fun c1 => ?_)
  · refine ry_tsIn 80 0 c1 dX12_byType_1 (by decide) (by decide) rfl (by decide) ?_
    refine ry_aload_n dX12_byType_80 rfl ?_
    refine ry_callv (fun l r9 h9 => cm_X12_flags l cx w a0 ha0 S r9 h9) (rd_runV (vs := []) dX12_byType_81 ha0 rfl rfl yf_X12_flags mi_X12_flags ms_X12_flags ml_RX12_143 ⟨Nat.le_of_ble_eq_true rfl, Nat.le_of_ble_eq_true rfl⟩ (Nat.le_of_ble_eq_true rfl) rfl) rfl rfl (Nat.le_of_ble_eq_true rfl) (Nat.le_of_ble_eq_true rfl) (fun s2 => ?_)
    refine ry_aload_n dX12_byType_84 rfl ?_
    refine ry_iconst (v := 3) dX12_byType_85 (by decide) ?_
    refine ry_callI (fun l r9 h9 => cm_X12_isKnown l cx w a0 3 ha0 s2 r9 h9) (rd_runV (vs := [.inl 3]) dX12_byType_86 ha0 rfl rfl yf_X12_isKnown mi_X12_isKnown ms_X12_isKnown ml_RX12_114 ⟨Nat.le_of_ble_eq_true rfl, Nat.le_of_ble_eq_true rfl⟩ (Nat.le_of_ble_eq_true rfl) rfl) rfl rfl (Nat.le_of_ble_eq_true rfl) (Nat.le_of_ble_eq_true rfl) (fun v4 s3 => ?_)
    refine ry_if_eq 113 dX12_byType_89 (by decide) (fun c5 => ?_) (fun c5 => ?_)
    · exact ry_to (yb_X12_byType_113 cx w a0 x2 ha0 s3) ⟨rfl, rfl, trivial⟩
    · refine ry_aload_n dX12_byType_92 rfl ?_
      refine ry_iconst (v := 0) dX12_byType_93 (by decide) ?_
      refine ry_aload_n dX12_byType_94 rfl ?_
      refine ry_getr dX12_byType_95 ha0 fl_RX12_77 rfl (fun b14 hb14 => ?_)
      refine ry_iconst (v := 1) dX12_byType_98 (by decide) ?_
      refine ry_iald dX12_byType_99 hb14 ?_
      refine ry_iconst (v := 3) dX12_byType_100 (by decide) ?_
      refine ry_iand dX12_byType_101 ?_
      refine ry_aload_n dX12_byType_102 rfl ?_
      refine ry_getr dX12_byType_103 ha0 fl_RX12_77 rfl (fun b15 hb15 => ?_)
      refine ry_iconst (v := 3) dX12_byType_106 (by decide) ?_
      refine ry_iald dX12_byType_107 hb15 ?_
      refine ry_iconst (v := 0) dX12_byType_108 (by decide) ?_
      refine ry_iconst (v := 2) dX12_byType_109 (by decide) ?_
      refine ry_callv (fun l r9 h9 => cm_X12_piece l cx w a0 0 ((gI s3 b14 (1 : Int32).toNatClampNeg) &&& 3) (gI s3 b15 (3 : Int32).toNatClampNeg) 0 2 ha0 s3 r9 h9) (rd_runV (vs := [.inl 0, .inl ((gI s3 b14 (1 : Int32).toNatClampNeg) &&& 3), .inl (gI s3 b15 (3 : Int32).toNatClampNeg), .inl 0, .inl 2]) dX12_byType_110 ha0 rfl rfl yf_X12_piece mi_X12_piece ms_X12_piece ml_RX12_146 ⟨Nat.le_of_ble_eq_true rfl, Nat.le_of_ble_eq_true rfl⟩ (Nat.le_of_ble_eq_true rfl) rfl) rfl rfl (Nat.le_of_ble_eq_true rfl) (Nat.le_of_ble_eq_true rfl) (fun s16 => ?_)
      exact ry_to (yb_X12_byType_113 cx w a0 x2 ha0 s16) ⟨rfl, rfl, trivial⟩
  refine ry_split _ (fun c17 => ?_) (fun c17 => ?_)
  · refine ry_tsIn 155 1 c17 dX12_byType_1 (by decide) (by decide) rfl (by decide) ?_
    refine ry_aload_n dX12_byType_155 rfl ?_
    refine ry_iload_n dX12_byType_156 rfl ?_
    refine ry_callv (fun l r9 h9 => cm_X12_programmeItem l cx w a0 x2 ha0 S r9 h9) (rd_runV (vs := [.inl x2]) dX12_byType_157 ha0 rfl rfl yf_X12_programmeItem mi_X12_programmeItem ms_X12_programmeItem ml_RX12_153 ⟨Nat.le_of_ble_eq_true rfl, Nat.le_of_ble_eq_true rfl⟩ (Nat.le_of_ble_eq_true rfl) rfl) rfl rfl (Nat.le_of_ble_eq_true rfl) (Nat.le_of_ble_eq_true rfl) (fun s18 => ?_)
    refine ry_goto 280 dX12_byType_160 (by decide) ?_
    exact ry_to (yb_X12_byType_280 cx w s18) trivial
  refine ry_split _ (fun c19 => ?_) (fun c19 => ?_)
  · refine ry_tsIn 163 2 c19 dX12_byType_1 (by decide) (by decide) rfl (by decide) ?_
    refine ry_aload_n dX12_byType_163 rfl ?_
    refine ry_iload_n dX12_byType_164 rfl ?_
    refine ry_callv (fun l r9 h9 => cm_X12_text l cx w a0 x2 ha0 S r9 h9) (rd_runV (vs := [.inl x2]) dX12_byType_165 ha0 rfl rfl yf_X12_text mi_X12_text ms_X12_text ml_RX12_156 ⟨Nat.le_of_ble_eq_true rfl, Nat.le_of_ble_eq_true rfl⟩ (Nat.le_of_ble_eq_true rfl) rfl) rfl rfl (Nat.le_of_ble_eq_true rfl) (Nat.le_of_ble_eq_true rfl) (fun s20 => ?_)
    refine ry_goto 280 dX12_byType_168 (by decide) ?_
    exact ry_to (yb_X12_byType_280 cx w s20) trivial
  refine ry_split _ (fun c21 => ?_) (fun c21 => ?_)
  · refine ry_tsIn 171 3 c21 dX12_byType_1 (by decide) (by decide) rfl (by decide) ?_
    refine ry_iload_n dX12_byType_171 rfl ?_
    refine ry_if_ne 280 dX12_byType_172 (by decide) (fun c22 => ?_) (fun c22 => ?_)
    · refine ry_aload_n dX12_byType_175 rfl ?_
      refine ry_iconst (v := 2) dX12_byType_176 (by decide) ?_
      refine ry_callI (fun l r9 h9 => cm_X12_isKnown l cx w a0 2 ha0 S r9 h9) (rd_runV (vs := [.inl 2]) dX12_byType_177 ha0 rfl rfl yf_X12_isKnown mi_X12_isKnown ms_X12_isKnown ml_RX12_114 ⟨Nat.le_of_ble_eq_true rfl, Nat.le_of_ble_eq_true rfl⟩ (Nat.le_of_ble_eq_true rfl) rfl) rfl rfl (Nat.le_of_ble_eq_true rfl) (Nat.le_of_ble_eq_true rfl) (fun v24 s23 => ?_)
      refine ry_if_eq 280 dX12_byType_180 (by decide) (fun c25 => ?_) (fun c25 => ?_)
      · exact ry_to (yb_X12_byType_280 cx w s23) trivial
      · refine ry_aload_n dX12_byType_183 rfl ?_
        refine ry_iconst (v := 3) dX12_byType_184 (by decide) ?_
        refine ry_callI (fun l r9 h9 => cm_X12_isKnown l cx w a0 3 ha0 s23 r9 h9) (rd_runV (vs := [.inl 3]) dX12_byType_185 ha0 rfl rfl yf_X12_isKnown mi_X12_isKnown ms_X12_isKnown ml_RX12_114 ⟨Nat.le_of_ble_eq_true rfl, Nat.le_of_ble_eq_true rfl⟩ (Nat.le_of_ble_eq_true rfl) rfl) rfl rfl (Nat.le_of_ble_eq_true rfl) (Nat.le_of_ble_eq_true rfl) (fun v27 s26 => ?_)
        refine ry_if_eq 280 dX12_byType_188 (by decide) (fun c28 => ?_) (fun c28 => ?_)
        · exact ry_to (yb_X12_byType_280 cx w s26) trivial
        · refine ry_aload_n dX12_byType_191 rfl ?_
          refine ry_callv (fun l r9 h9 => cm_X12_application l cx w a0 ha0 s26 r9 h9) (rd_runV (vs := []) dX12_byType_192 ha0 rfl rfl yf_X12_application mi_X12_application ms_X12_application ml_RX12_159 ⟨Nat.le_of_ble_eq_true rfl, Nat.le_of_ble_eq_true rfl⟩ (Nat.le_of_ble_eq_true rfl) rfl) rfl rfl (Nat.le_of_ble_eq_true rfl) (Nat.le_of_ble_eq_true rfl) (fun s29 => ?_)
          refine ry_goto 280 dX12_byType_195 (by decide) ?_
          exact ry_to (yb_X12_byType_280 cx w s29) trivial
    · exact ry_to (yb_X12_byType_280 cx w S) trivial
  refine ry_split _ (fun c30 => ?_) (fun c30 => ?_)
  · refine ry_tsIn 198 4 c30 dX12_byType_1 (by decide) (by decide) rfl (by decide) ?_
    refine ry_iload_n dX12_byType_198 rfl ?_
    refine ry_if_ne 280 dX12_byType_199 (by decide) (fun c31 => ?_) (fun c31 => ?_)
    · refine ry_aload_n dX12_byType_202 rfl ?_
      refine ry_iconst (v := 2) dX12_byType_203 (by decide) ?_
      refine ry_callI (fun l r9 h9 => cm_X12_isKnown l cx w a0 2 ha0 S r9 h9) (rd_runV (vs := [.inl 2]) dX12_byType_204 ha0 rfl rfl yf_X12_isKnown mi_X12_isKnown ms_X12_isKnown ml_RX12_114 ⟨Nat.le_of_ble_eq_true rfl, Nat.le_of_ble_eq_true rfl⟩ (Nat.le_of_ble_eq_true rfl) rfl) rfl rfl (Nat.le_of_ble_eq_true rfl) (Nat.le_of_ble_eq_true rfl) (fun v33 s32 => ?_)
      refine ry_if_eq 280 dX12_byType_207 (by decide) (fun c34 => ?_) (fun c34 => ?_)
      · exact ry_to (yb_X12_byType_280 cx w s32) trivial
      · refine ry_aload_n dX12_byType_210 rfl ?_
        refine ry_iconst (v := 3) dX12_byType_211 (by decide) ?_
        refine ry_callI (fun l r9 h9 => cm_X12_isKnown l cx w a0 3 ha0 s32 r9 h9) (rd_runV (vs := [.inl 3]) dX12_byType_212 ha0 rfl rfl yf_X12_isKnown mi_X12_isKnown ms_X12_isKnown ml_RX12_114 ⟨Nat.le_of_ble_eq_true rfl, Nat.le_of_ble_eq_true rfl⟩ (Nat.le_of_ble_eq_true rfl) rfl) rfl rfl (Nat.le_of_ble_eq_true rfl) (Nat.le_of_ble_eq_true rfl) (fun v36 s35 => ?_)
        refine ry_if_eq 280 dX12_byType_215 (by decide) (fun c37 => ?_) (fun c37 => ?_)
        · exact ry_to (yb_X12_byType_280 cx w s35) trivial
        · refine ry_aload_n dX12_byType_218 rfl ?_
          refine ry_callv (fun l r9 h9 => cm_X12_clock l cx w a0 ha0 s35 r9 h9) (rd_runV (vs := []) dX12_byType_219 ha0 rfl rfl yf_X12_clock mi_X12_clock ms_X12_clock ml_RX12_162 ⟨Nat.le_of_ble_eq_true rfl, Nat.le_of_ble_eq_true rfl⟩ (Nat.le_of_ble_eq_true rfl) rfl) rfl rfl (Nat.le_of_ble_eq_true rfl) (Nat.le_of_ble_eq_true rfl) (fun s38 => ?_)
          refine ry_goto 280 dX12_byType_222 (by decide) ?_
          exact ry_to (yb_X12_byType_280 cx w s38) trivial
    · exact ry_to (yb_X12_byType_280 cx w S) trivial
  refine ry_split _ (fun c39 => ?_) (fun c39 => ?_)
  · refine ry_tsIn 225 10 c39 dX12_byType_1 (by decide) (by decide) rfl (by decide) ?_
    refine ry_iload_n dX12_byType_225 rfl ?_
    refine ry_if_ne 280 dX12_byType_226 (by decide) (fun c40 => ?_) (fun c40 => ?_)
    · refine ry_aload_n dX12_byType_229 rfl ?_
      refine ry_iconst (v := 2) dX12_byType_230 (by decide) ?_
      refine ry_callI (fun l r9 h9 => cm_X12_isKnown l cx w a0 2 ha0 S r9 h9) (rd_runV (vs := [.inl 2]) dX12_byType_231 ha0 rfl rfl yf_X12_isKnown mi_X12_isKnown ms_X12_isKnown ml_RX12_114 ⟨Nat.le_of_ble_eq_true rfl, Nat.le_of_ble_eq_true rfl⟩ (Nat.le_of_ble_eq_true rfl) rfl) rfl rfl (Nat.le_of_ble_eq_true rfl) (Nat.le_of_ble_eq_true rfl) (fun v42 s41 => ?_)
      refine ry_if_eq 280 dX12_byType_234 (by decide) (fun c43 => ?_) (fun c43 => ?_)
      · exact ry_to (yb_X12_byType_280 cx w s41) trivial
      · refine ry_aload_n dX12_byType_237 rfl ?_
        refine ry_iconst (v := 3) dX12_byType_238 (by decide) ?_
        refine ry_callI (fun l r9 h9 => cm_X12_isKnown l cx w a0 3 ha0 s41 r9 h9) (rd_runV (vs := [.inl 3]) dX12_byType_239 ha0 rfl rfl yf_X12_isKnown mi_X12_isKnown ms_X12_isKnown ml_RX12_114 ⟨Nat.le_of_ble_eq_true rfl, Nat.le_of_ble_eq_true rfl⟩ (Nat.le_of_ble_eq_true rfl) rfl) rfl rfl (Nat.le_of_ble_eq_true rfl) (Nat.le_of_ble_eq_true rfl) (fun v45 s44 => ?_)
        refine ry_if_eq 280 dX12_byType_242 (by decide) (fun c46 => ?_) (fun c46 => ?_)
        · exact ry_to (yb_X12_byType_280 cx w s44) trivial
        · refine ry_aload_n dX12_byType_245 rfl ?_
          refine ry_callv (fun l r9 h9 => cm_X12_kindPiece l cx w a0 ha0 s44 r9 h9) (rd_runV (vs := []) dX12_byType_246 ha0 rfl rfl yf_X12_kindPiece mi_X12_kindPiece ms_X12_kindPiece ml_RX12_165 ⟨Nat.le_of_ble_eq_true rfl, Nat.le_of_ble_eq_true rfl⟩ (Nat.le_of_ble_eq_true rfl) rfl) rfl rfl (Nat.le_of_ble_eq_true rfl) (Nat.le_of_ble_eq_true rfl) (fun s47 => ?_)
          refine ry_goto 280 dX12_byType_249 (by decide) ?_
          exact ry_to (yb_X12_byType_280 cx w s47) trivial
    · exact ry_to (yb_X12_byType_280 cx w S) trivial
  refine ry_split _ (fun c48 => ?_) (fun c48 => ?_)
  · refine ry_tsIn 252 14 c48 dX12_byType_1 (by decide) (by decide) rfl (by decide) ?_
    refine ry_aload_n dX12_byType_252 rfl ?_
    refine ry_iconst (v := 3) dX12_byType_253 (by decide) ?_
    refine ry_callI (fun l r9 h9 => cm_X12_isKnown l cx w a0 3 ha0 S r9 h9) (rd_runV (vs := [.inl 3]) dX12_byType_254 ha0 rfl rfl yf_X12_isKnown mi_X12_isKnown ms_X12_isKnown ml_RX12_114 ⟨Nat.le_of_ble_eq_true rfl, Nat.le_of_ble_eq_true rfl⟩ (Nat.le_of_ble_eq_true rfl) rfl) rfl rfl (Nat.le_of_ble_eq_true rfl) (Nat.le_of_ble_eq_true rfl) (fun v50 s49 => ?_)
    refine ry_if_eq 280 dX12_byType_257 (by decide) (fun c51 => ?_) (fun c51 => ?_)
    · exact ry_to (yb_X12_byType_280 cx w s49) trivial
    · refine ry_aload_n dX12_byType_260 rfl ?_
      refine ry_iload_n dX12_byType_261 rfl ?_
      refine ry_callv (fun l r9 h9 => cm_X12_another l cx w a0 x2 ha0 s49 r9 h9) (rd_runV (vs := [.inl x2]) dX12_byType_262 ha0 rfl rfl yf_X12_another mi_X12_another ms_X12_another ml_RX12_168 ⟨Nat.le_of_ble_eq_true rfl, Nat.le_of_ble_eq_true rfl⟩ (Nat.le_of_ble_eq_true rfl) rfl) rfl rfl (Nat.le_of_ble_eq_true rfl) (Nat.le_of_ble_eq_true rfl) (fun s52 => ?_)
      refine ry_goto 280 dX12_byType_265 (by decide) ?_
      exact ry_to (yb_X12_byType_280 cx w s52) trivial
  refine ry_split _ (fun c53 => ?_) (fun c53 => ?_)
  · refine ry_tsIn 268 15 c53 dX12_byType_1 (by decide) (by decide) rfl (by decide) ?_
    refine ry_iload_n dX12_byType_268 rfl ?_
    refine ry_iconst (v := 1) dX12_byType_269 (by decide) ?_
    refine ry_icmp_ne 280 dX12_byType_270 (by decide) (fun c54 => ?_) (fun c54 => ?_)
    · refine ry_aload_n dX12_byType_273 rfl ?_
      refine ry_callv (fun l r9 h9 => cm_X12_flags l cx w a0 ha0 S r9 h9) (rd_runV (vs := []) dX12_byType_274 ha0 rfl rfl yf_X12_flags mi_X12_flags ms_X12_flags ml_RX12_143 ⟨Nat.le_of_ble_eq_true rfl, Nat.le_of_ble_eq_true rfl⟩ (Nat.le_of_ble_eq_true rfl) rfl) rfl rfl (Nat.le_of_ble_eq_true rfl) (Nat.le_of_ble_eq_true rfl) (fun s55 => ?_)
      refine ry_goto 280 dX12_byType_277 (by decide) ?_
      exact ry_to (yb_X12_byType_280 cx w s55) trivial
    · exact ry_to (yb_X12_byType_280 cx w S) trivial
  refine ry_tsD 280 [(0, 0), (1, 1), (2, 2), (3, 3), (4, 4), (10, 10), (14, 14), (15, 15)] 16 dX12_byType_1 (by decide) (by decide +kernel) (by decide +kernel) ⟨c1, c17, c19, c21, c30, c39, c48, c53, trivial⟩ (by decide) ?_
  exact ry_to (yb_X12_byType_280 cx w S) trivial
theorem cm_X12_byType (l : Launch) (cx : rd_Cx) (w : rd_W) (a0 : Nat) (x1 : Int32) (x2 : Int32) (ha0 : rd_ok w a0 12) (S : rd_S) (r : rd_S) (h : F_X12_byType w a0 x1 x2 S = some r) : rd_M l cx yX12_byType G_X12_byType 0 [.inr (some a0), .inl x1, .inl x2] w S (rd_rV w r) :=
  rd_enter (plainFor_of_name (by decide +kernel)) rfl (fun h => by cases h) (Nat.le_of_ble_eq_true rfl) (ym_X12_byType cx w a0 x1 x2 ha0 S r h)
