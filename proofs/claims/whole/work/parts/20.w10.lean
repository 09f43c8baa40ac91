abbrev G_X12_search : rd_G := (RX12, cX12_search, 6, none, false, { frames := 6, cells := 0, slots := 0, locals := 149 })
theorem yf_X12_search : rd_YL yX12_search G_X12_search 0 := ⟨rd_mem 876 (by decide +kernel) rfl, rd_mem 75 (by decide +kernel) rfl, by decide +kernel, by decide +kernel, by decide +kernel⟩
theorem mi_X12_search : Cond.instanceMethod yX12_search ∈ rd_gw := rd_mem 875 (by decide +kernel) rfl
theorem ms_X12_search : Cond.selects (MethodName.cls yX12_search) yX12_search yX12_search ∈ rd_gw := rd_mem 36 (by decide +kernel) rfl
theorem dX12_search_0 : decode cX12_search 0 = .ok (.aload_n 0, 1) := by decide +kernel
theorem dX12_search_1 : decode cX12_search 1 = .ok (.getfield 29, 3) := by decide +kernel
theorem dX12_search_4 : decode cX12_search 4 = .ok (.bipush 26, 2) := by decide +kernel
theorem dX12_search_6 : decode cX12_search 6 = .ok (.if_icmp .ge 4, 3) := by decide +kernel
theorem dX12_search_9 : decode cX12_search 9 = .ok (.return_, 1) := by decide +kernel
theorem dX12_search_10 : decode cX12_search 10 = .ok (.aload_n 0, 1) := by decide +kernel
theorem dX12_search_11 : decode cX12_search 11 = .ok (.iconst 0, 1) := by decide +kernel
theorem dX12_search_12 : decode cX12_search 12 = .ok (.invokevirtual 53, 3) := by decide +kernel
theorem dX12_search_15 : decode cX12_search 15 = .ok (.invokestatic 59, 3) := by decide +kernel
theorem dX12_search_18 : decode cX12_search 18 = .ok (.istore_n 1, 1) := by decide +kernel
theorem dX12_search_19 : decode cX12_search 19 = .ok (.iload_n 1, 1) := by decide +kernel
theorem dX12_search_20 : decode cX12_search 20 = .ok (.iconst (-1), 1) := by decide +kernel
theorem dX12_search_21 : decode cX12_search 21 = .ok (.if_icmp .ne 4, 3) := by decide +kernel
theorem dX12_search_24 : decode cX12_search 24 = .ok (.return_, 1) := by decide +kernel
theorem dX12_search_25 : decode cX12_search 25 = .ok (.iload_n 1, 1) := by decide +kernel
theorem dX12_search_26 : decode cX12_search 26 = .ok (.iconst 4, 1) := by decide +kernel
theorem dX12_search_27 : decode cX12_search 27 = .ok (.if_icmp .ne 7, 3) := by decide +kernel
theorem dX12_search_30 : decode cX12_search 30 = .ok (.iconst 2, 1) := by decide +kernel
theorem dX12_search_31 : decode cX12_search 31 = .ok (.goto 4, 3) := by decide +kernel
theorem dX12_search_34 : decode cX12_search 34 = .ok (.iload_n 1, 1) := by decide +kernel
theorem dX12_search_35 : decode cX12_search 35 = .ok (.istore_n 2, 1) := by decide +kernel
theorem dX12_search_36 : decode cX12_search 36 = .ok (.aload_n 0, 1) := by decide +kernel
theorem dX12_search_37 : decode cX12_search 37 = .ok (.getfield 36, 3) := by decide +kernel
theorem dX12_search_40 : decode cX12_search 40 = .ok (.aload_n 0, 1) := by decide +kernel
theorem dX12_search_41 : decode cX12_search 41 = .ok (.getfield 29, 3) := by decide +kernel
theorem dX12_search_44 : decode cX12_search 44 = .ok (.iconst 1, 1) := by decide +kernel
theorem dX12_search_45 : decode cX12_search 45 = .ok (.isub, 1) := by decide +kernel
theorem dX12_search_46 : decode cX12_search 46 = .ok (.bipush 127, 2) := by decide +kernel
theorem dX12_search_48 : decode cX12_search 48 = .ok (.iand, 1) := by decide +kernel
theorem dX12_search_49 : decode cX12_search 49 = .ok (.iload_n 2, 1) := by decide +kernel
theorem dX12_search_50 : decode cX12_search 50 = .ok (.iastore, 1) := by decide +kernel
theorem dX12_search_51 : decode cX12_search 51 = .ok (.iconst 0, 1) := by decide +kernel
theorem dX12_search_52 : decode cX12_search 52 = .ok (.istore_n 3, 1) := by decide +kernel
theorem dX12_search_53 : decode cX12_search 53 = .ok (.iconst 1, 1) := by decide +kernel
theorem dX12_search_54 : decode cX12_search 54 = .ok (.istore 4, 2) := by decide +kernel
theorem dX12_search_56 : decode cX12_search 56 = .ok (.iload 4, 2) := by decide +kernel
theorem dX12_search_58 : decode cX12_search 58 = .ok (.iconst 4, 1) := by decide +kernel
theorem dX12_search_59 : decode cX12_search 59 = .ok (.if_icmp .ge 59, 3) := by decide +kernel
theorem dX12_search_62 : decode cX12_search 62 = .ok (.aload_n 0, 1) := by decide +kernel
theorem dX12_search_63 : decode cX12_search 63 = .ok (.getfield 29, 3) := by decide +kernel
theorem dX12_search_66 : decode cX12_search 66 = .ok (.iconst 1, 1) := by decide +kernel
theorem dX12_search_67 : decode cX12_search 67 = .ok (.isub, 1) := by decide +kernel
theorem dX12_search_68 : decode cX12_search 68 = .ok (.bipush 26, 2) := by decide +kernel
theorem dX12_search_70 : decode cX12_search 70 = .ok (.iload 4, 2) := by decide +kernel
theorem dX12_search_72 : decode cX12_search 72 = .ok (.imul, 1) := by decide +kernel
theorem dX12_search_73 : decode cX12_search 73 = .ok (.isub, 1) := by decide +kernel
theorem dX12_search_74 : decode cX12_search 74 = .ok (.istore 5, 2) := by decide +kernel
theorem dX12_search_76 : decode cX12_search 76 = .ok (.iload_n 3, 1) := by decide +kernel
theorem dX12_search_77 : decode cX12_search 77 = .ok (.ifCond .ne 29, 3) := by decide +kernel
theorem dX12_search_80 : decode cX12_search 80 = .ok (.iload 5, 2) := by decide +kernel
theorem dX12_search_82 : decode cX12_search 82 = .ok (.bipush 25, 2) := by decide +kernel
theorem dX12_search_84 : decode cX12_search 84 = .ok (.if_icmp .lt 26, 3) := by decide +kernel
theorem dX12_search_87 : decode cX12_search 87 = .ok (.aload_n 0, 1) := by decide +kernel
theorem dX12_search_88 : decode cX12_search 88 = .ok (.getfield 36, 3) := by decide +kernel
theorem dX12_search_91 : decode cX12_search 91 = .ok (.iload 5, 2) := by decide +kernel
theorem dX12_search_93 : decode cX12_search 93 = .ok (.bipush 127, 2) := by decide +kernel
theorem dX12_search_95 : decode cX12_search 95 = .ok (.iand, 1) := by decide +kernel
theorem dX12_search_96 : decode cX12_search 96 = .ok (.iaload, 1) := by decide +kernel
theorem dX12_search_97 : decode cX12_search 97 = .ok (.iload_n 2, 1) := by decide +kernel
theorem dX12_search_98 : decode cX12_search 98 = .ok (.iload 4, 2) := by decide +kernel
theorem dX12_search_100 : decode cX12_search 100 = .ok (.isub, 1) := by decide +kernel
theorem dX12_search_101 : decode cX12_search 101 = .ok (.iconst 3, 1) := by decide +kernel
theorem dX12_search_102 : decode cX12_search 102 = .ok (.iand, 1) := by decide +kernel
theorem dX12_search_103 : decode cX12_search 103 = .ok (.if_icmp .ne 7, 3) := by decide +kernel
theorem dX12_search_106 : decode cX12_search 106 = .ok (.iconst 1, 1) := by decide +kernel
theorem dX12_search_107 : decode cX12_search 107 = .ok (.goto 4, 3) := by decide +kernel
theorem dX12_search_110 : decode cX12_search 110 = .ok (.iconst 0, 1) := by decide +kernel
theorem dX12_search_111 : decode cX12_search 111 = .ok (.istore_n 3, 1) := by decide +kernel
theorem dX12_search_112 : decode cX12_search 112 = .ok (.iinc 4 1, 3) := by decide +kernel
theorem dX12_search_115 : decode cX12_search 115 = .ok (.goto (-59), 3) := by decide +kernel
theorem dX12_search_118 : decode cX12_search 118 = .ok (.iload_n 3, 1) := by decide +kernel
theorem dX12_search_119 : decode cX12_search 119 = .ok (.ifCond .ne 4, 3) := by decide +kernel
theorem dX12_search_122 : decode cX12_search 122 = .ok (.return_, 1) := by decide +kernel
theorem dX12_search_123 : decode cX12_search 123 = .ok (.aload_n 0, 1) := by decide +kernel
theorem dX12_search_124 : decode cX12_search 124 = .ok (.iconst 1, 1) := by decide +kernel
theorem dX12_search_125 : decode cX12_search 125 = .ok (.putfield 42, 3) := by decide +kernel
theorem dX12_search_128 : decode cX12_search 128 = .ok (.aload_n 0, 1) := by decide +kernel
theorem dX12_search_129 : decode cX12_search 129 = .ok (.dup, 1) := by decide +kernel
theorem dX12_search_130 : decode cX12_search 130 = .ok (.getfield 62, 3) := by decide +kernel
theorem dX12_search_133 : decode cX12_search 133 = .ok (.iconst 1, 1) := by decide +kernel
theorem dX12_search_134 : decode cX12_search 134 = .ok (.iadd, 1) := by decide +kernel
theorem dX12_search_135 : decode cX12_search 135 = .ok (.putfield 62, 3) := by decide +kernel
theorem dX12_search_138 : decode cX12_search 138 = .ok (.aload_n 0, 1) := by decide +kernel
theorem dX12_search_139 : decode cX12_search 139 = .ok (.iconst 0, 1) := by decide +kernel
theorem dX12_search_140 : decode cX12_search 140 = .ok (.putfield 50, 3) := by decide +kernel
theorem dX12_search_143 : decode cX12_search 143 = .ok (.aload_n 0, 1) := by decide +kernel
theorem dX12_search_144 : decode cX12_search 144 = .ok (.iconst 0, 1) := by decide +kernel
theorem dX12_search_145 : decode cX12_search 145 = .ok (.putfield 65, 3) := by decide +kernel
theorem dX12_search_148 : decode cX12_search 148 = .ok (.aload_n 0, 1) := by decide +kernel
theorem dX12_search_149 : decode cX12_search 149 = .ok (.iconst 0, 1) := by decide +kernel
theorem dX12_search_150 : decode cX12_search 150 = .ok (.putfield 68, 3) := by decide +kernel
theorem dX12_search_153 : decode cX12_search 153 = .ok (.aload_n 0, 1) := by decide +kernel
theorem dX12_search_154 : decode cX12_search 154 = .ok (.iconst 0, 1) := by decide +kernel
theorem dX12_search_155 : decode cX12_search 155 = .ok (.putfield 71, 3) := by decide +kernel
theorem dX12_search_158 : decode cX12_search 158 = .ok (.aload_n 0, 1) := by decide +kernel
theorem dX12_search_159 : decode cX12_search 159 = .ok (.getfield 29, 3) := by decide +kernel
theorem dX12_search_162 : decode cX12_search 162 = .ok (.istore 4, 2) := by decide +kernel
theorem dX12_search_164 : decode cX12_search 164 = .ok (.iconst 0, 1) := by decide +kernel
theorem dX12_search_165 : decode cX12_search 165 = .ok (.istore 5, 2) := by decide +kernel
theorem dX12_search_167 : decode cX12_search 167 = .ok (.iload 5, 2) := by decide +kernel
theorem dX12_search_169 : decode cX12_search 169 = .ok (.iload_n 2, 1) := by decide +kernel
theorem dX12_search_170 : decode cX12_search 170 = .ok (.if_icmp .gt 72, 3) := by decide +kernel
theorem dX12_search_173 : decode cX12_search 173 = .ok (.aload_n 0, 1) := by decide +kernel
theorem dX12_search_174 : decode cX12_search 174 = .ok (.getfield 42, 3) := by decide +kernel
theorem dX12_search_177 : decode cX12_search 177 = .ok (.ifCond .eq 65, 3) := by decide +kernel
theorem dX12_search_180 : decode cX12_search 180 = .ok (.bipush 26, 2) := by decide +kernel
theorem dX12_search_182 : decode cX12_search 182 = .ok (.iload_n 2, 1) := by decide +kernel
theorem dX12_search_183 : decode cX12_search 183 = .ok (.iload 5, 2) := by decide +kernel
theorem dX12_search_185 : decode cX12_search 185 = .ok (.isub, 1) := by decide +kernel
theorem dX12_search_186 : decode cX12_search 186 = .ok (.iconst 1, 1) := by decide +kernel
theorem dX12_search_187 : decode cX12_search 187 = .ok (.iadd, 1) := by decide +kernel
theorem dX12_search_188 : decode cX12_search 188 = .ok (.imul, 1) := by decide +kernel
theorem dX12_search_189 : decode cX12_search 189 = .ok (.iload 4, 2) := by decide +kernel
theorem dX12_search_191 : decode cX12_search 191 = .ok (.if_icmp .gt 21, 3) := by decide +kernel
theorem dX12_search_194 : decode cX12_search 194 = .ok (.aload_n 0, 1) := by decide +kernel
theorem dX12_search_195 : decode cX12_search 195 = .ok (.aload_n 0, 1) := by decide +kernel
theorem dX12_search_196 : decode cX12_search 196 = .ok (.bipush 26, 2) := by decide +kernel
theorem dX12_search_198 : decode cX12_search 198 = .ok (.iload_n 2, 1) := by decide +kernel
theorem dX12_search_199 : decode cX12_search 199 = .ok (.iload 5, 2) := by decide +kernel
theorem dX12_search_201 : decode cX12_search 201 = .ok (.isub, 1) := by decide +kernel
theorem dX12_search_202 : decode cX12_search 202 = .ok (.imul, 1) := by decide +kernel
theorem dX12_search_203 : decode cX12_search 203 = .ok (.invokevirtual 53, 3) := by decide +kernel
theorem dX12_search_206 : decode cX12_search 206 = .ok (.invokevirtual 56, 3) := by decide +kernel
theorem dX12_search_209 : decode cX12_search 209 = .ok (.goto 27, 3) := by decide +kernel
theorem dX12_search_212 : decode cX12_search 212 = .ok (.aload_n 0, 1) := by decide +kernel
theorem dX12_search_213 : decode cX12_search 213 = .ok (.getfield 74, 3) := by decide +kernel
theorem dX12_search_216 : decode cX12_search 216 = .ok (.iload 5, 2) := by decide +kernel
theorem dX12_search_218 : decode cX12_search 218 = .ok (.iconst 3, 1) := by decide +kernel
theorem dX12_search_219 : decode cX12_search 219 = .ok (.iastore, 1) := by decide +kernel
theorem dX12_search_220 : decode cX12_search 220 = .ok (.aload_n 0, 1) := by decide +kernel
theorem dX12_search_221 : decode cX12_search 221 = .ok (.getfield 77, 3) := by decide +kernel
theorem dX12_search_224 : decode cX12_search 224 = .ok (.iload 5, 2) := by decide +kernel
theorem dX12_search_226 : decode cX12_search 226 = .ok (.iconst (-1), 1) := by decide +kernel
theorem dX12_search_227 : decode cX12_search 227 = .ok (.iastore, 1) := by decide +kernel
theorem dX12_search_228 : decode cX12_search 228 = .ok (.aload_n 0, 1) := by decide +kernel
theorem dX12_search_229 : decode cX12_search 229 = .ok (.iload 5, 2) := by decide +kernel
theorem dX12_search_231 : decode cX12_search 231 = .ok (.iconst 1, 1) := by decide +kernel
theorem dX12_search_232 : decode cX12_search 232 = .ok (.iadd, 1) := by decide +kernel
theorem dX12_search_233 : decode cX12_search 233 = .ok (.putfield 71, 3) := by decide +kernel
theorem dX12_search_236 : decode cX12_search 236 = .ok (.iinc 5 1, 3) := by decide +kernel
theorem dX12_search_239 : decode cX12_search 239 = .ok (.goto (-72), 3) := by decide +kernel
theorem dX12_search_242 : decode cX12_search 242 = .ok (.return_, 1) := by decide +kernel
def B_X12_search_242 (w : rd_W) (S : rd_S) : Option (rd_S) :=
  some S
theorem yb_X12_search_242 (cx : rd_Cx) (w : rd_W) (S : rd_S) : rd_Y cx G_X12_search (fun r => rd_P cx G_X12_search.2.2.2.2.2 0 w (rd_rV w r)) (B_X12_search_242 w S) 242 [] [] w S 0 0 := by
  unfold B_X12_search_242
  exact ry_vret dX12_search_242 rfl (Nat.le_of_ble_eq_true rfl) (Nat.le_of_ble_eq_true rfl)
def B_X12_search_236 (w : rd_W) (k167 : Nat → Int32 → Int32 → Int32 → rd_S → Option (rd_S)) (a0 : Nat) (x2 : Int32) (x4 : Int32) (x5 : Int32) (S : rd_S) : Option (rd_S) :=
  rd_let (x5 + 1) fun v27 =>
  k167 a0 x2 x4 v27 S
theorem yb_X12_search_236 (cx : rd_Cx) (w : rd_W) {k167 : Nat → Int32 → Int32 → Int32 → rd_S → Option (rd_S)} (hk167 : ∀ (a0 : Nat) (x2 : Int32) (x4 : Int32) (x5 : Int32) (ha0 : rd_ok w a0 12) (S : rd_S), rd_Y cx G_X12_search (fun r => rd_P cx G_X12_search.2.2.2.2.2 0 w (rd_rV w r)) (k167 a0 x2 x4 x5 S) 167 [(0, .inr (some a0)), (2, .inl x2), (4, .inl x4), (5, .inl x5)] [] w S 0 0) (a0 : Nat) (x2 : Int32) (x4 : Int32) (x5 : Int32) (ha0 : rd_ok w a0 12) (S : rd_S) : rd_Y cx G_X12_search (fun r => rd_P cx G_X12_search.2.2.2.2.2 0 w (rd_rV w r)) (B_X12_search_236 w k167 a0 x2 x4 x5 S) 236 [(0, .inr (some a0)), (2, .inl x2), (4, .inl x4), (5, .inl x5)] [] w S 0 0 := by
  unfold B_X12_search_236
  refine ry_iinc (v := 1) dX12_search_236 rfl (by decide) (by decide) ?_
  refine ry_let (fun v27 => ?_)
  refine ry_goto 167 dX12_search_239 (by decide) ?_
  exact ry_to (hk167 a0 x2 x4 v27 ha0 S) ⟨rfl, rfl, rfl, rfl, trivial⟩
def B_X12_search_167 (w : rd_W) (k167 : Nat → Int32 → Int32 → Int32 → rd_S → Option (rd_S)) (a0 : Nat) (x2 : Int32) (x4 : Int32) (x5 : Int32) (S : rd_S) : Option (rd_S) :=
  if x2 < x5 then
  (B_X12_search_242 w S)
  else
  (if (gI S a0 7) = 0 then
  (B_X12_search_242 w S)
  else
  (if x4 < (26 * ((x2 - x5) + 1)) then
  (rd_c (gR S a0 19) fun b22 =>
  rd_i x5 (w.2.2 b22) <|
  rd_let (pI S b22 x5.toNatClampNeg 3) fun s23 =>
  rd_c (gR s23 a0 18) fun b24 =>
  rd_i x5 (w.2.2 b24) <|
  rd_let (pI s23 b24 x5.toNatClampNeg (-1)) fun s25 =>
  rd_let (pI s25 a0 8 (x5 + 1)) fun s26 =>
  B_X12_search_236 w k167 a0 x2 x4 x5 s26)
  else
  (rd_b (F_X12_ended w a0 (26 * (x2 - x5)) S) fun v29 s28 =>
  rd_c (F_X12_look w a0 v29 s28) fun s30 =>
  B_X12_search_236 w k167 a0 x2 x4 x5 s30)))
theorem yb_X12_search_167 (cx : rd_Cx) (w : rd_W) {k167 : Nat → Int32 → Int32 → Int32 → rd_S → Option (rd_S)} (hk167 : ∀ (a0 : Nat) (x2 : Int32) (x4 : Int32) (x5 : Int32) (ha0 : rd_ok w a0 12) (S : rd_S), rd_Y cx G_X12_search (fun r => rd_P cx G_X12_search.2.2.2.2.2 0 w (rd_rV w r)) (k167 a0 x2 x4 x5 S) 167 [(0, .inr (some a0)), (2, .inl x2), (4, .inl x4), (5, .inl x5)] [] w S 0 0) (a0 : Nat) (x2 : Int32) (x4 : Int32) (x5 : Int32) (ha0 : rd_ok w a0 12) (S : rd_S) : rd_Y cx G_X12_search (fun r => rd_P cx G_X12_search.2.2.2.2.2 0 w (rd_rV w r)) (B_X12_search_167 w k167 a0 x2 x4 x5 S) 167 [(0, .inr (some a0)), (2, .inl x2), (4, .inl x4), (5, .inl x5)] [] w S 0 0 := by
  unfold B_X12_search_167
  refine ry_iload dX12_search_167 rfl ?_
  refine ry_iload_n dX12_search_169 rfl ?_
  refine ry_icmp_gt 242 dX12_search_170 (by decide) (fun c19 => ?_) (fun c19 => ?_)
  · exact ry_to (yb_X12_search_242 cx w S) trivial
  · refine ry_aload_n dX12_search_173 rfl ?_
    refine ry_geti dX12_search_174 ha0 fl_RX12_42 rfl ?_
    refine ry_if_eq 242 dX12_search_177 (by decide) (fun c20 => ?_) (fun c20 => ?_)
    · exact ry_to (yb_X12_search_242 cx w S) trivial
    · refine ry_bipush (v := 26) dX12_search_180 (by decide) ?_
      refine ry_iload_n dX12_search_182 rfl ?_
      refine ry_iload dX12_search_183 rfl ?_
      refine ry_isub dX12_search_185 ?_
      refine ry_iconst (v := 1) dX12_search_186 (by decide) ?_
      refine ry_iadd dX12_search_187 ?_
      refine ry_imul dX12_search_188 ?_
      refine ry_iload dX12_search_189 rfl ?_
      refine ry_icmp_gt 212 dX12_search_191 (by decide) (fun c21 => ?_) (fun c21 => ?_)
      · refine ry_aload_n dX12_search_212 rfl ?_
        refine ry_getr dX12_search_213 ha0 fl_RX12_74 rfl (fun b22 hb22 => ?_)
        refine ry_iload dX12_search_216 rfl ?_
        refine ry_iconst (v := 3) dX12_search_218 (by decide) ?_
        refine ry_iast dX12_search_219 hb22 ?_
        refine ry_letS (fun s23 => ?_)
        refine ry_aload_n dX12_search_220 rfl ?_
        refine ry_getr dX12_search_221 ha0 fl_RX12_77 rfl (fun b24 hb24 => ?_)
        refine ry_iload dX12_search_224 rfl ?_
        refine ry_iconst (v := (-1)) dX12_search_226 (by decide) ?_
        refine ry_iast dX12_search_227 hb24 ?_
        refine ry_letS (fun s25 => ?_)
        refine ry_aload_n dX12_search_228 rfl ?_
        refine ry_iload dX12_search_229 rfl ?_
        refine ry_iconst (v := 1) dX12_search_231 (by decide) ?_
        refine ry_iadd dX12_search_232 ?_
        refine ry_puti dX12_search_233 ha0 fl_RX12_71 rfl rfl rfl ?_
        refine ry_letS (fun s26 => ?_)
        exact ry_to (yb_X12_search_236 cx w (k167 := k167) hk167 a0 x2 x4 x5 ha0 s26) ⟨rfl, rfl, rfl, rfl, trivial⟩
      · refine ry_aload_n dX12_search_194 rfl ?_
        refine ry_aload_n dX12_search_195 rfl ?_
        refine ry_bipush (v := 26) dX12_search_196 (by decide) ?_
        refine ry_iload_n dX12_search_198 rfl ?_
        refine ry_iload dX12_search_199 rfl ?_
        refine ry_isub dX12_search_201 ?_
        refine ry_imul dX12_search_202 ?_
        refine ry_callI (fun l r9 h9 => cm_X12_ended l cx w a0 (26 * (x2 - x5)) ha0 S r9 h9) (rd_runV (vs := [.inl (26 * (x2 - x5))]) dX12_search_203 ha0 rfl rfl yf_X12_ended mi_X12_ended ms_X12_ended ml_RX12_53 ⟨Nat.le_of_ble_eq_true rfl, Nat.le_of_ble_eq_true rfl⟩ (Nat.le_of_ble_eq_true rfl) rfl) rfl rfl (Nat.le_of_ble_eq_true rfl) (Nat.le_of_ble_eq_true rfl) (fun v29 s28 => ?_)
        refine ry_callv (fun l r9 h9 => cm_X12_look l cx w a0 v29 ha0 s28 r9 h9) (rd_runV (vs := [.inl v29]) dX12_search_206 ha0 rfl rfl yf_X12_look mi_X12_look ms_X12_look ml_RX12_56 ⟨Nat.le_of_ble_eq_true rfl, Nat.le_of_ble_eq_true rfl⟩ (Nat.le_of_ble_eq_true rfl) rfl) rfl rfl (Nat.le_of_ble_eq_true rfl) (Nat.le_of_ble_eq_true rfl) (fun s30 => ?_)
        refine ry_goto 236 dX12_search_209 (by decide) ?_
        exact ry_to (yb_X12_search_236 cx w (k167 := k167) hk167 a0 x2 x4 x5 ha0 s30) ⟨rfl, rfl, rfl, rfl, trivial⟩
def F_X12_search_167 (w : rd_W) (n : Nat) : Nat → Int32 → Int32 → Int32 → rd_S → Option (rd_S) :=
  Nat.rec (motive := fun _ => Nat → Int32 → Int32 → Int32 → rd_S → Option (rd_S)) (fun _ _ _ _ _ => none) (fun _ ih => B_X12_search_167 w ih) n
theorem yl_X12_search_167 (cx : rd_Cx) (w : rd_W) : ∀ (n : Nat) (a0 : Nat) (x2 : Int32) (x4 : Int32) (x5 : Int32) (ha0 : rd_ok w a0 12) (S : rd_S), rd_Y cx G_X12_search (fun r => rd_P cx G_X12_search.2.2.2.2.2 0 w (rd_rV w r)) (F_X12_search_167 w n a0 x2 x4 x5 S) 167 [(0, .inr (some a0)), (2, .inl x2), (4, .inl x4), (5, .inl x5)] [] w S 0 0 := by
  intro n
  induction n with
  | zero => intro a0 x2 x4 x5 ha0 S; exact ry_none
  | succ n ih => intro a0 x2 x4 x5 ha0 S; exact yb_X12_search_167 cx w ih a0 x2 x4 x5 ha0 S
def B_X12_search_111 (w : rd_W) (k56 : Nat → Int32 → Int32 → Int32 → rd_S → Option (rd_S)) (a0 : Nat) (x2 : Int32) (x4 : Int32) (t0 : Int32) (S : rd_S) : Option (rd_S) :=
  rd_let (x4 + 1) fun v34 =>
  k56 a0 x2 t0 v34 S
theorem yb_X12_search_111 (cx : rd_Cx) (w : rd_W) {k56 : Nat → Int32 → Int32 → Int32 → rd_S → Option (rd_S)} (hk56 : ∀ (a0 : Nat) (x2 : Int32) (x3 : Int32) (x4 : Int32) (ha0 : rd_ok w a0 12) (S : rd_S), rd_Y cx G_X12_search (fun r => rd_P cx G_X12_search.2.2.2.2.2 0 w (rd_rV w r)) (k56 a0 x2 x3 x4 S) 56 [(0, .inr (some a0)), (2, .inl x2), (3, .inl x3), (4, .inl x4)] [] w S 0 0) (a0 : Nat) (x2 : Int32) (x4 : Int32) (t0 : Int32) (ha0 : rd_ok w a0 12) (S : rd_S) : rd_Y cx G_X12_search (fun r => rd_P cx G_X12_search.2.2.2.2.2 0 w (rd_rV w r)) (B_X12_search_111 w k56 a0 x2 x4 t0 S) 111 [(0, .inr (some a0)), (2, .inl x2), (4, .inl x4)] [.inl t0] w S 0 0 := by
  unfold B_X12_search_111
  refine ry_istore_n dX12_search_111 (by decide) ?_
  refine ry_iinc (v := 1) dX12_search_112 rfl (by decide) (by decide) ?_
  refine ry_let (fun v34 => ?_)
  refine ry_goto 56 dX12_search_115 (by decide) ?_
  exact ry_to (hk56 a0 x2 t0 v34 ha0 S) ⟨rfl, rfl, rfl, rfl, trivial⟩
def B_X12_search_110 (w : rd_W) (k56 : Nat → Int32 → Int32 → Int32 → rd_S → Option (rd_S)) (a0 : Nat) (x2 : Int32) (x4 : Int32) (S : rd_S) : Option (rd_S) :=
  B_X12_search_111 w k56 a0 x2 x4 0 S
theorem yb_X12_search_110 (cx : rd_Cx) (w : rd_W) {k56 : Nat → Int32 → Int32 → Int32 → rd_S → Option (rd_S)} (hk56 : ∀ (a0 : Nat) (x2 : Int32) (x3 : Int32) (x4 : Int32) (ha0 : rd_ok w a0 12) (S : rd_S), rd_Y cx G_X12_search (fun r => rd_P cx G_X12_search.2.2.2.2.2 0 w (rd_rV w r)) (k56 a0 x2 x3 x4 S) 56 [(0, .inr (some a0)), (2, .inl x2), (3, .inl x3), (4, .inl x4)] [] w S 0 0) (a0 : Nat) (x2 : Int32) (x4 : Int32) (ha0 : rd_ok w a0 12) (S : rd_S) : rd_Y cx G_X12_search (fun r => rd_P cx G_X12_search.2.2.2.2.2 0 w (rd_rV w r)) (B_X12_search_110 w k56 a0 x2 x4 S) 110 [(0, .inr (some a0)), (2, .inl x2), (4, .inl x4)] [] w S 0 0 := by
  unfold B_X12_search_110
  refine ry_iconst (v := 0) dX12_search_110 (by decide) ?_
  exact ry_to (yb_X12_search_111 cx w (k56 := k56) hk56 a0 x2 x4 0 ha0 S) ⟨rfl, rfl, rfl, trivial⟩
def B_X12_search_106 (w : rd_W) (k56 : Nat → Int32 → Int32 → Int32 → rd_S → Option (rd_S)) (a0 : Nat) (x2 : Int32) (x4 : Int32) (S : rd_S) : Option (rd_S) :=
  B_X12_search_111 w k56 a0 x2 x4 1 S
theorem yb_X12_search_106 (cx : rd_Cx) (w : rd_W) {k56 : Nat → Int32 → Int32 → Int32 → rd_S → Option (rd_S)} (hk56 : ∀ (a0 : Nat) (x2 : Int32) (x3 : Int32) (x4 : Int32) (ha0 : rd_ok w a0 12) (S : rd_S), rd_Y cx G_X12_search (fun r => rd_P cx G_X12_search.2.2.2.2.2 0 w (rd_rV w r)) (k56 a0 x2 x3 x4 S) 56 [(0, .inr (some a0)), (2, .inl x2), (3, .inl x3), (4, .inl x4)] [] w S 0 0) (a0 : Nat) (x2 : Int32) (x4 : Int32) (ha0 : rd_ok w a0 12) (S : rd_S) : rd_Y cx G_X12_search (fun r => rd_P cx G_X12_search.2.2.2.2.2 0 w (rd_rV w r)) (B_X12_search_106 w k56 a0 x2 x4 S) 106 [(0, .inr (some a0)), (2, .inl x2), (4, .inl x4)] [] w S 0 0 := by
  unfold B_X12_search_106
  refine ry_iconst (v := 1) dX12_search_106 (by decide) ?_
  refine ry_goto 111 dX12_search_107 (by decide) ?_
  exact ry_to (yb_X12_search_111 cx w (k56 := k56) hk56 a0 x2 x4 1 ha0 S) ⟨rfl, rfl, rfl, trivial⟩
def B_X12_search_56 (w : rd_W) (k56 : Nat → Int32 → Int32 → Int32 → rd_S → Option (rd_S)) (a0 : Nat) (x2 : Int32) (x3 : Int32) (x4 : Int32) (S : rd_S) : Option (rd_S) :=
  if 4 ≤ x4 then
  (if x3 = 0 then
  (some S)
  else
  (rd_let (pI S a0 7 1) fun s12 =>
  rd_let (pI s12 a0 14 ((gI s12 a0 14) + 1)) fun s13 =>
  rd_let (pI s13 a0 9 0) fun s14 =>
  rd_let (pI s14 a0 11 0) fun s15 =>
  rd_let (pI s15 a0 12 0) fun s16 =>
  rd_let (pI s16 a0 8 0) fun s17 =>
  rd_let (gI s17 a0 5) fun v18 =>
  F_X12_search_167 w rd_big a0 x2 v18 0 s17))
  else
  (rd_let (((gI S a0 5) - 1) - (26 * x4)) fun v31 =>
  if x3 = 0 then
  (if v31 < 25 then
  (B_X12_search_110 w k56 a0 x2 x4 S)
  else
  (rd_c (gR S a0 4) fun b35 =>
  rd_let (v31 &&& 127) fun v36 =>
  rd_i v36 (w.2.2 b35) <|
  if (gI S b35 v36.toNatClampNeg) = ((x2 - x4) &&& 3) then
  (B_X12_search_106 w k56 a0 x2 x4 S)
  else
  (B_X12_search_110 w k56 a0 x2 x4 S)))
  else
  (B_X12_search_106 w k56 a0 x2 x4 S))
theorem yb_X12_search_56 (cx : rd_Cx) (w : rd_W) {k56 : Nat → Int32 → Int32 → Int32 → rd_S → Option (rd_S)} (hk56 : ∀ (a0 : Nat) (x2 : Int32) (x3 : Int32) (x4 : Int32) (ha0 : rd_ok w a0 12) (S : rd_S), rd_Y cx G_X12_search (fun r => rd_P cx G_X12_search.2.2.2.2.2 0 w (rd_rV w r)) (k56 a0 x2 x3 x4 S) 56 [(0, .inr (some a0)), (2, .inl x2), (3, .inl x3), (4, .inl x4)] [] w S 0 0) (a0 : Nat) (x2 : Int32) (x3 : Int32) (x4 : Int32) (ha0 : rd_ok w a0 12) (S : rd_S) : rd_Y cx G_X12_search (fun r => rd_P cx G_X12_search.2.2.2.2.2 0 w (rd_rV w r)) (B_X12_search_56 w k56 a0 x2 x3 x4 S) 56 [(0, .inr (some a0)), (2, .inl x2), (3, .inl x3), (4, .inl x4)] [] w S 0 0 := by
  unfold B_X12_search_56
  refine ry_iload dX12_search_56 rfl ?_
  refine ry_iconst (v := 4) dX12_search_58 (by decide) ?_
  refine ry_icmp_ge 118 dX12_search_59 (by decide) (fun c10 => ?_) (fun c10 => ?_)
  · refine ry_iload_n dX12_search_118 rfl ?_
    refine ry_if_ne 123 dX12_search_119 (by decide) (fun c11 => ?_) (fun c11 => ?_)
    · exact ry_vret dX12_search_122 rfl (Nat.le_of_ble_eq_true rfl) (Nat.le_of_ble_eq_true rfl)
    · refine ry_aload_n dX12_search_123 rfl ?_
      refine ry_iconst (v := 1) dX12_search_124 (by decide) ?_
      refine ry_putz dX12_search_125 ha0 fl_RX12_42 rfl rfl rfl (by decide) ?_
      refine ry_letS (fun s12 => ?_)
      refine ry_aload_n dX12_search_128 rfl ?_
      refine ry_dup dX12_search_129 ?_
      refine ry_geti dX12_search_130 ha0 fl_RX12_62 rfl ?_
      refine ry_iconst (v := 1) dX12_search_133 (by decide) ?_
      refine ry_iadd dX12_search_134 ?_
      refine ry_puti dX12_search_135 ha0 fl_RX12_62 rfl rfl rfl ?_
      refine ry_letS (fun s13 => ?_)
      refine ry_aload_n dX12_search_138 rfl ?_
      refine ry_iconst (v := 0) dX12_search_139 (by decide) ?_
      refine ry_puti dX12_search_140 ha0 fl_RX12_50 rfl rfl rfl ?_
      refine ry_letS (fun s14 => ?_)
      refine ry_aload_n dX12_search_143 rfl ?_
      refine ry_iconst (v := 0) dX12_search_144 (by decide) ?_
      refine ry_puti dX12_search_145 ha0 fl_RX12_65 rfl rfl rfl ?_
      refine ry_letS (fun s15 => ?_)
      refine ry_aload_n dX12_search_148 rfl ?_
      refine ry_iconst (v := 0) dX12_search_149 (by decide) ?_
      refine ry_puti dX12_search_150 ha0 fl_RX12_68 rfl rfl rfl ?_
      refine ry_letS (fun s16 => ?_)
      refine ry_aload_n dX12_search_153 rfl ?_
      refine ry_iconst (v := 0) dX12_search_154 (by decide) ?_
      refine ry_puti dX12_search_155 ha0 fl_RX12_71 rfl rfl rfl ?_
      refine ry_letS (fun s17 => ?_)
      refine ry_aload_n dX12_search_158 rfl ?_
      refine ry_geti dX12_search_159 ha0 fl_RX12_29 rfl ?_
      refine ry_istore dX12_search_162 (by decide) ?_
      refine ry_let (fun v18 => ?_)
      refine ry_iconst (v := 0) dX12_search_164 (by decide) ?_
      refine ry_istore dX12_search_165 (by decide) ?_
      exact ry_to (yl_X12_search_167 cx w rd_big a0 x2 v18 0 ha0 s17) ⟨rfl, rfl, rfl, rfl, trivial⟩
  · refine ry_aload_n dX12_search_62 rfl ?_
    refine ry_geti dX12_search_63 ha0 fl_RX12_29 rfl ?_
    refine ry_iconst (v := 1) dX12_search_66 (by decide) ?_
    refine ry_isub dX12_search_67 ?_
    refine ry_bipush (v := 26) dX12_search_68 (by decide) ?_
    refine ry_iload dX12_search_70 rfl ?_
    refine ry_imul dX12_search_72 ?_
    refine ry_isub dX12_search_73 ?_
    refine ry_istore dX12_search_74 (by decide) ?_
    refine ry_let (fun v31 => ?_)
    refine ry_iload_n dX12_search_76 rfl ?_
    refine ry_if_ne 106 dX12_search_77 (by decide) (fun c32 => ?_) (fun c32 => ?_)
    · refine ry_iload dX12_search_80 rfl ?_
      refine ry_bipush (v := 25) dX12_search_82 (by decide) ?_
      refine ry_icmp_lt 110 dX12_search_84 (by decide) (fun c33 => ?_) (fun c33 => ?_)
      · exact ry_to (yb_X12_search_110 cx w (k56 := k56) hk56 a0 x2 x4 ha0 S) ⟨rfl, rfl, rfl, trivial⟩
      · refine ry_aload_n dX12_search_87 rfl ?_
        refine ry_getr dX12_search_88 ha0 fl_RX12_36 rfl (fun b35 hb35 => ?_)
        refine ry_iload dX12_search_91 rfl ?_
        refine ry_bipush (v := 127) dX12_search_93 (by decide) ?_
        refine ry_iand dX12_search_95 ?_
        refine ry_lets (fun v36 => ?_)
        refine ry_iald dX12_search_96 hb35 ?_
        refine ry_iload_n dX12_search_97 rfl ?_
        refine ry_iload dX12_search_98 rfl ?_
        refine ry_isub dX12_search_100 ?_
        refine ry_iconst (v := 3) dX12_search_101 (by decide) ?_
        refine ry_iand dX12_search_102 ?_
        refine ry_icmp_ne 110 dX12_search_103 (by decide) (fun c37 => ?_) (fun c37 => ?_)
        · exact ry_to (yb_X12_search_106 cx w (k56 := k56) hk56 a0 x2 x4 ha0 S) ⟨rfl, rfl, rfl, trivial⟩
        · exact ry_to (yb_X12_search_110 cx w (k56 := k56) hk56 a0 x2 x4 ha0 S) ⟨rfl, rfl, rfl, trivial⟩
    · exact ry_to (yb_X12_search_106 cx w (k56 := k56) hk56 a0 x2 x4 ha0 S) ⟨rfl, rfl, rfl, trivial⟩
def F_X12_search_56 (w : rd_W) (n : Nat) : Nat → Int32 → Int32 → Int32 → rd_S → Option (rd_S) :=
  Nat.rec (motive := fun _ => Nat → Int32 → Int32 → Int32 → rd_S → Option (rd_S)) (fun _ _ _ _ _ => none) (fun _ ih => B_X12_search_56 w ih) n
theorem yl_X12_search_56 (cx : rd_Cx) (w : rd_W) : ∀ (n : Nat) (a0 : Nat) (x2 : Int32) (x3 : Int32) (x4 : Int32) (ha0 : rd_ok w a0 12) (S : rd_S), rd_Y cx G_X12_search (fun r => rd_P cx G_X12_search.2.2.2.2.2 0 w (rd_rV w r)) (F_X12_search_56 w n a0 x2 x3 x4 S) 56 [(0, .inr (some a0)), (2, .inl x2), (3, .inl x3), (4, .inl x4)] [] w S 0 0 := by
  intro n
  induction n with
  | zero => intro a0 x2 x3 x4 ha0 S; exact ry_none
  | succ n ih => intro a0 x2 x3 x4 ha0 S; exact yb_X12_search_56 cx w ih a0 x2 x3 x4 ha0 S
def B_X12_search_35 (w : rd_W) (a0 : Nat) (t0 : Int32) (S : rd_S) : Option (rd_S) :=
  rd_c (gR S a0 4) fun b8 =>
  rd_i (((gI S a0 5) - 1) &&& 127) (w.2.2 b8) <|
  rd_let (pI S b8 (((gI S a0 5) - 1) &&& 127).toNatClampNeg t0) fun s9 =>
  F_X12_search_56 w rd_big a0 t0 0 1 s9
theorem yb_X12_search_35 (cx : rd_Cx) (w : rd_W) (a0 : Nat) (t0 : Int32) (ha0 : rd_ok w a0 12) (S : rd_S) : rd_Y cx G_X12_search (fun r => rd_P cx G_X12_search.2.2.2.2.2 0 w (rd_rV w r)) (B_X12_search_35 w a0 t0 S) 35 [(0, .inr (some a0))] [.inl t0] w S 0 0 := by
  unfold B_X12_search_35
  refine ry_istore_n dX12_search_35 (by decide) ?_
  refine ry_aload_n dX12_search_36 rfl ?_
  refine ry_getr dX12_search_37 ha0 fl_RX12_36 rfl (fun b8 hb8 => ?_)
  refine ry_aload_n dX12_search_40 rfl ?_
  refine ry_geti dX12_search_41 ha0 fl_RX12_29 rfl ?_
  refine ry_iconst (v := 1) dX12_search_44 (by decide) ?_
  refine ry_isub dX12_search_45 ?_
  refine ry_bipush (v := 127) dX12_search_46 (by decide) ?_
  refine ry_iand dX12_search_48 ?_
  refine ry_iload_n dX12_search_49 rfl ?_
  refine ry_iast dX12_search_50 hb8 ?_
  refine ry_letS (fun s9 => ?_)
  refine ry_iconst (v := 0) dX12_search_51 (by decide) ?_
  refine ry_istore_n dX12_search_52 (by decide) ?_
  refine ry_iconst (v := 1) dX12_search_53 (by decide) ?_
  refine ry_istore dX12_search_54 (by decide) ?_
  exact ry_to (yl_X12_search_56 cx w rd_big a0 t0 0 1 ha0 s9) ⟨rfl, rfl, rfl, rfl, trivial⟩
def F_X12_search (w : rd_W) (a0 : Nat) (S : rd_S) : Option (rd_S) :=
  if 26 ≤ (gI S a0 5) then
  (rd_b (F_X12_ended w a0 0 S) fun v3 s2 =>
  rd_b (F_X12_letterOf w v3 s2) fun v5 s4 =>
  if v5 = (-1) then
  (some s4)
  else
  (if v5 = 4 then
  (B_X12_search_35 w a0 2 s4)
  else
  (B_X12_search_35 w a0 v5 s4)))
  else
  (some S)
theorem ym_X12_search (cx : rd_Cx) (w : rd_W) (a0 : Nat) (ha0 : rd_ok w a0 12) (S : rd_S) : rd_Y cx G_X12_search (fun r => rd_P cx G_X12_search.2.2.2.2.2 0 w (rd_rV w r)) (F_X12_search w a0 S) 0 (rd_as 0 [.inr (some a0)]) [] w S 0 0 := by
  unfold F_X12_search
  refine ry_aload_n dX12_search_0 rfl ?_
  refine ry_geti dX12_search_1 ha0 fl_RX12_29 rfl ?_
  refine ry_bipush (v := 26) dX12_search_4 (by decide) ?_
  refine ry_icmp_ge 10 dX12_search_6 (by decide) (fun c1 => ?_) (fun c1 => ?_)
  · refine ry_aload_n dX12_search_10 rfl ?_
    refine ry_iconst (v := 0) dX12_search_11 (by decide) ?_
    refine ry_callI (fun l r9 h9 => cm_X12_ended l cx w a0 0 ha0 S r9 h9) (rd_runV (vs := [.inl 0]) dX12_search_12 ha0 rfl rfl yf_X12_ended mi_X12_ended ms_X12_ended ml_RX12_53 ⟨Nat.le_of_ble_eq_true rfl, Nat.le_of_ble_eq_true rfl⟩ (Nat.le_of_ble_eq_true rfl) rfl) rfl rfl (Nat.le_of_ble_eq_true rfl) (Nat.le_of_ble_eq_true rfl) (fun v3 s2 => ?_)
    refine ry_callI (fun l r9 h9 => cm_X12_letterOf l cx w v3 s2 r9 h9) (rd_runS (vs := [.inl v3]) dX12_search_15 yf_X12_letterOf mt_X12_letterOf ml_RX12_59 ⟨Nat.le_of_ble_eq_true rfl, Nat.le_of_ble_eq_true rfl⟩ (Nat.le_of_ble_eq_true rfl) rfl) rfl rfl (Nat.le_of_ble_eq_true rfl) (Nat.le_of_ble_eq_true rfl) (fun v5 s4 => ?_)
    refine ry_istore_n dX12_search_18 (by decide) ?_
    refine ry_iload_n dX12_search_19 rfl ?_
    refine ry_iconst (v := (-1)) dX12_search_20 (by decide) ?_
    refine ry_icmp_ne 25 dX12_search_21 (by decide) (fun c6 => ?_) (fun c6 => ?_)
    · exact ry_vret dX12_search_24 rfl (Nat.le_of_ble_eq_true rfl) (Nat.le_of_ble_eq_true rfl)
    · refine ry_iload_n dX12_search_25 rfl ?_
      refine ry_iconst (v := 4) dX12_search_26 (by decide) ?_
      refine ry_icmp_ne 34 dX12_search_27 (by decide) (fun c7 => ?_) (fun c7 => ?_)
      · refine ry_iconst (v := 2) dX12_search_30 (by decide) ?_
        refine ry_goto 35 dX12_search_31 (by decide) ?_
        exact ry_to (yb_X12_search_35 cx w a0 2 ha0 s4) ⟨rfl, trivial⟩
      · refine ry_iload_n dX12_search_34 rfl ?_
        exact ry_to (yb_X12_search_35 cx w a0 v5 ha0 s4) ⟨rfl, trivial⟩
  · exact ry_vret dX12_search_9 rfl (Nat.le_of_ble_eq_true rfl) (Nat.le_of_ble_eq_true rfl)
theorem cm_X12_search (l : Launch) (cx : rd_Cx) (w : rd_W) (a0 : Nat) (ha0 : rd_ok w a0 12) (S : rd_S) (r : rd_S) (h : F_X12_search w a0 S = some r) : rd_M l cx yX12_search G_X12_search 0 [.inr (some a0)] w S (rd_rV w r) :=
  rd_enter (plainFor_of_name (by decide +kernel)) rfl (fun h => by cases h) (Nat.le_of_ble_eq_true rfl) (ym_X12_search cx w a0 ha0 S r h)
abbrev G_X12_comes : rd_G := (RX12, cX12_comes, 2, none, false, { frames := 7, cells := 0, slots := 0, locals := 174 })
theorem yf_X12_comes : rd_YL yX12_comes G_X12_comes 1 := ⟨rd_mem 872 (by decide +kernel) rfl, rd_mem 75 (by decide +kernel) rfl, by decide +kernel, by decide +kernel, by decide +kernel⟩
theorem mi_X12_comes : Cond.instanceMethod yX12_comes ∈ rd_gw := rd_mem 870 (by decide +kernel) rfl
theorem ms_X12_comes : Cond.selects (MethodName.cls yX12_comes) yX12_comes yX12_comes ∈ rd_gw := rd_mem 35 (by decide +kernel) rfl
theorem dX12_comes_0 : decode cX12_comes 0 = .ok (.aload_n 0, 1) := by decide +kernel
theorem dX12_comes_1 : decode cX12_comes 1 = .ok (.getfield 25, 3) := by decide +kernel
theorem dX12_comes_4 : decode cX12_comes 4 = .ok (.aload_n 0, 1) := by decide +kernel
theorem dX12_comes_5 : decode cX12_comes 5 = .ok (.getfield 29, 3) := by decide +kernel
theorem dX12_comes_8 : decode cX12_comes 8 = .ok (.bipush 127, 2) := by decide +kernel
theorem dX12_comes_10 : decode cX12_comes 10 = .ok (.iand, 1) := by decide +kernel
theorem dX12_comes_11 : decode cX12_comes 11 = .ok (.iload_n 1, 1) := by decide +kernel
theorem dX12_comes_12 : decode cX12_comes 12 = .ok (.iastore, 1) := by decide +kernel
theorem dX12_comes_13 : decode cX12_comes 13 = .ok (.aload_n 0, 1) := by decide +kernel
theorem dX12_comes_14 : decode cX12_comes 14 = .ok (.getfield 36, 3) := by decide +kernel
theorem dX12_comes_17 : decode cX12_comes 17 = .ok (.aload_n 0, 1) := by decide +kernel
theorem dX12_comes_18 : decode cX12_comes 18 = .ok (.getfield 29, 3) := by decide +kernel
theorem dX12_comes_21 : decode cX12_comes 21 = .ok (.bipush 127, 2) := by decide +kernel
theorem dX12_comes_23 : decode cX12_comes 23 = .ok (.iand, 1) := by decide +kernel
theorem dX12_comes_24 : decode cX12_comes 24 = .ok (.iconst (-1), 1) := by decide +kernel
theorem dX12_comes_25 : decode cX12_comes 25 = .ok (.iastore, 1) := by decide +kernel
theorem dX12_comes_26 : decode cX12_comes 26 = .ok (.aload_n 0, 1) := by decide +kernel
theorem dX12_comes_27 : decode cX12_comes 27 = .ok (.dup, 1) := by decide +kernel
theorem dX12_comes_28 : decode cX12_comes 28 = .ok (.getfield 29, 3) := by decide +kernel
theorem dX12_comes_31 : decode cX12_comes 31 = .ok (.iconst 1, 1) := by decide +kernel
theorem dX12_comes_32 : decode cX12_comes 32 = .ok (.iadd, 1) := by decide +kernel
theorem dX12_comes_33 : decode cX12_comes 33 = .ok (.putfield 29, 3) := by decide +kernel
theorem dX12_comes_36 : decode cX12_comes 36 = .ok (.aload_n 0, 1) := by decide +kernel
theorem dX12_comes_37 : decode cX12_comes 37 = .ok (.dup, 1) := by decide +kernel
theorem dX12_comes_38 : decode cX12_comes 38 = .ok (.getfield 39, 3) := by decide +kernel
theorem dX12_comes_41 : decode cX12_comes 41 = .ok (.iconst 1, 1) := by decide +kernel
theorem dX12_comes_42 : decode cX12_comes 42 = .ok (.iadd, 1) := by decide +kernel
theorem dX12_comes_43 : decode cX12_comes 43 = .ok (.putfield 39, 3) := by decide +kernel
theorem dX12_comes_46 : decode cX12_comes 46 = .ok (.aload_n 0, 1) := by decide +kernel
theorem dX12_comes_47 : decode cX12_comes 47 = .ok (.getfield 42, 3) := by decide +kernel
theorem dX12_comes_50 : decode cX12_comes 50 = .ok (.ifCond .ne 8, 3) := by decide +kernel
theorem dX12_comes_53 : decode cX12_comes 53 = .ok (.aload_n 0, 1) := by decide +kernel
theorem dX12_comes_54 : decode cX12_comes 54 = .ok (.invokevirtual 46, 3) := by decide +kernel
theorem dX12_comes_57 : decode cX12_comes 57 = .ok (.return_, 1) := by decide +kernel
theorem dX12_comes_58 : decode cX12_comes 58 = .ok (.aload_n 0, 1) := by decide +kernel
theorem dX12_comes_59 : decode cX12_comes 59 = .ok (.dup, 1) := by decide +kernel
theorem dX12_comes_60 : decode cX12_comes 60 = .ok (.getfield 50, 3) := by decide +kernel
theorem dX12_comes_63 : decode cX12_comes 63 = .ok (.iconst 1, 1) := by decide +kernel
theorem dX12_comes_64 : decode cX12_comes 64 = .ok (.iadd, 1) := by decide +kernel
theorem dX12_comes_65 : decode cX12_comes 65 = .ok (.putfield 50, 3) := by decide +kernel
theorem dX12_comes_68 : decode cX12_comes 68 = .ok (.aload_n 0, 1) := by decide +kernel
theorem dX12_comes_69 : decode cX12_comes 69 = .ok (.getfield 50, 3) := by decide +kernel
theorem dX12_comes_72 : decode cX12_comes 72 = .ok (.bipush 26, 2) := by decide +kernel
theorem dX12_comes_74 : decode cX12_comes 74 = .ok (.if_icmp .ge 4, 3) := by decide +kernel
theorem dX12_comes_77 : decode cX12_comes 77 = .ok (.return_, 1) := by decide +kernel
theorem dX12_comes_78 : decode cX12_comes 78 = .ok (.aload_n 0, 1) := by decide +kernel
theorem dX12_comes_79 : decode cX12_comes 79 = .ok (.iconst 0, 1) := by decide +kernel
theorem dX12_comes_80 : decode cX12_comes 80 = .ok (.putfield 50, 3) := by decide +kernel
theorem dX12_comes_83 : decode cX12_comes 83 = .ok (.aload_n 0, 1) := by decide +kernel
theorem dX12_comes_84 : decode cX12_comes 84 = .ok (.aload_n 0, 1) := by decide +kernel
theorem dX12_comes_85 : decode cX12_comes 85 = .ok (.iconst 0, 1) := by decide +kernel
theorem dX12_comes_86 : decode cX12_comes 86 = .ok (.invokevirtual 53, 3) := by decide +kernel
theorem dX12_comes_89 : decode cX12_comes 89 = .ok (.invokevirtual 56, 3) := by decide +kernel
theorem dX12_comes_92 : decode cX12_comes 92 = .ok (.return_, 1) := by decide +kernel
def F_X12_comes (w : rd_W) (a0 : Nat) (x1 : Int32) (S : rd_S) : Option (rd_S) :=
  rd_c (gR S a0 3) fun b1 =>
  rd_i ((gI S a0 5) &&& 127) (w.2.2 b1) <|
  rd_let (pI S b1 ((gI S a0 5) &&& 127).toNatClampNeg x1) fun s2 =>
  rd_c (gR s2 a0 4) fun b3 =>
  rd_i ((gI s2 a0 5) &&& 127) (w.2.2 b3) <|
  rd_let (pI s2 b3 ((gI s2 a0 5) &&& 127).toNatClampNeg (-1)) fun s4 =>
  rd_let (pI s4 a0 5 ((gI s4 a0 5) + 1)) fun s5 =>
  rd_let (pI s5 a0 6 ((gI s5 a0 6) + 1)) fun s6 =>
  if (gI s6 a0 7) = 0 then
  (rd_c (F_X12_search w a0 s6) fun s8 =>
  some s8)
  else
  (rd_let (pI s6 a0 9 ((gI s6 a0 9) + 1)) fun s9 =>
  if 26 ≤ (gI s9 a0 9) then
  (rd_let (pI s9 a0 9 0) fun s11 =>
  rd_b (F_X12_ended w a0 0 s11) fun v13 s12 =>
  rd_c (F_X12_look w a0 v13 s12) fun s14 =>
  some s14)
  else
  (some s9))
theorem ym_X12_comes (cx : rd_Cx) (w : rd_W) (a0 : Nat) (x1 : Int32) (ha0 : rd_ok w a0 12) (S : rd_S) : rd_Y cx G_X12_comes (fun r => rd_P cx G_X12_comes.2.2.2.2.2 0 w (rd_rV w r)) (F_X12_comes w a0 x1 S) 0 (rd_as 0 [.inr (some a0), .inl x1]) [] w S 0 0 := by
  unfold F_X12_comes
  refine ry_aload_n dX12_comes_0 rfl ?_
  refine ry_getr dX12_comes_1 ha0 fl_RX12_25 rfl (fun b1 hb1 => ?_)
  refine ry_aload_n dX12_comes_4 rfl ?_
  refine ry_geti dX12_comes_5 ha0 fl_RX12_29 rfl ?_
  refine ry_bipush (v := 127) dX12_comes_8 (by decide) ?_
  refine ry_iand dX12_comes_10 ?_
  refine ry_iload_n dX12_comes_11 rfl ?_
  refine ry_iast dX12_comes_12 hb1 ?_
  refine ry_letS (fun s2 => ?_)
  refine ry_aload_n dX12_comes_13 rfl ?_
  refine ry_getr dX12_comes_14 ha0 fl_RX12_36 rfl (fun b3 hb3 => ?_)
  refine ry_aload_n dX12_comes_17 rfl ?_
  refine ry_geti dX12_comes_18 ha0 fl_RX12_29 rfl ?_
  refine ry_bipush (v := 127) dX12_comes_21 (by decide) ?_
  refine ry_iand dX12_comes_23 ?_
  refine ry_iconst (v := (-1)) dX12_comes_24 (by decide) ?_
  refine ry_iast dX12_comes_25 hb3 ?_
  refine ry_letS (fun s4 => ?_)
  refine ry_aload_n dX12_comes_26 rfl ?_
  refine ry_dup dX12_comes_27 ?_
  refine ry_geti dX12_comes_28 ha0 fl_RX12_29 rfl ?_
  refine ry_iconst (v := 1) dX12_comes_31 (by decide) ?_
  refine ry_iadd dX12_comes_32 ?_
  refine ry_puti dX12_comes_33 ha0 fl_RX12_29 rfl rfl rfl ?_
  refine ry_letS (fun s5 => ?_)
  refine ry_aload_n dX12_comes_36 rfl ?_
  refine ry_dup dX12_comes_37 ?_
  refine ry_geti dX12_comes_38 ha0 fl_RX12_39 rfl ?_
  refine ry_iconst (v := 1) dX12_comes_41 (by decide) ?_
  refine ry_iadd dX12_comes_42 ?_
  refine ry_puti dX12_comes_43 ha0 fl_RX12_39 rfl rfl rfl ?_
  refine ry_letS (fun s6 => ?_)
  refine ry_aload_n dX12_comes_46 rfl ?_
  refine ry_geti dX12_comes_47 ha0 fl_RX12_42 rfl ?_
  refine ry_if_ne 58 dX12_comes_50 (by decide) (fun c7 => ?_) (fun c7 => ?_)
  · refine ry_aload_n dX12_comes_53 rfl ?_
    refine ry_callv (fun l r9 h9 => cm_X12_search l cx w a0 ha0 s6 r9 h9) (rd_runV (vs := []) dX12_comes_54 ha0 rfl rfl yf_X12_search mi_X12_search ms_X12_search ml_RX12_46 ⟨Nat.le_of_ble_eq_true rfl, Nat.le_of_ble_eq_true rfl⟩ (Nat.le_of_ble_eq_true rfl) rfl) rfl rfl (Nat.le_of_ble_eq_true rfl) (Nat.le_of_ble_eq_true rfl) (fun s8 => ?_)
    exact ry_vret dX12_comes_57 rfl (Nat.le_of_ble_eq_true rfl) (Nat.le_of_ble_eq_true rfl)
  · refine ry_aload_n dX12_comes_58 rfl ?_
    refine ry_dup dX12_comes_59 ?_
    refine ry_geti dX12_comes_60 ha0 fl_RX12_50 rfl ?_
    refine ry_iconst (v := 1) dX12_comes_63 (by decide) ?_
    refine ry_iadd dX12_comes_64 ?_
    refine ry_puti dX12_comes_65 ha0 fl_RX12_50 rfl rfl rfl ?_
    refine ry_letS (fun s9 => ?_)
    refine ry_aload_n dX12_comes_68 rfl ?_
    refine ry_geti dX12_comes_69 ha0 fl_RX12_50 rfl ?_
    refine ry_bipush (v := 26) dX12_comes_72 (by decide) ?_
    refine ry_icmp_ge 78 dX12_comes_74 (by decide) (fun c10 => ?_) (fun c10 => ?_)
    · refine ry_aload_n dX12_comes_78 rfl ?_
      refine ry_iconst (v := 0) dX12_comes_79 (by decide) ?_
      refine ry_puti dX12_comes_80 ha0 fl_RX12_50 rfl rfl rfl ?_
      refine ry_letS (fun s11 => ?_)
      refine ry_aload_n dX12_comes_83 rfl ?_
      refine ry_aload_n dX12_comes_84 rfl ?_
      refine ry_iconst (v := 0) dX12_comes_85 (by decide) ?_
      refine ry_callI (fun l r9 h9 => cm_X12_ended l cx w a0 0 ha0 s11 r9 h9) (rd_runV (vs := [.inl 0]) dX12_comes_86 ha0 rfl rfl yf_X12_ended mi_X12_ended ms_X12_ended ml_RX12_53 ⟨Nat.le_of_ble_eq_true rfl, Nat.le_of_ble_eq_true rfl⟩ (Nat.le_of_ble_eq_true rfl) rfl) rfl rfl (Nat.le_of_ble_eq_true rfl) (Nat.le_of_ble_eq_true rfl) (fun v13 s12 => ?_)
      refine ry_callv (fun l r9 h9 => cm_X12_look l cx w a0 v13 ha0 s12 r9 h9) (rd_runV (vs := [.inl v13]) dX12_comes_89 ha0 rfl rfl yf_X12_look mi_X12_look ms_X12_look ml_RX12_56 ⟨Nat.le_of_ble_eq_true rfl, Nat.le_of_ble_eq_true rfl⟩ (Nat.le_of_ble_eq_true rfl) rfl) rfl rfl (Nat.le_of_ble_eq_true rfl) (Nat.le_of_ble_eq_true rfl) (fun s14 => ?_)
      exact ry_vret dX12_comes_92 rfl (Nat.le_of_ble_eq_true rfl) (Nat.le_of_ble_eq_true rfl)
    · exact ry_vret dX12_comes_77 rfl (Nat.le_of_ble_eq_true rfl) (Nat.le_of_ble_eq_true rfl)
theorem cm_X12_comes (l : Launch) (cx : rd_Cx) (w : rd_W) (a0 : Nat) (x1 : Int32) (ha0 : rd_ok w a0 12) (S : rd_S) (r : rd_S) (h : F_X12_comes w a0 x1 S = some r) : rd_M l cx yX12_comes G_X12_comes 0 [.inr (some a0), .inl x1] w S (rd_rV w r) :=
  rd_enter (plainFor_of_name (by decide +kernel)) rfl (fun h => by cases h) (Nat.le_of_ble_eq_true rfl) (ym_X12_comes cx w a0 x1 ha0 S r h)
abbrev G_X12_feed : rd_G := (RX12, cX12_feed, 4, (some .boolean), false, { frames := 8, cells := 0, slots := 0, locals := 195 })
theorem yf_X12_feed : rd_YL yX12_feed G_X12_feed 2 := ⟨rd_mem 867 (by decide +kernel) rfl, rd_mem 75 (by decide +kernel) rfl, by decide +kernel, by decide +kernel, by decide +kernel⟩
theorem mi_X12_feed : Cond.instanceMethod yX12_feed ∈ rd_gw := rd_mem 865 (by decide +kernel) rfl
theorem ms_X12_feed : Cond.selects (MethodName.cls yX12_feed) yX12_feed yX12_feed ∈ rd_gw := rd_mem 866 (by decide +kernel) rfl
theorem dX12_feed_0 : decode cX12_feed 0 = .ok (.aload_n 0, 1) := by decide +kernel
theorem dX12_feed_1 : decode cX12_feed 1 = .ok (.iconst 0, 1) := by decide +kernel
theorem dX12_feed_2 : decode cX12_feed 2 = .ok (.putfield 1, 3) := by decide +kernel
theorem dX12_feed_5 : decode cX12_feed 5 = .ok (.iload_n 2, 1) := by decide +kernel
theorem dX12_feed_6 : decode cX12_feed 6 = .ok (.iconst 1, 1) := by decide +kernel
theorem dX12_feed_7 : decode cX12_feed 7 = .ok (.if_icmp .lt 9, 3) := by decide +kernel
theorem dX12_feed_10 : decode cX12_feed 10 = .ok (.iload_n 2, 1) := by decide +kernel
theorem dX12_feed_11 : decode cX12_feed 11 = .ok (.bipush 26, 2) := by decide +kernel
theorem dX12_feed_13 : decode cX12_feed 13 = .ok (.if_icmp .le 5, 3) := by decide +kernel
theorem dX12_feed_16 : decode cX12_feed 16 = .ok (.iconst 0, 1) := by decide +kernel
theorem dX12_feed_17 : decode cX12_feed 17 = .ok (.ireturn, 1) := by decide +kernel
theorem dX12_feed_18 : decode cX12_feed 18 = .ok (.iload_n 2, 1) := by decide +kernel
theorem dX12_feed_19 : decode cX12_feed 19 = .ok (.iconst 1, 1) := by decide +kernel
theorem dX12_feed_20 : decode cX12_feed 20 = .ok (.isub, 1) := by decide +kernel
theorem dX12_feed_21 : decode cX12_feed 21 = .ok (.istore_n 3, 1) := by decide +kernel
theorem dX12_feed_22 : decode cX12_feed 22 = .ok (.iload_n 3, 1) := by decide +kernel
theorem dX12_feed_23 : decode cX12_feed 23 = .ok (.ifCond .lt 18, 3) := by decide +kernel
theorem dX12_feed_26 : decode cX12_feed 26 = .ok (.aload_n 0, 1) := by decide +kernel
theorem dX12_feed_27 : decode cX12_feed 27 = .ok (.iload_n 1, 1) := by decide +kernel
theorem dX12_feed_28 : decode cX12_feed 28 = .ok (.iload_n 3, 1) := by decide +kernel
theorem dX12_feed_29 : decode cX12_feed 29 = .ok (.ishr, 1) := by decide +kernel
theorem dX12_feed_30 : decode cX12_feed 30 = .ok (.iconst 1, 1) := by decide +kernel
theorem dX12_feed_31 : decode cX12_feed 31 = .ok (.iand, 1) := by decide +kernel
theorem dX12_feed_32 : decode cX12_feed 32 = .ok (.invokevirtual 32, 3) := by decide +kernel
theorem dX12_feed_35 : decode cX12_feed 35 = .ok (.iinc 3 (-1), 3) := by decide +kernel
theorem dX12_feed_38 : decode cX12_feed 38 = .ok (.goto (-16), 3) := by decide +kernel
theorem dX12_feed_41 : decode cX12_feed 41 = .ok (.iconst 1, 1) := by decide +kernel
theorem dX12_feed_42 : decode cX12_feed 42 = .ok (.ireturn, 1) := by decide +kernel
def B_X12_feed_16 (w : rd_W) (S : rd_S) : Option (Int32 × rd_S) :=
  some (0, S)
theorem yb_X12_feed_16 (cx : rd_Cx) (w : rd_W) (S : rd_S) : rd_Y cx G_X12_feed (fun r => rd_P cx G_X12_feed.2.2.2.2.2 0 w (rd_rI w r)) (B_X12_feed_16 w S) 16 [] [] w S 0 0 := by
  unfold B_X12_feed_16
  refine ry_iconst (v := 0) dX12_feed_16 (by decide) ?_
  exact ry_zret dX12_feed_17 rfl (by decide) (Nat.le_of_ble_eq_true rfl) (Nat.le_of_ble_eq_true rfl)
def B_X12_feed_22 (w : rd_W) (k22 : Nat → Int32 → Int32 → rd_S → Option (Int32 × rd_S)) (a0 : Nat) (x1 : Int32) (x3 : Int32) (S : rd_S) : Option (Int32 × rd_S) :=
  if x3 < 0 then
  (some (1, S))
  else
  (rd_c (F_X12_comes w a0 ((rd_shr x1 x3) &&& 1) S) fun s6 =>
  rd_let (x3 + (-1)) fun v7 =>
  k22 a0 x1 v7 s6)
theorem yb_X12_feed_22 (cx : rd_Cx) (w : rd_W) {k22 : Nat → Int32 → Int32 → rd_S → Option (Int32 × rd_S)} (hk22 : ∀ (a0 : Nat) (x1 : Int32) (x3 : Int32) (ha0 : rd_ok w a0 12) (S : rd_S), rd_Y cx G_X12_feed (fun r => rd_P cx G_X12_feed.2.2.2.2.2 0 w (rd_rI w r)) (k22 a0 x1 x3 S) 22 [(0, .inr (some a0)), (1, .inl x1), (3, .inl x3)] [] w S 0 0) (a0 : Nat) (x1 : Int32) (x3 : Int32) (ha0 : rd_ok w a0 12) (S : rd_S) : rd_Y cx G_X12_feed (fun r => rd_P cx G_X12_feed.2.2.2.2.2 0 w (rd_rI w r)) (B_X12_feed_22 w k22 a0 x1 x3 S) 22 [(0, .inr (some a0)), (1, .inl x1), (3, .inl x3)] [] w S 0 0 := by
  unfold B_X12_feed_22
  refine ry_iload_n dX12_feed_22 rfl ?_
  refine ry_if_lt 41 dX12_feed_23 (by decide) (fun c5 => ?_) (fun c5 => ?_)
  · refine ry_iconst (v := 1) dX12_feed_41 (by decide) ?_
    exact ry_zret dX12_feed_42 rfl (by decide) (Nat.le_of_ble_eq_true rfl) (Nat.le_of_ble_eq_true rfl)
  · refine ry_aload_n dX12_feed_26 rfl ?_
    refine ry_iload_n dX12_feed_27 rfl ?_
    refine ry_iload_n dX12_feed_28 rfl ?_
    refine ry_ishr dX12_feed_29 ?_
    refine ry_iconst (v := 1) dX12_feed_30 (by decide) ?_
    refine ry_iand dX12_feed_31 ?_
    refine ry_callv (fun l r9 h9 => cm_X12_comes l cx w a0 ((rd_shr x1 x3) &&& 1) ha0 S r9 h9) (rd_runV (vs := [.inl ((rd_shr x1 x3) &&& 1)]) dX12_feed_32 ha0 rfl rfl yf_X12_comes mi_X12_comes ms_X12_comes ml_RX12_32 ⟨Nat.le_of_ble_eq_true rfl, Nat.le_of_ble_eq_true rfl⟩ (Nat.le_of_ble_eq_true rfl) rfl) rfl rfl (Nat.le_of_ble_eq_true rfl) (Nat.le_of_ble_eq_true rfl) (fun s6 => ?_)
    refine ry_iinc (v := (-1)) dX12_feed_35 rfl (by decide) (by decide) ?_
    refine ry_let (fun v7 => ?_)
    refine ry_goto 22 dX12_feed_38 (by decide) ?_
    exact ry_to (hk22 a0 x1 v7 ha0 s6) ⟨rfl, rfl, rfl, trivial⟩
def F_X12_feed_22 (w : rd_W) (n : Nat) : Nat → Int32 → Int32 → rd_S → Option (Int32 × rd_S) :=
  Nat.rec (motive := fun _ => Nat → Int32 → Int32 → rd_S → Option (Int32 × rd_S)) (fun _ _ _ _ => none) (fun _ ih => B_X12_feed_22 w ih) n
theorem yl_X12_feed_22 (cx : rd_Cx) (w : rd_W) : ∀ (n : Nat) (a0 : Nat) (x1 : Int32) (x3 : Int32) (ha0 : rd_ok w a0 12) (S : rd_S), rd_Y cx G_X12_feed (fun r => rd_P cx G_X12_feed.2.2.2.2.2 0 w (rd_rI w r)) (F_X12_feed_22 w n a0 x1 x3 S) 22 [(0, .inr (some a0)), (1, .inl x1), (3, .inl x3)] [] w S 0 0 := by
  intro n
  induction n with
  | zero => intro a0 x1 x3 ha0 S; exact ry_none
  | succ n ih => intro a0 x1 x3 ha0 S; exact yb_X12_feed_22 cx w ih a0 x1 x3 ha0 S
def F_X12_feed (w : rd_W) (a0 : Nat) (x1 : Int32) (x2 : Int32) (S : rd_S) : Option (Int32 × rd_S) :=
  rd_let (pI S a0 0 0) fun s1 =>
  if x2 < 1 then
  (B_X12_feed_16 w s1)
  else
  (if x2 ≤ 26 then
  (rd_let (x2 - 1) fun v4 =>
  F_X12_feed_22 w rd_big a0 x1 v4 s1)
  else
  (B_X12_feed_16 w s1))
theorem ym_X12_feed (cx : rd_Cx) (w : rd_W) (a0 : Nat) (x1 : Int32) (x2 : Int32) (ha0 : rd_ok w a0 12) (S : rd_S) : rd_Y cx G_X12_feed (fun r => rd_P cx G_X12_feed.2.2.2.2.2 0 w (rd_rI w r)) (F_X12_feed w a0 x1 x2 S) 0 (rd_as 0 [.inr (some a0), .inl x1, .inl x2]) [] w S 0 0 := by
  unfold F_X12_feed
  refine ry_aload_n dX12_feed_0 rfl ?_
  refine ry_iconst (v := 0) dX12_feed_1 (by decide) ?_
  refine ry_puti dX12_feed_2 ha0 fl_RX12_1 rfl rfl rfl ?_
  refine ry_letS (fun s1 => ?_)
  refine ry_iload_n dX12_feed_5 rfl ?_
  refine ry_iconst (v := 1) dX12_feed_6 (by decide) ?_
  refine ry_icmp_lt 16 dX12_feed_7 (by decide) (fun c2 => ?_) (fun c2 => ?_)
  · exact ry_to (yb_X12_feed_16 cx w s1) trivial
  · refine ry_iload_n dX12_feed_10 rfl ?_
    refine ry_bipush (v := 26) dX12_feed_11 (by decide) ?_
    refine ry_icmp_le 18 dX12_feed_13 (by decide) (fun c3 => ?_) (fun c3 => ?_)
    · refine ry_iload_n dX12_feed_18 rfl ?_
      refine ry_iconst (v := 1) dX12_feed_19 (by decide) ?_
      refine ry_isub dX12_feed_20 ?_
      refine ry_istore_n dX12_feed_21 (by decide) ?_
      refine ry_let (fun v4 => ?_)
      exact ry_to (yl_X12_feed_22 cx w rd_big a0 x1 v4 ha0 s1) ⟨rfl, rfl, rfl, trivial⟩
    · exact ry_to (yb_X12_feed_16 cx w s1) trivial
theorem cm_X12_feed (l : Launch) (cx : rd_Cx) (w : rd_W) (a0 : Nat) (x1 : Int32) (x2 : Int32) (ha0 : rd_ok w a0 12) (S : rd_S) (r : Int32 × rd_S) (h : F_X12_feed w a0 x1 x2 S = some r) : rd_M l cx yX12_feed G_X12_feed 0 [.inr (some a0), .inl x1, .inl x2] w S (rd_rI w r) :=
  rd_enter (plainFor_of_name (by decide +kernel)) rfl (fun h => by cases h) (Nat.le_of_ble_eq_true rfl) (ym_X12_feed cx w a0 x1 x2 ha0 S r h)
abbrev G_X11_block : rd_G := (RX11, cX11_block, 5, (some .int), false, { frames := 1, cells := 0, slots := 0, locals := 22 })
theorem yf_X11_block : rd_YL yX11_block G_X11_block 2 := ⟨rd_mem 729 (by decide +kernel) rfl, rd_mem 62 (by decide +kernel) rfl, by decide +kernel, by decide +kernel, by decide +kernel⟩
theorem mi_X11_block : Cond.instanceMethod yX11_block ∈ rd_gw := rd_mem 727 (by decide +kernel) rfl
theorem ms_X11_block : Cond.selects (MethodName.cls yX11_block) yX11_block yX11_block ∈ rd_gw := rd_mem 728 (by decide +kernel) rfl
theorem dX11_block_0 : decode cX11_block 0 = .ok (.iload_n 2, 1) := by decide +kernel
theorem dX11_block_1 : decode cX11_block 1 = .ok (.invokestatic 44, 3) := by decide +kernel
theorem dX11_block_4 : decode cX11_block 4 = .ok (.istore_n 3, 1) := by decide +kernel
theorem dX11_block_5 : decode cX11_block 5 = .ok (.iload_n 1, 1) := by decide +kernel
theorem dX11_block_6 : decode cX11_block 6 = .ok (.ldc 48, 2) := by decide +kernel
theorem dX11_block_8 : decode cX11_block 8 = .ok (.iand, 1) := by decide +kernel
theorem dX11_block_9 : decode cX11_block 9 = .ok (.bipush 10, 2) := by decide +kernel
theorem dX11_block_11 : decode cX11_block 11 = .ok (.ishl, 1) := by decide +kernel
theorem dX11_block_12 : decode cX11_block 12 = .ok (.istore 4, 2) := by decide +kernel
theorem dX11_block_14 : decode cX11_block 14 = .ok (.iload_n 3, 1) := by decide +kernel
theorem dX11_block_15 : decode cX11_block 15 = .ok (.iconst (-1), 1) := by decide +kernel
theorem dX11_block_16 : decode cX11_block 16 = .ok (.if_icmp .ne 7, 3) := by decide +kernel
theorem dX11_block_19 : decode cX11_block 19 = .ok (.iconst (-1), 1) := by decide +kernel
theorem dX11_block_20 : decode cX11_block 20 = .ok (.goto 13, 3) := by decide +kernel
theorem dX11_block_23 : decode cX11_block 23 = .ok (.iload 4, 2) := by decide +kernel
theorem dX11_block_25 : decode cX11_block 25 = .ok (.iload 4, 2) := by decide +kernel
theorem dX11_block_27 : decode cX11_block 27 = .ok (.invokestatic 49, 3) := by decide +kernel
theorem dX11_block_30 : decode cX11_block 30 = .ok (.iload_n 3, 1) := by decide +kernel
theorem dX11_block_31 : decode cX11_block 31 = .ok (.ixor, 1) := by decide +kernel
theorem dX11_block_32 : decode cX11_block 32 = .ok (.ior, 1) := by decide +kernel
theorem dX11_block_33 : decode cX11_block 33 = .ok (.ireturn, 1) := by decide +kernel
def B_X11_block_33 (w : rd_W) (t0 : Int32) (S : rd_S) : Option (Int32 × rd_S) :=
  some (t0, S)
theorem yb_X11_block_33 (cx : rd_Cx) (w : rd_W) (t0 : Int32) (S : rd_S) : rd_Y cx G_X11_block (fun r => rd_P cx G_X11_block.2.2.2.2.2 0 w (rd_rI w r)) (B_X11_block_33 w t0 S) 33 [] [.inl t0] w S 0 0 := by
  unfold B_X11_block_33
  exact ry_iret dX11_block_33 rfl (Nat.le_of_ble_eq_true rfl) (Nat.le_of_ble_eq_true rfl)
def F_X11_block (w : rd_W) (a0 : Nat) (x1 : Int32) (x2 : Int32) (S : rd_S) : Option (Int32 × rd_S) :=
  rd_b (F_X11_offsetOf w x2 S) fun v2 s1 =>
  rd_let (rd_shl (x1 &&& 65535) 10) fun v3 =>
  if v2 = (-1) then
  (B_X11_block_33 w (-1) s1)
  else
  (rd_b (F_X11_rest w v3 s1) fun v6 s5 =>
  B_X11_block_33 w (v3 ||| (v6 ^^^ v2)) s5)
theorem ym_X11_block (cx : rd_Cx) (w : rd_W) (a0 : Nat) (x1 : Int32) (x2 : Int32) (ha0 : rd_ok w a0 11) (S : rd_S) : rd_Y cx G_X11_block (fun r => rd_P cx G_X11_block.2.2.2.2.2 0 w (rd_rI w r)) (F_X11_block w a0 x1 x2 S) 0 (rd_as 0 [.inr (some a0), .inl x1, .inl x2]) [] w S 0 0 := by
  unfold F_X11_block
  refine ry_iload_n dX11_block_0 rfl ?_
  refine ry_callI (fun l r9 h9 => cm_X11_offsetOf l cx w x2 S r9 h9) (rd_runS (vs := [.inl x2]) dX11_block_1 yf_X11_offsetOf mt_X11_offsetOf ml_RX11_44 ⟨Nat.le_of_ble_eq_true rfl, Nat.le_of_ble_eq_true rfl⟩ (Nat.le_of_ble_eq_true rfl) rfl) rfl rfl (Nat.le_of_ble_eq_true rfl) (Nat.le_of_ble_eq_true rfl) (fun v2 s1 => ?_)
  refine ry_istore_n dX11_block_4 (by decide) ?_
  refine ry_iload_n dX11_block_5 rfl ?_
  refine ry_ldc (v := 65535) dX11_block_6 co_RX11_48 ?_
  refine ry_iand dX11_block_8 ?_
  refine ry_bipush (v := 10) dX11_block_9 (by decide) ?_
  refine ry_ishl dX11_block_11 ?_
  refine ry_istore dX11_block_12 (by decide) ?_
  refine ry_let (fun v3 => ?_)
  refine ry_iload_n dX11_block_14 rfl ?_
  refine ry_iconst (v := (-1)) dX11_block_15 (by decide) ?_
  refine ry_icmp_ne 23 dX11_block_16 (by decide) (fun c4 => ?_) (fun c4 => ?_)
  · refine ry_iconst (v := (-1)) dX11_block_19 (by decide) ?_
    refine ry_goto 33 dX11_block_20 (by decide) ?_
    exact ry_to (yb_X11_block_33 cx w (-1) s1) trivial
  · refine ry_iload dX11_block_23 rfl ?_
    refine ry_iload dX11_block_25 rfl ?_
    refine ry_callI (fun l r9 h9 => cm_X11_rest l cx w v3 s1 r9 h9) (rd_runS (vs := [.inl v3]) dX11_block_27 yf_X11_rest mt_X11_rest ml_RX11_49 ⟨Nat.le_of_ble_eq_true rfl, Nat.le_of_ble_eq_true rfl⟩ (Nat.le_of_ble_eq_true rfl) rfl) rfl rfl (Nat.le_of_ble_eq_true rfl) (Nat.le_of_ble_eq_true rfl) (fun v6 s5 => ?_)
    refine ry_iload_n dX11_block_30 rfl ?_
    refine ry_ixor dX11_block_31 ?_
    refine ry_ior dX11_block_32 ?_
    exact ry_to (yb_X11_block_33 cx w (v3 ||| (v6 ^^^ v2)) s5) trivial
theorem cm_X11_block (l : Launch) (cx : rd_Cx) (w : rd_W) (a0 : Nat) (x1 : Int32) (x2 : Int32) (ha0 : rd_ok w a0 11) (S : rd_S) (r : Int32 × rd_S) (h : F_X11_block w a0 x1 x2 S = some r) : rd_M l cx yX11_block G_X11_block 0 [.inr (some a0), .inl x1, .inl x2] w S (rd_rI w r) :=
  rd_enter (plainFor_of_name (by decide +kernel)) rfl (fun h => by cases h) (Nat.le_of_ble_eq_true rfl) (ym_X11_block cx w a0 x1 x2 ha0 S r h)
abbrev G_X12_block : rd_G := (RX12, cX12_block, 4, (some .int), false, { frames := 1, cells := 0, slots := 0, locals := 22 })
theorem yf_X12_block : rd_YL yX12_block G_X12_block 2 := ⟨rd_mem 852 (by decide +kernel) rfl, rd_mem 75 (by decide +kernel) rfl, by decide +kernel, by decide +kernel, by decide +kernel⟩
theorem mi_X12_block : Cond.instanceMethod yX12_block ∈ rd_gw := rd_mem 850 (by decide +kernel) rfl
theorem ms_X12_block : Cond.selects (MethodName.cls yX12_block) yX12_block yX12_block ∈ rd_gw := rd_mem 851 (by decide +kernel) rfl
theorem dX12_block_0 : decode cX12_block 0 = .ok (.aload_n 0, 1) := by decide +kernel
theorem dX12_block_1 : decode cX12_block 1 = .ok (.iconst 0, 1) := by decide +kernel
theorem dX12_block_2 : decode cX12_block 2 = .ok (.putfield 1, 3) := by decide +kernel
theorem dX12_block_5 : decode cX12_block 5 = .ok (.iload_n 2, 1) := by decide +kernel
theorem dX12_block_6 : decode cX12_block 6 = .ok (.ifCond .lt 8, 3) := by decide +kernel
theorem dX12_block_9 : decode cX12_block 9 = .ok (.iload_n 2, 1) := by decide +kernel
theorem dX12_block_10 : decode cX12_block 10 = .ok (.iconst 4, 1) := by decide +kernel
theorem dX12_block_11 : decode cX12_block 11 = .ok (.if_icmp .le 5, 3) := by decide +kernel
theorem dX12_block_14 : decode cX12_block 14 = .ok (.iconst (-1), 1) := by decide +kernel
theorem dX12_block_15 : decode cX12_block 15 = .ok (.ireturn, 1) := by decide +kernel
theorem dX12_block_16 : decode cX12_block 16 = .ok (.iload_n 1, 1) := by decide +kernel
theorem dX12_block_17 : decode cX12_block 17 = .ok (.ldc 21, 2) := by decide +kernel
theorem dX12_block_19 : decode cX12_block 19 = .ok (.iand, 1) := by decide +kernel
theorem dX12_block_20 : decode cX12_block 20 = .ok (.bipush 10, 2) := by decide +kernel
theorem dX12_block_22 : decode cX12_block 22 = .ok (.ishl, 1) := by decide +kernel
theorem dX12_block_23 : decode cX12_block 23 = .ok (.istore_n 3, 1) := by decide +kernel
theorem dX12_block_24 : decode cX12_block 24 = .ok (.iload_n 3, 1) := by decide +kernel
theorem dX12_block_25 : decode cX12_block 25 = .ok (.iload_n 3, 1) := by decide +kernel
theorem dX12_block_26 : decode cX12_block 26 = .ok (.invokestatic 7, 3) := by decide +kernel
theorem dX12_block_29 : decode cX12_block 29 = .ok (.iload_n 2, 1) := by decide +kernel
theorem dX12_block_30 : decode cX12_block 30 = .ok (.invokestatic 11, 3) := by decide +kernel
theorem dX12_block_33 : decode cX12_block 33 = .ok (.ixor, 1) := by decide +kernel
theorem dX12_block_34 : decode cX12_block 34 = .ok (.ior, 1) := by decide +kernel
theorem dX12_block_35 : decode cX12_block 35 = .ok (.ireturn, 1) := by decide +kernel
def B_X12_block_14 (w : rd_W) (S : rd_S) : Option (Int32 × rd_S) :=
  some ((-1), S)
theorem yb_X12_block_14 (cx : rd_Cx) (w : rd_W) (S : rd_S) : rd_Y cx G_X12_block (fun r => rd_P cx G_X12_block.2.2.2.2.2 0 w (rd_rI w r)) (B_X12_block_14 w S) 14 [] [] w S 0 0 := by
  unfold B_X12_block_14
  refine ry_iconst (v := (-1)) dX12_block_14 (by decide) ?_
  exact ry_iret dX12_block_15 rfl (Nat.le_of_ble_eq_true rfl) (Nat.le_of_ble_eq_true rfl)
def F_X12_block (w : rd_W) (a0 : Nat) (x1 : Int32) (x2 : Int32) (S : rd_S) : Option (Int32 × rd_S) :=
  rd_let (pI S a0 0 0) fun s1 =>
  if x2 < 0 then
  (B_X12_block_14 w s1)
  else
  (if x2 ≤ 4 then
  (rd_let (rd_shl (x1 &&& 65535) 10) fun v4 =>
  rd_b (F_X12_rest w v4 s1) fun v6 s5 =>
  rd_b (F_X12_offset w x2 s5) fun v8 s7 =>
  some (v4 ||| (v6 ^^^ v8), s7))
  else
  (B_X12_block_14 w s1))
theorem ym_X12_block (cx : rd_Cx) (w : rd_W) (a0 : Nat) (x1 : Int32) (x2 : Int32) (ha0 : rd_ok w a0 12) (S : rd_S) : rd_Y cx G_X12_block (fun r => rd_P cx G_X12_block.2.2.2.2.2 0 w (rd_rI w r)) (F_X12_block w a0 x1 x2 S) 0 (rd_as 0 [.inr (some a0), .inl x1, .inl x2]) [] w S 0 0 := by
  unfold F_X12_block
  refine ry_aload_n dX12_block_0 rfl ?_
  refine ry_iconst (v := 0) dX12_block_1 (by decide) ?_
  refine ry_puti dX12_block_2 ha0 fl_RX12_1 rfl rfl rfl ?_
  refine ry_letS (fun s1 => ?_)
  refine ry_iload_n dX12_block_5 rfl ?_
  refine ry_if_lt 14 dX12_block_6 (by decide) (fun c2 => ?_) (fun c2 => ?_)
  · exact ry_to (yb_X12_block_14 cx w s1) trivial
  · refine ry_iload_n dX12_block_9 rfl ?_
    refine ry_iconst (v := 4) dX12_block_10 (by decide) ?_
    refine ry_icmp_le 16 dX12_block_11 (by decide) (fun c3 => ?_) (fun c3 => ?_)
    · refine ry_iload_n dX12_block_16 rfl ?_
      refine ry_ldc (v := 65535) dX12_block_17 co_RX12_21 ?_
      refine ry_iand dX12_block_19 ?_
      refine ry_bipush (v := 10) dX12_block_20 (by decide) ?_
      refine ry_ishl dX12_block_22 ?_
      refine ry_istore_n dX12_block_23 (by decide) ?_
      refine ry_let (fun v4 => ?_)
      refine ry_iload_n dX12_block_24 rfl ?_
      refine ry_iload_n dX12_block_25 rfl ?_
      refine ry_callI (fun l r9 h9 => cm_X12_rest l cx w v4 s1 r9 h9) (rd_runS (vs := [.inl v4]) dX12_block_26 yf_X12_rest mt_X12_rest ml_RX12_7 ⟨Nat.le_of_ble_eq_true rfl, Nat.le_of_ble_eq_true rfl⟩ (Nat.le_of_ble_eq_true rfl) rfl) rfl rfl (Nat.le_of_ble_eq_true rfl) (Nat.le_of_ble_eq_true rfl) (fun v6 s5 => ?_)
      refine ry_iload_n dX12_block_29 rfl ?_
      refine ry_callI (fun l r9 h9 => cm_X12_offset l cx w x2 s5 r9 h9) (rd_runS (vs := [.inl x2]) dX12_block_30 yf_X12_offset mt_X12_offset ml_RX12_11 ⟨Nat.le_of_ble_eq_true rfl, Nat.le_of_ble_eq_true rfl⟩ (Nat.le_of_ble_eq_true rfl) rfl) rfl rfl (Nat.le_of_ble_eq_true rfl) (Nat.le_of_ble_eq_true rfl) (fun v8 s7 => ?_)
      refine ry_ixor dX12_block_33 ?_
      refine ry_ior dX12_block_34 ?_
      exact ry_iret dX12_block_35 rfl (Nat.le_of_ble_eq_true rfl) (Nat.le_of_ble_eq_true rfl)
    · exact ry_to (yb_X12_block_14 cx w s1) trivial
theorem cm_X12_block (l : Launch) (cx : rd_Cx) (w : rd_W) (a0 : Nat) (x1 : Int32) (x2 : Int32) (ha0 : rd_ok w a0 12) (S : rd_S) (r : Int32 × rd_S) (h : F_X12_block w a0 x1 x2 S = some r) : rd_M l cx yX12_block G_X12_block 0 [.inr (some a0), .inl x1, .inl x2] w S (rd_rI w r) :=
  rd_enter (plainFor_of_name (by decide +kernel)) rfl (fun h => by cases h) (Nat.le_of_ble_eq_true rfl) (ym_X12_block cx w a0 x1 x2 ha0 S r h)
abbrev G_X11_set : rd_G := (RX11, cX11_set, 3, (some .boolean), false, { frames := 0, cells := 0, slots := 0, locals := 0 })
theorem yf_X11_set : rd_YL yX11_set G_X11_set 2 := ⟨rd_mem 734 (by decide +kernel) rfl, rd_mem 62 (by decide +kernel) rfl, by decide +kernel, by decide +kernel, by decide +kernel⟩
theorem mi_X11_set : Cond.instanceMethod yX11_set ∈ rd_gw := rd_mem 732 (by decide +kernel) rfl
theorem ms_X11_set : Cond.selects (MethodName.cls yX11_set) yX11_set yX11_set ∈ rd_gw := rd_mem 733 (by decide +kernel) rfl
theorem dX11_set_0 : decode cX11_set 0 = .ok (.iload_n 1, 1) := by decide +kernel
theorem dX11_set_1 : decode cX11_set 1 = .ok (.ifCond .lt 19, 3) := by decide +kernel
theorem dX11_set_4 : decode cX11_set 4 = .ok (.iload_n 1, 1) := by decide +kernel
theorem dX11_set_5 : decode cX11_set 5 = .ok (.iconst 5, 1) := by decide +kernel
theorem dX11_set_6 : decode cX11_set 6 = .ok (.if_icmp .gt 14, 3) := by decide +kernel
theorem dX11_set_9 : decode cX11_set 9 = .ok (.iload_n 2, 1) := by decide +kernel
theorem dX11_set_10 : decode cX11_set 10 = .ok (.iconst 1, 1) := by decide +kernel
theorem dX11_set_11 : decode cX11_set 11 = .ok (.if_icmp .lt 9, 3) := by decide +kernel
theorem dX11_set_14 : decode cX11_set 14 = .ok (.iload_n 2, 1) := by decide +kernel
theorem dX11_set_15 : decode cX11_set 15 = .ok (.bipush 50, 2) := by decide +kernel
theorem dX11_set_17 : decode cX11_set 17 = .ok (.if_icmp .le 5, 3) := by decide +kernel
theorem dX11_set_20 : decode cX11_set 20 = .ok (.iconst 0, 1) := by decide +kernel
theorem dX11_set_21 : decode cX11_set 21 = .ok (.ireturn, 1) := by decide +kernel
theorem dX11_set_22 : decode cX11_set 22 = .ok (.aload_n 0, 1) := by decide +kernel
theorem dX11_set_23 : decode cX11_set 23 = .ok (.getfield 12, 3) := by decide +kernel
theorem dX11_set_26 : decode cX11_set 26 = .ok (.iload_n 1, 1) := by decide +kernel
theorem dX11_set_27 : decode cX11_set 27 = .ok (.putfield 52, 3) := by decide +kernel
theorem dX11_set_30 : decode cX11_set 30 = .ok (.aload_n 0, 1) := by decide +kernel
theorem dX11_set_31 : decode cX11_set 31 = .ok (.getfield 12, 3) := by decide +kernel
theorem dX11_set_34 : decode cX11_set 34 = .ok (.iload_n 2, 1) := by decide +kernel
theorem dX11_set_35 : decode cX11_set 35 = .ok (.putfield 56, 3) := by decide +kernel
theorem dX11_set_38 : decode cX11_set 38 = .ok (.iconst 1, 1) := by decide +kernel
theorem dX11_set_39 : decode cX11_set 39 = .ok (.ireturn, 1) := by decide +kernel
def B_X11_set_20 (w : rd_W) (S : rd_S) : Option (Int32 × rd_S) :=
  some (0, S)
theorem yb_X11_set_20 (cx : rd_Cx) (w : rd_W) (S : rd_S) : rd_Y cx G_X11_set (fun r => rd_P cx G_X11_set.2.2.2.2.2 0 w (rd_rI w r)) (B_X11_set_20 w S) 20 [] [] w S 0 0 := by
  unfold B_X11_set_20
  refine ry_iconst (v := 0) dX11_set_20 (by decide) ?_
  exact ry_zret dX11_set_21 rfl (by decide) (Nat.le_of_ble_eq_true rfl) (Nat.le_of_ble_eq_true rfl)
def F_X11_set (w : rd_W) (a0 : Nat) (x1 : Int32) (x2 : Int32) (S : rd_S) : Option (Int32 × rd_S) :=
  if x1 < 0 then
  (B_X11_set_20 w S)
  else
  (if 5 < x1 then
  (B_X11_set_20 w S)
  else
  (if x2 < 1 then
  (B_X11_set_20 w S)
  else
  (if x2 ≤ 50 then
  (rd_c (gR S a0 0) fun b5 =>
  rd_let (pI S b5 4 x1) fun s6 =>
  rd_c (gR s6 a0 0) fun b7 =>
  rd_let (pI s6 b7 5 x2) fun s8 =>
  some (1, s8))
  else
  (B_X11_set_20 w S))))
theorem ym_X11_set (cx : rd_Cx) (w : rd_W) (a0 : Nat) (x1 : Int32) (x2 : Int32) (ha0 : rd_ok w a0 11) (S : rd_S) : rd_Y cx G_X11_set (fun r => rd_P cx G_X11_set.2.2.2.2.2 0 w (rd_rI w r)) (F_X11_set w a0 x1 x2 S) 0 (rd_as 0 [.inr (some a0), .inl x1, .inl x2]) [] w S 0 0 := by
  unfold F_X11_set
  refine ry_iload_n dX11_set_0 rfl ?_
  refine ry_if_lt 20 dX11_set_1 (by decide) (fun c1 => ?_) (fun c1 => ?_)
  · exact ry_to (yb_X11_set_20 cx w S) trivial
  · refine ry_iload_n dX11_set_4 rfl ?_
    refine ry_iconst (v := 5) dX11_set_5 (by decide) ?_
    refine ry_icmp_gt 20 dX11_set_6 (by decide) (fun c2 => ?_) (fun c2 => ?_)
    · exact ry_to (yb_X11_set_20 cx w S) trivial
    · refine ry_iload_n dX11_set_9 rfl ?_
      refine ry_iconst (v := 1) dX11_set_10 (by decide) ?_
      refine ry_icmp_lt 20 dX11_set_11 (by decide) (fun c3 => ?_) (fun c3 => ?_)
      · exact ry_to (yb_X11_set_20 cx w S) trivial
      · refine ry_iload_n dX11_set_14 rfl ?_
        refine ry_bipush (v := 50) dX11_set_15 (by decide) ?_
        refine ry_icmp_le 22 dX11_set_17 (by decide) (fun c4 => ?_) (fun c4 => ?_)
        · refine ry_aload_n dX11_set_22 rfl ?_
          refine ry_getr dX11_set_23 ha0 fl_RX11_12 rfl (fun b5 hb5 => ?_)
          refine ry_iload_n dX11_set_26 rfl ?_
          refine ry_puti dX11_set_27 hb5 fl_RX11_52 rfl rfl rfl ?_
          refine ry_letS (fun s6 => ?_)
          refine ry_aload_n dX11_set_30 rfl ?_
          refine ry_getr dX11_set_31 ha0 fl_RX11_12 rfl (fun b7 hb7 => ?_)
          refine ry_iload_n dX11_set_34 rfl ?_
          refine ry_puti dX11_set_35 hb7 fl_RX11_56 rfl rfl rfl ?_
          refine ry_letS (fun s8 => ?_)
          refine ry_iconst (v := 1) dX11_set_38 (by decide) ?_
          exact ry_zret dX11_set_39 rfl (by decide) (Nat.le_of_ble_eq_true rfl) (Nat.le_of_ble_eq_true rfl)
        · exact ry_to (yb_X11_set_20 cx w S) trivial
theorem cm_X11_set (l : Launch) (cx : rd_Cx) (w : rd_W) (a0 : Nat) (x1 : Int32) (x2 : Int32) (ha0 : rd_ok w a0 11) (S : rd_S) (r : Int32 × rd_S) (h : F_X11_set w a0 x1 x2 S = some r) : rd_M l cx yX11_set G_X11_set 0 [.inr (some a0), .inl x1, .inl x2] w S (rd_rI w r) :=
  rd_enter (plainFor_of_name (by decide +kernel)) rfl (fun h => by cases h) (Nat.le_of_ble_eq_true rfl) (ym_X11_set cx w a0 x1 x2 ha0 S r h)
abbrev G_X12_set : rd_G := (RX12, cX12_set, 3, (some .boolean), false, { frames := 0, cells := 0, slots := 0, locals := 0 })
theorem yf_X12_set : rd_YL yX12_set G_X12_set 2 := ⟨rd_mem 863 (by decide +kernel) rfl, rd_mem 75 (by decide +kernel) rfl, by decide +kernel, by decide +kernel, by decide +kernel⟩
theorem mi_X12_set : Cond.instanceMethod yX12_set ∈ rd_gw := rd_mem 861 (by decide +kernel) rfl
theorem ms_X12_set : Cond.selects (MethodName.cls yX12_set) yX12_set yX12_set ∈ rd_gw := rd_mem 862 (by decide +kernel) rfl
theorem dX12_set_0 : decode cX12_set 0 = .ok (.aload_n 0, 1) := by decide +kernel
theorem dX12_set_1 : decode cX12_set 1 = .ok (.iconst 0, 1) := by decide +kernel
theorem dX12_set_2 : decode cX12_set 2 = .ok (.putfield 1, 3) := by decide +kernel
theorem dX12_set_5 : decode cX12_set 5 = .ok (.iload_n 1, 1) := by decide +kernel
theorem dX12_set_6 : decode cX12_set 6 = .ok (.ifCond .lt 19, 3) := by decide +kernel
theorem dX12_set_9 : decode cX12_set 9 = .ok (.iload_n 1, 1) := by decide +kernel
theorem dX12_set_10 : decode cX12_set 10 = .ok (.iconst 5, 1) := by decide +kernel
theorem dX12_set_11 : decode cX12_set 11 = .ok (.if_icmp .gt 14, 3) := by decide +kernel
theorem dX12_set_14 : decode cX12_set 14 = .ok (.iload_n 2, 1) := by decide +kernel
theorem dX12_set_15 : decode cX12_set 15 = .ok (.iconst 1, 1) := by decide +kernel
theorem dX12_set_16 : decode cX12_set 16 = .ok (.if_icmp .lt 9, 3) := by decide +kernel
theorem dX12_set_19 : decode cX12_set 19 = .ok (.iload_n 2, 1) := by decide +kernel
theorem dX12_set_20 : decode cX12_set 20 = .ok (.bipush 50, 2) := by decide +kernel
theorem dX12_set_22 : decode cX12_set 22 = .ok (.if_icmp .le 5, 3) := by decide +kernel
theorem dX12_set_25 : decode cX12_set 25 = .ok (.iconst 0, 1) := by decide +kernel
theorem dX12_set_26 : decode cX12_set 26 = .ok (.ireturn, 1) := by decide +kernel
theorem dX12_set_27 : decode cX12_set 27 = .ok (.aload_n 0, 1) := by decide +kernel
theorem dX12_set_28 : decode cX12_set 28 = .ok (.iload_n 1, 1) := by decide +kernel
theorem dX12_set_29 : decode cX12_set 29 = .ok (.putfield 18, 3) := by decide +kernel
theorem dX12_set_32 : decode cX12_set 32 = .ok (.aload_n 0, 1) := by decide +kernel
theorem dX12_set_33 : decode cX12_set 33 = .ok (.iload_n 2, 1) := by decide +kernel
theorem dX12_set_34 : decode cX12_set 34 = .ok (.putfield 22, 3) := by decide +kernel
theorem dX12_set_37 : decode cX12_set 37 = .ok (.iconst 1, 1) := by decide +kernel
theorem dX12_set_38 : decode cX12_set 38 = .ok (.ireturn, 1) := by decide +kernel
def B_X12_set_25 (w : rd_W) (S : rd_S) : Option (Int32 × rd_S) :=
  some (0, S)
theorem yb_X12_set_25 (cx : rd_Cx) (w : rd_W) (S : rd_S) : rd_Y cx G_X12_set (fun r => rd_P cx G_X12_set.2.2.2.2.2 0 w (rd_rI w r)) (B_X12_set_25 w S) 25 [] [] w S 0 0 := by
  unfold B_X12_set_25
  refine ry_iconst (v := 0) dX12_set_25 (by decide) ?_
  exact ry_zret dX12_set_26 rfl (by decide) (Nat.le_of_ble_eq_true rfl) (Nat.le_of_ble_eq_true rfl)
def F_X12_set (w : rd_W) (a0 : Nat) (x1 : Int32) (x2 : Int32) (S : rd_S) : Option (Int32 × rd_S) :=
  rd_let (pI S a0 0 0) fun s1 =>
  if x1 < 0 then
  (B_X12_set_25 w s1)
  else
  (if 5 < x1 then
  (B_X12_set_25 w s1)
  else
  (if x2 < 1 then
  (B_X12_set_25 w s1)
  else
  (if x2 ≤ 50 then
  (rd_let (pI s1 a0 1 x1) fun s6 =>
  rd_let (pI s6 a0 2 x2) fun s7 =>
  some (1, s7))
  else
  (B_X12_set_25 w s1))))
theorem ym_X12_set (cx : rd_Cx) (w : rd_W) (a0 : Nat) (x1 : Int32) (x2 : Int32) (ha0 : rd_ok w a0 12) (S : rd_S) : rd_Y cx G_X12_set (fun r => rd_P cx G_X12_set.2.2.2.2.2 0 w (rd_rI w r)) (F_X12_set w a0 x1 x2 S) 0 (rd_as 0 [.inr (some a0), .inl x1, .inl x2]) [] w S 0 0 := by
  unfold F_X12_set
  refine ry_aload_n dX12_set_0 rfl ?_
  refine ry_iconst (v := 0) dX12_set_1 (by decide) ?_
  refine ry_puti dX12_set_2 ha0 fl_RX12_1 rfl rfl rfl ?_
  refine ry_letS (fun s1 => ?_)
  refine ry_iload_n dX12_set_5 rfl ?_
  refine ry_if_lt 25 dX12_set_6 (by decide) (fun c2 => ?_) (fun c2 => ?_)
  · exact ry_to (yb_X12_set_25 cx w s1) trivial
  · refine ry_iload_n dX12_set_9 rfl ?_
    refine ry_iconst (v := 5) dX12_set_10 (by decide) ?_
    refine ry_icmp_gt 25 dX12_set_11 (by decide) (fun c3 => ?_) (fun c3 => ?_)
    · exact ry_to (yb_X12_set_25 cx w s1) trivial
    · refine ry_iload_n dX12_set_14 rfl ?_
      refine ry_iconst (v := 1) dX12_set_15 (by decide) ?_
      refine ry_icmp_lt 25 dX12_set_16 (by decide) (fun c4 => ?_) (fun c4 => ?_)
      · exact ry_to (yb_X12_set_25 cx w s1) trivial
      · refine ry_iload_n dX12_set_19 rfl ?_
        refine ry_bipush (v := 50) dX12_set_20 (by decide) ?_
        refine ry_icmp_le 27 dX12_set_22 (by decide) (fun c5 => ?_) (fun c5 => ?_)
        · refine ry_aload_n dX12_set_27 rfl ?_
          refine ry_iload_n dX12_set_28 rfl ?_
          refine ry_puti dX12_set_29 ha0 fl_RX12_18 rfl rfl rfl ?_
          refine ry_letS (fun s6 => ?_)
          refine ry_aload_n dX12_set_32 rfl ?_
          refine ry_iload_n dX12_set_33 rfl ?_
          refine ry_puti dX12_set_34 ha0 fl_RX12_22 rfl rfl rfl ?_
          refine ry_letS (fun s7 => ?_)
          refine ry_iconst (v := 1) dX12_set_37 (by decide) ?_
          exact ry_zret dX12_set_38 rfl (by decide) (Nat.le_of_ble_eq_true rfl) (Nat.le_of_ble_eq_true rfl)
        · exact ry_to (yb_X12_set_25 cx w s1) trivial
theorem cm_X12_set (l : Launch) (cx : rd_Cx) (w : rd_W) (a0 : Nat) (x1 : Int32) (x2 : Int32) (ha0 : rd_ok w a0 12) (S : rd_S) (r : Int32 × rd_S) (h : F_X12_set w a0 x1 x2 S = some r) : rd_M l cx yX12_set G_X12_set 0 [.inr (some a0), .inl x1, .inl x2] w S (rd_rI w r) :=
  rd_enter (plainFor_of_name (by decide +kernel)) rfl (fun h => by cases h) (Nat.le_of_ble_eq_true rfl) (ym_X12_set cx w a0 x1 x2 ha0 S r h)
abbrev G_X7_clear : rd_G := (RX7, cX7_clear, 1, none, false, { frames := 2, cells := 0, slots := 0, locals := 40 })
theorem yf_X7_clear : rd_YL yX7_clear G_X7_clear 0 := ⟨rd_mem 742 (by decide +kernel) rfl, rd_mem 63 (by decide +kernel) rfl, by decide +kernel, by decide +kernel, by decide +kernel⟩
theorem mi_X7_clear : Cond.instanceMethod yX7_clear ∈ rd_gw := rd_mem 740 (by decide +kernel) rfl
theorem ms_X7_clear : Cond.selects (MethodName.cls yX7_clear) yX7_clear yX7_clear ∈ rd_gw := rd_mem 741 (by decide +kernel) rfl
theorem dX7_clear_0 : decode cX7_clear 0 = .ok (.aload_n 0, 1) := by decide +kernel
theorem dX7_clear_1 : decode cX7_clear 1 = .ok (.getfield 29, 3) := by decide +kernel
theorem dX7_clear_4 : decode cX7_clear 4 = .ok (.iconst 0, 1) := by decide +kernel
theorem dX7_clear_5 : decode cX7_clear 5 = .ok (.invokestatic 42, 3) := by decide +kernel
theorem dX7_clear_8 : decode cX7_clear 8 = .ok (.aload_n 0, 1) := by decide +kernel
theorem dX7_clear_9 : decode cX7_clear 9 = .ok (.invokevirtual 48, 3) := by decide +kernel
theorem dX7_clear_12 : decode cX7_clear 12 = .ok (.aload_n 0, 1) := by decide +kernel
theorem dX7_clear_13 : decode cX7_clear 13 = .ok (.iconst 0, 1) := by decide +kernel
theorem dX7_clear_14 : decode cX7_clear 14 = .ok (.putfield 51, 3) := by decide +kernel
theorem dX7_clear_17 : decode cX7_clear 17 = .ok (.aload_n 0, 1) := by decide +kernel
theorem dX7_clear_18 : decode cX7_clear 18 = .ok (.iconst 0, 1) := by decide +kernel
theorem dX7_clear_19 : decode cX7_clear 19 = .ok (.putfield 54, 3) := by decide +kernel
theorem dX7_clear_22 : decode cX7_clear 22 = .ok (.aload_n 0, 1) := by decide +kernel
theorem dX7_clear_23 : decode cX7_clear 23 = .ok (.iconst 0, 1) := by decide +kernel
theorem dX7_clear_24 : decode cX7_clear 24 = .ok (.putfield 57, 3) := by decide +kernel
theorem dX7_clear_27 : decode cX7_clear 27 = .ok (.aload_n 0, 1) := by decide +kernel
theorem dX7_clear_28 : decode cX7_clear 28 = .ok (.iconst 0, 1) := by decide +kernel
theorem dX7_clear_29 : decode cX7_clear 29 = .ok (.putfield 60, 3) := by decide +kernel
theorem dX7_clear_32 : decode cX7_clear 32 = .ok (.aload_n 0, 1) := by decide +kernel
theorem dX7_clear_33 : decode cX7_clear 33 = .ok (.iconst 0, 1) := by decide +kernel
theorem dX7_clear_34 : decode cX7_clear 34 = .ok (.putfield 63, 3) := by decide +kernel
theorem dX7_clear_37 : decode cX7_clear 37 = .ok (.return_, 1) := by decide +kernel
def F_X7_clear (w : rd_W) (a0 : Nat) (S : rd_S) : Option (rd_S) :=
  rd_c (gR S a0 3) fun b1 =>
  rd_c (F_J7_fill_53178 w b1 0 S) fun s2 =>
  rd_c (F_X7_beginSearch w a0 s2) fun s3 =>
  rd_let (pI s3 a0 11 0) fun s4 =>
  rd_let (pI s4 a0 12 0) fun s5 =>
  rd_let (pI s5 a0 13 0) fun s6 =>
  rd_let (pI s6 a0 14 0) fun s7 =>
  rd_let (pI s7 a0 15 0) fun s8 =>
  some s8
theorem ym_X7_clear (cx : rd_Cx) (w : rd_W) (a0 : Nat) (ha0 : rd_ok w a0 7) (S : rd_S) : rd_Y cx G_X7_clear (fun r => rd_P cx G_X7_clear.2.2.2.2.2 0 w (rd_rV w r)) (F_X7_clear w a0 S) 0 (rd_as 0 [.inr (some a0)]) [] w S 0 0 := by
  unfold F_X7_clear
  refine ry_aload_n dX7_clear_0 rfl ?_
  refine ry_getr dX7_clear_1 ha0 fl_RX7_29 rfl (fun b1 hb1 => ?_)
  refine ry_iconst (v := 0) dX7_clear_4 (by decide) ?_
  refine ry_callv (fun l r9 h9 => cm_J7_fill_53178 l cx w b1 0 hb1 S r9 h9) (rd_runS (vs := [.inr (some b1), .inl 0]) dX7_clear_5 yf_J7_fill_53178 mt_J7_fill_53178 ml_RX7_42 ⟨Nat.le_of_ble_eq_true rfl, Nat.le_of_ble_eq_true rfl⟩ (Nat.le_of_ble_eq_true rfl) rfl) rfl rfl (Nat.le_of_ble_eq_true rfl) (Nat.le_of_ble_eq_true rfl) (fun s2 => ?_)
  refine ry_aload_n dX7_clear_8 rfl ?_
  refine ry_callv (fun l r9 h9 => cm_X7_beginSearch l cx w a0 ha0 s2 r9 h9) (rd_runV (vs := []) dX7_clear_9 ha0 rfl rfl yf_X7_beginSearch mi_X7_beginSearch ms_X7_beginSearch ml_RX7_48 ⟨Nat.le_of_ble_eq_true rfl, Nat.le_of_ble_eq_true rfl⟩ (Nat.le_of_ble_eq_true rfl) rfl) rfl rfl (Nat.le_of_ble_eq_true rfl) (Nat.le_of_ble_eq_true rfl) (fun s3 => ?_)
  refine ry_aload_n dX7_clear_12 rfl ?_
  refine ry_iconst (v := 0) dX7_clear_13 (by decide) ?_
  refine ry_puti dX7_clear_14 ha0 fl_RX7_51 rfl rfl rfl ?_
  refine ry_letS (fun s4 => ?_)
  refine ry_aload_n dX7_clear_17 rfl ?_
  refine ry_iconst (v := 0) dX7_clear_18 (by decide) ?_
  refine ry_puti dX7_clear_19 ha0 fl_RX7_54 rfl rfl rfl ?_
  refine ry_letS (fun s5 => ?_)
  refine ry_aload_n dX7_clear_22 rfl ?_
  refine ry_iconst (v := 0) dX7_clear_23 (by decide) ?_
  refine ry_puti dX7_clear_24 ha0 fl_RX7_57 rfl rfl rfl ?_
  refine ry_letS (fun s6 => ?_)
  refine ry_aload_n dX7_clear_27 rfl ?_
  refine ry_iconst (v := 0) dX7_clear_28 (by decide) ?_
  refine ry_puti dX7_clear_29 ha0 fl_RX7_60 rfl rfl rfl ?_
  refine ry_letS (fun s7 => ?_)
  refine ry_aload_n dX7_clear_32 rfl ?_
  refine ry_iconst (v := 0) dX7_clear_33 (by decide) ?_
  refine ry_puti dX7_clear_34 ha0 fl_RX7_63 rfl rfl rfl ?_
  refine ry_letS (fun s8 => ?_)
  exact ry_vret dX7_clear_37 rfl (Nat.le_of_ble_eq_true rfl) (Nat.le_of_ble_eq_true rfl)
theorem cm_X7_clear (l : Launch) (cx : rd_Cx) (w : rd_W) (a0 : Nat) (ha0 : rd_ok w a0 7) (S : rd_S) (r : rd_S) (h : F_X7_clear w a0 S = some r) : rd_M l cx yX7_clear G_X7_clear 0 [.inr (some a0)] w S (rd_rV w r) :=
  rd_enter (plainFor_of_name (by decide +kernel)) rfl (fun h => by cases h) (Nat.le_of_ble_eq_true rfl) (ym_X7_clear cx w a0 ha0 S r h)
abbrev G_X11_forget : rd_G := (RX11, cX11_forget, 1, none, false, { frames := 3, cells := 0, slots := 0, locals := 63 })
theorem yf_X11_forget : rd_YL yX11_forget G_X11_forget 0 := ⟨rd_mem 738 (by decide +kernel) rfl, rd_mem 62 (by decide +kernel) rfl, by decide +kernel, by decide +kernel, by decide +kernel⟩
theorem mi_X11_forget : Cond.instanceMethod yX11_forget ∈ rd_gw := rd_mem 736 (by decide +kernel) rfl
theorem ms_X11_forget : Cond.selects (MethodName.cls yX11_forget) yX11_forget yX11_forget ∈ rd_gw := rd_mem 737 (by decide +kernel) rfl
theorem dX11_forget_0 : decode cX11_forget 0 = .ok (.aload_n 0, 1) := by decide +kernel
theorem dX11_forget_1 : decode cX11_forget 1 = .ok (.getfield 12, 3) := by decide +kernel
theorem dX11_forget_4 : decode cX11_forget 4 = .ok (.invokevirtual 59, 3) := by decide +kernel
theorem dX11_forget_7 : decode cX11_forget 7 = .ok (.aload_n 0, 1) := by decide +kernel
theorem dX11_forget_8 : decode cX11_forget 8 = .ok (.getfield 19, 3) := by decide +kernel
theorem dX11_forget_11 : decode cX11_forget 11 = .ok (.iconst (-1), 1) := by decide +kernel
theorem dX11_forget_12 : decode cX11_forget 12 = .ok (.invokevirtual 62, 3) := by decide +kernel
theorem dX11_forget_15 : decode cX11_forget 15 = .ok (.aload_n 0, 1) := by decide +kernel
theorem dX11_forget_16 : decode cX11_forget 16 = .ok (.getfield 26, 3) := by decide +kernel
theorem dX11_forget_19 : decode cX11_forget 19 = .ok (.invokevirtual 65, 3) := by decide +kernel
theorem dX11_forget_22 : decode cX11_forget 22 = .ok (.return_, 1) := by decide +kernel
def F_X11_forget (w : rd_W) (a0 : Nat) (S : rd_S) : Option (rd_S) :=
  rd_c (gR S a0 0) fun b1 =>
  rd_c (F_X7_clear w b1 S) fun s2 =>
  rd_c (gR s2 a0 1) fun b3 =>
  rd_c (F_X3_clear w b3 (-1) s2) fun s4 =>
  rd_c (gR s4 a0 2) fun b5 =>
  rd_c (F_X8_clear w b5 s4) fun s6 =>
  some s6
theorem ym_X11_forget (cx : rd_Cx) (w : rd_W) (a0 : Nat) (ha0 : rd_ok w a0 11) (S : rd_S) : rd_Y cx G_X11_forget (fun r => rd_P cx G_X11_forget.2.2.2.2.2 0 w (rd_rV w r)) (F_X11_forget w a0 S) 0 (rd_as 0 [.inr (some a0)]) [] w S 0 0 := by
  unfold F_X11_forget
  refine ry_aload_n dX11_forget_0 rfl ?_
  refine ry_getr dX11_forget_1 ha0 fl_RX11_12 rfl (fun b1 hb1 => ?_)
  refine ry_callv (fun l r9 h9 => cm_X7_clear l cx w b1 hb1 S r9 h9) (rd_runV (vs := []) dX11_forget_4 hb1 rfl rfl yf_X7_clear mi_X7_clear ms_X7_clear ml_RX11_59 ⟨Nat.le_of_ble_eq_true rfl, Nat.le_of_ble_eq_true rfl⟩ (Nat.le_of_ble_eq_true rfl) rfl) rfl rfl (Nat.le_of_ble_eq_true rfl) (Nat.le_of_ble_eq_true rfl) (fun s2 => ?_)
  refine ry_aload_n dX11_forget_7 rfl ?_
  refine ry_getr dX11_forget_8 ha0 fl_RX11_19 rfl (fun b3 hb3 => ?_)
  refine ry_iconst (v := (-1)) dX11_forget_11 (by decide) ?_
  refine ry_callv (fun l r9 h9 => cm_X3_clear l cx w b3 (-1) hb3 s2 r9 h9) (rd_runV (vs := [.inl (-1)]) dX11_forget_12 hb3 rfl rfl yf_X3_clear mi_X3_clear ms_X3_clear ml_RX11_62 ⟨Nat.le_of_ble_eq_true rfl, Nat.le_of_ble_eq_true rfl⟩ (Nat.le_of_ble_eq_true rfl) rfl) rfl rfl (Nat.le_of_ble_eq_true rfl) (Nat.le_of_ble_eq_true rfl) (fun s4 => ?_)
  refine ry_aload_n dX11_forget_15 rfl ?_
  refine ry_getr dX11_forget_16 ha0 fl_RX11_26 rfl (fun b5 hb5 => ?_)
  refine ry_callv (fun l r9 h9 => cm_X8_clear l cx w b5 hb5 s4 r9 h9) (rd_runV (vs := []) dX11_forget_19 hb5 rfl rfl yf_X8_clear mi_X8_clear ms_X8_clear ml_RX11_65 ⟨Nat.le_of_ble_eq_true rfl, Nat.le_of_ble_eq_true rfl⟩ (Nat.le_of_ble_eq_true rfl) rfl) rfl rfl (Nat.le_of_ble_eq_true rfl) (Nat.le_of_ble_eq_true rfl) (fun s6 => ?_)
  exact ry_vret dX11_forget_22 rfl (Nat.le_of_ble_eq_true rfl) (Nat.le_of_ble_eq_true rfl)
theorem cm_X11_forget (l : Launch) (cx : rd_Cx) (w : rd_W) (a0 : Nat) (ha0 : rd_ok w a0 11) (S : rd_S) (r : rd_S) (h : F_X11_forget w a0 S = some r) : rd_M l cx yX11_forget G_X11_forget 0 [.inr (some a0)] w S (rd_rV w r) :=
  rd_enter (plainFor_of_name (by decide +kernel)) rfl (fun h => by cases h) (Nat.le_of_ble_eq_true rfl) (ym_X11_forget cx w a0 ha0 S r h)
abbrev G_X12_forget : rd_G := (RX12, cX12_forget, 2, none, false, { frames := 1, cells := 0, slots := 0, locals := 21 })
theorem yf_X12_forget : rd_YL yX12_forget G_X12_forget 0 := ⟨rd_mem 1167 (by decide +kernel) rfl, rd_mem 75 (by decide +kernel) rfl, by decide +kernel, by decide +kernel, by decide +kernel⟩
theorem mi_X12_forget : Cond.instanceMethod yX12_forget ∈ rd_gw := rd_mem 1165 (by decide +kernel) rfl
theorem ms_X12_forget : Cond.selects (MethodName.cls yX12_forget) yX12_forget yX12_forget ∈ rd_gw := rd_mem 1166 (by decide +kernel) rfl
theorem dX12_forget_0 : decode cX12_forget 0 = .ok (.aload_n 0, 1) := by decide +kernel
theorem dX12_forget_1 : decode cX12_forget 1 = .ok (.iconst 0, 1) := by decide +kernel
theorem dX12_forget_2 : decode cX12_forget 2 = .ok (.putfield 1, 3) := by decide +kernel
theorem dX12_forget_5 : decode cX12_forget 5 = .ok (.aload_n 0, 1) := by decide +kernel
theorem dX12_forget_6 : decode cX12_forget 6 = .ok (.invokevirtual 130, 3) := by decide +kernel
theorem dX12_forget_9 : decode cX12_forget 9 = .ok (.aload_n 0, 1) := by decide +kernel
theorem dX12_forget_10 : decode cX12_forget 10 = .ok (.invokevirtual 99, 3) := by decide +kernel
theorem dX12_forget_13 : decode cX12_forget 13 = .ok (.aload_n 0, 1) := by decide +kernel
theorem dX12_forget_14 : decode cX12_forget 14 = .ok (.iconst 0, 1) := by decide +kernel
theorem dX12_forget_15 : decode cX12_forget 15 = .ok (.putfield 39, 3) := by decide +kernel
theorem dX12_forget_18 : decode cX12_forget 18 = .ok (.iconst 0, 1) := by decide +kernel
theorem dX12_forget_19 : decode cX12_forget 19 = .ok (.istore_n 1, 1) := by decide +kernel
theorem dX12_forget_20 : decode cX12_forget 20 = .ok (.iload_n 1, 1) := by decide +kernel
theorem dX12_forget_21 : decode cX12_forget 21 = .ok (.iconst 3, 1) := by decide +kernel
theorem dX12_forget_22 : decode cX12_forget 22 = .ok (.if_icmp .ge 16, 3) := by decide +kernel
theorem dX12_forget_25 : decode cX12_forget 25 = .ok (.aload_n 0, 1) := by decide +kernel
theorem dX12_forget_26 : decode cX12_forget 26 = .ok (.getfield 87, 3) := by decide +kernel
theorem dX12_forget_29 : decode cX12_forget 29 = .ok (.iload_n 1, 1) := by decide +kernel
theorem dX12_forget_30 : decode cX12_forget 30 = .ok (.iconst 0, 1) := by decide +kernel
theorem dX12_forget_31 : decode cX12_forget 31 = .ok (.iastore, 1) := by decide +kernel
theorem dX12_forget_32 : decode cX12_forget 32 = .ok (.iinc 1 1, 3) := by decide +kernel
theorem dX12_forget_35 : decode cX12_forget 35 = .ok (.goto (-15), 3) := by decide +kernel
theorem dX12_forget_38 : decode cX12_forget 38 = .ok (.aload_n 0, 1) := by decide +kernel
theorem dX12_forget_39 : decode cX12_forget 39 = .ok (.iconst 0, 1) := by decide +kernel
theorem dX12_forget_40 : decode cX12_forget 40 = .ok (.putfield 62, 3) := by decide +kernel
theorem dX12_forget_43 : decode cX12_forget 43 = .ok (.aload_n 0, 1) := by decide +kernel
theorem dX12_forget_44 : decode cX12_forget 44 = .ok (.iconst 0, 1) := by decide +kernel
theorem dX12_forget_45 : decode cX12_forget 45 = .ok (.putfield 96, 3) := by decide +kernel
theorem dX12_forget_48 : decode cX12_forget 48 = .ok (.aload_n 0, 1) := by decide +kernel
theorem dX12_forget_49 : decode cX12_forget 49 = .ok (.iconst 0, 1) := by decide +kernel
theorem dX12_forget_50 : decode cX12_forget 50 = .ok (.putfield 105, 3) := by decide +kernel
theorem dX12_forget_53 : decode cX12_forget 53 = .ok (.aload_n 0, 1) := by decide +kernel
theorem dX12_forget_54 : decode cX12_forget 54 = .ok (.iconst 0, 1) := by decide +kernel
theorem dX12_forget_55 : decode cX12_forget 55 = .ok (.putfield 118, 3) := by decide +kernel
theorem dX12_forget_58 : decode cX12_forget 58 = .ok (.aload_n 0, 1) := by decide +kernel
theorem dX12_forget_59 : decode cX12_forget 59 = .ok (.iconst 0, 1) := by decide +kernel
theorem dX12_forget_60 : decode cX12_forget 60 = .ok (.putfield 121, 3) := by decide +kernel
theorem dX12_forget_63 : decode cX12_forget 63 = .ok (.aload_n 0, 1) := by decide +kernel
theorem dX12_forget_64 : decode cX12_forget 64 = .ok (.iconst 0, 1) := by decide +kernel
theorem dX12_forget_65 : decode cX12_forget 65 = .ok (.putfield 71, 3) := by decide +kernel
theorem dX12_forget_68 : decode cX12_forget 68 = .ok (.return_, 1) := by decide +kernel
def B_X12_forget_20 (w : rd_W) (k20 : Nat → Int32 → rd_S → Option (rd_S)) (a0 : Nat) (x1 : Int32) (S : rd_S) : Option (rd_S) :=
  if 3 ≤ x1 then
  (rd_let (pI S a0 14 0) fun s6 =>
  rd_let (pI s6 a0 15 0) fun s7 =>
  rd_let (pI s7 a0 16 0) fun s8 =>
  rd_let (pI s8 a0 17 0) fun s9 =>
  rd_let (pI s9 a0 24 0) fun s10 =>
  rd_let (pI s10 a0 8 0) fun s11 =>
  some s11)
  else
  (rd_c (gR S a0 13) fun b12 =>
  rd_i x1 (w.2.2 b12) <|
  rd_let (pI S b12 x1.toNatClampNeg 0) fun s13 =>
  rd_let (x1 + 1) fun v14 =>
  k20 a0 v14 s13)
theorem yb_X12_forget_20 (cx : rd_Cx) (w : rd_W) {k20 : Nat → Int32 → rd_S → Option (rd_S)} (hk20 : ∀ (a0 : Nat) (x1 : Int32) (ha0 : rd_ok w a0 12) (S : rd_S), rd_Y cx G_X12_forget (fun r => rd_P cx G_X12_forget.2.2.2.2.2 0 w (rd_rV w r)) (k20 a0 x1 S) 20 [(0, .inr (some a0)), (1, .inl x1)] [] w S 0 0) (a0 : Nat) (x1 : Int32) (ha0 : rd_ok w a0 12) (S : rd_S) : rd_Y cx G_X12_forget (fun r => rd_P cx G_X12_forget.2.2.2.2.2 0 w (rd_rV w r)) (B_X12_forget_20 w k20 a0 x1 S) 20 [(0, .inr (some a0)), (1, .inl x1)] [] w S 0 0 := by
  unfold B_X12_forget_20
  refine ry_iload_n dX12_forget_20 rfl ?_
  refine ry_iconst (v := 3) dX12_forget_21 (by decide) ?_
  refine ry_icmp_ge 38 dX12_forget_22 (by decide) (fun c5 => ?_) (fun c5 => ?_)
  · refine ry_aload_n dX12_forget_38 rfl ?_
    refine ry_iconst (v := 0) dX12_forget_39 (by decide) ?_
    refine ry_puti dX12_forget_40 ha0 fl_RX12_62 rfl rfl rfl ?_
    refine ry_letS (fun s6 => ?_)
    refine ry_aload_n dX12_forget_43 rfl ?_
    refine ry_iconst (v := 0) dX12_forget_44 (by decide) ?_
    refine ry_puti dX12_forget_45 ha0 fl_RX12_96 rfl rfl rfl ?_
    refine ry_letS (fun s7 => ?_)
    refine ry_aload_n dX12_forget_48 rfl ?_
    refine ry_iconst (v := 0) dX12_forget_49 (by decide) ?_
    refine ry_puti dX12_forget_50 ha0 fl_RX12_105 rfl rfl rfl ?_
    refine ry_letS (fun s8 => ?_)
    refine ry_aload_n dX12_forget_53 rfl ?_
    refine ry_iconst (v := 0) dX12_forget_54 (by decide) ?_
    refine ry_puti dX12_forget_55 ha0 fl_RX12_118 rfl rfl rfl ?_
    refine ry_letS (fun s9 => ?_)
    refine ry_aload_n dX12_forget_58 rfl ?_
    refine ry_iconst (v := 0) dX12_forget_59 (by decide) ?_
    refine ry_putz dX12_forget_60 ha0 fl_RX12_121 rfl rfl rfl (by decide) ?_
    refine ry_letS (fun s10 => ?_)
    refine ry_aload_n dX12_forget_63 rfl ?_
    refine ry_iconst (v := 0) dX12_forget_64 (by decide) ?_
    refine ry_puti dX12_forget_65 ha0 fl_RX12_71 rfl rfl rfl ?_
    refine ry_letS (fun s11 => ?_)
    exact ry_vret dX12_forget_68 rfl (Nat.le_of_ble_eq_true rfl) (Nat.le_of_ble_eq_true rfl)
  · refine ry_aload_n dX12_forget_25 rfl ?_
    refine ry_getr dX12_forget_26 ha0 fl_RX12_87 rfl (fun b12 hb12 => ?_)
    refine ry_iload_n dX12_forget_29 rfl ?_
    refine ry_iconst (v := 0) dX12_forget_30 (by decide) ?_
    refine ry_iast dX12_forget_31 hb12 ?_
    refine ry_letS (fun s13 => ?_)
    refine ry_iinc (v := 1) dX12_forget_32 rfl (by decide) (by decide) ?_
    refine ry_let (fun v14 => ?_)
    refine ry_goto 20 dX12_forget_35 (by decide) ?_
    exact ry_to (hk20 a0 v14 ha0 s13) ⟨rfl, rfl, trivial⟩
def F_X12_forget_20 (w : rd_W) (n : Nat) : Nat → Int32 → rd_S → Option (rd_S) :=
  Nat.rec (motive := fun _ => Nat → Int32 → rd_S → Option (rd_S)) (fun _ _ _ => none) (fun _ ih => B_X12_forget_20 w ih) n
theorem yl_X12_forget_20 (cx : rd_Cx) (w : rd_W) : ∀ (n : Nat) (a0 : Nat) (x1 : Int32) (ha0 : rd_ok w a0 12) (S : rd_S), rd_Y cx G_X12_forget (fun r => rd_P cx G_X12_forget.2.2.2.2.2 0 w (rd_rV w r)) (F_X12_forget_20 w n a0 x1 S) 20 [(0, .inr (some a0)), (1, .inl x1)] [] w S 0 0 := by
  intro n
  induction n with
  | zero => intro a0 x1 ha0 S; exact ry_none
  | succ n ih => intro a0 x1 ha0 S; exact yb_X12_forget_20 cx w ih a0 x1 ha0 S
def F_X12_forget (w : rd_W) (a0 : Nat) (S : rd_S) : Option (rd_S) :=
  rd_let (pI S a0 0 0) fun s1 =>
  rd_c (F_X12_unknown w a0 s1) fun s2 =>
  rd_c (F_X12_restart w a0 s2) fun s3 =>
  rd_let (pI s3 a0 6 0) fun s4 =>
  F_X12_forget_20 w rd_big a0 0 s4
theorem ym_X12_forget (cx : rd_Cx) (w : rd_W) (a0 : Nat) (ha0 : rd_ok w a0 12) (S : rd_S) : rd_Y cx G_X12_forget (fun r => rd_P cx G_X12_forget.2.2.2.2.2 0 w (rd_rV w r)) (F_X12_forget w a0 S) 0 (rd_as 0 [.inr (some a0)]) [] w S 0 0 := by
  unfold F_X12_forget
  refine ry_aload_n dX12_forget_0 rfl ?_
  refine ry_iconst (v := 0) dX12_forget_1 (by decide) ?_
  refine ry_puti dX12_forget_2 ha0 fl_RX12_1 rfl rfl rfl ?_
  refine ry_letS (fun s1 => ?_)
  refine ry_aload_n dX12_forget_5 rfl ?_
  refine ry_callv (fun l r9 h9 => cm_X12_unknown l cx w a0 ha0 s1 r9 h9) (rd_runV (vs := []) dX12_forget_6 ha0 rfl rfl yf_X12_unknown mi_X12_unknown ms_X12_unknown ml_RX12_130 ⟨Nat.le_of_ble_eq_true rfl, Nat.le_of_ble_eq_true rfl⟩ (Nat.le_of_ble_eq_true rfl) rfl) rfl rfl (Nat.le_of_ble_eq_true rfl) (Nat.le_of_ble_eq_true rfl) (fun s2 => ?_)
  refine ry_aload_n dX12_forget_9 rfl ?_
  refine ry_callv (fun l r9 h9 => cm_X12_restart l cx w a0 ha0 s2 r9 h9) (rd_runV (vs := []) dX12_forget_10 ha0 rfl rfl yf_X12_restart mi_X12_restart ms_X12_restart ml_RX12_99 ⟨Nat.le_of_ble_eq_true rfl, Nat.le_of_ble_eq_true rfl⟩ (Nat.le_of_ble_eq_true rfl) rfl) rfl rfl (Nat.le_of_ble_eq_true rfl) (Nat.le_of_ble_eq_true rfl) (fun s3 => ?_)
  refine ry_aload_n dX12_forget_13 rfl ?_
  refine ry_iconst (v := 0) dX12_forget_14 (by decide) ?_
  refine ry_puti dX12_forget_15 ha0 fl_RX12_39 rfl rfl rfl ?_
  refine ry_letS (fun s4 => ?_)
  refine ry_iconst (v := 0) dX12_forget_18 (by decide) ?_
  refine ry_istore_n dX12_forget_19 (by decide) ?_
  exact ry_to (yl_X12_forget_20 cx w rd_big a0 0 ha0 s4) ⟨rfl, rfl, trivial⟩
theorem cm_X12_forget (l : Launch) (cx : rd_Cx) (w : rd_W) (a0 : Nat) (ha0 : rd_ok w a0 12) (S : rd_S) (r : rd_S) (h : F_X12_forget w a0 S = some r) : rd_M l cx yX12_forget G_X12_forget 0 [.inr (some a0)] w S (rd_rV w r) :=
  rd_enter (plainFor_of_name (by decide +kernel)) rfl (fun h => by cases h) (Nat.le_of_ble_eq_true rfl) (ym_X12_forget cx w a0 ha0 S r h)
abbrev G_X7_tell : rd_G := (RX7, cX7_tell, 2, (some .int), false, { frames := 1, cells := 0, slots := 0, locals := 21 })
theorem yf_X7_tell : rd_YL yX7_tell G_X7_tell 1 := ⟨rd_mem 753 (by decide +kernel) rfl, rd_mem 63 (by decide +kernel) rfl, by decide +kernel, by decide +kernel, by decide +kernel⟩
theorem mi_X7_tell : Cond.instanceMethod yX7_tell ∈ rd_gw := rd_mem 751 (by decide +kernel) rfl
theorem ms_X7_tell : Cond.selects (MethodName.cls yX7_tell) yX7_tell yX7_tell ∈ rd_gw := rd_mem 752 (by decide +kernel) rfl
theorem dX7_tell_0 : decode cX7_tell 0 = .ok (.iload_n 1, 1) := by decide +kernel
theorem dX7_tell_1 : decode cX7_tell 1 = .ok (.tableswitch 138 0 10 #[59, 73, 78, 87, 96, 105, 110, 115, 120, 125, 130], 59) := by decide +kernel
theorem dX7_tell_60 : decode cX7_tell 60 = .ok (.aload_n 0, 1) := by decide +kernel
theorem dX7_tell_61 : decode cX7_tell 61 = .ok (.getfield 39, 3) := by decide +kernel
theorem dX7_tell_64 : decode cX7_tell 64 = .ok (.iconst (-1), 1) := by decide +kernel
theorem dX7_tell_65 : decode cX7_tell 65 = .ok (.if_icmp .ne 7, 3) := by decide +kernel
theorem dX7_tell_68 : decode cX7_tell 68 = .ok (.iconst 0, 1) := by decide +kernel
theorem dX7_tell_69 : decode cX7_tell 69 = .ok (.goto 4, 3) := by decide +kernel
theorem dX7_tell_72 : decode cX7_tell 72 = .ok (.iconst 1, 1) := by decide +kernel
theorem dX7_tell_73 : decode cX7_tell 73 = .ok (.ireturn, 1) := by decide +kernel
theorem dX7_tell_74 : decode cX7_tell 74 = .ok (.aload_n 0, 1) := by decide +kernel
theorem dX7_tell_75 : decode cX7_tell 75 = .ok (.getfield 51, 3) := by decide +kernel
theorem dX7_tell_78 : decode cX7_tell 78 = .ok (.ireturn, 1) := by decide +kernel
theorem dX7_tell_79 : decode cX7_tell 79 = .ok (.aload_n 0, 1) := by decide +kernel
theorem dX7_tell_80 : decode cX7_tell 80 = .ok (.getfield 29, 3) := by decide +kernel
theorem dX7_tell_83 : decode cX7_tell 83 = .ok (.iconst 0, 1) := by decide +kernel
theorem dX7_tell_84 : decode cX7_tell 84 = .ok (.invokestatic 113, 3) := by decide +kernel
theorem dX7_tell_87 : decode cX7_tell 87 = .ok (.ireturn, 1) := by decide +kernel
theorem dX7_tell_88 : decode cX7_tell 88 = .ok (.aload_n 0, 1) := by decide +kernel
theorem dX7_tell_89 : decode cX7_tell 89 = .ok (.getfield 29, 3) := by decide +kernel
theorem dX7_tell_92 : decode cX7_tell 92 = .ok (.iconst 1, 1) := by decide +kernel
theorem dX7_tell_93 : decode cX7_tell 93 = .ok (.invokestatic 113, 3) := by decide +kernel
theorem dX7_tell_96 : decode cX7_tell 96 = .ok (.ireturn, 1) := by decide +kernel
theorem dX7_tell_97 : decode cX7_tell 97 = .ok (.aload_n 0, 1) := by decide +kernel
theorem dX7_tell_98 : decode cX7_tell 98 = .ok (.getfield 29, 3) := by decide +kernel
theorem dX7_tell_101 : decode cX7_tell 101 = .ok (.iconst 2, 1) := by decide +kernel
theorem dX7_tell_102 : decode cX7_tell 102 = .ok (.invokestatic 113, 3) := by decide +kernel
theorem dX7_tell_105 : decode cX7_tell 105 = .ok (.ireturn, 1) := by decide +kernel
theorem dX7_tell_106 : decode cX7_tell 106 = .ok (.aload_n 0, 1) := by decide +kernel
theorem dX7_tell_107 : decode cX7_tell 107 = .ok (.getfield 54, 3) := by decide +kernel
theorem dX7_tell_110 : decode cX7_tell 110 = .ok (.ireturn, 1) := by decide +kernel
theorem dX7_tell_111 : decode cX7_tell 111 = .ok (.aload_n 0, 1) := by decide +kernel
theorem dX7_tell_112 : decode cX7_tell 112 = .ok (.getfield 57, 3) := by decide +kernel
theorem dX7_tell_115 : decode cX7_tell 115 = .ok (.ireturn, 1) := by decide +kernel
theorem dX7_tell_116 : decode cX7_tell 116 = .ok (.aload_n 0, 1) := by decide +kernel
theorem dX7_tell_117 : decode cX7_tell 117 = .ok (.getfield 60, 3) := by decide +kernel
theorem dX7_tell_120 : decode cX7_tell 120 = .ok (.ireturn, 1) := by decide +kernel
theorem dX7_tell_121 : decode cX7_tell 121 = .ok (.aload_n 0, 1) := by decide +kernel
theorem dX7_tell_122 : decode cX7_tell 122 = .ok (.getfield 63, 3) := by decide +kernel
theorem dX7_tell_125 : decode cX7_tell 125 = .ok (.ireturn, 1) := by decide +kernel
theorem dX7_tell_126 : decode cX7_tell 126 = .ok (.aload_n 0, 1) := by decide +kernel
theorem dX7_tell_127 : decode cX7_tell 127 = .ok (.getfield 39, 3) := by decide +kernel
theorem dX7_tell_130 : decode cX7_tell 130 = .ok (.ireturn, 1) := by decide +kernel
theorem dX7_tell_131 : decode cX7_tell 131 = .ok (.aload_n 0, 1) := by decide +kernel
theorem dX7_tell_132 : decode cX7_tell 132 = .ok (.getfield 21, 3) := by decide +kernel
theorem dX7_tell_135 : decode cX7_tell 135 = .ok (.getfield 138, 3) := by decide +kernel
theorem dX7_tell_138 : decode cX7_tell 138 = .ok (.ireturn, 1) := by decide +kernel
theorem dX7_tell_139 : decode cX7_tell 139 = .ok (.iconst (-1), 1) := by decide +kernel
theorem dX7_tell_140 : decode cX7_tell 140 = .ok (.ireturn, 1) := by decide +kernel
def B_X7_tell_73 (w : rd_W) (t0 : Int32) (S : rd_S) : Option (Int32 × rd_S) :=
  some (t0, S)
theorem yb_X7_tell_73 (cx : rd_Cx) (w : rd_W) (t0 : Int32) (S : rd_S) : rd_Y cx G_X7_tell (fun r => rd_P cx G_X7_tell.2.2.2.2.2 0 w (rd_rI w r)) (B_X7_tell_73 w t0 S) 73 [] [.inl t0] w S 0 0 := by
  unfold B_X7_tell_73
  exact ry_iret dX7_tell_73 rfl (Nat.le_of_ble_eq_true rfl) (Nat.le_of_ble_eq_true rfl)
def F_X7_tell (w : rd_W) (a0 : Nat) (x1 : Int32) (S : rd_S) : Option (Int32 × rd_S) :=
  if x1 = 0 then
  (if (gI S a0 10) = (-1) then
  (B_X7_tell_73 w 0 S)
  else
  (B_X7_tell_73 w 1 S))
  else
  if x1 = 1 then
  (some (gI S a0 11, S))
  else
  if x1 = 2 then
  (rd_c (gR S a0 3) fun b5 =>
  rd_b (F_X11_at w b5 0 S) fun v7 s6 =>
  some (v7, s6))
  else
  if x1 = 3 then
  (rd_c (gR S a0 3) fun b9 =>
  rd_b (F_X11_at w b9 1 S) fun v11 s10 =>
  some (v11, s10))
  else
  if x1 = 4 then
  (rd_c (gR S a0 3) fun b13 =>
  rd_b (F_X11_at w b13 2 S) fun v15 s14 =>
  some (v15, s14))
  else
  if x1 = 5 then
  (some (gI S a0 12, S))
  else
  if x1 = 6 then
  (some (gI S a0 13, S))
  else
  if x1 = 7 then
  (some (gI S a0 14, S))
  else
  if x1 = 8 then
  (some (gI S a0 15, S))
  else
  if x1 = 9 then
  (some (gI S a0 10, S))
  else
  if x1 = 10 then
  (rd_c (gR S a0 1) fun b22 =>
  some (gI S b22 3, S))
  else
  (some ((-1), S))
theorem ym_X7_tell (cx : rd_Cx) (w : rd_W) (a0 : Nat) (x1 : Int32) (ha0 : rd_ok w a0 7) (S : rd_S) : rd_Y cx G_X7_tell (fun r => rd_P cx G_X7_tell.2.2.2.2.2 0 w (rd_rI w r)) (F_X7_tell w a0 x1 S) 0 (rd_as 0 [.inr (some a0), .inl x1]) [] w S 0 0 := by
  unfold F_X7_tell
  refine ry_iload_n dX7_tell_0 rfl ?_
  refine ry_split _ (fun c1 => ?_) (fun c1 => ?_)
  · refine ry_tsIn 60 0 c1 dX7_tell_1 (by decide) (by decide) rfl (by decide) ?_
    refine ry_aload_n dX7_tell_60 rfl ?_
    refine ry_geti dX7_tell_61 ha0 fl_RX7_39 rfl ?_
    refine ry_iconst (v := (-1)) dX7_tell_64 (by decide) ?_
    refine ry_icmp_ne 72 dX7_tell_65 (by decide) (fun c2 => ?_) (fun c2 => ?_)
    · refine ry_iconst (v := 0) dX7_tell_68 (by decide) ?_
      refine ry_goto 73 dX7_tell_69 (by decide) ?_
      exact ry_to (yb_X7_tell_73 cx w 0 S) trivial
    · refine ry_iconst (v := 1) dX7_tell_72 (by decide) ?_
      exact ry_to (yb_X7_tell_73 cx w 1 S) trivial
  refine ry_split _ (fun c3 => ?_) (fun c3 => ?_)
  · refine ry_tsIn 74 1 c3 dX7_tell_1 (by decide) (by decide) rfl (by decide) ?_
    refine ry_aload_n dX7_tell_74 rfl ?_
    refine ry_geti dX7_tell_75 ha0 fl_RX7_51 rfl ?_
    exact ry_iret dX7_tell_78 rfl (Nat.le_of_ble_eq_true rfl) (Nat.le_of_ble_eq_true rfl)
  refine ry_split _ (fun c4 => ?_) (fun c4 => ?_)
  · refine ry_tsIn 79 2 c4 dX7_tell_1 (by decide) (by decide) rfl (by decide) ?_
    refine ry_aload_n dX7_tell_79 rfl ?_
    refine ry_getr dX7_tell_80 ha0 fl_RX7_29 rfl (fun b5 hb5 => ?_)
    refine ry_iconst (v := 0) dX7_tell_83 (by decide) ?_
    refine ry_callI (fun l r9 h9 => cm_X11_at l cx w b5 0 hb5 S r9 h9) (rd_runSN (vs := [.inr (some b5), .inl 0]) dX7_tell_84 yf_X11_at mt_X11_at mn_RX7_113 ⟨Nat.le_of_ble_eq_true rfl, Nat.le_of_ble_eq_true rfl⟩ (Nat.le_of_ble_eq_true rfl) rfl) rfl rfl (Nat.le_of_ble_eq_true rfl) (Nat.le_of_ble_eq_true rfl) (fun v7 s6 => ?_)
    exact ry_iret dX7_tell_87 rfl (Nat.le_of_ble_eq_true rfl) (Nat.le_of_ble_eq_true rfl)
  refine ry_split _ (fun c8 => ?_) (fun c8 => ?_)
  · refine ry_tsIn 88 3 c8 dX7_tell_1 (by decide) (by decide) rfl (by decide) ?_
    refine ry_aload_n dX7_tell_88 rfl ?_
    refine ry_getr dX7_tell_89 ha0 fl_RX7_29 rfl (fun b9 hb9 => ?_)
    refine ry_iconst (v := 1) dX7_tell_92 (by decide) ?_
    refine ry_callI (fun l r9 h9 => cm_X11_at l cx w b9 1 hb9 S r9 h9) (rd_runSN (vs := [.inr (some b9), .inl 1]) dX7_tell_93 yf_X11_at mt_X11_at mn_RX7_113 ⟨Nat.le_of_ble_eq_true rfl, Nat.le_of_ble_eq_true rfl⟩ (Nat.le_of_ble_eq_true rfl) rfl) rfl rfl (Nat.le_of_ble_eq_true rfl) (Nat.le_of_ble_eq_true rfl) (fun v11 s10 => ?_)
    exact ry_iret dX7_tell_96 rfl (Nat.le_of_ble_eq_true rfl) (Nat.le_of_ble_eq_true rfl)
  refine ry_split _ (fun c12 => ?_) (fun c12 => ?_)
  · refine ry_tsIn 97 4 c12 dX7_tell_1 (by decide) (by decide) rfl (by decide) ?_
    refine ry_aload_n dX7_tell_97 rfl ?_
    refine ry_getr dX7_tell_98 ha0 fl_RX7_29 rfl (fun b13 hb13 => ?_)
    refine ry_iconst (v := 2) dX7_tell_101 (by decide) ?_
    refine ry_callI (fun l r9 h9 => cm_X11_at l cx w b13 2 hb13 S r9 h9) (rd_runSN (vs := [.inr (some b13), .inl 2]) dX7_tell_102 yf_X11_at mt_X11_at mn_RX7_113 ⟨Nat.le_of_ble_eq_true rfl, Nat.le_of_ble_eq_true rfl⟩ (Nat.le_of_ble_eq_true rfl) rfl) rfl rfl (Nat.le_of_ble_eq_true rfl) (Nat.le_of_ble_eq_true rfl) (fun v15 s14 => ?_)
    exact ry_iret dX7_tell_105 rfl (Nat.le_of_ble_eq_true rfl) (Nat.le_of_ble_eq_true rfl)
  refine ry_split _ (fun c16 => ?_) (fun c16 => ?_)
  · refine ry_tsIn 106 5 c16 dX7_tell_1 (by decide) (by decide) rfl (by decide) ?_
    refine ry_aload_n dX7_tell_106 rfl ?_
    refine ry_geti dX7_tell_107 ha0 fl_RX7_54 rfl ?_
    exact ry_iret dX7_tell_110 rfl (Nat.le_of_ble_eq_true rfl) (Nat.le_of_ble_eq_true rfl)
  refine ry_split _ (fun c17 => ?_) (fun c17 => ?_)
  · refine ry_tsIn 111 6 c17 dX7_tell_1 (by decide) (by decide) rfl (by decide) ?_
    refine ry_aload_n dX7_tell_111 rfl ?_
    refine ry_geti dX7_tell_112 ha0 fl_RX7_57 rfl ?_
    exact ry_iret dX7_tell_115 rfl (Nat.le_of_ble_eq_true rfl) (Nat.le_of_ble_eq_true rfl)
  refine ry_split _ (fun c18 => ?_) (fun c18 => ?_)
  · refine ry_tsIn 116 7 c18 dX7_tell_1 (by decide) (by decide) rfl (by decide) ?_
    refine ry_aload_n dX7_tell_116 rfl ?_
    refine ry_geti dX7_tell_117 ha0 fl_RX7_60 rfl ?_
    exact ry_iret dX7_tell_120 rfl (Nat.le_of_ble_eq_true rfl) (Nat.le_of_ble_eq_true rfl)
  refine ry_split _ (fun c19 => ?_) (fun c19 => ?_)
  · refine ry_tsIn 121 8 c19 dX7_tell_1 (by decide) (by decide) rfl (by decide) ?_
    refine ry_aload_n dX7_tell_121 rfl ?_
    refine ry_geti dX7_tell_122 ha0 fl_RX7_63 rfl ?_
    exact ry_iret dX7_tell_125 rfl (Nat.le_of_ble_eq_true rfl) (Nat.le_of_ble_eq_true rfl)
  refine ry_split _ (fun c20 => ?_) (fun c20 => ?_)
  · refine ry_tsIn 126 9 c20 dX7_tell_1 (by decide) (by decide) rfl (by decide) ?_
    refine ry_aload_n dX7_tell_126 rfl ?_
    refine ry_geti dX7_tell_127 ha0 fl_RX7_39 rfl ?_
    exact ry_iret dX7_tell_130 rfl (Nat.le_of_ble_eq_true rfl) (Nat.le_of_ble_eq_true rfl)
  refine ry_split _ (fun c21 => ?_) (fun c21 => ?_)
  · refine ry_tsIn 131 10 c21 dX7_tell_1 (by decide) (by decide) rfl (by decide) ?_
    refine ry_aload_n dX7_tell_131 rfl ?_
    refine ry_getr dX7_tell_132 ha0 fl_RX7_21 rfl (fun b22 hb22 => ?_)
    refine ry_geti dX7_tell_135 hb22 fl_RX7_138 rfl ?_
    exact ry_iret dX7_tell_138 rfl (Nat.le_of_ble_eq_true rfl) (Nat.le_of_ble_eq_true rfl)
  refine ry_tsD 139 [(0, 0), (1, 1), (2, 2), (3, 3), (4, 4), (5, 5), (6, 6), (7, 7), (8, 8), (9, 9), (10, 10)] 11 dX7_tell_1 (by decide) (by decide +kernel) (by decide +kernel) ⟨c1, c3, c4, c8, c12, c16, c17, c18, c19, c20, c21, trivial⟩ (by decide) ?_
  refine ry_iconst (v := (-1)) dX7_tell_139 (by decide) ?_
  exact ry_iret dX7_tell_140 rfl (Nat.le_of_ble_eq_true rfl) (Nat.le_of_ble_eq_true rfl)
theorem cm_X7_tell (l : Launch) (cx : rd_Cx) (w : rd_W) (a0 : Nat) (x1 : Int32) (ha0 : rd_ok w a0 7) (S : rd_S) (r : Int32 × rd_S) (h : F_X7_tell w a0 x1 S = some r) : rd_M l cx yX7_tell G_X7_tell 0 [.inr (some a0), .inl x1] w S (rd_rI w r) :=
  rd_enter (plainFor_of_name (by decide +kernel)) rfl (fun h => by cases h) (Nat.le_of_ble_eq_true rfl) (ym_X7_tell cx w a0 x1 ha0 S r h)
abbrev G_X11_state : rd_G := (RX11, cX11_state, 2, (some .int), false, { frames := 2, cells := 0, slots := 0, locals := 42 })
theorem yf_X11_state : rd_YL yX11_state G_X11_state 1 := ⟨rd_mem 749 (by decide +kernel) rfl, rd_mem 62 (by decide +kernel) rfl, by decide +kernel, by decide +kernel, by decide +kernel⟩
theorem mi_X11_state : Cond.instanceMethod yX11_state ∈ rd_gw := rd_mem 747 (by decide +kernel) rfl
theorem ms_X11_state : Cond.selects (MethodName.cls yX11_state) yX11_state yX11_state ∈ rd_gw := rd_mem 748 (by decide +kernel) rfl
theorem dX11_state_0 : decode cX11_state 0 = .ok (.aload_n 0, 1) := by decide +kernel
theorem dX11_state_1 : decode cX11_state 1 = .ok (.getfield 12, 3) := by decide +kernel
theorem dX11_state_4 : decode cX11_state 4 = .ok (.iload_n 1, 1) := by decide +kernel
theorem dX11_state_5 : decode cX11_state 5 = .ok (.invokevirtual 66, 3) := by decide +kernel
theorem dX11_state_8 : decode cX11_state 8 = .ok (.ireturn, 1) := by decide +kernel
def F_X11_state (w : rd_W) (a0 : Nat) (x1 : Int32) (S : rd_S) : Option (Int32 × rd_S) :=
  rd_c (gR S a0 0) fun b1 =>
  rd_b (F_X7_tell w b1 x1 S) fun v3 s2 =>
  some (v3, s2)
theorem ym_X11_state (cx : rd_Cx) (w : rd_W) (a0 : Nat) (x1 : Int32) (ha0 : rd_ok w a0 11) (S : rd_S) : rd_Y cx G_X11_state (fun r => rd_P cx G_X11_state.2.2.2.2.2 0 w (rd_rI w r)) (F_X11_state w a0 x1 S) 0 (rd_as 0 [.inr (some a0), .inl x1]) [] w S 0 0 := by
  unfold F_X11_state
  refine ry_aload_n dX11_state_0 rfl ?_
  refine ry_getr dX11_state_1 ha0 fl_RX11_12 rfl (fun b1 hb1 => ?_)
  refine ry_iload_n dX11_state_4 rfl ?_
  refine ry_callI (fun l r9 h9 => cm_X7_tell l cx w b1 x1 hb1 S r9 h9) (rd_runV (vs := [.inl x1]) dX11_state_5 hb1 rfl rfl yf_X7_tell mi_X7_tell ms_X7_tell ml_RX11_66 ⟨Nat.le_of_ble_eq_true rfl, Nat.le_of_ble_eq_true rfl⟩ (Nat.le_of_ble_eq_true rfl) rfl) rfl rfl (Nat.le_of_ble_eq_true rfl) (Nat.le_of_ble_eq_true rfl) (fun v3 s2 => ?_)
  exact ry_iret dX11_state_8 rfl (Nat.le_of_ble_eq_true rfl) (Nat.le_of_ble_eq_true rfl)
theorem cm_X11_state (l : Launch) (cx : rd_Cx) (w : rd_W) (a0 : Nat) (x1 : Int32) (ha0 : rd_ok w a0 11) (S : rd_S) (r : Int32 × rd_S) (h : F_X11_state w a0 x1 S = some r) : rd_M l cx yX11_state G_X11_state 0 [.inr (some a0), .inl x1] w S (rd_rI w r) :=
  rd_enter (plainFor_of_name (by decide +kernel)) rfl (fun h => by cases h) (Nat.le_of_ble_eq_true rfl) (ym_X11_state cx w a0 x1 ha0 S r h)
