abbrev G_X12_tags : rd_G := (RX12, cX12_tags, 4, none, false, { frames := 0, cells := 0, slots := 0, locals := 0 })
theorem yf_X12_tags : rd_YL yX12_tags G_X12_tags 0 := ⟨rd_mem 918 (by decide +kernel) rfl, rd_mem 75 (by decide +kernel) rfl, by decide +kernel, by decide +kernel, by decide +kernel⟩
theorem mi_X12_tags : Cond.instanceMethod yX12_tags ∈ rd_gw := rd_mem 917 (by decide +kernel) rfl
theorem ms_X12_tags : Cond.selects (MethodName.cls yX12_tags) yX12_tags yX12_tags ∈ rd_gw := rd_mem 45 (by decide +kernel) rfl
theorem dX12_tags_0 : decode cX12_tags 0 = .ok (.aload_n 0, 1) := by decide +kernel
theorem dX12_tags_1 : decode cX12_tags 1 = .ok (.getfield 77, 3) := by decide +kernel
theorem dX12_tags_4 : decode cX12_tags 4 = .ok (.iconst 1, 1) := by decide +kernel
theorem dX12_tags_5 : decode cX12_tags 5 = .ok (.iaload, 1) := by decide +kernel
theorem dX12_tags_6 : decode cX12_tags 6 = .ok (.istore_n 1, 1) := by decide +kernel
theorem dX12_tags_7 : decode cX12_tags 7 = .ok (.aload_n 0, 1) := by decide +kernel
theorem dX12_tags_8 : decode cX12_tags 8 = .ok (.getfield 77, 3) := by decide +kernel
theorem dX12_tags_11 : decode cX12_tags 11 = .ok (.iconst 2, 1) := by decide +kernel
theorem dX12_tags_12 : decode cX12_tags 12 = .ok (.iaload, 1) := by decide +kernel
theorem dX12_tags_13 : decode cX12_tags 13 = .ok (.istore_n 2, 1) := by decide +kernel
theorem dX12_tags_14 : decode cX12_tags 14 = .ok (.aload_n 0, 1) := by decide +kernel
theorem dX12_tags_15 : decode cX12_tags 15 = .ok (.getfield 77, 3) := by decide +kernel
theorem dX12_tags_18 : decode cX12_tags 18 = .ok (.iconst 3, 1) := by decide +kernel
theorem dX12_tags_19 : decode cX12_tags 19 = .ok (.iaload, 1) := by decide +kernel
theorem dX12_tags_20 : decode cX12_tags 20 = .ok (.istore_n 3, 1) := by decide +kernel
theorem dX12_tags_21 : decode cX12_tags 21 = .ok (.aload_n 0, 1) := by decide +kernel
theorem dX12_tags_22 : decode cX12_tags 22 = .ok (.getfield 242, 3) := by decide +kernel
theorem dX12_tags_25 : decode cX12_tags 25 = .ok (.iconst 0, 1) := by decide +kernel
theorem dX12_tags_26 : decode cX12_tags 26 = .ok (.iload_n 1, 1) := by decide +kernel
theorem dX12_tags_27 : decode cX12_tags 27 = .ok (.iconst 4, 1) := by decide +kernel
theorem dX12_tags_28 : decode cX12_tags 28 = .ok (.ishr, 1) := by decide +kernel
theorem dX12_tags_29 : decode cX12_tags 29 = .ok (.iconst 1, 1) := by decide +kernel
theorem dX12_tags_30 : decode cX12_tags 30 = .ok (.iand, 1) := by decide +kernel
theorem dX12_tags_31 : decode cX12_tags 31 = .ok (.iastore, 1) := by decide +kernel
theorem dX12_tags_32 : decode cX12_tags 32 = .ok (.aload_n 0, 1) := by decide +kernel
theorem dX12_tags_33 : decode cX12_tags 33 = .ok (.getfield 242, 3) := by decide +kernel
theorem dX12_tags_36 : decode cX12_tags 36 = .ok (.iconst 1, 1) := by decide +kernel
theorem dX12_tags_37 : decode cX12_tags 37 = .ok (.iload_n 1, 1) := by decide +kernel
theorem dX12_tags_38 : decode cX12_tags 38 = .ok (.iconst 3, 1) := by decide +kernel
theorem dX12_tags_39 : decode cX12_tags 39 = .ok (.ishr, 1) := by decide +kernel
theorem dX12_tags_40 : decode cX12_tags 40 = .ok (.iconst 1, 1) := by decide +kernel
theorem dX12_tags_41 : decode cX12_tags 41 = .ok (.iand, 1) := by decide +kernel
theorem dX12_tags_42 : decode cX12_tags 42 = .ok (.iastore, 1) := by decide +kernel
theorem dX12_tags_43 : decode cX12_tags 43 = .ok (.aload_n 0, 1) := by decide +kernel
theorem dX12_tags_44 : decode cX12_tags 44 = .ok (.getfield 242, 3) := by decide +kernel
theorem dX12_tags_47 : decode cX12_tags 47 = .ok (.iconst 2, 1) := by decide +kernel
theorem dX12_tags_48 : decode cX12_tags 48 = .ok (.iload_n 1, 1) := by decide +kernel
theorem dX12_tags_49 : decode cX12_tags 49 = .ok (.bipush 7, 2) := by decide +kernel
theorem dX12_tags_51 : decode cX12_tags 51 = .ok (.iand, 1) := by decide +kernel
theorem dX12_tags_52 : decode cX12_tags 52 = .ok (.iconst 3, 1) := by decide +kernel
theorem dX12_tags_53 : decode cX12_tags 53 = .ok (.ishl, 1) := by decide +kernel
theorem dX12_tags_54 : decode cX12_tags 54 = .ok (.iload_n 2, 1) := by decide +kernel
theorem dX12_tags_55 : decode cX12_tags 55 = .ok (.bipush 13, 2) := by decide +kernel
theorem dX12_tags_57 : decode cX12_tags 57 = .ok (.ishr, 1) := by decide +kernel
theorem dX12_tags_58 : decode cX12_tags 58 = .ok (.bipush 7, 2) := by decide +kernel
theorem dX12_tags_60 : decode cX12_tags 60 = .ok (.iand, 1) := by decide +kernel
theorem dX12_tags_61 : decode cX12_tags 61 = .ok (.ior, 1) := by decide +kernel
theorem dX12_tags_62 : decode cX12_tags 62 = .ok (.iastore, 1) := by decide +kernel
theorem dX12_tags_63 : decode cX12_tags 63 = .ok (.aload_n 0, 1) := by decide +kernel
theorem dX12_tags_64 : decode cX12_tags 64 = .ok (.getfield 242, 3) := by decide +kernel
theorem dX12_tags_67 : decode cX12_tags 67 = .ok (.iconst 3, 1) := by decide +kernel
theorem dX12_tags_68 : decode cX12_tags 68 = .ok (.iload_n 2, 1) := by decide +kernel
theorem dX12_tags_69 : decode cX12_tags 69 = .ok (.bipush 7, 2) := by decide +kernel
theorem dX12_tags_71 : decode cX12_tags 71 = .ok (.ishr, 1) := by decide +kernel
theorem dX12_tags_72 : decode cX12_tags 72 = .ok (.bipush 63, 2) := by decide +kernel
theorem dX12_tags_74 : decode cX12_tags 74 = .ok (.iand, 1) := by decide +kernel
theorem dX12_tags_75 : decode cX12_tags 75 = .ok (.iastore, 1) := by decide +kernel
theorem dX12_tags_76 : decode cX12_tags 76 = .ok (.aload_n 0, 1) := by decide +kernel
theorem dX12_tags_77 : decode cX12_tags 77 = .ok (.getfield 242, 3) := by decide +kernel
theorem dX12_tags_80 : decode cX12_tags 80 = .ok (.iconst 4, 1) := by decide +kernel
theorem dX12_tags_81 : decode cX12_tags 81 = .ok (.iload_n 2, 1) := by decide +kernel
theorem dX12_tags_82 : decode cX12_tags 82 = .ok (.iconst 1, 1) := by decide +kernel
theorem dX12_tags_83 : decode cX12_tags 83 = .ok (.ishr, 1) := by decide +kernel
theorem dX12_tags_84 : decode cX12_tags 84 = .ok (.bipush 63, 2) := by decide +kernel
theorem dX12_tags_86 : decode cX12_tags 86 = .ok (.iand, 1) := by decide +kernel
theorem dX12_tags_87 : decode cX12_tags 87 = .ok (.iastore, 1) := by decide +kernel
theorem dX12_tags_88 : decode cX12_tags 88 = .ok (.aload_n 0, 1) := by decide +kernel
theorem dX12_tags_89 : decode cX12_tags 89 = .ok (.getfield 242, 3) := by decide +kernel
theorem dX12_tags_92 : decode cX12_tags 92 = .ok (.iconst 5, 1) := by decide +kernel
theorem dX12_tags_93 : decode cX12_tags 93 = .ok (.iload_n 2, 1) := by decide +kernel
theorem dX12_tags_94 : decode cX12_tags 94 = .ok (.iconst 1, 1) := by decide +kernel
theorem dX12_tags_95 : decode cX12_tags 95 = .ok (.iand, 1) := by decide +kernel
theorem dX12_tags_96 : decode cX12_tags 96 = .ok (.iconst 5, 1) := by decide +kernel
theorem dX12_tags_97 : decode cX12_tags 97 = .ok (.ishl, 1) := by decide +kernel
theorem dX12_tags_98 : decode cX12_tags 98 = .ok (.iload_n 3, 1) := by decide +kernel
theorem dX12_tags_99 : decode cX12_tags 99 = .ok (.bipush 11, 2) := by decide +kernel
theorem dX12_tags_101 : decode cX12_tags 101 = .ok (.ishr, 1) := by decide +kernel
theorem dX12_tags_102 : decode cX12_tags 102 = .ok (.bipush 31, 2) := by decide +kernel
theorem dX12_tags_104 : decode cX12_tags 104 = .ok (.iand, 1) := by decide +kernel
theorem dX12_tags_105 : decode cX12_tags 105 = .ok (.ior, 1) := by decide +kernel
theorem dX12_tags_106 : decode cX12_tags 106 = .ok (.iastore, 1) := by decide +kernel
theorem dX12_tags_107 : decode cX12_tags 107 = .ok (.aload_n 0, 1) := by decide +kernel
theorem dX12_tags_108 : decode cX12_tags 108 = .ok (.getfield 242, 3) := by decide +kernel
theorem dX12_tags_111 : decode cX12_tags 111 = .ok (.bipush 6, 2) := by decide +kernel
theorem dX12_tags_113 : decode cX12_tags 113 = .ok (.iload_n 3, 1) := by decide +kernel
theorem dX12_tags_114 : decode cX12_tags 114 = .ok (.iconst 5, 1) := by decide +kernel
theorem dX12_tags_115 : decode cX12_tags 115 = .ok (.ishr, 1) := by decide +kernel
theorem dX12_tags_116 : decode cX12_tags 116 = .ok (.bipush 63, 2) := by decide +kernel
theorem dX12_tags_118 : decode cX12_tags 118 = .ok (.iand, 1) := by decide +kernel
theorem dX12_tags_119 : decode cX12_tags 119 = .ok (.iastore, 1) := by decide +kernel
theorem dX12_tags_120 : decode cX12_tags 120 = .ok (.aload_n 0, 1) := by decide +kernel
theorem dX12_tags_121 : decode cX12_tags 121 = .ok (.getfield 242, 3) := by decide +kernel
theorem dX12_tags_124 : decode cX12_tags 124 = .ok (.bipush 7, 2) := by decide +kernel
theorem dX12_tags_126 : decode cX12_tags 126 = .ok (.iload_n 3, 1) := by decide +kernel
theorem dX12_tags_127 : decode cX12_tags 127 = .ok (.bipush 31, 2) := by decide +kernel
theorem dX12_tags_129 : decode cX12_tags 129 = .ok (.iand, 1) := by decide +kernel
theorem dX12_tags_130 : decode cX12_tags 130 = .ok (.iastore, 1) := by decide +kernel
theorem dX12_tags_131 : decode cX12_tags 131 = .ok (.aload_n 0, 1) := by decide +kernel
theorem dX12_tags_132 : decode cX12_tags 132 = .ok (.iconst 1, 1) := by decide +kernel
theorem dX12_tags_133 : decode cX12_tags 133 = .ok (.putfield 245, 3) := by decide +kernel
theorem dX12_tags_136 : decode cX12_tags 136 = .ok (.aload_n 0, 1) := by decide +kernel
theorem dX12_tags_137 : decode cX12_tags 137 = .ok (.getfield 190, 3) := by decide +kernel
theorem dX12_tags_140 : decode cX12_tags 140 = .ok (.iconst 5, 1) := by decide +kernel
theorem dX12_tags_141 : decode cX12_tags 141 = .ok (.dup2, 1) := by decide +kernel
theorem dX12_tags_142 : decode cX12_tags 142 = .ok (.iaload, 1) := by decide +kernel
theorem dX12_tags_143 : decode cX12_tags 143 = .ok (.iconst 1, 1) := by decide +kernel
theorem dX12_tags_144 : decode cX12_tags 144 = .ok (.iadd, 1) := by decide +kernel
theorem dX12_tags_145 : decode cX12_tags 145 = .ok (.iastore, 1) := by decide +kernel
theorem dX12_tags_146 : decode cX12_tags 146 = .ok (.return_, 1) := by decide +kernel
def F_X12_tags (w : rd_W) (a0 : Nat) (S : rd_S) : Option (rd_S) :=
  rd_c (gR S a0 18) fun b1 =>
  rd_i 1 (w.2.2 b1) <|
  rd_let (gI S b1 (1 : Int32).toNatClampNeg) fun v2 =>
  rd_c (gR S a0 18) fun b3 =>
  rd_i 2 (w.2.2 b3) <|
  rd_let (gI S b3 (2 : Int32).toNatClampNeg) fun v4 =>
  rd_c (gR S a0 18) fun b5 =>
  rd_i 3 (w.2.2 b5) <|
  rd_let (gI S b5 (3 : Int32).toNatClampNeg) fun v6 =>
  rd_c (gR S a0 44) fun b7 =>
  rd_i 0 (w.2.2 b7) <|
  rd_let (pI S b7 (0 : Int32).toNatClampNeg ((rd_shr v2 4) &&& 1)) fun s8 =>
  rd_c (gR s8 a0 44) fun b9 =>
  rd_i 1 (w.2.2 b9) <|
  rd_let (pI s8 b9 (1 : Int32).toNatClampNeg ((rd_shr v2 3) &&& 1)) fun s10 =>
  rd_c (gR s10 a0 44) fun b11 =>
  rd_i 2 (w.2.2 b11) <|
  rd_let (pI s10 b11 (2 : Int32).toNatClampNeg ((rd_shl (v2 &&& 7) 3) ||| ((rd_shr v4 13) &&& 7))) fun s12 =>
  rd_c (gR s12 a0 44) fun b13 =>
  rd_i 3 (w.2.2 b13) <|
  rd_let (pI s12 b13 (3 : Int32).toNatClampNeg ((rd_shr v4 7) &&& 63)) fun s14 =>
  rd_c (gR s14 a0 44) fun b15 =>
  rd_i 4 (w.2.2 b15) <|
  rd_let (pI s14 b15 (4 : Int32).toNatClampNeg ((rd_shr v4 1) &&& 63)) fun s16 =>
  rd_c (gR s16 a0 44) fun b17 =>
  rd_i 5 (w.2.2 b17) <|
  rd_let (pI s16 b17 (5 : Int32).toNatClampNeg ((rd_shl (v4 &&& 1) 5) ||| ((rd_shr v6 11) &&& 31))) fun s18 =>
  rd_c (gR s18 a0 44) fun b19 =>
  rd_i 6 (w.2.2 b19) <|
  rd_let (pI s18 b19 (6 : Int32).toNatClampNeg ((rd_shr v6 5) &&& 63)) fun s20 =>
  rd_c (gR s20 a0 44) fun b21 =>
  rd_i 7 (w.2.2 b21) <|
  rd_let (pI s20 b21 (7 : Int32).toNatClampNeg (v6 &&& 31)) fun s22 =>
  rd_let (pI s22 a0 45 1) fun s23 =>
  rd_c (gR s23 a0 26) fun b24 =>
  rd_i 5 (w.2.2 b24) <|
  rd_i 5 (w.2.2 b24) <|
  rd_let (pI s23 b24 (5 : Int32).toNatClampNeg ((gI s23 b24 (5 : Int32).toNatClampNeg) + 1)) fun s25 =>
  some s25
theorem ym_X12_tags (cx : rd_Cx) (w : rd_W) (a0 : Nat) (ha0 : rd_ok w a0 12) (S : rd_S) : rd_Y cx G_X12_tags (fun r => rd_P cx G_X12_tags.2.2.2.2.2 0 w (rd_rV w r)) (F_X12_tags w a0 S) 0 (rd_as 0 [.inr (some a0)]) [] w S 0 0 := by
  unfold F_X12_tags
  refine ry_aload_n dX12_tags_0 rfl ?_
  refine ry_getr dX12_tags_1 ha0 fl_RX12_77 rfl (fun b1 hb1 => ?_)
  refine ry_iconst (v := 1) dX12_tags_4 (by decide) ?_
  refine ry_iald dX12_tags_5 hb1 ?_
  refine ry_istore_n dX12_tags_6 (by decide) ?_
  refine ry_let (fun v2 => ?_)
  refine ry_aload_n dX12_tags_7 rfl ?_
  refine ry_getr dX12_tags_8 ha0 fl_RX12_77 rfl (fun b3 hb3 => ?_)
  refine ry_iconst (v := 2) dX12_tags_11 (by decide) ?_
  refine ry_iald dX12_tags_12 hb3 ?_
  refine ry_istore_n dX12_tags_13 (by decide) ?_
  refine ry_let (fun v4 => ?_)
  refine ry_aload_n dX12_tags_14 rfl ?_
  refine ry_getr dX12_tags_15 ha0 fl_RX12_77 rfl (fun b5 hb5 => ?_)
  refine ry_iconst (v := 3) dX12_tags_18 (by decide) ?_
  refine ry_iald dX12_tags_19 hb5 ?_
  refine ry_istore_n dX12_tags_20 (by decide) ?_
  refine ry_let (fun v6 => ?_)
  refine ry_aload_n dX12_tags_21 rfl ?_
  refine ry_getr dX12_tags_22 ha0 fl_RX12_242 rfl (fun b7 hb7 => ?_)
  refine ry_iconst (v := 0) dX12_tags_25 (by decide) ?_
  refine ry_iload_n dX12_tags_26 rfl ?_
  refine ry_iconst (v := 4) dX12_tags_27 (by decide) ?_
  refine ry_ishr dX12_tags_28 ?_
  refine ry_iconst (v := 1) dX12_tags_29 (by decide) ?_
  refine ry_iand dX12_tags_30 ?_
  refine ry_iast dX12_tags_31 hb7 ?_
  refine ry_letS (fun s8 => ?_)
  refine ry_aload_n dX12_tags_32 rfl ?_
  refine ry_getr dX12_tags_33 ha0 fl_RX12_242 rfl (fun b9 hb9 => ?_)
  refine ry_iconst (v := 1) dX12_tags_36 (by decide) ?_
  refine ry_iload_n dX12_tags_37 rfl ?_
  refine ry_iconst (v := 3) dX12_tags_38 (by decide) ?_
  refine ry_ishr dX12_tags_39 ?_
  refine ry_iconst (v := 1) dX12_tags_40 (by decide) ?_
  refine ry_iand dX12_tags_41 ?_
  refine ry_iast dX12_tags_42 hb9 ?_
  refine ry_letS (fun s10 => ?_)
  refine ry_aload_n dX12_tags_43 rfl ?_
  refine ry_getr dX12_tags_44 ha0 fl_RX12_242 rfl (fun b11 hb11 => ?_)
  refine ry_iconst (v := 2) dX12_tags_47 (by decide) ?_
  refine ry_iload_n dX12_tags_48 rfl ?_
  refine ry_bipush (v := 7) dX12_tags_49 (by decide) ?_
  refine ry_iand dX12_tags_51 ?_
  refine ry_iconst (v := 3) dX12_tags_52 (by decide) ?_
  refine ry_ishl dX12_tags_53 ?_
  refine ry_iload_n dX12_tags_54 rfl ?_
  refine ry_bipush (v := 13) dX12_tags_55 (by decide) ?_
  refine ry_ishr dX12_tags_57 ?_
  refine ry_bipush (v := 7) dX12_tags_58 (by decide) ?_
  refine ry_iand dX12_tags_60 ?_
  refine ry_ior dX12_tags_61 ?_
  refine ry_iast dX12_tags_62 hb11 ?_
  refine ry_letS (fun s12 => ?_)
  refine ry_aload_n dX12_tags_63 rfl ?_
  refine ry_getr dX12_tags_64 ha0 fl_RX12_242 rfl (fun b13 hb13 => ?_)
  refine ry_iconst (v := 3) dX12_tags_67 (by decide) ?_
  refine ry_iload_n dX12_tags_68 rfl ?_
  refine ry_bipush (v := 7) dX12_tags_69 (by decide) ?_
  refine ry_ishr dX12_tags_71 ?_
  refine ry_bipush (v := 63) dX12_tags_72 (by decide) ?_
  refine ry_iand dX12_tags_74 ?_
  refine ry_iast dX12_tags_75 hb13 ?_
  refine ry_letS (fun s14 => ?_)
  refine ry_aload_n dX12_tags_76 rfl ?_
  refine ry_getr dX12_tags_77 ha0 fl_RX12_242 rfl (fun b15 hb15 => ?_)
  refine ry_iconst (v := 4) dX12_tags_80 (by decide) ?_
  refine ry_iload_n dX12_tags_81 rfl ?_
  refine ry_iconst (v := 1) dX12_tags_82 (by decide) ?_
  refine ry_ishr dX12_tags_83 ?_
  refine ry_bipush (v := 63) dX12_tags_84 (by decide) ?_
  refine ry_iand dX12_tags_86 ?_
  refine ry_iast dX12_tags_87 hb15 ?_
  refine ry_letS (fun s16 => ?_)
  refine ry_aload_n dX12_tags_88 rfl ?_
  refine ry_getr dX12_tags_89 ha0 fl_RX12_242 rfl (fun b17 hb17 => ?_)
  refine ry_iconst (v := 5) dX12_tags_92 (by decide) ?_
  refine ry_iload_n dX12_tags_93 rfl ?_
  refine ry_iconst (v := 1) dX12_tags_94 (by decide) ?_
  refine ry_iand dX12_tags_95 ?_
  refine ry_iconst (v := 5) dX12_tags_96 (by decide) ?_
  refine ry_ishl dX12_tags_97 ?_
  refine ry_iload_n dX12_tags_98 rfl ?_
  refine ry_bipush (v := 11) dX12_tags_99 (by decide) ?_
  refine ry_ishr dX12_tags_101 ?_
  refine ry_bipush (v := 31) dX12_tags_102 (by decide) ?_
  refine ry_iand dX12_tags_104 ?_
  refine ry_ior dX12_tags_105 ?_
  refine ry_iast dX12_tags_106 hb17 ?_
  refine ry_letS (fun s18 => ?_)
  refine ry_aload_n dX12_tags_107 rfl ?_
  refine ry_getr dX12_tags_108 ha0 fl_RX12_242 rfl (fun b19 hb19 => ?_)
  refine ry_bipush (v := 6) dX12_tags_111 (by decide) ?_
  refine ry_iload_n dX12_tags_113 rfl ?_
  refine ry_iconst (v := 5) dX12_tags_114 (by decide) ?_
  refine ry_ishr dX12_tags_115 ?_
  refine ry_bipush (v := 63) dX12_tags_116 (by decide) ?_
  refine ry_iand dX12_tags_118 ?_
  refine ry_iast dX12_tags_119 hb19 ?_
  refine ry_letS (fun s20 => ?_)
  refine ry_aload_n dX12_tags_120 rfl ?_
  refine ry_getr dX12_tags_121 ha0 fl_RX12_242 rfl (fun b21 hb21 => ?_)
  refine ry_bipush (v := 7) dX12_tags_124 (by decide) ?_
  refine ry_iload_n dX12_tags_126 rfl ?_
  refine ry_bipush (v := 31) dX12_tags_127 (by decide) ?_
  refine ry_iand dX12_tags_129 ?_
  refine ry_iast dX12_tags_130 hb21 ?_
  refine ry_letS (fun s22 => ?_)
  refine ry_aload_n dX12_tags_131 rfl ?_
  refine ry_iconst (v := 1) dX12_tags_132 (by decide) ?_
  refine ry_putz dX12_tags_133 ha0 fl_RX12_245 rfl rfl rfl (by decide) ?_
  refine ry_letS (fun s23 => ?_)
  refine ry_aload_n dX12_tags_136 rfl ?_
  refine ry_getr dX12_tags_137 ha0 fl_RX12_190 rfl (fun b24 hb24 => ?_)
  refine ry_iconst (v := 5) dX12_tags_140 (by decide) ?_
  refine ry_dup2 dX12_tags_141 ?_
  refine ry_iald dX12_tags_142 hb24 ?_
  refine ry_iconst (v := 1) dX12_tags_143 (by decide) ?_
  refine ry_iadd dX12_tags_144 ?_
  refine ry_iast dX12_tags_145 hb24 ?_
  refine ry_letS (fun s25 => ?_)
  exact ry_vret dX12_tags_146 rfl (Nat.le_of_ble_eq_true rfl) (Nat.le_of_ble_eq_true rfl)
theorem cm_X12_tags (l : Launch) (cx : rd_Cx) (w : rd_W) (a0 : Nat) (ha0 : rd_ok w a0 12) (S : rd_S) (r : rd_S) (h : F_X12_tags w a0 S = some r) : rd_M l cx yX12_tags G_X12_tags 0 [.inr (some a0)] w S (rd_rV w r) :=
  rd_enter (plainFor_of_name (by decide +kernel)) rfl (fun h => by cases h) (Nat.le_of_ble_eq_true rfl) (ym_X12_tags cx w a0 ha0 S r h)
abbrev G_X12_flags : rd_G := (RX12, cX12_flags, 4, none, false, { frames := 0, cells := 0, slots := 0, locals := 0 })
theorem yf_X12_flags : rd_YL yX12_flags G_X12_flags 0 := ⟨rd_mem 926 (by decide +kernel) rfl, rd_mem 75 (by decide +kernel) rfl, by decide +kernel, by decide +kernel, by decide +kernel⟩
theorem mi_X12_flags : Cond.instanceMethod yX12_flags ∈ rd_gw := rd_mem 925 (by decide +kernel) rfl
theorem ms_X12_flags : Cond.selects (MethodName.cls yX12_flags) yX12_flags yX12_flags ∈ rd_gw := rd_mem 47 (by decide +kernel) rfl
theorem dX12_flags_0 : decode cX12_flags 0 = .ok (.aload_n 0, 1) := by decide +kernel
theorem dX12_flags_1 : decode cX12_flags 1 = .ok (.getfield 77, 3) := by decide +kernel
theorem dX12_flags_4 : decode cX12_flags 4 = .ok (.iconst 1, 1) := by decide +kernel
theorem dX12_flags_5 : decode cX12_flags 5 = .ok (.iaload, 1) := by decide +kernel
theorem dX12_flags_6 : decode cX12_flags 6 = .ok (.istore_n 1, 1) := by decide +kernel
theorem dX12_flags_7 : decode cX12_flags 7 = .ok (.aload_n 0, 1) := by decide +kernel
theorem dX12_flags_8 : decode cX12_flags 8 = .ok (.getfield 127, 3) := by decide +kernel
theorem dX12_flags_11 : decode cX12_flags 11 = .ok (.iconst 3, 1) := by decide +kernel
theorem dX12_flags_12 : decode cX12_flags 12 = .ok (.iload_n 1, 1) := by decide +kernel
theorem dX12_flags_13 : decode cX12_flags 13 = .ok (.iconst 4, 1) := by decide +kernel
theorem dX12_flags_14 : decode cX12_flags 14 = .ok (.ishr, 1) := by decide +kernel
theorem dX12_flags_15 : decode cX12_flags 15 = .ok (.iconst 1, 1) := by decide +kernel
theorem dX12_flags_16 : decode cX12_flags 16 = .ok (.iand, 1) := by decide +kernel
theorem dX12_flags_17 : decode cX12_flags 17 = .ok (.iastore, 1) := by decide +kernel
theorem dX12_flags_18 : decode cX12_flags 18 = .ok (.aload_n 0, 1) := by decide +kernel
theorem dX12_flags_19 : decode cX12_flags 19 = .ok (.getfield 127, 3) := by decide +kernel
theorem dX12_flags_22 : decode cX12_flags 22 = .ok (.iconst 4, 1) := by decide +kernel
theorem dX12_flags_23 : decode cX12_flags 23 = .ok (.iload_n 1, 1) := by decide +kernel
theorem dX12_flags_24 : decode cX12_flags 24 = .ok (.iconst 3, 1) := by decide +kernel
theorem dX12_flags_25 : decode cX12_flags 25 = .ok (.ishr, 1) := by decide +kernel
theorem dX12_flags_26 : decode cX12_flags 26 = .ok (.iconst 1, 1) := by decide +kernel
theorem dX12_flags_27 : decode cX12_flags 27 = .ok (.iand, 1) := by decide +kernel
theorem dX12_flags_28 : decode cX12_flags 28 = .ok (.iastore, 1) := by decide +kernel
theorem dX12_flags_29 : decode cX12_flags 29 = .ok (.iconst 3, 1) := by decide +kernel
theorem dX12_flags_30 : decode cX12_flags 30 = .ok (.iload_n 1, 1) := by decide +kernel
theorem dX12_flags_31 : decode cX12_flags 31 = .ok (.iconst 3, 1) := by decide +kernel
theorem dX12_flags_32 : decode cX12_flags 32 = .ok (.iand, 1) := by decide +kernel
theorem dX12_flags_33 : decode cX12_flags 33 = .ok (.isub, 1) := by decide +kernel
theorem dX12_flags_34 : decode cX12_flags 34 = .ok (.istore_n 2, 1) := by decide +kernel
theorem dX12_flags_35 : decode cX12_flags 35 = .ok (.aload_n 0, 1) := by decide +kernel
theorem dX12_flags_36 : decode cX12_flags 36 = .ok (.getfield 127, 3) := by decide +kernel
theorem dX12_flags_39 : decode cX12_flags 39 = .ok (.iconst 5, 1) := by decide +kernel
theorem dX12_flags_40 : decode cX12_flags 40 = .ok (.iaload, 1) := by decide +kernel
theorem dX12_flags_41 : decode cX12_flags 41 = .ok (.iconst (-1), 1) := by decide +kernel
theorem dX12_flags_42 : decode cX12_flags 42 = .ok (.if_icmp .ne 7, 3) := by decide +kernel
theorem dX12_flags_45 : decode cX12_flags 45 = .ok (.iconst 0, 1) := by decide +kernel
theorem dX12_flags_46 : decode cX12_flags 46 = .ok (.goto 9, 3) := by decide +kernel
theorem dX12_flags_49 : decode cX12_flags 49 = .ok (.aload_n 0, 1) := by decide +kernel
theorem dX12_flags_50 : decode cX12_flags 50 = .ok (.getfield 127, 3) := by decide +kernel
theorem dX12_flags_53 : decode cX12_flags 53 = .ok (.iconst 5, 1) := by decide +kernel
theorem dX12_flags_54 : decode cX12_flags 54 = .ok (.iaload, 1) := by decide +kernel
theorem dX12_flags_55 : decode cX12_flags 55 = .ok (.istore_n 3, 1) := by decide +kernel
theorem dX12_flags_56 : decode cX12_flags 56 = .ok (.aload_n 0, 1) := by decide +kernel
theorem dX12_flags_57 : decode cX12_flags 57 = .ok (.getfield 127, 3) := by decide +kernel
theorem dX12_flags_60 : decode cX12_flags 60 = .ok (.iconst 5, 1) := by decide +kernel
theorem dX12_flags_61 : decode cX12_flags 61 = .ok (.iload_n 3, 1) := by decide +kernel
theorem dX12_flags_62 : decode cX12_flags 62 = .ok (.iconst 1, 1) := by decide +kernel
theorem dX12_flags_63 : decode cX12_flags 63 = .ok (.iload_n 2, 1) := by decide +kernel
theorem dX12_flags_64 : decode cX12_flags 64 = .ok (.ishl, 1) := by decide +kernel
theorem dX12_flags_65 : decode cX12_flags 65 = .ok (.iconst (-1), 1) := by decide +kernel
theorem dX12_flags_66 : decode cX12_flags 66 = .ok (.ixor, 1) := by decide +kernel
theorem dX12_flags_67 : decode cX12_flags 67 = .ok (.iand, 1) := by decide +kernel
theorem dX12_flags_68 : decode cX12_flags 68 = .ok (.iload_n 1, 1) := by decide +kernel
theorem dX12_flags_69 : decode cX12_flags 69 = .ok (.iconst 2, 1) := by decide +kernel
theorem dX12_flags_70 : decode cX12_flags 70 = .ok (.ishr, 1) := by decide +kernel
theorem dX12_flags_71 : decode cX12_flags 71 = .ok (.iconst 1, 1) := by decide +kernel
theorem dX12_flags_72 : decode cX12_flags 72 = .ok (.iand, 1) := by decide +kernel
theorem dX12_flags_73 : decode cX12_flags 73 = .ok (.iload_n 2, 1) := by decide +kernel
theorem dX12_flags_74 : decode cX12_flags 74 = .ok (.ishl, 1) := by decide +kernel
theorem dX12_flags_75 : decode cX12_flags 75 = .ok (.ior, 1) := by decide +kernel
theorem dX12_flags_76 : decode cX12_flags 76 = .ok (.iastore, 1) := by decide +kernel
theorem dX12_flags_77 : decode cX12_flags 77 = .ok (.return_, 1) := by decide +kernel
def B_X12_flags_55 (w : rd_W) (a0 : Nat) (x1 : Int32) (x2 : Int32) (t0 : Int32) (S : rd_S) : Option (rd_S) :=
  rd_c (gR S a0 25) fun b10 =>
  rd_i 5 (w.2.2 b10) <|
  rd_let (pI S b10 (5 : Int32).toNatClampNeg ((t0 &&& ((rd_shl 1 x2) ^^^ (-1))) ||| (rd_shl ((rd_shr x1 2) &&& 1) x2))) fun s11 =>
  some s11
theorem yb_X12_flags_55 (cx : rd_Cx) (w : rd_W) (a0 : Nat) (x1 : Int32) (x2 : Int32) (t0 : Int32) (ha0 : rd_ok w a0 12) (S : rd_S) : rd_Y cx G_X12_flags (fun r => rd_P cx G_X12_flags.2.2.2.2.2 0 w (rd_rV w r)) (B_X12_flags_55 w a0 x1 x2 t0 S) 55 [(0, .inr (some a0)), (1, .inl x1), (2, .inl x2)] [.inl t0] w S 0 0 := by
  unfold B_X12_flags_55
  refine ry_istore_n dX12_flags_55 (by decide) ?_
  refine ry_aload_n dX12_flags_56 rfl ?_
  refine ry_getr dX12_flags_57 ha0 fl_RX12_127 rfl (fun b10 hb10 => ?_)
  refine ry_iconst (v := 5) dX12_flags_60 (by decide) ?_
  refine ry_iload_n dX12_flags_61 rfl ?_
  refine ry_iconst (v := 1) dX12_flags_62 (by decide) ?_
  refine ry_iload_n dX12_flags_63 rfl ?_
  refine ry_ishl dX12_flags_64 ?_
  refine ry_iconst (v := (-1)) dX12_flags_65 (by decide) ?_
  refine ry_ixor dX12_flags_66 ?_
  refine ry_iand dX12_flags_67 ?_
  refine ry_iload_n dX12_flags_68 rfl ?_
  refine ry_iconst (v := 2) dX12_flags_69 (by decide) ?_
  refine ry_ishr dX12_flags_70 ?_
  refine ry_iconst (v := 1) dX12_flags_71 (by decide) ?_
  refine ry_iand dX12_flags_72 ?_
  refine ry_iload_n dX12_flags_73 rfl ?_
  refine ry_ishl dX12_flags_74 ?_
  refine ry_ior dX12_flags_75 ?_
  refine ry_iast dX12_flags_76 hb10 ?_
  refine ry_letS (fun s11 => ?_)
  exact ry_vret dX12_flags_77 rfl (Nat.le_of_ble_eq_true rfl) (Nat.le_of_ble_eq_true rfl)
def F_X12_flags (w : rd_W) (a0 : Nat) (S : rd_S) : Option (rd_S) :=
  rd_c (gR S a0 18) fun b1 =>
  rd_i 1 (w.2.2 b1) <|
  rd_let (gI S b1 (1 : Int32).toNatClampNeg) fun v2 =>
  rd_c (gR S a0 25) fun b3 =>
  rd_i 3 (w.2.2 b3) <|
  rd_let (pI S b3 (3 : Int32).toNatClampNeg ((rd_shr v2 4) &&& 1)) fun s4 =>
  rd_c (gR s4 a0 25) fun b5 =>
  rd_i 4 (w.2.2 b5) <|
  rd_let (pI s4 b5 (4 : Int32).toNatClampNeg ((rd_shr v2 3) &&& 1)) fun s6 =>
  rd_let (3 - (v2 &&& 3)) fun v7 =>
  rd_c (gR s6 a0 25) fun b8 =>
  rd_i 5 (w.2.2 b8) <|
  if (gI s6 b8 (5 : Int32).toNatClampNeg) = (-1) then
  (B_X12_flags_55 w a0 v2 v7 0 s6)
  else
  (rd_c (gR s6 a0 25) fun b12 =>
  rd_i 5 (w.2.2 b12) <|
  B_X12_flags_55 w a0 v2 v7 (gI s6 b12 (5 : Int32).toNatClampNeg) s6)
theorem ym_X12_flags (cx : rd_Cx) (w : rd_W) (a0 : Nat) (ha0 : rd_ok w a0 12) (S : rd_S) : rd_Y cx G_X12_flags (fun r => rd_P cx G_X12_flags.2.2.2.2.2 0 w (rd_rV w r)) (F_X12_flags w a0 S) 0 (rd_as 0 [.inr (some a0)]) [] w S 0 0 := by
  unfold F_X12_flags
  refine ry_aload_n dX12_flags_0 rfl ?_
  refine ry_getr dX12_flags_1 ha0 fl_RX12_77 rfl (fun b1 hb1 => ?_)
  refine ry_iconst (v := 1) dX12_flags_4 (by decide) ?_
  refine ry_iald dX12_flags_5 hb1 ?_
  refine ry_istore_n dX12_flags_6 (by decide) ?_
  refine ry_let (fun v2 => ?_)
  refine ry_aload_n dX12_flags_7 rfl ?_
  refine ry_getr dX12_flags_8 ha0 fl_RX12_127 rfl (fun b3 hb3 => ?_)
  refine ry_iconst (v := 3) dX12_flags_11 (by decide) ?_
  refine ry_iload_n dX12_flags_12 rfl ?_
  refine ry_iconst (v := 4) dX12_flags_13 (by decide) ?_
  refine ry_ishr dX12_flags_14 ?_
  refine ry_iconst (v := 1) dX12_flags_15 (by decide) ?_
  refine ry_iand dX12_flags_16 ?_
  refine ry_iast dX12_flags_17 hb3 ?_
  refine ry_letS (fun s4 => ?_)
  refine ry_aload_n dX12_flags_18 rfl ?_
  refine ry_getr dX12_flags_19 ha0 fl_RX12_127 rfl (fun b5 hb5 => ?_)
  refine ry_iconst (v := 4) dX12_flags_22 (by decide) ?_
  refine ry_iload_n dX12_flags_23 rfl ?_
  refine ry_iconst (v := 3) dX12_flags_24 (by decide) ?_
  refine ry_ishr dX12_flags_25 ?_
  refine ry_iconst (v := 1) dX12_flags_26 (by decide) ?_
  refine ry_iand dX12_flags_27 ?_
  refine ry_iast dX12_flags_28 hb5 ?_
  refine ry_letS (fun s6 => ?_)
  refine ry_iconst (v := 3) dX12_flags_29 (by decide) ?_
  refine ry_iload_n dX12_flags_30 rfl ?_
  refine ry_iconst (v := 3) dX12_flags_31 (by decide) ?_
  refine ry_iand dX12_flags_32 ?_
  refine ry_isub dX12_flags_33 ?_
  refine ry_istore_n dX12_flags_34 (by decide) ?_
  refine ry_let (fun v7 => ?_)
  refine ry_aload_n dX12_flags_35 rfl ?_
  refine ry_getr dX12_flags_36 ha0 fl_RX12_127 rfl (fun b8 hb8 => ?_)
  refine ry_iconst (v := 5) dX12_flags_39 (by decide) ?_
  refine ry_iald dX12_flags_40 hb8 ?_
  refine ry_iconst (v := (-1)) dX12_flags_41 (by decide) ?_
  refine ry_icmp_ne 49 dX12_flags_42 (by decide) (fun c9 => ?_) (fun c9 => ?_)
  · refine ry_iconst (v := 0) dX12_flags_45 (by decide) ?_
    refine ry_goto 55 dX12_flags_46 (by decide) ?_
    exact ry_to (yb_X12_flags_55 cx w a0 v2 v7 0 ha0 s6) ⟨rfl, rfl, rfl, trivial⟩
  · refine ry_aload_n dX12_flags_49 rfl ?_
    refine ry_getr dX12_flags_50 ha0 fl_RX12_127 rfl (fun b12 hb12 => ?_)
    refine ry_iconst (v := 5) dX12_flags_53 (by decide) ?_
    refine ry_iald dX12_flags_54 hb12 ?_
    exact ry_to (yb_X12_flags_55 cx w a0 v2 v7 (gI s6 b12 (5 : Int32).toNatClampNeg) ha0 s6) ⟨rfl, rfl, rfl, trivial⟩
theorem cm_X12_flags (l : Launch) (cx : rd_Cx) (w : rd_W) (a0 : Nat) (ha0 : rd_ok w a0 12) (S : rd_S) (r : rd_S) (h : F_X12_flags w a0 S = some r) : rd_M l cx yX12_flags G_X12_flags 0 [.inr (some a0)] w S (rd_rV w r) :=
  rd_enter (plainFor_of_name (by decide +kernel)) rfl (fun h => by cases h) (Nat.le_of_ble_eq_true rfl) (ym_X12_flags cx w a0 ha0 S r h)
abbrev G_X12_byteOf : rd_G := (RX12, cX12_byteOf, 5, (some .int), false, { frames := 0, cells := 0, slots := 0, locals := 0 })
theorem yf_X12_byteOf : rd_YL yX12_byteOf G_X12_byteOf 4 := ⟨rd_mem 933 (by decide +kernel) rfl, rd_mem 75 (by decide +kernel) rfl, by decide +kernel, by decide +kernel, by decide +kernel⟩
theorem mt_X12_byteOf : Cond.static yX12_byteOf ∈ rd_gw := rd_mem 932 (by decide +kernel) rfl
theorem dX12_byteOf_0 : decode cX12_byteOf 0 = .ok (.iload_n 2, 1) := by decide +kernel
theorem dX12_byteOf_1 : decode cX12_byteOf 1 = .ok (.iconst 4, 1) := by decide +kernel
theorem dX12_byteOf_2 : decode cX12_byteOf 2 = .ok (.if_icmp .ne 12, 3) := by decide +kernel
theorem dX12_byteOf_5 : decode cX12_byteOf 5 = .ok (.iload_n 3, 1) := by decide +kernel
theorem dX12_byteOf_6 : decode cX12_byteOf 6 = .ok (.iconst 2, 1) := by decide +kernel
theorem dX12_byteOf_7 : decode cX12_byteOf 7 = .ok (.if_icmp .ge 7, 3) := by decide +kernel
theorem dX12_byteOf_10 : decode cX12_byteOf 10 = .ok (.iload_n 1, 1) := by decide +kernel
theorem dX12_byteOf_11 : decode cX12_byteOf 11 = .ok (.goto 4, 3) := by decide +kernel
theorem dX12_byteOf_14 : decode cX12_byteOf 14 = .ok (.iload_n 0, 1) := by decide +kernel
theorem dX12_byteOf_15 : decode cX12_byteOf 15 = .ok (.istore 4, 2) := by decide +kernel
theorem dX12_byteOf_17 : decode cX12_byteOf 17 = .ok (.iload_n 3, 1) := by decide +kernel
theorem dX12_byteOf_18 : decode cX12_byteOf 18 = .ok (.iconst 1, 1) := by decide +kernel
theorem dX12_byteOf_19 : decode cX12_byteOf 19 = .ok (.iand, 1) := by decide +kernel
theorem dX12_byteOf_20 : decode cX12_byteOf 20 = .ok (.ifCond .ne 15, 3) := by decide +kernel
theorem dX12_byteOf_23 : decode cX12_byteOf 23 = .ok (.iload 4, 2) := by decide +kernel
theorem dX12_byteOf_25 : decode cX12_byteOf 25 = .ok (.bipush 8, 2) := by decide +kernel
theorem dX12_byteOf_27 : decode cX12_byteOf 27 = .ok (.ishr, 1) := by decide +kernel
theorem dX12_byteOf_28 : decode cX12_byteOf 28 = .ok (.sipush 255, 3) := by decide +kernel
theorem dX12_byteOf_31 : decode cX12_byteOf 31 = .ok (.iand, 1) := by decide +kernel
theorem dX12_byteOf_32 : decode cX12_byteOf 32 = .ok (.goto 9, 3) := by decide +kernel
theorem dX12_byteOf_35 : decode cX12_byteOf 35 = .ok (.iload 4, 2) := by decide +kernel
theorem dX12_byteOf_37 : decode cX12_byteOf 37 = .ok (.sipush 255, 3) := by decide +kernel
theorem dX12_byteOf_40 : decode cX12_byteOf 40 = .ok (.iand, 1) := by decide +kernel
theorem dX12_byteOf_41 : decode cX12_byteOf 41 = .ok (.ireturn, 1) := by decide +kernel
def B_X12_byteOf_41 (w : rd_W) (t0 : Int32) (S : rd_S) : Option (Int32 × rd_S) :=
  some (t0, S)
theorem yb_X12_byteOf_41 (cx : rd_Cx) (w : rd_W) (t0 : Int32) (S : rd_S) : rd_Y cx G_X12_byteOf (fun r => rd_P cx G_X12_byteOf.2.2.2.2.2 0 w (rd_rI w r)) (B_X12_byteOf_41 w t0 S) 41 [] [.inl t0] w S 0 0 := by
  unfold B_X12_byteOf_41
  exact ry_iret dX12_byteOf_41 rfl (Nat.le_of_ble_eq_true rfl) (Nat.le_of_ble_eq_true rfl)
def B_X12_byteOf_15 (w : rd_W) (x3 : Int32) (t0 : Int32) (S : rd_S) : Option (Int32 × rd_S) :=
  if (x3 &&& 1) = 0 then
  (B_X12_byteOf_41 w ((rd_shr t0 8) &&& 255) S)
  else
  (B_X12_byteOf_41 w (t0 &&& 255) S)
theorem yb_X12_byteOf_15 (cx : rd_Cx) (w : rd_W) (x3 : Int32) (t0 : Int32) (S : rd_S) : rd_Y cx G_X12_byteOf (fun r => rd_P cx G_X12_byteOf.2.2.2.2.2 0 w (rd_rI w r)) (B_X12_byteOf_15 w x3 t0 S) 15 [(3, .inl x3)] [.inl t0] w S 0 0 := by
  unfold B_X12_byteOf_15
  refine ry_istore dX12_byteOf_15 (by decide) ?_
  refine ry_iload_n dX12_byteOf_17 rfl ?_
  refine ry_iconst (v := 1) dX12_byteOf_18 (by decide) ?_
  refine ry_iand dX12_byteOf_19 ?_
  refine ry_if_ne 35 dX12_byteOf_20 (by decide) (fun c3 => ?_) (fun c3 => ?_)
  · refine ry_iload dX12_byteOf_23 rfl ?_
    refine ry_bipush (v := 8) dX12_byteOf_25 (by decide) ?_
    refine ry_ishr dX12_byteOf_27 ?_
    refine ry_sipush (v := 255) dX12_byteOf_28 (by decide) ?_
    refine ry_iand dX12_byteOf_31 ?_
    refine ry_goto 41 dX12_byteOf_32 (by decide) ?_
    exact ry_to (yb_X12_byteOf_41 cx w ((rd_shr t0 8) &&& 255) S) trivial
  · refine ry_iload dX12_byteOf_35 rfl ?_
    refine ry_sipush (v := 255) dX12_byteOf_37 (by decide) ?_
    refine ry_iand dX12_byteOf_40 ?_
    exact ry_to (yb_X12_byteOf_41 cx w (t0 &&& 255) S) trivial
def B_X12_byteOf_14 (w : rd_W) (x0 : Int32) (x3 : Int32) (S : rd_S) : Option (Int32 × rd_S) :=
  B_X12_byteOf_15 w x3 x0 S
theorem yb_X12_byteOf_14 (cx : rd_Cx) (w : rd_W) (x0 : Int32) (x3 : Int32) (S : rd_S) : rd_Y cx G_X12_byteOf (fun r => rd_P cx G_X12_byteOf.2.2.2.2.2 0 w (rd_rI w r)) (B_X12_byteOf_14 w x0 x3 S) 14 [(0, .inl x0), (3, .inl x3)] [] w S 0 0 := by
  unfold B_X12_byteOf_14
  refine ry_iload_n dX12_byteOf_14 rfl ?_
  exact ry_to (yb_X12_byteOf_15 cx w x3 x0 S) ⟨rfl, trivial⟩
def F_X12_byteOf (w : rd_W) (x0 : Int32) (x1 : Int32) (x2 : Int32) (x3 : Int32) (S : rd_S) : Option (Int32 × rd_S) :=
  if x2 = 4 then
  (if 2 ≤ x3 then
  (B_X12_byteOf_14 w x0 x3 S)
  else
  (B_X12_byteOf_15 w x3 x1 S))
  else
  (B_X12_byteOf_14 w x0 x3 S)
theorem ym_X12_byteOf (cx : rd_Cx) (w : rd_W) (x0 : Int32) (x1 : Int32) (x2 : Int32) (x3 : Int32) (S : rd_S) : rd_Y cx G_X12_byteOf (fun r => rd_P cx G_X12_byteOf.2.2.2.2.2 0 w (rd_rI w r)) (F_X12_byteOf w x0 x1 x2 x3 S) 0 (rd_as 0 [.inl x0, .inl x1, .inl x2, .inl x3]) [] w S 0 0 := by
  unfold F_X12_byteOf
  refine ry_iload_n dX12_byteOf_0 rfl ?_
  refine ry_iconst (v := 4) dX12_byteOf_1 (by decide) ?_
  refine ry_icmp_ne 14 dX12_byteOf_2 (by decide) (fun c1 => ?_) (fun c1 => ?_)
  · refine ry_iload_n dX12_byteOf_5 rfl ?_
    refine ry_iconst (v := 2) dX12_byteOf_6 (by decide) ?_
    refine ry_icmp_ge 14 dX12_byteOf_7 (by decide) (fun c2 => ?_) (fun c2 => ?_)
    · exact ry_to (yb_X12_byteOf_14 cx w x0 x3 S) ⟨rfl, rfl, trivial⟩
    · refine ry_iload_n dX12_byteOf_10 rfl ?_
      refine ry_goto 15 dX12_byteOf_11 (by decide) ?_
      exact ry_to (yb_X12_byteOf_15 cx w x3 x1 S) ⟨rfl, trivial⟩
  · exact ry_to (yb_X12_byteOf_14 cx w x0 x3 S) ⟨rfl, rfl, trivial⟩
theorem cm_X12_byteOf (l : Launch) (cx : rd_Cx) (w : rd_W) (x0 : Int32) (x1 : Int32) (x2 : Int32) (x3 : Int32) (S : rd_S) (r : Int32 × rd_S) (h : F_X12_byteOf w x0 x1 x2 x3 S = some r) : rd_M l cx yX12_byteOf G_X12_byteOf 0 [.inl x0, .inl x1, .inl x2, .inl x3] w S (rd_rI w r) :=
  rd_enter (plainFor_of_name (by decide +kernel)) rfl (fun h => by cases h) (Nat.le_of_ble_eq_true rfl) (ym_X12_byteOf cx w x0 x1 x2 x3 S r h)
abbrev G_X12_fullSize : rd_G := (RX12, cX12_fullSize, 7, (some .int), false, { frames := 0, cells := 0, slots := 0, locals := 0 })
theorem yf_X12_fullSize : rd_YL yX12_fullSize G_X12_fullSize 2 := ⟨rd_mem 937 (by decide +kernel) rfl, rd_mem 75 (by decide +kernel) rfl, by decide +kernel, by decide +kernel, by decide +kernel⟩
theorem mi_X12_fullSize : Cond.instanceMethod yX12_fullSize ∈ rd_gw := rd_mem 936 (by decide +kernel) rfl
theorem ms_X12_fullSize : Cond.selects (MethodName.cls yX12_fullSize) yX12_fullSize yX12_fullSize ∈ rd_gw := rd_mem 49 (by decide +kernel) rfl
theorem dX12_fullSize_0 : decode cX12_fullSize 0 = .ok (.iload_n 1, 1) := by decide +kernel
theorem dX12_fullSize_1 : decode cX12_fullSize 1 = .ok (.iconst 1, 1) := by decide +kernel
theorem dX12_fullSize_2 : decode cX12_fullSize 2 = .ok (.if_icmp .ne 8, 3) := by decide +kernel
theorem dX12_fullSize_5 : decode cX12_fullSize 5 = .ok (.bipush 16, 2) := by decide +kernel
theorem dX12_fullSize_7 : decode cX12_fullSize 7 = .ok (.goto 13, 3) := by decide +kernel
theorem dX12_fullSize_10 : decode cX12_fullSize 10 = .ok (.iload_n 1, 1) := by decide +kernel
theorem dX12_fullSize_11 : decode cX12_fullSize 11 = .ok (.iconst 2, 1) := by decide +kernel
theorem dX12_fullSize_12 : decode cX12_fullSize 12 = .ok (.if_icmp .ne 7, 3) := by decide +kernel
theorem dX12_fullSize_15 : decode cX12_fullSize 15 = .ok (.iconst 2, 1) := by decide +kernel
theorem dX12_fullSize_16 : decode cX12_fullSize 16 = .ok (.goto 4, 3) := by decide +kernel
theorem dX12_fullSize_19 : decode cX12_fullSize 19 = .ok (.iconst 4, 1) := by decide +kernel
theorem dX12_fullSize_20 : decode cX12_fullSize 20 = .ok (.istore_n 3, 1) := by decide +kernel
theorem dX12_fullSize_21 : decode cX12_fullSize 21 = .ok (.iload_n 3, 1) := by decide +kernel
theorem dX12_fullSize_22 : decode cX12_fullSize 22 = .ok (.iload_n 2, 1) := by decide +kernel
theorem dX12_fullSize_23 : decode cX12_fullSize 23 = .ok (.imul, 1) := by decide +kernel
theorem dX12_fullSize_24 : decode cX12_fullSize 24 = .ok (.istore 4, 2) := by decide +kernel
theorem dX12_fullSize_26 : decode cX12_fullSize 26 = .ok (.iload_n 1, 1) := by decide +kernel
theorem dX12_fullSize_27 : decode cX12_fullSize 27 = .ok (.iconst 1, 1) := by decide +kernel
theorem dX12_fullSize_28 : decode cX12_fullSize 28 = .ok (.if_icmp .ne 87, 3) := by decide +kernel
theorem dX12_fullSize_31 : decode cX12_fullSize 31 = .ok (.bipush 15, 2) := by decide +kernel
theorem dX12_fullSize_33 : decode cX12_fullSize 33 = .ok (.istore 5, 2) := by decide +kernel
theorem dX12_fullSize_35 : decode cX12_fullSize 35 = .ok (.iload 5, 2) := by decide +kernel
theorem dX12_fullSize_37 : decode cX12_fullSize 37 = .ok (.ifCond .lt 78, 3) := by decide +kernel
theorem dX12_fullSize_40 : decode cX12_fullSize 40 = .ok (.aload_n 0, 1) := by decide +kernel
theorem dX12_fullSize_41 : decode cX12_fullSize 41 = .ok (.getfield 178, 3) := by decide +kernel
theorem dX12_fullSize_44 : decode cX12_fullSize 44 = .ok (.iload_n 1, 1) := by decide +kernel
theorem dX12_fullSize_45 : decode cX12_fullSize 45 = .ok (.iaload, 1) := by decide +kernel
theorem dX12_fullSize_46 : decode cX12_fullSize 46 = .ok (.iload 5, 2) := by decide +kernel
theorem dX12_fullSize_48 : decode cX12_fullSize 48 = .ok (.ishr, 1) := by decide +kernel
theorem dX12_fullSize_49 : decode cX12_fullSize 49 = .ok (.iconst 1, 1) := by decide +kernel
theorem dX12_fullSize_50 : decode cX12_fullSize 50 = .ok (.iand, 1) := by decide +kernel
theorem dX12_fullSize_51 : decode cX12_fullSize 51 = .ok (.ifCond .ne 6, 3) := by decide +kernel
theorem dX12_fullSize_54 : decode cX12_fullSize 54 = .ok (.goto 55, 3) := by decide +kernel
theorem dX12_fullSize_57 : decode cX12_fullSize 57 = .ok (.iload_n 2, 1) := by decide +kernel
theorem dX12_fullSize_58 : decode cX12_fullSize 58 = .ok (.iconst 1, 1) := by decide +kernel
theorem dX12_fullSize_59 : decode cX12_fullSize 59 = .ok (.isub, 1) := by decide +kernel
theorem dX12_fullSize_60 : decode cX12_fullSize 60 = .ok (.istore 6, 2) := by decide +kernel
theorem dX12_fullSize_62 : decode cX12_fullSize 62 = .ok (.iload 6, 2) := by decide +kernel
theorem dX12_fullSize_64 : decode cX12_fullSize 64 = .ok (.ifCond .lt 45, 3) := by decide +kernel
theorem dX12_fullSize_67 : decode cX12_fullSize 67 = .ok (.aload_n 0, 1) := by decide +kernel
theorem dX12_fullSize_68 : decode cX12_fullSize 68 = .ok (.getfield 171, 3) := by decide +kernel
theorem dX12_fullSize_71 : decode cX12_fullSize 71 = .ok (.iload_n 1, 1) := by decide +kernel
theorem dX12_fullSize_72 : decode cX12_fullSize 72 = .ok (.bipush 64, 2) := by decide +kernel
theorem dX12_fullSize_74 : decode cX12_fullSize 74 = .ok (.imul, 1) := by decide +kernel
theorem dX12_fullSize_75 : decode cX12_fullSize 75 = .ok (.iload 5, 2) := by decide +kernel
theorem dX12_fullSize_77 : decode cX12_fullSize 77 = .ok (.iload_n 2, 1) := by decide +kernel
theorem dX12_fullSize_78 : decode cX12_fullSize 78 = .ok (.imul, 1) := by decide +kernel
theorem dX12_fullSize_79 : decode cX12_fullSize 79 = .ok (.iadd, 1) := by decide +kernel
theorem dX12_fullSize_80 : decode cX12_fullSize 80 = .ok (.iload 6, 2) := by decide +kernel
theorem dX12_fullSize_82 : decode cX12_fullSize 82 = .ok (.iadd, 1) := by decide +kernel
theorem dX12_fullSize_83 : decode cX12_fullSize 83 = .ok (.iaload, 1) := by decide +kernel
theorem dX12_fullSize_84 : decode cX12_fullSize 84 = .ok (.bipush 13, 2) := by decide +kernel
theorem dX12_fullSize_86 : decode cX12_fullSize 86 = .ok (.if_icmp .ne 17, 3) := by decide +kernel
theorem dX12_fullSize_89 : decode cX12_fullSize 89 = .ok (.iload 5, 2) := by decide +kernel
theorem dX12_fullSize_91 : decode cX12_fullSize 91 = .ok (.iconst 1, 1) := by decide +kernel
theorem dX12_fullSize_92 : decode cX12_fullSize 92 = .ok (.iadd, 1) := by decide +kernel
theorem dX12_fullSize_93 : decode cX12_fullSize 93 = .ok (.istore_n 3, 1) := by decide +kernel
theorem dX12_fullSize_94 : decode cX12_fullSize 94 = .ok (.iload 5, 2) := by decide +kernel
theorem dX12_fullSize_96 : decode cX12_fullSize 96 = .ok (.iload_n 2, 1) := by decide +kernel
theorem dX12_fullSize_97 : decode cX12_fullSize 97 = .ok (.imul, 1) := by decide +kernel
theorem dX12_fullSize_98 : decode cX12_fullSize 98 = .ok (.iload 6, 2) := by decide +kernel
theorem dX12_fullSize_100 : decode cX12_fullSize 100 = .ok (.iadd, 1) := by decide +kernel
theorem dX12_fullSize_101 : decode cX12_fullSize 101 = .ok (.istore 4, 2) := by decide +kernel
theorem dX12_fullSize_103 : decode cX12_fullSize 103 = .ok (.iinc 6 (-1), 3) := by decide +kernel
theorem dX12_fullSize_106 : decode cX12_fullSize 106 = .ok (.goto (-44), 3) := by decide +kernel
theorem dX12_fullSize_109 : decode cX12_fullSize 109 = .ok (.iinc 5 (-1), 3) := by decide +kernel
theorem dX12_fullSize_112 : decode cX12_fullSize 112 = .ok (.goto (-77), 3) := by decide +kernel
theorem dX12_fullSize_115 : decode cX12_fullSize 115 = .ok (.aload_n 0, 1) := by decide +kernel
theorem dX12_fullSize_116 : decode cX12_fullSize 116 = .ok (.getfield 178, 3) := by decide +kernel
theorem dX12_fullSize_119 : decode cX12_fullSize 119 = .ok (.iload_n 1, 1) := by decide +kernel
theorem dX12_fullSize_120 : decode cX12_fullSize 120 = .ok (.iaload, 1) := by decide +kernel
theorem dX12_fullSize_121 : decode cX12_fullSize 121 = .ok (.iconst 1, 1) := by decide +kernel
theorem dX12_fullSize_122 : decode cX12_fullSize 122 = .ok (.iload_n 3, 1) := by decide +kernel
theorem dX12_fullSize_123 : decode cX12_fullSize 123 = .ok (.ishl, 1) := by decide +kernel
theorem dX12_fullSize_124 : decode cX12_fullSize 124 = .ok (.iconst 1, 1) := by decide +kernel
theorem dX12_fullSize_125 : decode cX12_fullSize 125 = .ok (.isub, 1) := by decide +kernel
theorem dX12_fullSize_126 : decode cX12_fullSize 126 = .ok (.iand, 1) := by decide +kernel
theorem dX12_fullSize_127 : decode cX12_fullSize 127 = .ok (.iconst 1, 1) := by decide +kernel
theorem dX12_fullSize_128 : decode cX12_fullSize 128 = .ok (.iload_n 3, 1) := by decide +kernel
theorem dX12_fullSize_129 : decode cX12_fullSize 129 = .ok (.ishl, 1) := by decide +kernel
theorem dX12_fullSize_130 : decode cX12_fullSize 130 = .ok (.iconst 1, 1) := by decide +kernel
theorem dX12_fullSize_131 : decode cX12_fullSize 131 = .ok (.isub, 1) := by decide +kernel
theorem dX12_fullSize_132 : decode cX12_fullSize 132 = .ok (.if_icmp .ne 8, 3) := by decide +kernel
theorem dX12_fullSize_135 : decode cX12_fullSize 135 = .ok (.iload 4, 2) := by decide +kernel
theorem dX12_fullSize_137 : decode cX12_fullSize 137 = .ok (.goto 4, 3) := by decide +kernel
theorem dX12_fullSize_140 : decode cX12_fullSize 140 = .ok (.iconst (-1), 1) := by decide +kernel
theorem dX12_fullSize_141 : decode cX12_fullSize 141 = .ok (.ireturn, 1) := by decide +kernel
def B_X12_fullSize_141 (w : rd_W) (t0 : Int32) (S : rd_S) : Option (Int32 × rd_S) :=
  some (t0, S)
theorem yb_X12_fullSize_141 (cx : rd_Cx) (w : rd_W) (t0 : Int32) (S : rd_S) : rd_Y cx G_X12_fullSize (fun r => rd_P cx G_X12_fullSize.2.2.2.2.2 0 w (rd_rI w r)) (B_X12_fullSize_141 w t0 S) 141 [] [.inl t0] w S 0 0 := by
  unfold B_X12_fullSize_141
  exact ry_iret dX12_fullSize_141 rfl (Nat.le_of_ble_eq_true rfl) (Nat.le_of_ble_eq_true rfl)
def B_X12_fullSize_115 (w : rd_W) (a0 : Nat) (x1 : Int32) (x3 : Int32) (x4 : Int32) (S : rd_S) : Option (Int32 × rd_S) :=
  rd_c (gR S a0 28) fun b5 =>
  rd_i x1 (w.2.2 b5) <|
  if ((gI S b5 x1.toNatClampNeg) &&& ((rd_shl 1 x3) - 1)) = ((rd_shl 1 x3) - 1) then
  (B_X12_fullSize_141 w x4 S)
  else
  (B_X12_fullSize_141 w (-1) S)
theorem yb_X12_fullSize_115 (cx : rd_Cx) (w : rd_W) (a0 : Nat) (x1 : Int32) (x3 : Int32) (x4 : Int32) (ha0 : rd_ok w a0 12) (S : rd_S) : rd_Y cx G_X12_fullSize (fun r => rd_P cx G_X12_fullSize.2.2.2.2.2 0 w (rd_rI w r)) (B_X12_fullSize_115 w a0 x1 x3 x4 S) 115 [(0, .inr (some a0)), (1, .inl x1), (3, .inl x3), (4, .inl x4)] [] w S 0 0 := by
  unfold B_X12_fullSize_115
  refine ry_aload_n dX12_fullSize_115 rfl ?_
  refine ry_getr dX12_fullSize_116 ha0 fl_RX12_178 rfl (fun b5 hb5 => ?_)
  refine ry_iload_n dX12_fullSize_119 rfl ?_
  refine ry_iald dX12_fullSize_120 hb5 ?_
  refine ry_iconst (v := 1) dX12_fullSize_121 (by decide) ?_
  refine ry_iload_n dX12_fullSize_122 rfl ?_
  refine ry_ishl dX12_fullSize_123 ?_
  refine ry_iconst (v := 1) dX12_fullSize_124 (by decide) ?_
  refine ry_isub dX12_fullSize_125 ?_
  refine ry_iand dX12_fullSize_126 ?_
  refine ry_iconst (v := 1) dX12_fullSize_127 (by decide) ?_
  refine ry_iload_n dX12_fullSize_128 rfl ?_
  refine ry_ishl dX12_fullSize_129 ?_
  refine ry_iconst (v := 1) dX12_fullSize_130 (by decide) ?_
  refine ry_isub dX12_fullSize_131 ?_
  refine ry_icmp_ne 140 dX12_fullSize_132 (by decide) (fun c6 => ?_) (fun c6 => ?_)
  · refine ry_iload dX12_fullSize_135 rfl ?_
    refine ry_goto 141 dX12_fullSize_137 (by decide) ?_
    exact ry_to (yb_X12_fullSize_141 cx w x4 S) trivial
  · refine ry_iconst (v := (-1)) dX12_fullSize_140 (by decide) ?_
    exact ry_to (yb_X12_fullSize_141 cx w (-1) S) trivial
def B_X12_fullSize_109 (w : rd_W) (k35 : Nat → Int32 → Int32 → Int32 → Int32 → Int32 → rd_S → Option (Int32 × rd_S)) (a0 : Nat) (x1 : Int32) (x2 : Int32) (x3 : Int32) (x4 : Int32) (x5 : Int32) (S : rd_S) : Option (Int32 × rd_S) :=
  rd_let (x5 + (-1)) fun v9 =>
  k35 a0 x1 x2 x3 x4 v9 S
theorem yb_X12_fullSize_109 (cx : rd_Cx) (w : rd_W) {k35 : Nat → Int32 → Int32 → Int32 → Int32 → Int32 → rd_S → Option (Int32 × rd_S)} (hk35 : ∀ (a0 : Nat) (x1 : Int32) (x2 : Int32) (x3 : Int32) (x4 : Int32) (x5 : Int32) (ha0 : rd_ok w a0 12) (S : rd_S), rd_Y cx G_X12_fullSize (fun r => rd_P cx G_X12_fullSize.2.2.2.2.2 0 w (rd_rI w r)) (k35 a0 x1 x2 x3 x4 x5 S) 35 [(0, .inr (some a0)), (1, .inl x1), (2, .inl x2), (3, .inl x3), (4, .inl x4), (5, .inl x5)] [] w S 0 0) (a0 : Nat) (x1 : Int32) (x2 : Int32) (x3 : Int32) (x4 : Int32) (x5 : Int32) (ha0 : rd_ok w a0 12) (S : rd_S) : rd_Y cx G_X12_fullSize (fun r => rd_P cx G_X12_fullSize.2.2.2.2.2 0 w (rd_rI w r)) (B_X12_fullSize_109 w k35 a0 x1 x2 x3 x4 x5 S) 109 [(0, .inr (some a0)), (1, .inl x1), (2, .inl x2), (3, .inl x3), (4, .inl x4), (5, .inl x5)] [] w S 0 0 := by
  unfold B_X12_fullSize_109
  refine ry_iinc (v := (-1)) dX12_fullSize_109 rfl (by decide) (by decide) ?_
  refine ry_let (fun v9 => ?_)
  refine ry_goto 35 dX12_fullSize_112 (by decide) ?_
  exact ry_to (hk35 a0 x1 x2 x3 x4 v9 ha0 S) ⟨rfl, rfl, rfl, rfl, rfl, rfl, trivial⟩
def B_X12_fullSize_103 (w : rd_W) (k62 : Nat → Int32 → Int32 → Int32 → Int32 → Int32 → Int32 → rd_S → Option (Int32 × rd_S)) (a0 : Nat) (x1 : Int32) (x2 : Int32) (x3 : Int32) (x4 : Int32) (x5 : Int32) (x6 : Int32) (S : rd_S) : Option (Int32 × rd_S) :=
  rd_let (x6 + (-1)) fun v17 =>
  k62 a0 x1 x2 x3 x4 x5 v17 S
theorem yb_X12_fullSize_103 (cx : rd_Cx) (w : rd_W) {k62 : Nat → Int32 → Int32 → Int32 → Int32 → Int32 → Int32 → rd_S → Option (Int32 × rd_S)} (hk62 : ∀ (a0 : Nat) (x1 : Int32) (x2 : Int32) (x3 : Int32) (x4 : Int32) (x5 : Int32) (x6 : Int32) (ha0 : rd_ok w a0 12) (S : rd_S), rd_Y cx G_X12_fullSize (fun r => rd_P cx G_X12_fullSize.2.2.2.2.2 0 w (rd_rI w r)) (k62 a0 x1 x2 x3 x4 x5 x6 S) 62 [(0, .inr (some a0)), (1, .inl x1), (2, .inl x2), (3, .inl x3), (4, .inl x4), (5, .inl x5), (6, .inl x6)] [] w S 0 0) (a0 : Nat) (x1 : Int32) (x2 : Int32) (x3 : Int32) (x4 : Int32) (x5 : Int32) (x6 : Int32) (ha0 : rd_ok w a0 12) (S : rd_S) : rd_Y cx G_X12_fullSize (fun r => rd_P cx G_X12_fullSize.2.2.2.2.2 0 w (rd_rI w r)) (B_X12_fullSize_103 w k62 a0 x1 x2 x3 x4 x5 x6 S) 103 [(0, .inr (some a0)), (1, .inl x1), (2, .inl x2), (3, .inl x3), (4, .inl x4), (5, .inl x5), (6, .inl x6)] [] w S 0 0 := by
  unfold B_X12_fullSize_103
  refine ry_iinc (v := (-1)) dX12_fullSize_103 rfl (by decide) (by decide) ?_
  refine ry_let (fun v17 => ?_)
  refine ry_goto 62 dX12_fullSize_106 (by decide) ?_
  exact ry_to (hk62 a0 x1 x2 x3 x4 x5 v17 ha0 S) ⟨rfl, rfl, rfl, rfl, rfl, rfl, rfl, trivial⟩
def B_X12_fullSize_62 (w : rd_W) (k35 : Nat → Int32 → Int32 → Int32 → Int32 → Int32 → rd_S → Option (Int32 × rd_S)) (k62 : Nat → Int32 → Int32 → Int32 → Int32 → Int32 → Int32 → rd_S → Option (Int32 × rd_S)) (a0 : Nat) (x1 : Int32) (x2 : Int32) (x3 : Int32) (x4 : Int32) (x5 : Int32) (x6 : Int32) (S : rd_S) : Option (Int32 × rd_S) :=
  if x6 < 0 then
  (B_X12_fullSize_109 w k35 a0 x1 x2 x3 x4 x5 S)
  else
  (rd_c (gR S a0 27) fun b12 =>
  rd_let (((x1 * 64) + (x5 * x2)) + x6) fun v13 =>
  rd_i v13 (w.2.2 b12) <|
  if (gI S b12 v13.toNatClampNeg) = 13 then
  (rd_let (x5 + 1) fun v15 =>
  rd_let ((x5 * x2) + x6) fun v16 =>
  B_X12_fullSize_103 w k62 a0 x1 x2 v15 v16 x5 x6 S)
  else
  (B_X12_fullSize_103 w k62 a0 x1 x2 x3 x4 x5 x6 S))
theorem yb_X12_fullSize_62 (cx : rd_Cx) (w : rd_W) {k35 : Nat → Int32 → Int32 → Int32 → Int32 → Int32 → rd_S → Option (Int32 × rd_S)} {k62 : Nat → Int32 → Int32 → Int32 → Int32 → Int32 → Int32 → rd_S → Option (Int32 × rd_S)} (hk35 : ∀ (a0 : Nat) (x1 : Int32) (x2 : Int32) (x3 : Int32) (x4 : Int32) (x5 : Int32) (ha0 : rd_ok w a0 12) (S : rd_S), rd_Y cx G_X12_fullSize (fun r => rd_P cx G_X12_fullSize.2.2.2.2.2 0 w (rd_rI w r)) (k35 a0 x1 x2 x3 x4 x5 S) 35 [(0, .inr (some a0)), (1, .inl x1), (2, .inl x2), (3, .inl x3), (4, .inl x4), (5, .inl x5)] [] w S 0 0) (hk62 : ∀ (a0 : Nat) (x1 : Int32) (x2 : Int32) (x3 : Int32) (x4 : Int32) (x5 : Int32) (x6 : Int32) (ha0 : rd_ok w a0 12) (S : rd_S), rd_Y cx G_X12_fullSize (fun r => rd_P cx G_X12_fullSize.2.2.2.2.2 0 w (rd_rI w r)) (k62 a0 x1 x2 x3 x4 x5 x6 S) 62 [(0, .inr (some a0)), (1, .inl x1), (2, .inl x2), (3, .inl x3), (4, .inl x4), (5, .inl x5), (6, .inl x6)] [] w S 0 0) (a0 : Nat) (x1 : Int32) (x2 : Int32) (x3 : Int32) (x4 : Int32) (x5 : Int32) (x6 : Int32) (ha0 : rd_ok w a0 12) (S : rd_S) : rd_Y cx G_X12_fullSize (fun r => rd_P cx G_X12_fullSize.2.2.2.2.2 0 w (rd_rI w r)) (B_X12_fullSize_62 w k35 k62 a0 x1 x2 x3 x4 x5 x6 S) 62 [(0, .inr (some a0)), (1, .inl x1), (2, .inl x2), (3, .inl x3), (4, .inl x4), (5, .inl x5), (6, .inl x6)] [] w S 0 0 := by
  unfold B_X12_fullSize_62
  refine ry_iload dX12_fullSize_62 rfl ?_
  refine ry_if_lt 109 dX12_fullSize_64 (by decide) (fun c11 => ?_) (fun c11 => ?_)
  · exact ry_to (yb_X12_fullSize_109 cx w (k35 := k35) hk35 a0 x1 x2 x3 x4 x5 ha0 S) ⟨rfl, rfl, rfl, rfl, rfl, rfl, trivial⟩
  · refine ry_aload_n dX12_fullSize_67 rfl ?_
    refine ry_getr dX12_fullSize_68 ha0 fl_RX12_171 rfl (fun b12 hb12 => ?_)
    refine ry_iload_n dX12_fullSize_71 rfl ?_
    refine ry_bipush (v := 64) dX12_fullSize_72 (by decide) ?_
    refine ry_imul dX12_fullSize_74 ?_
    refine ry_iload dX12_fullSize_75 rfl ?_
    refine ry_iload_n dX12_fullSize_77 rfl ?_
    refine ry_imul dX12_fullSize_78 ?_
    refine ry_iadd dX12_fullSize_79 ?_
    refine ry_iload dX12_fullSize_80 rfl ?_
    refine ry_iadd dX12_fullSize_82 ?_
    refine ry_lets (fun v13 => ?_)
    refine ry_iald dX12_fullSize_83 hb12 ?_
    refine ry_bipush (v := 13) dX12_fullSize_84 (by decide) ?_
    refine ry_icmp_ne 103 dX12_fullSize_86 (by decide) (fun c14 => ?_) (fun c14 => ?_)
    · refine ry_iload dX12_fullSize_89 rfl ?_
      refine ry_iconst (v := 1) dX12_fullSize_91 (by decide) ?_
      refine ry_iadd dX12_fullSize_92 ?_
      refine ry_istore_n dX12_fullSize_93 (by decide) ?_
      refine ry_let (fun v15 => ?_)
      refine ry_iload dX12_fullSize_94 rfl ?_
      refine ry_iload_n dX12_fullSize_96 rfl ?_
      refine ry_imul dX12_fullSize_97 ?_
      refine ry_iload dX12_fullSize_98 rfl ?_
      refine ry_iadd dX12_fullSize_100 ?_
      refine ry_istore dX12_fullSize_101 (by decide) ?_
      refine ry_let (fun v16 => ?_)
      exact ry_to (yb_X12_fullSize_103 cx w (k62 := k62) hk62 a0 x1 x2 v15 v16 x5 x6 ha0 S) ⟨rfl, rfl, rfl, rfl, rfl, rfl, rfl, trivial⟩
    · exact ry_to (yb_X12_fullSize_103 cx w (k62 := k62) hk62 a0 x1 x2 x3 x4 x5 x6 ha0 S) ⟨rfl, rfl, rfl, rfl, rfl, rfl, rfl, trivial⟩
def F_X12_fullSize_62 (w : rd_W) (k35 : Nat → Int32 → Int32 → Int32 → Int32 → Int32 → rd_S → Option (Int32 × rd_S)) (n : Nat) : Nat → Int32 → Int32 → Int32 → Int32 → Int32 → Int32 → rd_S → Option (Int32 × rd_S) :=
  Nat.rec (motive := fun _ => Nat → Int32 → Int32 → Int32 → Int32 → Int32 → Int32 → rd_S → Option (Int32 × rd_S)) (fun _ _ _ _ _ _ _ _ => none) (fun _ ih => B_X12_fullSize_62 w k35 ih) n
theorem yl_X12_fullSize_62 (cx : rd_Cx) (w : rd_W) {k35 : Nat → Int32 → Int32 → Int32 → Int32 → Int32 → rd_S → Option (Int32 × rd_S)} (hk35 : ∀ (a0 : Nat) (x1 : Int32) (x2 : Int32) (x3 : Int32) (x4 : Int32) (x5 : Int32) (ha0 : rd_ok w a0 12) (S : rd_S), rd_Y cx G_X12_fullSize (fun r => rd_P cx G_X12_fullSize.2.2.2.2.2 0 w (rd_rI w r)) (k35 a0 x1 x2 x3 x4 x5 S) 35 [(0, .inr (some a0)), (1, .inl x1), (2, .inl x2), (3, .inl x3), (4, .inl x4), (5, .inl x5)] [] w S 0 0) : ∀ (n : Nat) (a0 : Nat) (x1 : Int32) (x2 : Int32) (x3 : Int32) (x4 : Int32) (x5 : Int32) (x6 : Int32) (ha0 : rd_ok w a0 12) (S : rd_S), rd_Y cx G_X12_fullSize (fun r => rd_P cx G_X12_fullSize.2.2.2.2.2 0 w (rd_rI w r)) (F_X12_fullSize_62 w k35 n a0 x1 x2 x3 x4 x5 x6 S) 62 [(0, .inr (some a0)), (1, .inl x1), (2, .inl x2), (3, .inl x3), (4, .inl x4), (5, .inl x5), (6, .inl x6)] [] w S 0 0 := by
  intro n
  induction n with
  | zero => intro a0 x1 x2 x3 x4 x5 x6 ha0 S; exact ry_none
  | succ n ih => intro a0 x1 x2 x3 x4 x5 x6 ha0 S; exact yb_X12_fullSize_62 cx w hk35 ih a0 x1 x2 x3 x4 x5 x6 ha0 S
def B_X12_fullSize_35 (w : rd_W) (k35 : Nat → Int32 → Int32 → Int32 → Int32 → Int32 → rd_S → Option (Int32 × rd_S)) (a0 : Nat) (x1 : Int32) (x2 : Int32) (x3 : Int32) (x4 : Int32) (x5 : Int32) (S : rd_S) : Option (Int32 × rd_S) :=
  if x5 < 0 then
  (B_X12_fullSize_115 w a0 x1 x3 x4 S)
  else
  (rd_c (gR S a0 28) fun b7 =>
  rd_i x1 (w.2.2 b7) <|
  if ((rd_shr (gI S b7 x1.toNatClampNeg) x5) &&& 1) = 0 then
  (B_X12_fullSize_109 w k35 a0 x1 x2 x3 x4 x5 S)
  else
  (rd_let (x2 - 1) fun v10 =>
  F_X12_fullSize_62 w k35 rd_big a0 x1 x2 x3 x4 x5 v10 S))
theorem yb_X12_fullSize_35 (cx : rd_Cx) (w : rd_W) {k35 : Nat → Int32 → Int32 → Int32 → Int32 → Int32 → rd_S → Option (Int32 × rd_S)} (hk35 : ∀ (a0 : Nat) (x1 : Int32) (x2 : Int32) (x3 : Int32) (x4 : Int32) (x5 : Int32) (ha0 : rd_ok w a0 12) (S : rd_S), rd_Y cx G_X12_fullSize (fun r => rd_P cx G_X12_fullSize.2.2.2.2.2 0 w (rd_rI w r)) (k35 a0 x1 x2 x3 x4 x5 S) 35 [(0, .inr (some a0)), (1, .inl x1), (2, .inl x2), (3, .inl x3), (4, .inl x4), (5, .inl x5)] [] w S 0 0) (a0 : Nat) (x1 : Int32) (x2 : Int32) (x3 : Int32) (x4 : Int32) (x5 : Int32) (ha0 : rd_ok w a0 12) (S : rd_S) : rd_Y cx G_X12_fullSize (fun r => rd_P cx G_X12_fullSize.2.2.2.2.2 0 w (rd_rI w r)) (B_X12_fullSize_35 w k35 a0 x1 x2 x3 x4 x5 S) 35 [(0, .inr (some a0)), (1, .inl x1), (2, .inl x2), (3, .inl x3), (4, .inl x4), (5, .inl x5)] [] w S 0 0 := by
  unfold B_X12_fullSize_35
  refine ry_iload dX12_fullSize_35 rfl ?_
  refine ry_if_lt 115 dX12_fullSize_37 (by decide) (fun c4 => ?_) (fun c4 => ?_)
  · exact ry_to (yb_X12_fullSize_115 cx w a0 x1 x3 x4 ha0 S) ⟨rfl, rfl, rfl, rfl, trivial⟩
  · refine ry_aload_n dX12_fullSize_40 rfl ?_
    refine ry_getr dX12_fullSize_41 ha0 fl_RX12_178 rfl (fun b7 hb7 => ?_)
    refine ry_iload_n dX12_fullSize_44 rfl ?_
    refine ry_iald dX12_fullSize_45 hb7 ?_
    refine ry_iload dX12_fullSize_46 rfl ?_
    refine ry_ishr dX12_fullSize_48 ?_
    refine ry_iconst (v := 1) dX12_fullSize_49 (by decide) ?_
    refine ry_iand dX12_fullSize_50 ?_
    refine ry_if_ne 57 dX12_fullSize_51 (by decide) (fun c8 => ?_) (fun c8 => ?_)
    · refine ry_goto 109 dX12_fullSize_54 (by decide) ?_
      exact ry_to (yb_X12_fullSize_109 cx w (k35 := k35) hk35 a0 x1 x2 x3 x4 x5 ha0 S) ⟨rfl, rfl, rfl, rfl, rfl, rfl, trivial⟩
    · refine ry_iload_n dX12_fullSize_57 rfl ?_
      refine ry_iconst (v := 1) dX12_fullSize_58 (by decide) ?_
      refine ry_isub dX12_fullSize_59 ?_
      refine ry_istore dX12_fullSize_60 (by decide) ?_
      refine ry_let (fun v10 => ?_)
      exact ry_to (yl_X12_fullSize_62 cx w (k35 := k35) hk35 rd_big a0 x1 x2 x3 x4 x5 v10 ha0 S) ⟨rfl, rfl, rfl, rfl, rfl, rfl, rfl, trivial⟩
def F_X12_fullSize_35 (w : rd_W) (n : Nat) : Nat → Int32 → Int32 → Int32 → Int32 → Int32 → rd_S → Option (Int32 × rd_S) :=
  Nat.rec (motive := fun _ => Nat → Int32 → Int32 → Int32 → Int32 → Int32 → rd_S → Option (Int32 × rd_S)) (fun _ _ _ _ _ _ _ => none) (fun _ ih => B_X12_fullSize_35 w ih) n
theorem yl_X12_fullSize_35 (cx : rd_Cx) (w : rd_W) : ∀ (n : Nat) (a0 : Nat) (x1 : Int32) (x2 : Int32) (x3 : Int32) (x4 : Int32) (x5 : Int32) (ha0 : rd_ok w a0 12) (S : rd_S), rd_Y cx G_X12_fullSize (fun r => rd_P cx G_X12_fullSize.2.2.2.2.2 0 w (rd_rI w r)) (F_X12_fullSize_35 w n a0 x1 x2 x3 x4 x5 S) 35 [(0, .inr (some a0)), (1, .inl x1), (2, .inl x2), (3, .inl x3), (4, .inl x4), (5, .inl x5)] [] w S 0 0 := by
  intro n
  induction n with
  | zero => intro a0 x1 x2 x3 x4 x5 ha0 S; exact ry_none
  | succ n ih => intro a0 x1 x2 x3 x4 x5 ha0 S; exact yb_X12_fullSize_35 cx w ih a0 x1 x2 x3 x4 x5 ha0 S
def B_X12_fullSize_20 (w : rd_W) (a0 : Nat) (x1 : Int32) (x2 : Int32) (t0 : Int32) (S : rd_S) : Option (Int32 × rd_S) :=
  rd_let (t0 * x2) fun v2 =>
  if x1 = 1 then
  (F_X12_fullSize_35 w rd_big a0 x1 x2 t0 v2 15 S)
  else
  (B_X12_fullSize_115 w a0 x1 t0 v2 S)
theorem yb_X12_fullSize_20 (cx : rd_Cx) (w : rd_W) (a0 : Nat) (x1 : Int32) (x2 : Int32) (t0 : Int32) (ha0 : rd_ok w a0 12) (S : rd_S) : rd_Y cx G_X12_fullSize (fun r => rd_P cx G_X12_fullSize.2.2.2.2.2 0 w (rd_rI w r)) (B_X12_fullSize_20 w a0 x1 x2 t0 S) 20 [(0, .inr (some a0)), (1, .inl x1), (2, .inl x2)] [.inl t0] w S 0 0 := by
  unfold B_X12_fullSize_20
  refine ry_istore_n dX12_fullSize_20 (by decide) ?_
  refine ry_iload_n dX12_fullSize_21 rfl ?_
  refine ry_iload_n dX12_fullSize_22 rfl ?_
  refine ry_imul dX12_fullSize_23 ?_
  refine ry_istore dX12_fullSize_24 (by decide) ?_
  refine ry_let (fun v2 => ?_)
  refine ry_iload_n dX12_fullSize_26 rfl ?_
  refine ry_iconst (v := 1) dX12_fullSize_27 (by decide) ?_
  refine ry_icmp_ne 115 dX12_fullSize_28 (by decide) (fun c3 => ?_) (fun c3 => ?_)
  · refine ry_bipush (v := 15) dX12_fullSize_31 (by decide) ?_
    refine ry_istore dX12_fullSize_33 (by decide) ?_
    exact ry_to (yl_X12_fullSize_35 cx w rd_big a0 x1 x2 t0 v2 15 ha0 S) ⟨rfl, rfl, rfl, rfl, rfl, rfl, trivial⟩
  · exact ry_to (yb_X12_fullSize_115 cx w a0 x1 t0 v2 ha0 S) ⟨rfl, rfl, rfl, rfl, trivial⟩
def F_X12_fullSize (w : rd_W) (a0 : Nat) (x1 : Int32) (x2 : Int32) (S : rd_S) : Option (Int32 × rd_S) :=
  if x1 = 1 then
  (B_X12_fullSize_20 w a0 x1 x2 16 S)
  else
  (if x1 = 2 then
  (B_X12_fullSize_20 w a0 x1 x2 2 S)
  else
  (B_X12_fullSize_20 w a0 x1 x2 4 S))
theorem ym_X12_fullSize (cx : rd_Cx) (w : rd_W) (a0 : Nat) (x1 : Int32) (x2 : Int32) (ha0 : rd_ok w a0 12) (S : rd_S) : rd_Y cx G_X12_fullSize (fun r => rd_P cx G_X12_fullSize.2.2.2.2.2 0 w (rd_rI w r)) (F_X12_fullSize w a0 x1 x2 S) 0 (rd_as 0 [.inr (some a0), .inl x1, .inl x2]) [] w S 0 0 := by
  unfold F_X12_fullSize
  refine ry_iload_n dX12_fullSize_0 rfl ?_
  refine ry_iconst (v := 1) dX12_fullSize_1 (by decide) ?_
  refine ry_icmp_ne 10 dX12_fullSize_2 (by decide) (fun c1 => ?_) (fun c1 => ?_)
  · refine ry_bipush (v := 16) dX12_fullSize_5 (by decide) ?_
    refine ry_goto 20 dX12_fullSize_7 (by decide) ?_
    exact ry_to (yb_X12_fullSize_20 cx w a0 x1 x2 16 ha0 S) ⟨rfl, rfl, rfl, trivial⟩
  · refine ry_iload_n dX12_fullSize_10 rfl ?_
    refine ry_iconst (v := 2) dX12_fullSize_11 (by decide) ?_
    refine ry_icmp_ne 19 dX12_fullSize_12 (by decide) (fun c18 => ?_) (fun c18 => ?_)
    · refine ry_iconst (v := 2) dX12_fullSize_15 (by decide) ?_
      refine ry_goto 20 dX12_fullSize_16 (by decide) ?_
      exact ry_to (yb_X12_fullSize_20 cx w a0 x1 x2 2 ha0 S) ⟨rfl, rfl, rfl, trivial⟩
    · refine ry_iconst (v := 4) dX12_fullSize_19 (by decide) ?_
      exact ry_to (yb_X12_fullSize_20 cx w a0 x1 x2 4 ha0 S) ⟨rfl, rfl, rfl, trivial⟩
theorem cm_X12_fullSize (l : Launch) (cx : rd_Cx) (w : rd_W) (a0 : Nat) (x1 : Int32) (x2 : Int32) (ha0 : rd_ok w a0 12) (S : rd_S) (r : Int32 × rd_S) (h : F_X12_fullSize w a0 x1 x2 S = some r) : rd_M l cx yX12_fullSize G_X12_fullSize 0 [.inr (some a0), .inl x1, .inl x2] w S (rd_rI w r) :=
  rd_enter (plainFor_of_name (by decide +kernel)) rfl (fun h => by cases h) (Nat.le_of_ble_eq_true rfl) (ym_X12_fullSize cx w a0 x1 x2 ha0 S r h)
abbrev G_X12_piece : rd_G := (RX12, cX12_piece, 9, none, false, { frames := 1, cells := 0, slots := 0, locals := 26 })
theorem yf_X12_piece : rd_YL yX12_piece G_X12_piece 5 := ⟨rd_mem 930 (by decide +kernel) rfl, rd_mem 75 (by decide +kernel) rfl, by decide +kernel, by decide +kernel, by decide +kernel⟩
theorem mi_X12_piece : Cond.instanceMethod yX12_piece ∈ rd_gw := rd_mem 929 (by decide +kernel) rfl
theorem ms_X12_piece : Cond.selects (MethodName.cls yX12_piece) yX12_piece yX12_piece ∈ rd_gw := rd_mem 48 (by decide +kernel) rfl
theorem dX12_piece_0 : decode cX12_piece 0 = .ok (.iconst 1, 1) := by decide +kernel
theorem dX12_piece_1 : decode cX12_piece 1 = .ok (.istore 6, 2) := by decide +kernel
theorem dX12_piece_3 : decode cX12_piece 3 = .ok (.iconst 0, 1) := by decide +kernel
theorem dX12_piece_4 : decode cX12_piece 4 = .ok (.istore 7, 2) := by decide +kernel
theorem dX12_piece_6 : decode cX12_piece 6 = .ok (.iload 7, 2) := by decide +kernel
theorem dX12_piece_8 : decode cX12_piece 8 = .ok (.iload 5, 2) := by decide +kernel
theorem dX12_piece_10 : decode cX12_piece 10 = .ok (.if_icmp .ge 51, 3) := by decide +kernel
theorem dX12_piece_13 : decode cX12_piece 13 = .ok (.iload 6, 2) := by decide +kernel
theorem dX12_piece_15 : decode cX12_piece 15 = .ok (.ifCond .eq 37, 3) := by decide +kernel
theorem dX12_piece_18 : decode cX12_piece 18 = .ok (.aload_n 0, 1) := by decide +kernel
theorem dX12_piece_19 : decode cX12_piece 19 = .ok (.getfield 171, 3) := by decide +kernel
theorem dX12_piece_22 : decode cX12_piece 22 = .ok (.iload_n 1, 1) := by decide +kernel
theorem dX12_piece_23 : decode cX12_piece 23 = .ok (.bipush 64, 2) := by decide +kernel
theorem dX12_piece_25 : decode cX12_piece 25 = .ok (.imul, 1) := by decide +kernel
theorem dX12_piece_26 : decode cX12_piece 26 = .ok (.iload_n 2, 1) := by decide +kernel
theorem dX12_piece_27 : decode cX12_piece 27 = .ok (.iload 5, 2) := by decide +kernel
theorem dX12_piece_29 : decode cX12_piece 29 = .ok (.imul, 1) := by decide +kernel
theorem dX12_piece_30 : decode cX12_piece 30 = .ok (.iadd, 1) := by decide +kernel
theorem dX12_piece_31 : decode cX12_piece 31 = .ok (.iload 7, 2) := by decide +kernel
theorem dX12_piece_33 : decode cX12_piece 33 = .ok (.iadd, 1) := by decide +kernel
theorem dX12_piece_34 : decode cX12_piece 34 = .ok (.iaload, 1) := by decide +kernel
theorem dX12_piece_35 : decode cX12_piece 35 = .ok (.iload_n 3, 1) := by decide +kernel
theorem dX12_piece_36 : decode cX12_piece 36 = .ok (.iload 4, 2) := by decide +kernel
theorem dX12_piece_38 : decode cX12_piece 38 = .ok (.iload 5, 2) := by decide +kernel
theorem dX12_piece_40 : decode cX12_piece 40 = .ok (.iload 7, 2) := by decide +kernel
theorem dX12_piece_42 : decode cX12_piece 42 = .ok (.invokestatic 174, 3) := by decide +kernel
theorem dX12_piece_45 : decode cX12_piece 45 = .ok (.if_icmp .ne 7, 3) := by decide +kernel
theorem dX12_piece_48 : decode cX12_piece 48 = .ok (.iconst 1, 1) := by decide +kernel
theorem dX12_piece_49 : decode cX12_piece 49 = .ok (.goto 4, 3) := by decide +kernel
theorem dX12_piece_52 : decode cX12_piece 52 = .ok (.iconst 0, 1) := by decide +kernel
theorem dX12_piece_53 : decode cX12_piece 53 = .ok (.istore 6, 2) := by decide +kernel
theorem dX12_piece_55 : decode cX12_piece 55 = .ok (.iinc 7 1, 3) := by decide +kernel
theorem dX12_piece_58 : decode cX12_piece 58 = .ok (.goto (-52), 3) := by decide +kernel
theorem dX12_piece_61 : decode cX12_piece 61 = .ok (.aload_n 0, 1) := by decide +kernel
theorem dX12_piece_62 : decode cX12_piece 62 = .ok (.getfield 178, 3) := by decide +kernel
theorem dX12_piece_65 : decode cX12_piece 65 = .ok (.iload_n 1, 1) := by decide +kernel
theorem dX12_piece_66 : decode cX12_piece 66 = .ok (.iaload, 1) := by decide +kernel
theorem dX12_piece_67 : decode cX12_piece 67 = .ok (.iload_n 2, 1) := by decide +kernel
theorem dX12_piece_68 : decode cX12_piece 68 = .ok (.ishr, 1) := by decide +kernel
theorem dX12_piece_69 : decode cX12_piece 69 = .ok (.iconst 1, 1) := by decide +kernel
theorem dX12_piece_70 : decode cX12_piece 70 = .ok (.iand, 1) := by decide +kernel
theorem dX12_piece_71 : decode cX12_piece 71 = .ok (.iconst 1, 1) := by decide +kernel
theorem dX12_piece_72 : decode cX12_piece 72 = .ok (.if_icmp .ne 15, 3) := by decide +kernel
theorem dX12_piece_75 : decode cX12_piece 75 = .ok (.iload 6, 2) := by decide +kernel
theorem dX12_piece_77 : decode cX12_piece 77 = .ok (.ifCond .ne 10, 3) := by decide +kernel
theorem dX12_piece_80 : decode cX12_piece 80 = .ok (.aload_n 0, 1) := by decide +kernel
theorem dX12_piece_81 : decode cX12_piece 81 = .ok (.getfield 178, 3) := by decide +kernel
theorem dX12_piece_84 : decode cX12_piece 84 = .ok (.iload_n 1, 1) := by decide +kernel
theorem dX12_piece_85 : decode cX12_piece 85 = .ok (.iconst 0, 1) := by decide +kernel
theorem dX12_piece_86 : decode cX12_piece 86 = .ok (.iastore, 1) := by decide +kernel
theorem dX12_piece_87 : decode cX12_piece 87 = .ok (.iconst 0, 1) := by decide +kernel
theorem dX12_piece_88 : decode cX12_piece 88 = .ok (.istore 7, 2) := by decide +kernel
theorem dX12_piece_90 : decode cX12_piece 90 = .ok (.iload 7, 2) := by decide +kernel
theorem dX12_piece_92 : decode cX12_piece 92 = .ok (.iload 5, 2) := by decide +kernel
theorem dX12_piece_94 : decode cX12_piece 94 = .ok (.if_icmp .ge 36, 3) := by decide +kernel
theorem dX12_piece_97 : decode cX12_piece 97 = .ok (.aload_n 0, 1) := by decide +kernel
theorem dX12_piece_98 : decode cX12_piece 98 = .ok (.getfield 171, 3) := by decide +kernel
theorem dX12_piece_101 : decode cX12_piece 101 = .ok (.iload_n 1, 1) := by decide +kernel
theorem dX12_piece_102 : decode cX12_piece 102 = .ok (.bipush 64, 2) := by decide +kernel
theorem dX12_piece_104 : decode cX12_piece 104 = .ok (.imul, 1) := by decide +kernel
theorem dX12_piece_105 : decode cX12_piece 105 = .ok (.iload_n 2, 1) := by decide +kernel
theorem dX12_piece_106 : decode cX12_piece 106 = .ok (.iload 5, 2) := by decide +kernel
theorem dX12_piece_108 : decode cX12_piece 108 = .ok (.imul, 1) := by decide +kernel
theorem dX12_piece_109 : decode cX12_piece 109 = .ok (.iadd, 1) := by decide +kernel
theorem dX12_piece_110 : decode cX12_piece 110 = .ok (.iload 7, 2) := by decide +kernel
theorem dX12_piece_112 : decode cX12_piece 112 = .ok (.iadd, 1) := by decide +kernel
theorem dX12_piece_113 : decode cX12_piece 113 = .ok (.iload_n 3, 1) := by decide +kernel
theorem dX12_piece_114 : decode cX12_piece 114 = .ok (.iload 4, 2) := by decide +kernel
theorem dX12_piece_116 : decode cX12_piece 116 = .ok (.iload 5, 2) := by decide +kernel
theorem dX12_piece_118 : decode cX12_piece 118 = .ok (.iload 7, 2) := by decide +kernel
theorem dX12_piece_120 : decode cX12_piece 120 = .ok (.invokestatic 174, 3) := by decide +kernel
theorem dX12_piece_123 : decode cX12_piece 123 = .ok (.iastore, 1) := by decide +kernel
theorem dX12_piece_124 : decode cX12_piece 124 = .ok (.iinc 7 1, 3) := by decide +kernel
theorem dX12_piece_127 : decode cX12_piece 127 = .ok (.goto (-37), 3) := by decide +kernel
theorem dX12_piece_130 : decode cX12_piece 130 = .ok (.aload_n 0, 1) := by decide +kernel
theorem dX12_piece_131 : decode cX12_piece 131 = .ok (.getfield 178, 3) := by decide +kernel
theorem dX12_piece_134 : decode cX12_piece 134 = .ok (.iload_n 1, 1) := by decide +kernel
theorem dX12_piece_135 : decode cX12_piece 135 = .ok (.dup2, 1) := by decide +kernel
theorem dX12_piece_136 : decode cX12_piece 136 = .ok (.iaload, 1) := by decide +kernel
theorem dX12_piece_137 : decode cX12_piece 137 = .ok (.iconst 1, 1) := by decide +kernel
theorem dX12_piece_138 : decode cX12_piece 138 = .ok (.iload_n 2, 1) := by decide +kernel
theorem dX12_piece_139 : decode cX12_piece 139 = .ok (.ishl, 1) := by decide +kernel
theorem dX12_piece_140 : decode cX12_piece 140 = .ok (.ior, 1) := by decide +kernel
theorem dX12_piece_141 : decode cX12_piece 141 = .ok (.iastore, 1) := by decide +kernel
theorem dX12_piece_142 : decode cX12_piece 142 = .ok (.aload_n 0, 1) := by decide +kernel
theorem dX12_piece_143 : decode cX12_piece 143 = .ok (.iload_n 1, 1) := by decide +kernel
theorem dX12_piece_144 : decode cX12_piece 144 = .ok (.iload 5, 2) := by decide +kernel
theorem dX12_piece_146 : decode cX12_piece 146 = .ok (.invokevirtual 181, 3) := by decide +kernel
theorem dX12_piece_149 : decode cX12_piece 149 = .ok (.istore 7, 2) := by decide +kernel
theorem dX12_piece_151 : decode cX12_piece 151 = .ok (.iload 7, 2) := by decide +kernel
theorem dX12_piece_153 : decode cX12_piece 153 = .ok (.iconst (-1), 1) := by decide +kernel
theorem dX12_piece_154 : decode cX12_piece 154 = .ok (.if_icmp .ne 4, 3) := by decide +kernel
theorem dX12_piece_157 : decode cX12_piece 157 = .ok (.return_, 1) := by decide +kernel
theorem dX12_piece_158 : decode cX12_piece 158 = .ok (.iconst 0, 1) := by decide +kernel
theorem dX12_piece_159 : decode cX12_piece 159 = .ok (.istore 8, 2) := by decide +kernel
theorem dX12_piece_161 : decode cX12_piece 161 = .ok (.iload 8, 2) := by decide +kernel
theorem dX12_piece_163 : decode cX12_piece 163 = .ok (.iload 7, 2) := by decide +kernel
theorem dX12_piece_165 : decode cX12_piece 165 = .ok (.if_icmp .ge 33, 3) := by decide +kernel
theorem dX12_piece_168 : decode cX12_piece 168 = .ok (.aload_n 0, 1) := by decide +kernel
theorem dX12_piece_169 : decode cX12_piece 169 = .ok (.getfield 184, 3) := by decide +kernel
theorem dX12_piece_172 : decode cX12_piece 172 = .ok (.iload_n 1, 1) := by decide +kernel
theorem dX12_piece_173 : decode cX12_piece 173 = .ok (.bipush 64, 2) := by decide +kernel
theorem dX12_piece_175 : decode cX12_piece 175 = .ok (.imul, 1) := by decide +kernel
theorem dX12_piece_176 : decode cX12_piece 176 = .ok (.iload 8, 2) := by decide +kernel
theorem dX12_piece_178 : decode cX12_piece 178 = .ok (.iadd, 1) := by decide +kernel
theorem dX12_piece_179 : decode cX12_piece 179 = .ok (.aload_n 0, 1) := by decide +kernel
theorem dX12_piece_180 : decode cX12_piece 180 = .ok (.getfield 171, 3) := by decide +kernel
theorem dX12_piece_183 : decode cX12_piece 183 = .ok (.iload_n 1, 1) := by decide +kernel
theorem dX12_piece_184 : decode cX12_piece 184 = .ok (.bipush 64, 2) := by decide +kernel
theorem dX12_piece_186 : decode cX12_piece 186 = .ok (.imul, 1) := by decide +kernel
theorem dX12_piece_187 : decode cX12_piece 187 = .ok (.iload 8, 2) := by decide +kernel
theorem dX12_piece_189 : decode cX12_piece 189 = .ok (.iadd, 1) := by decide +kernel
theorem dX12_piece_190 : decode cX12_piece 190 = .ok (.iaload, 1) := by decide +kernel
theorem dX12_piece_191 : decode cX12_piece 191 = .ok (.iastore, 1) := by decide +kernel
theorem dX12_piece_192 : decode cX12_piece 192 = .ok (.iinc 8 1, 3) := by decide +kernel
theorem dX12_piece_195 : decode cX12_piece 195 = .ok (.goto (-34), 3) := by decide +kernel
theorem dX12_piece_198 : decode cX12_piece 198 = .ok (.aload_n 0, 1) := by decide +kernel
theorem dX12_piece_199 : decode cX12_piece 199 = .ok (.getfield 187, 3) := by decide +kernel
theorem dX12_piece_202 : decode cX12_piece 202 = .ok (.iload_n 1, 1) := by decide +kernel
theorem dX12_piece_203 : decode cX12_piece 203 = .ok (.iload 7, 2) := by decide +kernel
theorem dX12_piece_205 : decode cX12_piece 205 = .ok (.iastore, 1) := by decide +kernel
theorem dX12_piece_206 : decode cX12_piece 206 = .ok (.aload_n 0, 1) := by decide +kernel
theorem dX12_piece_207 : decode cX12_piece 207 = .ok (.getfield 178, 3) := by decide +kernel
theorem dX12_piece_210 : decode cX12_piece 210 = .ok (.iload_n 1, 1) := by decide +kernel
theorem dX12_piece_211 : decode cX12_piece 211 = .ok (.iconst 0, 1) := by decide +kernel
theorem dX12_piece_212 : decode cX12_piece 212 = .ok (.iastore, 1) := by decide +kernel
theorem dX12_piece_213 : decode cX12_piece 213 = .ok (.iload_n 1, 1) := by decide +kernel
theorem dX12_piece_214 : decode cX12_piece 214 = .ok (.iconst 3, 1) := by decide +kernel
theorem dX12_piece_215 : decode cX12_piece 215 = .ok (.if_icmp .ge 16, 3) := by decide +kernel
theorem dX12_piece_218 : decode cX12_piece 218 = .ok (.aload_n 0, 1) := by decide +kernel
theorem dX12_piece_219 : decode cX12_piece 219 = .ok (.getfield 190, 3) := by decide +kernel
theorem dX12_piece_222 : decode cX12_piece 222 = .ok (.iload_n 1, 1) := by decide +kernel
theorem dX12_piece_223 : decode cX12_piece 223 = .ok (.dup2, 1) := by decide +kernel
theorem dX12_piece_224 : decode cX12_piece 224 = .ok (.iaload, 1) := by decide +kernel
theorem dX12_piece_225 : decode cX12_piece 225 = .ok (.iconst 1, 1) := by decide +kernel
theorem dX12_piece_226 : decode cX12_piece 226 = .ok (.iadd, 1) := by decide +kernel
theorem dX12_piece_227 : decode cX12_piece 227 = .ok (.iastore, 1) := by decide +kernel
theorem dX12_piece_228 : decode cX12_piece 228 = .ok (.goto 15, 3) := by decide +kernel
theorem dX12_piece_231 : decode cX12_piece 231 = .ok (.aload_n 0, 1) := by decide +kernel
theorem dX12_piece_232 : decode cX12_piece 232 = .ok (.getfield 193, 3) := by decide +kernel
theorem dX12_piece_235 : decode cX12_piece 235 = .ok (.iload_n 1, 1) := by decide +kernel
theorem dX12_piece_236 : decode cX12_piece 236 = .ok (.iconst 3, 1) := by decide +kernel
theorem dX12_piece_237 : decode cX12_piece 237 = .ok (.isub, 1) := by decide +kernel
theorem dX12_piece_238 : decode cX12_piece 238 = .ok (.dup2, 1) := by decide +kernel
theorem dX12_piece_239 : decode cX12_piece 239 = .ok (.iaload, 1) := by decide +kernel
theorem dX12_piece_240 : decode cX12_piece 240 = .ok (.iconst 1, 1) := by decide +kernel
theorem dX12_piece_241 : decode cX12_piece 241 = .ok (.iadd, 1) := by decide +kernel
theorem dX12_piece_242 : decode cX12_piece 242 = .ok (.iastore, 1) := by decide +kernel
theorem dX12_piece_243 : decode cX12_piece 243 = .ok (.return_, 1) := by decide +kernel
def B_X12_piece_243 (w : rd_W) (S : rd_S) : Option (rd_S) :=
  some S
theorem yb_X12_piece_243 (cx : rd_Cx) (w : rd_W) (S : rd_S) : rd_Y cx G_X12_piece (fun r => rd_P cx G_X12_piece.2.2.2.2.2 0 w (rd_rV w r)) (B_X12_piece_243 w S) 243 [] [] w S 0 0 := by
  unfold B_X12_piece_243
  exact ry_vret dX12_piece_243 rfl (Nat.le_of_ble_eq_true rfl) (Nat.le_of_ble_eq_true rfl)
def B_X12_piece_161 (w : rd_W) (k161 : Nat → Int32 → Int32 → Int32 → rd_S → Option (rd_S)) (a0 : Nat) (x1 : Int32) (x7 : Int32) (x8 : Int32) (S : rd_S) : Option (rd_S) :=
  if x7 ≤ x8 then
  (rd_c (gR S a0 30) fun b14 =>
  rd_i x1 (w.2.2 b14) <|
  rd_let (pI S b14 x1.toNatClampNeg x7) fun s15 =>
  rd_c (gR s15 a0 28) fun b16 =>
  rd_i x1 (w.2.2 b16) <|
  rd_let (pI s15 b16 x1.toNatClampNeg 0) fun s17 =>
  if 3 ≤ x1 then
  (rd_c (gR s17 a0 52) fun b19 =>
  rd_let (x1 - 3) fun v20 =>
  rd_i v20 (w.2.2 b19) <|
  rd_i (x1 - 3) (w.2.2 b19) <|
  rd_let (pI s17 b19 (x1 - 3).toNatClampNeg ((gI s17 b19 v20.toNatClampNeg) + 1)) fun s21 =>
  B_X12_piece_243 w s21)
  else
  (rd_c (gR s17 a0 26) fun b22 =>
  rd_i x1 (w.2.2 b22) <|
  rd_i x1 (w.2.2 b22) <|
  rd_let (pI s17 b22 x1.toNatClampNeg ((gI s17 b22 x1.toNatClampNeg) + 1)) fun s23 =>
  B_X12_piece_243 w s23))
  else
  (rd_c (gR S a0 29) fun b24 =>
  rd_c (gR S a0 27) fun b25 =>
  rd_let ((x1 * 64) + x8) fun v26 =>
  rd_i v26 (w.2.2 b25) <|
  rd_i ((x1 * 64) + x8) (w.2.2 b24) <|
  rd_let (pI S b24 ((x1 * 64) + x8).toNatClampNeg (gI S b25 v26.toNatClampNeg)) fun s27 =>
  rd_let (x8 + 1) fun v28 =>
  k161 a0 x1 x7 v28 s27)
theorem yb_X12_piece_161 (cx : rd_Cx) (w : rd_W) {k161 : Nat → Int32 → Int32 → Int32 → rd_S → Option (rd_S)} (hk161 : ∀ (a0 : Nat) (x1 : Int32) (x7 : Int32) (x8 : Int32) (ha0 : rd_ok w a0 12) (S : rd_S), rd_Y cx G_X12_piece (fun r => rd_P cx G_X12_piece.2.2.2.2.2 0 w (rd_rV w r)) (k161 a0 x1 x7 x8 S) 161 [(0, .inr (some a0)), (1, .inl x1), (7, .inl x7), (8, .inl x8)] [] w S 0 0) (a0 : Nat) (x1 : Int32) (x7 : Int32) (x8 : Int32) (ha0 : rd_ok w a0 12) (S : rd_S) : rd_Y cx G_X12_piece (fun r => rd_P cx G_X12_piece.2.2.2.2.2 0 w (rd_rV w r)) (B_X12_piece_161 w k161 a0 x1 x7 x8 S) 161 [(0, .inr (some a0)), (1, .inl x1), (7, .inl x7), (8, .inl x8)] [] w S 0 0 := by
  unfold B_X12_piece_161
  refine ry_iload dX12_piece_161 rfl ?_
  refine ry_iload dX12_piece_163 rfl ?_
  refine ry_icmp_ge 198 dX12_piece_165 (by decide) (fun c13 => ?_) (fun c13 => ?_)
  · refine ry_aload_n dX12_piece_198 rfl ?_
    refine ry_getr dX12_piece_199 ha0 fl_RX12_187 rfl (fun b14 hb14 => ?_)
    refine ry_iload_n dX12_piece_202 rfl ?_
    refine ry_iload dX12_piece_203 rfl ?_
    refine ry_iast dX12_piece_205 hb14 ?_
    refine ry_letS (fun s15 => ?_)
    refine ry_aload_n dX12_piece_206 rfl ?_
    refine ry_getr dX12_piece_207 ha0 fl_RX12_178 rfl (fun b16 hb16 => ?_)
    refine ry_iload_n dX12_piece_210 rfl ?_
    refine ry_iconst (v := 0) dX12_piece_211 (by decide) ?_
    refine ry_iast dX12_piece_212 hb16 ?_
    refine ry_letS (fun s17 => ?_)
    refine ry_iload_n dX12_piece_213 rfl ?_
    refine ry_iconst (v := 3) dX12_piece_214 (by decide) ?_
    refine ry_icmp_ge 231 dX12_piece_215 (by decide) (fun c18 => ?_) (fun c18 => ?_)
    · refine ry_aload_n dX12_piece_231 rfl ?_
      refine ry_getr dX12_piece_232 ha0 fl_RX12_193 rfl (fun b19 hb19 => ?_)
      refine ry_iload_n dX12_piece_235 rfl ?_
      refine ry_iconst (v := 3) dX12_piece_236 (by decide) ?_
      refine ry_isub dX12_piece_237 ?_
      refine ry_dup2 dX12_piece_238 ?_
      refine ry_lets (fun v20 => ?_)
      refine ry_iald dX12_piece_239 hb19 ?_
      refine ry_iconst (v := 1) dX12_piece_240 (by decide) ?_
      refine ry_iadd dX12_piece_241 ?_
      refine ry_iast dX12_piece_242 hb19 ?_
      refine ry_letS (fun s21 => ?_)
      exact ry_to (yb_X12_piece_243 cx w s21) trivial
    · refine ry_aload_n dX12_piece_218 rfl ?_
      refine ry_getr dX12_piece_219 ha0 fl_RX12_190 rfl (fun b22 hb22 => ?_)
      refine ry_iload_n dX12_piece_222 rfl ?_
      refine ry_dup2 dX12_piece_223 ?_
      refine ry_iald dX12_piece_224 hb22 ?_
      refine ry_iconst (v := 1) dX12_piece_225 (by decide) ?_
      refine ry_iadd dX12_piece_226 ?_
      refine ry_iast dX12_piece_227 hb22 ?_
      refine ry_letS (fun s23 => ?_)
      refine ry_goto 243 dX12_piece_228 (by decide) ?_
      exact ry_to (yb_X12_piece_243 cx w s23) trivial
  · refine ry_aload_n dX12_piece_168 rfl ?_
    refine ry_getr dX12_piece_169 ha0 fl_RX12_184 rfl (fun b24 hb24 => ?_)
    refine ry_iload_n dX12_piece_172 rfl ?_
    refine ry_bipush (v := 64) dX12_piece_173 (by decide) ?_
    refine ry_imul dX12_piece_175 ?_
    refine ry_iload dX12_piece_176 rfl ?_
    refine ry_iadd dX12_piece_178 ?_
    refine ry_aload_n dX12_piece_179 rfl ?_
    refine ry_getr dX12_piece_180 ha0 fl_RX12_171 rfl (fun b25 hb25 => ?_)
    refine ry_iload_n dX12_piece_183 rfl ?_
    refine ry_bipush (v := 64) dX12_piece_184 (by decide) ?_
    refine ry_imul dX12_piece_186 ?_
    refine ry_iload dX12_piece_187 rfl ?_
    refine ry_iadd dX12_piece_189 ?_
    refine ry_lets (fun v26 => ?_)
    refine ry_iald dX12_piece_190 hb25 ?_
    refine ry_iast dX12_piece_191 hb24 ?_
    refine ry_letS (fun s27 => ?_)
    refine ry_iinc (v := 1) dX12_piece_192 rfl (by decide) (by decide) ?_
    refine ry_let (fun v28 => ?_)
    refine ry_goto 161 dX12_piece_195 (by decide) ?_
    exact ry_to (hk161 a0 x1 x7 v28 ha0 s27) ⟨rfl, rfl, rfl, rfl, trivial⟩
def F_X12_piece_161 (w : rd_W) (n : Nat) : Nat → Int32 → Int32 → Int32 → rd_S → Option (rd_S) :=
  Nat.rec (motive := fun _ => Nat → Int32 → Int32 → Int32 → rd_S → Option (rd_S)) (fun _ _ _ _ _ => none) (fun _ ih => B_X12_piece_161 w ih) n
theorem yl_X12_piece_161 (cx : rd_Cx) (w : rd_W) : ∀ (n : Nat) (a0 : Nat) (x1 : Int32) (x7 : Int32) (x8 : Int32) (ha0 : rd_ok w a0 12) (S : rd_S), rd_Y cx G_X12_piece (fun r => rd_P cx G_X12_piece.2.2.2.2.2 0 w (rd_rV w r)) (F_X12_piece_161 w n a0 x1 x7 x8 S) 161 [(0, .inr (some a0)), (1, .inl x1), (7, .inl x7), (8, .inl x8)] [] w S 0 0 := by
  intro n
  induction n with
  | zero => intro a0 x1 x7 x8 ha0 S; exact ry_none
  | succ n ih => intro a0 x1 x7 x8 ha0 S; exact yb_X12_piece_161 cx w ih a0 x1 x7 x8 ha0 S
def B_X12_piece_90 (w : rd_W) (k90 : Nat → Int32 → Int32 → Int32 → Int32 → Int32 → Int32 → rd_S → Option (rd_S)) (a0 : Nat) (x1 : Int32) (x2 : Int32) (x3 : Int32) (x4 : Int32) (x5 : Int32) (x7 : Int32) (S : rd_S) : Option (rd_S) :=
  if x5 ≤ x7 then
  (rd_c (gR S a0 28) fun b8 =>
  rd_i x1 (w.2.2 b8) <|
  rd_i x1 (w.2.2 b8) <|
  rd_let (pI S b8 x1.toNatClampNeg ((gI S b8 x1.toNatClampNeg) ||| (rd_shl 1 x2))) fun s9 =>
  rd_b (F_X12_fullSize w a0 x1 x5 s9) fun v11 s10 =>
  if v11 = (-1) then
  (some s10)
  else
  (F_X12_piece_161 w rd_big a0 x1 v11 0 s10))
  else
  (rd_c (gR S a0 27) fun b29 =>
  rd_b (F_X12_byteOf w x3 x4 x5 x7 S) fun v31 s30 =>
  rd_i (((x1 * 64) + (x2 * x5)) + x7) (w.2.2 b29) <|
  rd_let (pI s30 b29 (((x1 * 64) + (x2 * x5)) + x7).toNatClampNeg v31) fun s32 =>
  rd_let (x7 + 1) fun v33 =>
  k90 a0 x1 x2 x3 x4 x5 v33 s32)
theorem yb_X12_piece_90 (cx : rd_Cx) (w : rd_W) {k90 : Nat → Int32 → Int32 → Int32 → Int32 → Int32 → Int32 → rd_S → Option (rd_S)} (hk90 : ∀ (a0 : Nat) (x1 : Int32) (x2 : Int32) (x3 : Int32) (x4 : Int32) (x5 : Int32) (x7 : Int32) (ha0 : rd_ok w a0 12) (S : rd_S), rd_Y cx G_X12_piece (fun r => rd_P cx G_X12_piece.2.2.2.2.2 0 w (rd_rV w r)) (k90 a0 x1 x2 x3 x4 x5 x7 S) 90 [(0, .inr (some a0)), (1, .inl x1), (2, .inl x2), (3, .inl x3), (4, .inl x4), (5, .inl x5), (7, .inl x7)] [] w S 0 0) (a0 : Nat) (x1 : Int32) (x2 : Int32) (x3 : Int32) (x4 : Int32) (x5 : Int32) (x7 : Int32) (ha0 : rd_ok w a0 12) (S : rd_S) : rd_Y cx G_X12_piece (fun r => rd_P cx G_X12_piece.2.2.2.2.2 0 w (rd_rV w r)) (B_X12_piece_90 w k90 a0 x1 x2 x3 x4 x5 x7 S) 90 [(0, .inr (some a0)), (1, .inl x1), (2, .inl x2), (3, .inl x3), (4, .inl x4), (5, .inl x5), (7, .inl x7)] [] w S 0 0 := by
  unfold B_X12_piece_90
  refine ry_iload dX12_piece_90 rfl ?_
  refine ry_iload dX12_piece_92 rfl ?_
  refine ry_icmp_ge 130 dX12_piece_94 (by decide) (fun c7 => ?_) (fun c7 => ?_)
  · refine ry_aload_n dX12_piece_130 rfl ?_
    refine ry_getr dX12_piece_131 ha0 fl_RX12_178 rfl (fun b8 hb8 => ?_)
    refine ry_iload_n dX12_piece_134 rfl ?_
    refine ry_dup2 dX12_piece_135 ?_
    refine ry_iald dX12_piece_136 hb8 ?_
    refine ry_iconst (v := 1) dX12_piece_137 (by decide) ?_
    refine ry_iload_n dX12_piece_138 rfl ?_
    refine ry_ishl dX12_piece_139 ?_
    refine ry_ior dX12_piece_140 ?_
    refine ry_iast dX12_piece_141 hb8 ?_
    refine ry_letS (fun s9 => ?_)
    refine ry_aload_n dX12_piece_142 rfl ?_
    refine ry_iload_n dX12_piece_143 rfl ?_
    refine ry_iload dX12_piece_144 rfl ?_
    refine ry_callI (fun l r9 h9 => cm_X12_fullSize l cx w a0 x1 x5 ha0 s9 r9 h9) (rd_runV (vs := [.inl x1, .inl x5]) dX12_piece_146 ha0 rfl rfl yf_X12_fullSize mi_X12_fullSize ms_X12_fullSize ml_RX12_181 ⟨Nat.le_of_ble_eq_true rfl, Nat.le_of_ble_eq_true rfl⟩ (Nat.le_of_ble_eq_true rfl) rfl) rfl rfl (Nat.le_of_ble_eq_true rfl) (Nat.le_of_ble_eq_true rfl) (fun v11 s10 => ?_)
    refine ry_istore dX12_piece_149 (by decide) ?_
    refine ry_iload dX12_piece_151 rfl ?_
    refine ry_iconst (v := (-1)) dX12_piece_153 (by decide) ?_
    refine ry_icmp_ne 158 dX12_piece_154 (by decide) (fun c12 => ?_) (fun c12 => ?_)
    · exact ry_vret dX12_piece_157 rfl (Nat.le_of_ble_eq_true rfl) (Nat.le_of_ble_eq_true rfl)
    · refine ry_iconst (v := 0) dX12_piece_158 (by decide) ?_
      refine ry_istore dX12_piece_159 (by decide) ?_
      exact ry_to (yl_X12_piece_161 cx w rd_big a0 x1 v11 0 ha0 s10) ⟨rfl, rfl, rfl, rfl, trivial⟩
  · refine ry_aload_n dX12_piece_97 rfl ?_
    refine ry_getr dX12_piece_98 ha0 fl_RX12_171 rfl (fun b29 hb29 => ?_)
    refine ry_iload_n dX12_piece_101 rfl ?_
    refine ry_bipush (v := 64) dX12_piece_102 (by decide) ?_
    refine ry_imul dX12_piece_104 ?_
    refine ry_iload_n dX12_piece_105 rfl ?_
    refine ry_iload dX12_piece_106 rfl ?_
    refine ry_imul dX12_piece_108 ?_
    refine ry_iadd dX12_piece_109 ?_
    refine ry_iload dX12_piece_110 rfl ?_
    refine ry_iadd dX12_piece_112 ?_
    refine ry_iload_n dX12_piece_113 rfl ?_
    refine ry_iload dX12_piece_114 rfl ?_
    refine ry_iload dX12_piece_116 rfl ?_
    refine ry_iload dX12_piece_118 rfl ?_
    refine ry_callI (fun l r9 h9 => cm_X12_byteOf l cx w x3 x4 x5 x7 S r9 h9) (rd_runS (vs := [.inl x3, .inl x4, .inl x5, .inl x7]) dX12_piece_120 yf_X12_byteOf mt_X12_byteOf ml_RX12_174 ⟨Nat.le_of_ble_eq_true rfl, Nat.le_of_ble_eq_true rfl⟩ (Nat.le_of_ble_eq_true rfl) rfl) rfl rfl (Nat.le_of_ble_eq_true rfl) (Nat.le_of_ble_eq_true rfl) (fun v31 s30 => ?_)
    refine ry_iast dX12_piece_123 hb29 ?_
    refine ry_letS (fun s32 => ?_)
    refine ry_iinc (v := 1) dX12_piece_124 rfl (by decide) (by decide) ?_
    refine ry_let (fun v33 => ?_)
    refine ry_goto 90 dX12_piece_127 (by decide) ?_
    exact ry_to (hk90 a0 x1 x2 x3 x4 x5 v33 ha0 s32) ⟨rfl, rfl, rfl, rfl, rfl, rfl, rfl, trivial⟩
def F_X12_piece_90 (w : rd_W) (n : Nat) : Nat → Int32 → Int32 → Int32 → Int32 → Int32 → Int32 → rd_S → Option (rd_S) :=
  Nat.rec (motive := fun _ => Nat → Int32 → Int32 → Int32 → Int32 → Int32 → Int32 → rd_S → Option (rd_S)) (fun _ _ _ _ _ _ _ _ => none) (fun _ ih => B_X12_piece_90 w ih) n
theorem yl_X12_piece_90 (cx : rd_Cx) (w : rd_W) : ∀ (n : Nat) (a0 : Nat) (x1 : Int32) (x2 : Int32) (x3 : Int32) (x4 : Int32) (x5 : Int32) (x7 : Int32) (ha0 : rd_ok w a0 12) (S : rd_S), rd_Y cx G_X12_piece (fun r => rd_P cx G_X12_piece.2.2.2.2.2 0 w (rd_rV w r)) (F_X12_piece_90 w n a0 x1 x2 x3 x4 x5 x7 S) 90 [(0, .inr (some a0)), (1, .inl x1), (2, .inl x2), (3, .inl x3), (4, .inl x4), (5, .inl x5), (7, .inl x7)] [] w S 0 0 := by
  intro n
  induction n with
  | zero => intro a0 x1 x2 x3 x4 x5 x7 ha0 S; exact ry_none
  | succ n ih => intro a0 x1 x2 x3 x4 x5 x7 ha0 S; exact yb_X12_piece_90 cx w ih a0 x1 x2 x3 x4 x5 x7 ha0 S
def B_X12_piece_87 (w : rd_W) (a0 : Nat) (x1 : Int32) (x2 : Int32) (x3 : Int32) (x4 : Int32) (x5 : Int32) (S : rd_S) : Option (rd_S) :=
  F_X12_piece_90 w rd_big a0 x1 x2 x3 x4 x5 0 S
theorem yb_X12_piece_87 (cx : rd_Cx) (w : rd_W) (a0 : Nat) (x1 : Int32) (x2 : Int32) (x3 : Int32) (x4 : Int32) (x5 : Int32) (ha0 : rd_ok w a0 12) (S : rd_S) : rd_Y cx G_X12_piece (fun r => rd_P cx G_X12_piece.2.2.2.2.2 0 w (rd_rV w r)) (B_X12_piece_87 w a0 x1 x2 x3 x4 x5 S) 87 [(0, .inr (some a0)), (1, .inl x1), (2, .inl x2), (3, .inl x3), (4, .inl x4), (5, .inl x5)] [] w S 0 0 := by
  unfold B_X12_piece_87
  refine ry_iconst (v := 0) dX12_piece_87 (by decide) ?_
  refine ry_istore dX12_piece_88 (by decide) ?_
  exact ry_to (yl_X12_piece_90 cx w rd_big a0 x1 x2 x3 x4 x5 0 ha0 S) ⟨rfl, rfl, rfl, rfl, rfl, rfl, rfl, trivial⟩
def B_X12_piece_53 (w : rd_W) (k6 : Nat → Int32 → Int32 → Int32 → Int32 → Int32 → Int32 → Int32 → rd_S → Option (rd_S)) (a0 : Nat) (x1 : Int32) (x2 : Int32) (x3 : Int32) (x4 : Int32) (x5 : Int32) (x7 : Int32) (t0 : Int32) (S : rd_S) : Option (rd_S) :=
  rd_let (x7 + 1) fun v35 =>
  k6 a0 x1 x2 x3 x4 x5 t0 v35 S
theorem yb_X12_piece_53 (cx : rd_Cx) (w : rd_W) {k6 : Nat → Int32 → Int32 → Int32 → Int32 → Int32 → Int32 → Int32 → rd_S → Option (rd_S)} (hk6 : ∀ (a0 : Nat) (x1 : Int32) (x2 : Int32) (x3 : Int32) (x4 : Int32) (x5 : Int32) (x6 : Int32) (x7 : Int32) (ha0 : rd_ok w a0 12) (S : rd_S), rd_Y cx G_X12_piece (fun r => rd_P cx G_X12_piece.2.2.2.2.2 0 w (rd_rV w r)) (k6 a0 x1 x2 x3 x4 x5 x6 x7 S) 6 [(0, .inr (some a0)), (1, .inl x1), (2, .inl x2), (3, .inl x3), (4, .inl x4), (5, .inl x5), (6, .inl x6), (7, .inl x7)] [] w S 0 0) (a0 : Nat) (x1 : Int32) (x2 : Int32) (x3 : Int32) (x4 : Int32) (x5 : Int32) (x7 : Int32) (t0 : Int32) (ha0 : rd_ok w a0 12) (S : rd_S) : rd_Y cx G_X12_piece (fun r => rd_P cx G_X12_piece.2.2.2.2.2 0 w (rd_rV w r)) (B_X12_piece_53 w k6 a0 x1 x2 x3 x4 x5 x7 t0 S) 53 [(0, .inr (some a0)), (1, .inl x1), (2, .inl x2), (3, .inl x3), (4, .inl x4), (5, .inl x5), (7, .inl x7)] [.inl t0] w S 0 0 := by
  unfold B_X12_piece_53
  refine ry_istore dX12_piece_53 (by decide) ?_
  refine ry_iinc (v := 1) dX12_piece_55 rfl (by decide) (by decide) ?_
  refine ry_let (fun v35 => ?_)
  refine ry_goto 6 dX12_piece_58 (by decide) ?_
  exact ry_to (hk6 a0 x1 x2 x3 x4 x5 t0 v35 ha0 S) ⟨rfl, rfl, rfl, rfl, rfl, rfl, rfl, rfl, trivial⟩
def B_X12_piece_52 (w : rd_W) (k6 : Nat → Int32 → Int32 → Int32 → Int32 → Int32 → Int32 → Int32 → rd_S → Option (rd_S)) (a0 : Nat) (x1 : Int32) (x2 : Int32) (x3 : Int32) (x4 : Int32) (x5 : Int32) (x7 : Int32) (S : rd_S) : Option (rd_S) :=
  B_X12_piece_53 w k6 a0 x1 x2 x3 x4 x5 x7 0 S
theorem yb_X12_piece_52 (cx : rd_Cx) (w : rd_W) {k6 : Nat → Int32 → Int32 → Int32 → Int32 → Int32 → Int32 → Int32 → rd_S → Option (rd_S)} (hk6 : ∀ (a0 : Nat) (x1 : Int32) (x2 : Int32) (x3 : Int32) (x4 : Int32) (x5 : Int32) (x6 : Int32) (x7 : Int32) (ha0 : rd_ok w a0 12) (S : rd_S), rd_Y cx G_X12_piece (fun r => rd_P cx G_X12_piece.2.2.2.2.2 0 w (rd_rV w r)) (k6 a0 x1 x2 x3 x4 x5 x6 x7 S) 6 [(0, .inr (some a0)), (1, .inl x1), (2, .inl x2), (3, .inl x3), (4, .inl x4), (5, .inl x5), (6, .inl x6), (7, .inl x7)] [] w S 0 0) (a0 : Nat) (x1 : Int32) (x2 : Int32) (x3 : Int32) (x4 : Int32) (x5 : Int32) (x7 : Int32) (ha0 : rd_ok w a0 12) (S : rd_S) : rd_Y cx G_X12_piece (fun r => rd_P cx G_X12_piece.2.2.2.2.2 0 w (rd_rV w r)) (B_X12_piece_52 w k6 a0 x1 x2 x3 x4 x5 x7 S) 52 [(0, .inr (some a0)), (1, .inl x1), (2, .inl x2), (3, .inl x3), (4, .inl x4), (5, .inl x5), (7, .inl x7)] [] w S 0 0 := by
  unfold B_X12_piece_52
  refine ry_iconst (v := 0) dX12_piece_52 (by decide) ?_
  exact ry_to (yb_X12_piece_53 cx w (k6 := k6) hk6 a0 x1 x2 x3 x4 x5 x7 0 ha0 S) ⟨rfl, rfl, rfl, rfl, rfl, rfl, rfl, trivial⟩
def B_X12_piece_6 (w : rd_W) (k6 : Nat → Int32 → Int32 → Int32 → Int32 → Int32 → Int32 → Int32 → rd_S → Option (rd_S)) (a0 : Nat) (x1 : Int32) (x2 : Int32) (x3 : Int32) (x4 : Int32) (x5 : Int32) (x6 : Int32) (x7 : Int32) (S : rd_S) : Option (rd_S) :=
  if x5 ≤ x7 then
  (rd_c (gR S a0 28) fun b2 =>
  rd_i x1 (w.2.2 b2) <|
  if ((rd_shr (gI S b2 x1.toNatClampNeg) x2) &&& 1) = 1 then
  (if x6 = 0 then
  (rd_c (gR S a0 28) fun b5 =>
  rd_i x1 (w.2.2 b5) <|
  rd_let (pI S b5 x1.toNatClampNeg 0) fun s6 =>
  B_X12_piece_87 w a0 x1 x2 x3 x4 x5 s6)
  else
  (B_X12_piece_87 w a0 x1 x2 x3 x4 x5 S))
  else
  (B_X12_piece_87 w a0 x1 x2 x3 x4 x5 S))
  else
  (if x6 = 0 then
  (B_X12_piece_52 w k6 a0 x1 x2 x3 x4 x5 x7 S)
  else
  (rd_c (gR S a0 27) fun b36 =>
  rd_let (((x1 * 64) + (x2 * x5)) + x7) fun v37 =>
  rd_i v37 (w.2.2 b36) <|
  rd_b (F_X12_byteOf w x3 x4 x5 x7 S) fun v39 s38 =>
  if (gI S b36 v37.toNatClampNeg) = v39 then
  (B_X12_piece_53 w k6 a0 x1 x2 x3 x4 x5 x7 1 s38)
  else
  (B_X12_piece_52 w k6 a0 x1 x2 x3 x4 x5 x7 s38)))
theorem yb_X12_piece_6 (cx : rd_Cx) (w : rd_W) {k6 : Nat → Int32 → Int32 → Int32 → Int32 → Int32 → Int32 → Int32 → rd_S → Option (rd_S)} (hk6 : ∀ (a0 : Nat) (x1 : Int32) (x2 : Int32) (x3 : Int32) (x4 : Int32) (x5 : Int32) (x6 : Int32) (x7 : Int32) (ha0 : rd_ok w a0 12) (S : rd_S), rd_Y cx G_X12_piece (fun r => rd_P cx G_X12_piece.2.2.2.2.2 0 w (rd_rV w r)) (k6 a0 x1 x2 x3 x4 x5 x6 x7 S) 6 [(0, .inr (some a0)), (1, .inl x1), (2, .inl x2), (3, .inl x3), (4, .inl x4), (5, .inl x5), (6, .inl x6), (7, .inl x7)] [] w S 0 0) (a0 : Nat) (x1 : Int32) (x2 : Int32) (x3 : Int32) (x4 : Int32) (x5 : Int32) (x6 : Int32) (x7 : Int32) (ha0 : rd_ok w a0 12) (S : rd_S) : rd_Y cx G_X12_piece (fun r => rd_P cx G_X12_piece.2.2.2.2.2 0 w (rd_rV w r)) (B_X12_piece_6 w k6 a0 x1 x2 x3 x4 x5 x6 x7 S) 6 [(0, .inr (some a0)), (1, .inl x1), (2, .inl x2), (3, .inl x3), (4, .inl x4), (5, .inl x5), (6, .inl x6), (7, .inl x7)] [] w S 0 0 := by
  unfold B_X12_piece_6
  refine ry_iload dX12_piece_6 rfl ?_
  refine ry_iload dX12_piece_8 rfl ?_
  refine ry_icmp_ge 61 dX12_piece_10 (by decide) (fun c1 => ?_) (fun c1 => ?_)
  · refine ry_aload_n dX12_piece_61 rfl ?_
    refine ry_getr dX12_piece_62 ha0 fl_RX12_178 rfl (fun b2 hb2 => ?_)
    refine ry_iload_n dX12_piece_65 rfl ?_
    refine ry_iald dX12_piece_66 hb2 ?_
    refine ry_iload_n dX12_piece_67 rfl ?_
    refine ry_ishr dX12_piece_68 ?_
    refine ry_iconst (v := 1) dX12_piece_69 (by decide) ?_
    refine ry_iand dX12_piece_70 ?_
    refine ry_iconst (v := 1) dX12_piece_71 (by decide) ?_
    refine ry_icmp_ne 87 dX12_piece_72 (by decide) (fun c3 => ?_) (fun c3 => ?_)
    · refine ry_iload dX12_piece_75 rfl ?_
      refine ry_if_ne 87 dX12_piece_77 (by decide) (fun c4 => ?_) (fun c4 => ?_)
      · refine ry_aload_n dX12_piece_80 rfl ?_
        refine ry_getr dX12_piece_81 ha0 fl_RX12_178 rfl (fun b5 hb5 => ?_)
        refine ry_iload_n dX12_piece_84 rfl ?_
        refine ry_iconst (v := 0) dX12_piece_85 (by decide) ?_
        refine ry_iast dX12_piece_86 hb5 ?_
        refine ry_letS (fun s6 => ?_)
        exact ry_to (yb_X12_piece_87 cx w a0 x1 x2 x3 x4 x5 ha0 s6) ⟨rfl, rfl, rfl, rfl, rfl, rfl, trivial⟩
      · exact ry_to (yb_X12_piece_87 cx w a0 x1 x2 x3 x4 x5 ha0 S) ⟨rfl, rfl, rfl, rfl, rfl, rfl, trivial⟩
    · exact ry_to (yb_X12_piece_87 cx w a0 x1 x2 x3 x4 x5 ha0 S) ⟨rfl, rfl, rfl, rfl, rfl, rfl, trivial⟩
  · refine ry_iload dX12_piece_13 rfl ?_
    refine ry_if_eq 52 dX12_piece_15 (by decide) (fun c34 => ?_) (fun c34 => ?_)
    · exact ry_to (yb_X12_piece_52 cx w (k6 := k6) hk6 a0 x1 x2 x3 x4 x5 x7 ha0 S) ⟨rfl, rfl, rfl, rfl, rfl, rfl, rfl, trivial⟩
    · refine ry_aload_n dX12_piece_18 rfl ?_
      refine ry_getr dX12_piece_19 ha0 fl_RX12_171 rfl (fun b36 hb36 => ?_)
      refine ry_iload_n dX12_piece_22 rfl ?_
      refine ry_bipush (v := 64) dX12_piece_23 (by decide) ?_
      refine ry_imul dX12_piece_25 ?_
      refine ry_iload_n dX12_piece_26 rfl ?_
      refine ry_iload dX12_piece_27 rfl ?_
      refine ry_imul dX12_piece_29 ?_
      refine ry_iadd dX12_piece_30 ?_
      refine ry_iload dX12_piece_31 rfl ?_
      refine ry_iadd dX12_piece_33 ?_
      refine ry_lets (fun v37 => ?_)
      refine ry_iald dX12_piece_34 hb36 ?_
      refine ry_iload_n dX12_piece_35 rfl ?_
      refine ry_iload dX12_piece_36 rfl ?_
      refine ry_iload dX12_piece_38 rfl ?_
      refine ry_iload dX12_piece_40 rfl ?_
      refine ry_callI (fun l r9 h9 => cm_X12_byteOf l cx w x3 x4 x5 x7 S r9 h9) (rd_runS (vs := [.inl x3, .inl x4, .inl x5, .inl x7]) dX12_piece_42 yf_X12_byteOf mt_X12_byteOf ml_RX12_174 ⟨Nat.le_of_ble_eq_true rfl, Nat.le_of_ble_eq_true rfl⟩ (Nat.le_of_ble_eq_true rfl) rfl) rfl rfl (Nat.le_of_ble_eq_true rfl) (Nat.le_of_ble_eq_true rfl) (fun v39 s38 => ?_)
      refine ry_icmp_ne 52 dX12_piece_45 (by decide) (fun c40 => ?_) (fun c40 => ?_)
      · refine ry_iconst (v := 1) dX12_piece_48 (by decide) ?_
        refine ry_goto 53 dX12_piece_49 (by decide) ?_
        exact ry_to (yb_X12_piece_53 cx w (k6 := k6) hk6 a0 x1 x2 x3 x4 x5 x7 1 ha0 s38) ⟨rfl, rfl, rfl, rfl, rfl, rfl, rfl, trivial⟩
      · exact ry_to (yb_X12_piece_52 cx w (k6 := k6) hk6 a0 x1 x2 x3 x4 x5 x7 ha0 s38) ⟨rfl, rfl, rfl, rfl, rfl, rfl, rfl, trivial⟩
def F_X12_piece_6 (w : rd_W) (n : Nat) : Nat → Int32 → Int32 → Int32 → Int32 → Int32 → Int32 → Int32 → rd_S → Option (rd_S) :=
  Nat.rec (motive := fun _ => Nat → Int32 → Int32 → Int32 → Int32 → Int32 → Int32 → Int32 → rd_S → Option (rd_S)) (fun _ _ _ _ _ _ _ _ _ => none) (fun _ ih => B_X12_piece_6 w ih) n
theorem yl_X12_piece_6 (cx : rd_Cx) (w : rd_W) : ∀ (n : Nat) (a0 : Nat) (x1 : Int32) (x2 : Int32) (x3 : Int32) (x4 : Int32) (x5 : Int32) (x6 : Int32) (x7 : Int32) (ha0 : rd_ok w a0 12) (S : rd_S), rd_Y cx G_X12_piece (fun r => rd_P cx G_X12_piece.2.2.2.2.2 0 w (rd_rV w r)) (F_X12_piece_6 w n a0 x1 x2 x3 x4 x5 x6 x7 S) 6 [(0, .inr (some a0)), (1, .inl x1), (2, .inl x2), (3, .inl x3), (4, .inl x4), (5, .inl x5), (6, .inl x6), (7, .inl x7)] [] w S 0 0 := by
  intro n
  induction n with
  | zero => intro a0 x1 x2 x3 x4 x5 x6 x7 ha0 S; exact ry_none
  | succ n ih => intro a0 x1 x2 x3 x4 x5 x6 x7 ha0 S; exact yb_X12_piece_6 cx w ih a0 x1 x2 x3 x4 x5 x6 x7 ha0 S
def F_X12_piece (w : rd_W) (a0 : Nat) (x1 : Int32) (x2 : Int32) (x3 : Int32) (x4 : Int32) (x5 : Int32) (S : rd_S) : Option (rd_S) :=
  F_X12_piece_6 w rd_big a0 x1 x2 x3 x4 x5 1 0 S
theorem ym_X12_piece (cx : rd_Cx) (w : rd_W) (a0 : Nat) (x1 : Int32) (x2 : Int32) (x3 : Int32) (x4 : Int32) (x5 : Int32) (ha0 : rd_ok w a0 12) (S : rd_S) : rd_Y cx G_X12_piece (fun r => rd_P cx G_X12_piece.2.2.2.2.2 0 w (rd_rV w r)) (F_X12_piece w a0 x1 x2 x3 x4 x5 S) 0 (rd_as 0 [.inr (some a0), .inl x1, .inl x2, .inl x3, .inl x4, .inl x5]) [] w S 0 0 := by
  unfold F_X12_piece
  refine ry_iconst (v := 1) dX12_piece_0 (by decide) ?_
  refine ry_istore dX12_piece_1 (by decide) ?_
  refine ry_iconst (v := 0) dX12_piece_3 (by decide) ?_
  refine ry_istore dX12_piece_4 (by decide) ?_
  exact ry_to (yl_X12_piece_6 cx w rd_big a0 x1 x2 x3 x4 x5 1 0 ha0 S) ⟨rfl, rfl, rfl, rfl, rfl, rfl, rfl, rfl, trivial⟩
theorem cm_X12_piece (l : Launch) (cx : rd_Cx) (w : rd_W) (a0 : Nat) (x1 : Int32) (x2 : Int32) (x3 : Int32) (x4 : Int32) (x5 : Int32) (ha0 : rd_ok w a0 12) (S : rd_S) (r : rd_S) (h : F_X12_piece w a0 x1 x2 x3 x4 x5 S = some r) : rd_M l cx yX12_piece G_X12_piece 0 [.inr (some a0), .inl x1, .inl x2, .inl x3, .inl x4, .inl x5] w S (rd_rV w r) :=
  rd_enter (plainFor_of_name (by decide +kernel)) rfl (fun h => by cases h) (Nat.le_of_ble_eq_true rfl) (ym_X12_piece cx w a0 x1 x2 x3 x4 x5 ha0 S r h)
abbrev G_X12_finish : rd_G := (RX12, cX12_finish, 2, none, false, { frames := 0, cells := 0, slots := 0, locals := 0 })
theorem yf_X12_finish : rd_YL yX12_finish G_X12_finish 0 := ⟨rd_mem 949 (by decide +kernel) rfl, rd_mem 75 (by decide +kernel) rfl, by decide +kernel, by decide +kernel, by decide +kernel⟩
theorem mi_X12_finish : Cond.instanceMethod yX12_finish ∈ rd_gw := rd_mem 948 (by decide +kernel) rfl
theorem ms_X12_finish : Cond.selects (MethodName.cls yX12_finish) yX12_finish yX12_finish ∈ rd_gw := rd_mem 52 (by decide +kernel) rfl
theorem dX12_finish_0 : decode cX12_finish 0 = .ok (.aload_n 0, 1) := by decide +kernel
theorem dX12_finish_1 : decode cX12_finish 1 = .ok (.getfield 214, 3) := by decide +kernel
theorem dX12_finish_4 : decode cX12_finish 4 = .ok (.aload_n 0, 1) := by decide +kernel
theorem dX12_finish_5 : decode cX12_finish 5 = .ok (.getfield 211, 3) := by decide +kernel
theorem dX12_finish_8 : decode cX12_finish 8 = .ok (.if_icmp .ge 4, 3) := by decide +kernel
theorem dX12_finish_11 : decode cX12_finish 11 = .ok (.return_, 1) := by decide +kernel
theorem dX12_finish_12 : decode cX12_finish 12 = .ok (.iconst 0, 1) := by decide +kernel
theorem dX12_finish_13 : decode cX12_finish 13 = .ok (.istore_n 1, 1) := by decide +kernel
theorem dX12_finish_14 : decode cX12_finish 14 = .ok (.iload_n 1, 1) := by decide +kernel
theorem dX12_finish_15 : decode cX12_finish 15 = .ok (.aload_n 0, 1) := by decide +kernel
theorem dX12_finish_16 : decode cX12_finish 16 = .ok (.getfield 214, 3) := by decide +kernel
theorem dX12_finish_19 : decode cX12_finish 19 = .ok (.if_icmp .ge 21, 3) := by decide +kernel
theorem dX12_finish_22 : decode cX12_finish 22 = .ok (.aload_n 0, 1) := by decide +kernel
theorem dX12_finish_23 : decode cX12_finish 23 = .ok (.getfield 224, 3) := by decide +kernel
theorem dX12_finish_26 : decode cX12_finish 26 = .ok (.iload_n 1, 1) := by decide +kernel
theorem dX12_finish_27 : decode cX12_finish 27 = .ok (.aload_n 0, 1) := by decide +kernel
theorem dX12_finish_28 : decode cX12_finish 28 = .ok (.getfield 221, 3) := by decide +kernel
theorem dX12_finish_31 : decode cX12_finish 31 = .ok (.iload_n 1, 1) := by decide +kernel
theorem dX12_finish_32 : decode cX12_finish 32 = .ok (.iaload, 1) := by decide +kernel
theorem dX12_finish_33 : decode cX12_finish 33 = .ok (.iastore, 1) := by decide +kernel
theorem dX12_finish_34 : decode cX12_finish 34 = .ok (.iinc 1 1, 3) := by decide +kernel
theorem dX12_finish_37 : decode cX12_finish 37 = .ok (.goto (-23), 3) := by decide +kernel
theorem dX12_finish_40 : decode cX12_finish 40 = .ok (.aload_n 0, 1) := by decide +kernel
theorem dX12_finish_41 : decode cX12_finish 41 = .ok (.aload_n 0, 1) := by decide +kernel
theorem dX12_finish_42 : decode cX12_finish 42 = .ok (.getfield 214, 3) := by decide +kernel
theorem dX12_finish_45 : decode cX12_finish 45 = .ok (.putfield 227, 3) := by decide +kernel
theorem dX12_finish_48 : decode cX12_finish 48 = .ok (.aload_n 0, 1) := by decide +kernel
theorem dX12_finish_49 : decode cX12_finish 49 = .ok (.getfield 190, 3) := by decide +kernel
theorem dX12_finish_52 : decode cX12_finish 52 = .ok (.iconst 3, 1) := by decide +kernel
theorem dX12_finish_53 : decode cX12_finish 53 = .ok (.dup2, 1) := by decide +kernel
theorem dX12_finish_54 : decode cX12_finish 54 = .ok (.iaload, 1) := by decide +kernel
theorem dX12_finish_55 : decode cX12_finish 55 = .ok (.iconst 1, 1) := by decide +kernel
theorem dX12_finish_56 : decode cX12_finish 56 = .ok (.iadd, 1) := by decide +kernel
theorem dX12_finish_57 : decode cX12_finish 57 = .ok (.iastore, 1) := by decide +kernel
theorem dX12_finish_58 : decode cX12_finish 58 = .ok (.aload_n 0, 1) := by decide +kernel
theorem dX12_finish_59 : decode cX12_finish 59 = .ok (.iconst 0, 1) := by decide +kernel
theorem dX12_finish_60 : decode cX12_finish 60 = .ok (.putfield 202, 3) := by decide +kernel
theorem dX12_finish_63 : decode cX12_finish 63 = .ok (.aload_n 0, 1) := by decide +kernel
theorem dX12_finish_64 : decode cX12_finish 64 = .ok (.iconst 0, 1) := by decide +kernel
theorem dX12_finish_65 : decode cX12_finish 65 = .ok (.putfield 205, 3) := by decide +kernel
theorem dX12_finish_68 : decode cX12_finish 68 = .ok (.return_, 1) := by decide +kernel
def B_X12_finish_14 (w : rd_W) (k14 : Nat → Int32 → rd_S → Option (rd_S)) (a0 : Nat) (x1 : Int32) (S : rd_S) : Option (rd_S) :=
  if (gI S a0 37) ≤ x1 then
  (rd_let (pI S a0 35 (gI S a0 37)) fun s3 =>
  rd_c (gR s3 a0 26) fun b4 =>
  rd_i 3 (w.2.2 b4) <|
  rd_i 3 (w.2.2 b4) <|
  rd_let (pI s3 b4 (3 : Int32).toNatClampNeg ((gI s3 b4 (3 : Int32).toNatClampNeg) + 1)) fun s5 =>
  rd_let (pI s5 a0 38 0) fun s6 =>
  rd_let (pI s6 a0 39 0) fun s7 =>
  some s7)
  else
  (rd_c (gR S a0 33) fun b8 =>
  rd_c (gR S a0 34) fun b9 =>
  rd_i x1 (w.2.2 b9) <|
  rd_i x1 (w.2.2 b8) <|
  rd_let (pI S b8 x1.toNatClampNeg (gI S b9 x1.toNatClampNeg)) fun s10 =>
  rd_let (x1 + 1) fun v11 =>
  k14 a0 v11 s10)
theorem yb_X12_finish_14 (cx : rd_Cx) (w : rd_W) {k14 : Nat → Int32 → rd_S → Option (rd_S)} (hk14 : ∀ (a0 : Nat) (x1 : Int32) (ha0 : rd_ok w a0 12) (S : rd_S), rd_Y cx G_X12_finish (fun r => rd_P cx G_X12_finish.2.2.2.2.2 0 w (rd_rV w r)) (k14 a0 x1 S) 14 [(0, .inr (some a0)), (1, .inl x1)] [] w S 0 0) (a0 : Nat) (x1 : Int32) (ha0 : rd_ok w a0 12) (S : rd_S) : rd_Y cx G_X12_finish (fun r => rd_P cx G_X12_finish.2.2.2.2.2 0 w (rd_rV w r)) (B_X12_finish_14 w k14 a0 x1 S) 14 [(0, .inr (some a0)), (1, .inl x1)] [] w S 0 0 := by
  unfold B_X12_finish_14
  refine ry_iload_n dX12_finish_14 rfl ?_
  refine ry_aload_n dX12_finish_15 rfl ?_
  refine ry_geti dX12_finish_16 ha0 fl_RX12_214 rfl ?_
  refine ry_icmp_ge 40 dX12_finish_19 (by decide) (fun c2 => ?_) (fun c2 => ?_)
  · refine ry_aload_n dX12_finish_40 rfl ?_
    refine ry_aload_n dX12_finish_41 rfl ?_
    refine ry_geti dX12_finish_42 ha0 fl_RX12_214 rfl ?_
    refine ry_puti dX12_finish_45 ha0 fl_RX12_227 rfl rfl rfl ?_
    refine ry_letS (fun s3 => ?_)
    refine ry_aload_n dX12_finish_48 rfl ?_
    refine ry_getr dX12_finish_49 ha0 fl_RX12_190 rfl (fun b4 hb4 => ?_)
    refine ry_iconst (v := 3) dX12_finish_52 (by decide) ?_
    refine ry_dup2 dX12_finish_53 ?_
    refine ry_iald dX12_finish_54 hb4 ?_
    refine ry_iconst (v := 1) dX12_finish_55 (by decide) ?_
    refine ry_iadd dX12_finish_56 ?_
    refine ry_iast dX12_finish_57 hb4 ?_
    refine ry_letS (fun s5 => ?_)
    refine ry_aload_n dX12_finish_58 rfl ?_
    refine ry_iconst (v := 0) dX12_finish_59 (by decide) ?_
    refine ry_putz dX12_finish_60 ha0 fl_RX12_202 rfl rfl rfl (by decide) ?_
    refine ry_letS (fun s6 => ?_)
    refine ry_aload_n dX12_finish_63 rfl ?_
    refine ry_iconst (v := 0) dX12_finish_64 (by decide) ?_
    refine ry_putz dX12_finish_65 ha0 fl_RX12_205 rfl rfl rfl (by decide) ?_
    refine ry_letS (fun s7 => ?_)
    exact ry_vret dX12_finish_68 rfl (Nat.le_of_ble_eq_true rfl) (Nat.le_of_ble_eq_true rfl)
  · refine ry_aload_n dX12_finish_22 rfl ?_
    refine ry_getr dX12_finish_23 ha0 fl_RX12_224 rfl (fun b8 hb8 => ?_)
    refine ry_iload_n dX12_finish_26 rfl ?_
    refine ry_aload_n dX12_finish_27 rfl ?_
    refine ry_getr dX12_finish_28 ha0 fl_RX12_221 rfl (fun b9 hb9 => ?_)
    refine ry_iload_n dX12_finish_31 rfl ?_
    refine ry_iald dX12_finish_32 hb9 ?_
    refine ry_iast dX12_finish_33 hb8 ?_
    refine ry_letS (fun s10 => ?_)
    refine ry_iinc (v := 1) dX12_finish_34 rfl (by decide) (by decide) ?_
    refine ry_let (fun v11 => ?_)
    refine ry_goto 14 dX12_finish_37 (by decide) ?_
    exact ry_to (hk14 a0 v11 ha0 s10) ⟨rfl, rfl, trivial⟩
def F_X12_finish_14 (w : rd_W) (n : Nat) : Nat → Int32 → rd_S → Option (rd_S) :=
  Nat.rec (motive := fun _ => Nat → Int32 → rd_S → Option (rd_S)) (fun _ _ _ => none) (fun _ ih => B_X12_finish_14 w ih) n
theorem yl_X12_finish_14 (cx : rd_Cx) (w : rd_W) : ∀ (n : Nat) (a0 : Nat) (x1 : Int32) (ha0 : rd_ok w a0 12) (S : rd_S), rd_Y cx G_X12_finish (fun r => rd_P cx G_X12_finish.2.2.2.2.2 0 w (rd_rV w r)) (F_X12_finish_14 w n a0 x1 S) 14 [(0, .inr (some a0)), (1, .inl x1)] [] w S 0 0 := by
  intro n
  induction n with
  | zero => intro a0 x1 ha0 S; exact ry_none
  | succ n ih => intro a0 x1 ha0 S; exact yb_X12_finish_14 cx w ih a0 x1 ha0 S
def F_X12_finish (w : rd_W) (a0 : Nat) (S : rd_S) : Option (rd_S) :=
  if (gI S a0 36) ≤ (gI S a0 37) then
  (F_X12_finish_14 w rd_big a0 0 S)
  else
  (some S)
theorem ym_X12_finish (cx : rd_Cx) (w : rd_W) (a0 : Nat) (ha0 : rd_ok w a0 12) (S : rd_S) : rd_Y cx G_X12_finish (fun r => rd_P cx G_X12_finish.2.2.2.2.2 0 w (rd_rV w r)) (F_X12_finish w a0 S) 0 (rd_as 0 [.inr (some a0)]) [] w S 0 0 := by
  unfold F_X12_finish
  refine ry_aload_n dX12_finish_0 rfl ?_
  refine ry_geti dX12_finish_1 ha0 fl_RX12_214 rfl ?_
  refine ry_aload_n dX12_finish_4 rfl ?_
  refine ry_geti dX12_finish_5 ha0 fl_RX12_211 rfl ?_
  refine ry_icmp_ge 12 dX12_finish_8 (by decide) (fun c1 => ?_) (fun c1 => ?_)
  · refine ry_iconst (v := 0) dX12_finish_12 (by decide) ?_
    refine ry_istore_n dX12_finish_13 (by decide) ?_
    exact ry_to (yl_X12_finish_14 cx w rd_big a0 0 ha0 S) ⟨rfl, rfl, trivial⟩
  · exact ry_vret dX12_finish_11 rfl (Nat.le_of_ble_eq_true rfl) (Nat.le_of_ble_eq_true rfl)
theorem cm_X12_finish (l : Launch) (cx : rd_Cx) (w : rd_W) (a0 : Nat) (ha0 : rd_ok w a0 12) (S : rd_S) (r : rd_S) (h : F_X12_finish w a0 S = some r) : rd_M l cx yX12_finish G_X12_finish 0 [.inr (some a0)] w S (rd_rV w r) :=
  rd_enter (plainFor_of_name (by decide +kernel)) rfl (fun h => by cases h) (Nat.le_of_ble_eq_true rfl) (ym_X12_finish cx w a0 ha0 S r h)
abbrev G_X12_add : rd_G := (RX12, cX12_add, 2, none, false, { frames := 1, cells := 0, slots := 0, locals := 21 })
theorem yf_X12_add : rd_YL yX12_add G_X12_add 1 := ⟨rd_mem 945 (by decide +kernel) rfl, rd_mem 75 (by decide +kernel) rfl, by decide +kernel, by decide +kernel, by decide +kernel⟩
theorem mi_X12_add : Cond.instanceMethod yX12_add ∈ rd_gw := rd_mem 944 (by decide +kernel) rfl
theorem ms_X12_add : Cond.selects (MethodName.cls yX12_add) yX12_add yX12_add ∈ rd_gw := rd_mem 51 (by decide +kernel) rfl
theorem dX12_add_0 : decode cX12_add 0 = .ok (.aload_n 0, 1) := by decide +kernel
theorem dX12_add_1 : decode cX12_add 1 = .ok (.getfield 221, 3) := by decide +kernel
theorem dX12_add_4 : decode cX12_add 4 = .ok (.aload_n 0, 1) := by decide +kernel
theorem dX12_add_5 : decode cX12_add 5 = .ok (.getfield 214, 3) := by decide +kernel
theorem dX12_add_8 : decode cX12_add 8 = .ok (.iload_n 1, 1) := by decide +kernel
theorem dX12_add_9 : decode cX12_add 9 = .ok (.iastore, 1) := by decide +kernel
theorem dX12_add_10 : decode cX12_add 10 = .ok (.aload_n 0, 1) := by decide +kernel
theorem dX12_add_11 : decode cX12_add 11 = .ok (.dup, 1) := by decide +kernel
theorem dX12_add_12 : decode cX12_add 12 = .ok (.getfield 214, 3) := by decide +kernel
theorem dX12_add_15 : decode cX12_add 15 = .ok (.iconst 1, 1) := by decide +kernel
theorem dX12_add_16 : decode cX12_add 16 = .ok (.iadd, 1) := by decide +kernel
theorem dX12_add_17 : decode cX12_add 17 = .ok (.putfield 214, 3) := by decide +kernel
theorem dX12_add_20 : decode cX12_add 20 = .ok (.aload_n 0, 1) := by decide +kernel
theorem dX12_add_21 : decode cX12_add 21 = .ok (.invokevirtual 217, 3) := by decide +kernel
theorem dX12_add_24 : decode cX12_add 24 = .ok (.return_, 1) := by decide +kernel
def F_X12_add (w : rd_W) (a0 : Nat) (x1 : Int32) (S : rd_S) : Option (rd_S) :=
  rd_c (gR S a0 34) fun b1 =>
  rd_i (gI S a0 37) (w.2.2 b1) <|
  rd_let (pI S b1 (gI S a0 37).toNatClampNeg x1) fun s2 =>
  rd_let (pI s2 a0 37 ((gI s2 a0 37) + 1)) fun s3 =>
  rd_c (F_X12_finish w a0 s3) fun s4 =>
  some s4
theorem ym_X12_add (cx : rd_Cx) (w : rd_W) (a0 : Nat) (x1 : Int32) (ha0 : rd_ok w a0 12) (S : rd_S) : rd_Y cx G_X12_add (fun r => rd_P cx G_X12_add.2.2.2.2.2 0 w (rd_rV w r)) (F_X12_add w a0 x1 S) 0 (rd_as 0 [.inr (some a0), .inl x1]) [] w S 0 0 := by
  unfold F_X12_add
  refine ry_aload_n dX12_add_0 rfl ?_
  refine ry_getr dX12_add_1 ha0 fl_RX12_221 rfl (fun b1 hb1 => ?_)
  refine ry_aload_n dX12_add_4 rfl ?_
  refine ry_geti dX12_add_5 ha0 fl_RX12_214 rfl ?_
  refine ry_iload_n dX12_add_8 rfl ?_
  refine ry_iast dX12_add_9 hb1 ?_
  refine ry_letS (fun s2 => ?_)
  refine ry_aload_n dX12_add_10 rfl ?_
  refine ry_dup dX12_add_11 ?_
  refine ry_geti dX12_add_12 ha0 fl_RX12_214 rfl ?_
  refine ry_iconst (v := 1) dX12_add_15 (by decide) ?_
  refine ry_iadd dX12_add_16 ?_
  refine ry_puti dX12_add_17 ha0 fl_RX12_214 rfl rfl rfl ?_
  refine ry_letS (fun s3 => ?_)
  refine ry_aload_n dX12_add_20 rfl ?_
  refine ry_callv (fun l r9 h9 => cm_X12_finish l cx w a0 ha0 s3 r9 h9) (rd_runV (vs := []) dX12_add_21 ha0 rfl rfl yf_X12_finish mi_X12_finish ms_X12_finish ml_RX12_217 ⟨Nat.le_of_ble_eq_true rfl, Nat.le_of_ble_eq_true rfl⟩ (Nat.le_of_ble_eq_true rfl) rfl) rfl rfl (Nat.le_of_ble_eq_true rfl) (Nat.le_of_ble_eq_true rfl) (fun s4 => ?_)
  exact ry_vret dX12_add_24 rfl (Nat.le_of_ble_eq_true rfl) (Nat.le_of_ble_eq_true rfl)
theorem cm_X12_add (l : Launch) (cx : rd_Cx) (w : rd_W) (a0 : Nat) (x1 : Int32) (ha0 : rd_ok w a0 12) (S : rd_S) (r : rd_S) (h : F_X12_add w a0 x1 S = some r) : rd_M l cx yX12_add G_X12_add 0 [.inr (some a0), .inl x1] w S (rd_rV w r) :=
  rd_enter (plainFor_of_name (by decide +kernel)) rfl (fun h => by cases h) (Nat.le_of_ble_eq_true rfl) (ym_X12_add cx w a0 x1 ha0 S r h)
