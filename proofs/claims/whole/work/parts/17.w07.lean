abbrev G_X12_frequency0 : rd_G := (RX12, cX12_frequency0, 2, none, false, { frames := 2, cells := 0, slots := 0, locals := 42 })
theorem yf_X12_frequency0 : rd_YL yX12_frequency0 G_X12_frequency0 1 := ⟨rd_mem 941 (by decide +kernel) rfl, rd_mem 75 (by decide +kernel) rfl, by decide +kernel, by decide +kernel, by decide +kernel⟩
theorem mi_X12_frequency0 : Cond.instanceMethod yX12_frequency0 ∈ rd_gw := rd_mem 940 (by decide +kernel) rfl
theorem ms_X12_frequency0 : Cond.selects (MethodName.cls yX12_frequency0) yX12_frequency0 yX12_frequency0 ∈ rd_gw := rd_mem 50 (by decide +kernel) rfl
theorem dX12_frequency0_0 : decode cX12_frequency0 0 = .ok (.aload_n 0, 1) := by decide +kernel
theorem dX12_frequency0_1 : decode cX12_frequency0 1 = .ok (.getfield 202, 3) := by decide +kernel
theorem dX12_frequency0_4 : decode cX12_frequency0 4 = .ok (.ifCond .eq 68, 3) := by decide +kernel
theorem dX12_frequency0_7 : decode cX12_frequency0 7 = .ok (.aload_n 0, 1) := by decide +kernel
theorem dX12_frequency0_8 : decode cX12_frequency0 8 = .ok (.getfield 205, 3) := by decide +kernel
theorem dX12_frequency0_11 : decode cX12_frequency0 11 = .ok (.ifCond .eq 61, 3) := by decide +kernel
theorem dX12_frequency0_14 : decode cX12_frequency0 14 = .ok (.aload_n 0, 1) := by decide +kernel
theorem dX12_frequency0_15 : decode cX12_frequency0 15 = .ok (.iconst 0, 1) := by decide +kernel
theorem dX12_frequency0_16 : decode cX12_frequency0 16 = .ok (.putfield 205, 3) := by decide +kernel
theorem dX12_frequency0_19 : decode cX12_frequency0 19 = .ok (.aload_n 0, 1) := by decide +kernel
theorem dX12_frequency0_20 : decode cX12_frequency0 20 = .ok (.iload_n 1, 1) := by decide +kernel
theorem dX12_frequency0_21 : decode cX12_frequency0 21 = .ok (.ifCond .le 20, 3) := by decide +kernel
theorem dX12_frequency0_24 : decode cX12_frequency0 24 = .ok (.iload_n 1, 1) := by decide +kernel
theorem dX12_frequency0_25 : decode cX12_frequency0 25 = .ok (.bipush 16, 2) := by decide +kernel
theorem dX12_frequency0_27 : decode cX12_frequency0 27 = .ok (.if_icmp .ge 14, 3) := by decide +kernel
theorem dX12_frequency0_30 : decode cX12_frequency0 30 = .ok (.sipush 144, 3) := by decide +kernel
theorem dX12_frequency0_33 : decode cX12_frequency0 33 = .ok (.bipush 9, 2) := by decide +kernel
theorem dX12_frequency0_35 : decode cX12_frequency0 35 = .ok (.iload_n 1, 1) := by decide +kernel
theorem dX12_frequency0_36 : decode cX12_frequency0 36 = .ok (.imul, 1) := by decide +kernel
theorem dX12_frequency0_37 : decode cX12_frequency0 37 = .ok (.iadd, 1) := by decide +kernel
theorem dX12_frequency0_38 : decode cX12_frequency0 38 = .ok (.goto 28, 3) := by decide +kernel
theorem dX12_frequency0_41 : decode cX12_frequency0 41 = .ok (.iload_n 1, 1) := by decide +kernel
theorem dX12_frequency0_42 : decode cX12_frequency0 42 = .ok (.bipush 15, 2) := by decide +kernel
theorem dX12_frequency0_44 : decode cX12_frequency0 44 = .ok (.if_icmp .le 21, 3) := by decide +kernel
theorem dX12_frequency0_47 : decode cX12_frequency0 47 = .ok (.iload_n 1, 1) := by decide +kernel
theorem dX12_frequency0_48 : decode cX12_frequency0 48 = .ok (.sipush 136, 3) := by decide +kernel
theorem dX12_frequency0_51 : decode cX12_frequency0 51 = .ok (.if_icmp .ge 14, 3) := by decide +kernel
theorem dX12_frequency0_54 : decode cX12_frequency0 54 = .ok (.sipush 387, 3) := by decide +kernel
theorem dX12_frequency0_57 : decode cX12_frequency0 57 = .ok (.bipush 9, 2) := by decide +kernel
theorem dX12_frequency0_59 : decode cX12_frequency0 59 = .ok (.iload_n 1, 1) := by decide +kernel
theorem dX12_frequency0_60 : decode cX12_frequency0 60 = .ok (.imul, 1) := by decide +kernel
theorem dX12_frequency0_61 : decode cX12_frequency0 61 = .ok (.iadd, 1) := by decide +kernel
theorem dX12_frequency0_62 : decode cX12_frequency0 62 = .ok (.goto 4, 3) := by decide +kernel
theorem dX12_frequency0_65 : decode cX12_frequency0 65 = .ok (.iconst 0, 1) := by decide +kernel
theorem dX12_frequency0_66 : decode cX12_frequency0 66 = .ok (.invokevirtual 208, 3) := by decide +kernel
theorem dX12_frequency0_69 : decode cX12_frequency0 69 = .ok (.goto 105, 3) := by decide +kernel
theorem dX12_frequency0_72 : decode cX12_frequency0 72 = .ok (.iload_n 1, 1) := by decide +kernel
theorem dX12_frequency0_73 : decode cX12_frequency0 73 = .ok (.sipush 224, 3) := by decide +kernel
theorem dX12_frequency0_76 : decode cX12_frequency0 76 = .ok (.if_icmp .lt 36, 3) := by decide +kernel
theorem dX12_frequency0_79 : decode cX12_frequency0 79 = .ok (.iload_n 1, 1) := by decide +kernel
theorem dX12_frequency0_80 : decode cX12_frequency0 80 = .ok (.sipush 249, 3) := by decide +kernel
theorem dX12_frequency0_83 : decode cX12_frequency0 83 = .ok (.if_icmp .gt 29, 3) := by decide +kernel
theorem dX12_frequency0_86 : decode cX12_frequency0 86 = .ok (.aload_n 0, 1) := by decide +kernel
theorem dX12_frequency0_87 : decode cX12_frequency0 87 = .ok (.iconst 1, 1) := by decide +kernel
theorem dX12_frequency0_88 : decode cX12_frequency0 88 = .ok (.putfield 202, 3) := by decide +kernel
theorem dX12_frequency0_91 : decode cX12_frequency0 91 = .ok (.aload_n 0, 1) := by decide +kernel
theorem dX12_frequency0_92 : decode cX12_frequency0 92 = .ok (.iload_n 1, 1) := by decide +kernel
theorem dX12_frequency0_93 : decode cX12_frequency0 93 = .ok (.sipush 224, 3) := by decide +kernel
theorem dX12_frequency0_96 : decode cX12_frequency0 96 = .ok (.isub, 1) := by decide +kernel
theorem dX12_frequency0_97 : decode cX12_frequency0 97 = .ok (.putfield 211, 3) := by decide +kernel
theorem dX12_frequency0_100 : decode cX12_frequency0 100 = .ok (.aload_n 0, 1) := by decide +kernel
theorem dX12_frequency0_101 : decode cX12_frequency0 101 = .ok (.iconst 0, 1) := by decide +kernel
theorem dX12_frequency0_102 : decode cX12_frequency0 102 = .ok (.putfield 214, 3) := by decide +kernel
theorem dX12_frequency0_105 : decode cX12_frequency0 105 = .ok (.aload_n 0, 1) := by decide +kernel
theorem dX12_frequency0_106 : decode cX12_frequency0 106 = .ok (.invokevirtual 217, 3) := by decide +kernel
theorem dX12_frequency0_109 : decode cX12_frequency0 109 = .ok (.goto 65, 3) := by decide +kernel
theorem dX12_frequency0_112 : decode cX12_frequency0 112 = .ok (.aload_n 0, 1) := by decide +kernel
theorem dX12_frequency0_113 : decode cX12_frequency0 113 = .ok (.getfield 202, 3) := by decide +kernel
theorem dX12_frequency0_116 : decode cX12_frequency0 116 = .ok (.ifCond .eq 18, 3) := by decide +kernel
theorem dX12_frequency0_119 : decode cX12_frequency0 119 = .ok (.iload_n 1, 1) := by decide +kernel
theorem dX12_frequency0_120 : decode cX12_frequency0 120 = .ok (.sipush 250, 3) := by decide +kernel
theorem dX12_frequency0_123 : decode cX12_frequency0 123 = .ok (.if_icmp .ne 11, 3) := by decide +kernel
theorem dX12_frequency0_126 : decode cX12_frequency0 126 = .ok (.aload_n 0, 1) := by decide +kernel
theorem dX12_frequency0_127 : decode cX12_frequency0 127 = .ok (.iconst 1, 1) := by decide +kernel
theorem dX12_frequency0_128 : decode cX12_frequency0 128 = .ok (.putfield 205, 3) := by decide +kernel
theorem dX12_frequency0_131 : decode cX12_frequency0 131 = .ok (.goto 43, 3) := by decide +kernel
theorem dX12_frequency0_134 : decode cX12_frequency0 134 = .ok (.aload_n 0, 1) := by decide +kernel
theorem dX12_frequency0_135 : decode cX12_frequency0 135 = .ok (.getfield 202, 3) := by decide +kernel
theorem dX12_frequency0_138 : decode cX12_frequency0 138 = .ok (.ifCond .eq 36, 3) := by decide +kernel
theorem dX12_frequency0_141 : decode cX12_frequency0 141 = .ok (.iload_n 1, 1) := by decide +kernel
theorem dX12_frequency0_142 : decode cX12_frequency0 142 = .ok (.sipush 205, 3) := by decide +kernel
theorem dX12_frequency0_145 : decode cX12_frequency0 145 = .ok (.if_icmp .eq 29, 3) := by decide +kernel
theorem dX12_frequency0_148 : decode cX12_frequency0 148 = .ok (.aload_n 0, 1) := by decide +kernel
theorem dX12_frequency0_149 : decode cX12_frequency0 149 = .ok (.iload_n 1, 1) := by decide +kernel
theorem dX12_frequency0_150 : decode cX12_frequency0 150 = .ok (.ifCond .le 20, 3) := by decide +kernel
theorem dX12_frequency0_153 : decode cX12_frequency0 153 = .ok (.iload_n 1, 1) := by decide +kernel
theorem dX12_frequency0_154 : decode cX12_frequency0 154 = .ok (.sipush 205, 3) := by decide +kernel
theorem dX12_frequency0_157 : decode cX12_frequency0 157 = .ok (.if_icmp .ge 13, 3) := by decide +kernel
theorem dX12_frequency0_160 : decode cX12_frequency0 160 = .ok (.ldc 220, 2) := by decide +kernel
theorem dX12_frequency0_162 : decode cX12_frequency0 162 = .ok (.bipush 100, 2) := by decide +kernel
theorem dX12_frequency0_164 : decode cX12_frequency0 164 = .ok (.iload_n 1, 1) := by decide +kernel
theorem dX12_frequency0_165 : decode cX12_frequency0 165 = .ok (.imul, 1) := by decide +kernel
theorem dX12_frequency0_166 : decode cX12_frequency0 166 = .ok (.iadd, 1) := by decide +kernel
theorem dX12_frequency0_167 : decode cX12_frequency0 167 = .ok (.goto 4, 3) := by decide +kernel
theorem dX12_frequency0_170 : decode cX12_frequency0 170 = .ok (.iconst 0, 1) := by decide +kernel
theorem dX12_frequency0_171 : decode cX12_frequency0 171 = .ok (.invokevirtual 208, 3) := by decide +kernel
theorem dX12_frequency0_174 : decode cX12_frequency0 174 = .ok (.return_, 1) := by decide +kernel
def B_X12_frequency0_174 (w : rd_W) (S : rd_S) : Option (rd_S) :=
  some S
theorem yb_X12_frequency0_174 (cx : rd_Cx) (w : rd_W) (S : rd_S) : rd_Y cx G_X12_frequency0 (fun r => rd_P cx G_X12_frequency0.2.2.2.2.2 0 w (rd_rV w r)) (B_X12_frequency0_174 w S) 174 [] [] w S 0 0 := by
  unfold B_X12_frequency0_174
  exact ry_vret dX12_frequency0_174 rfl (Nat.le_of_ble_eq_true rfl) (Nat.le_of_ble_eq_true rfl)
def B_X12_frequency0_171 (w : rd_W) (t0 : Int32) (e1 : Nat) (S : rd_S) : Option (rd_S) :=
  rd_c (F_X12_add w e1 t0 S) fun s7 =>
  B_X12_frequency0_174 w s7
theorem yb_X12_frequency0_171 (cx : rd_Cx) (w : rd_W) (t0 : Int32) (e1 : Nat) (he1 : rd_ok w e1 12) (S : rd_S) : rd_Y cx G_X12_frequency0 (fun r => rd_P cx G_X12_frequency0.2.2.2.2.2 0 w (rd_rV w r)) (B_X12_frequency0_171 w t0 e1 S) 171 [] [.inl t0, .inr (some e1)] w S 0 0 := by
  unfold B_X12_frequency0_171
  refine ry_callv (fun l r9 h9 => cm_X12_add l cx w e1 t0 he1 S r9 h9) (rd_runV (vs := [.inl t0]) dX12_frequency0_171 he1 rfl rfl yf_X12_add mi_X12_add ms_X12_add ml_RX12_208 ⟨Nat.le_of_ble_eq_true rfl, Nat.le_of_ble_eq_true rfl⟩ (Nat.le_of_ble_eq_true rfl) rfl) rfl rfl (Nat.le_of_ble_eq_true rfl) (Nat.le_of_ble_eq_true rfl) (fun s7 => ?_)
  exact ry_to (yb_X12_frequency0_174 cx w s7) trivial
def B_X12_frequency0_170 (w : rd_W) (e0 : Nat) (S : rd_S) : Option (rd_S) :=
  B_X12_frequency0_171 w 0 e0 S
theorem yb_X12_frequency0_170 (cx : rd_Cx) (w : rd_W) (e0 : Nat) (he0 : rd_ok w e0 12) (S : rd_S) : rd_Y cx G_X12_frequency0 (fun r => rd_P cx G_X12_frequency0.2.2.2.2.2 0 w (rd_rV w r)) (B_X12_frequency0_170 w e0 S) 170 [] [.inr (some e0)] w S 0 0 := by
  unfold B_X12_frequency0_170
  refine ry_iconst (v := 0) dX12_frequency0_170 (by decide) ?_
  exact ry_to (yb_X12_frequency0_171 cx w 0 e0 he0 S) trivial
def B_X12_frequency0_134 (w : rd_W) (a0 : Nat) (x1 : Int32) (S : rd_S) : Option (rd_S) :=
  if (gI S a0 38) = 0 then
  (B_X12_frequency0_174 w S)
  else
  (if x1 = 205 then
  (B_X12_frequency0_174 w S)
  else
  (if x1 ≤ 0 then
  (B_X12_frequency0_170 w a0 S)
  else
  (if 205 ≤ x1 then
  (B_X12_frequency0_170 w a0 S)
  else
  (B_X12_frequency0_171 w (87500 + (100 * x1)) a0 S))))
theorem yb_X12_frequency0_134 (cx : rd_Cx) (w : rd_W) (a0 : Nat) (x1 : Int32) (ha0 : rd_ok w a0 12) (S : rd_S) : rd_Y cx G_X12_frequency0 (fun r => rd_P cx G_X12_frequency0.2.2.2.2.2 0 w (rd_rV w r)) (B_X12_frequency0_134 w a0 x1 S) 134 [(0, .inr (some a0)), (1, .inl x1)] [] w S 0 0 := by
  unfold B_X12_frequency0_134
  refine ry_aload_n dX12_frequency0_134 rfl ?_
  refine ry_geti dX12_frequency0_135 ha0 fl_RX12_202 rfl ?_
  refine ry_if_eq 174 dX12_frequency0_138 (by decide) (fun c4 => ?_) (fun c4 => ?_)
  · exact ry_to (yb_X12_frequency0_174 cx w S) trivial
  · refine ry_iload_n dX12_frequency0_141 rfl ?_
    refine ry_sipush (v := 205) dX12_frequency0_142 (by decide) ?_
    refine ry_icmp_eq 174 dX12_frequency0_145 (by decide) (fun c5 => ?_) (fun c5 => ?_)
    · exact ry_to (yb_X12_frequency0_174 cx w S) trivial
    · refine ry_aload_n dX12_frequency0_148 rfl ?_
      refine ry_iload_n dX12_frequency0_149 rfl ?_
      refine ry_if_le 170 dX12_frequency0_150 (by decide) (fun c6 => ?_) (fun c6 => ?_)
      · exact ry_to (yb_X12_frequency0_170 cx w a0 ha0 S) trivial
      · refine ry_iload_n dX12_frequency0_153 rfl ?_
        refine ry_sipush (v := 205) dX12_frequency0_154 (by decide) ?_
        refine ry_icmp_ge 170 dX12_frequency0_157 (by decide) (fun c8 => ?_) (fun c8 => ?_)
        · exact ry_to (yb_X12_frequency0_170 cx w a0 ha0 S) trivial
        · refine ry_ldc (v := 87500) dX12_frequency0_160 co_RX12_220 ?_
          refine ry_bipush (v := 100) dX12_frequency0_162 (by decide) ?_
          refine ry_iload_n dX12_frequency0_164 rfl ?_
          refine ry_imul dX12_frequency0_165 ?_
          refine ry_iadd dX12_frequency0_166 ?_
          refine ry_goto 171 dX12_frequency0_167 (by decide) ?_
          exact ry_to (yb_X12_frequency0_171 cx w (87500 + (100 * x1)) a0 ha0 S) trivial
def B_X12_frequency0_112 (w : rd_W) (a0 : Nat) (x1 : Int32) (S : rd_S) : Option (rd_S) :=
  if (gI S a0 38) = 0 then
  (B_X12_frequency0_134 w a0 x1 S)
  else
  (if x1 = 250 then
  (rd_let (pI S a0 39 1) fun s10 =>
  B_X12_frequency0_174 w s10)
  else
  (B_X12_frequency0_134 w a0 x1 S))
theorem yb_X12_frequency0_112 (cx : rd_Cx) (w : rd_W) (a0 : Nat) (x1 : Int32) (ha0 : rd_ok w a0 12) (S : rd_S) : rd_Y cx G_X12_frequency0 (fun r => rd_P cx G_X12_frequency0.2.2.2.2.2 0 w (rd_rV w r)) (B_X12_frequency0_112 w a0 x1 S) 112 [(0, .inr (some a0)), (1, .inl x1)] [] w S 0 0 := by
  unfold B_X12_frequency0_112
  refine ry_aload_n dX12_frequency0_112 rfl ?_
  refine ry_geti dX12_frequency0_113 ha0 fl_RX12_202 rfl ?_
  refine ry_if_eq 134 dX12_frequency0_116 (by decide) (fun c3 => ?_) (fun c3 => ?_)
  · exact ry_to (yb_X12_frequency0_134 cx w a0 x1 ha0 S) ⟨rfl, rfl, trivial⟩
  · refine ry_iload_n dX12_frequency0_119 rfl ?_
    refine ry_sipush (v := 250) dX12_frequency0_120 (by decide) ?_
    refine ry_icmp_ne 134 dX12_frequency0_123 (by decide) (fun c9 => ?_) (fun c9 => ?_)
    · refine ry_aload_n dX12_frequency0_126 rfl ?_
      refine ry_iconst (v := 1) dX12_frequency0_127 (by decide) ?_
      refine ry_putz dX12_frequency0_128 ha0 fl_RX12_205 rfl rfl rfl (by decide) ?_
      refine ry_letS (fun s10 => ?_)
      refine ry_goto 174 dX12_frequency0_131 (by decide) ?_
      exact ry_to (yb_X12_frequency0_174 cx w s10) trivial
    · exact ry_to (yb_X12_frequency0_134 cx w a0 x1 ha0 S) ⟨rfl, rfl, trivial⟩
def B_X12_frequency0_72 (w : rd_W) (a0 : Nat) (x1 : Int32) (S : rd_S) : Option (rd_S) :=
  if x1 < 224 then
  (B_X12_frequency0_112 w a0 x1 S)
  else
  (if 249 < x1 then
  (B_X12_frequency0_112 w a0 x1 S)
  else
  (rd_let (pI S a0 38 1) fun s12 =>
  rd_let (pI s12 a0 36 (x1 - 224)) fun s13 =>
  rd_let (pI s13 a0 37 0) fun s14 =>
  rd_c (F_X12_finish w a0 s14) fun s15 =>
  B_X12_frequency0_174 w s15))
theorem yb_X12_frequency0_72 (cx : rd_Cx) (w : rd_W) (a0 : Nat) (x1 : Int32) (ha0 : rd_ok w a0 12) (S : rd_S) : rd_Y cx G_X12_frequency0 (fun r => rd_P cx G_X12_frequency0.2.2.2.2.2 0 w (rd_rV w r)) (B_X12_frequency0_72 w a0 x1 S) 72 [(0, .inr (some a0)), (1, .inl x1)] [] w S 0 0 := by
  unfold B_X12_frequency0_72
  refine ry_iload_n dX12_frequency0_72 rfl ?_
  refine ry_sipush (v := 224) dX12_frequency0_73 (by decide) ?_
  refine ry_icmp_lt 112 dX12_frequency0_76 (by decide) (fun c2 => ?_) (fun c2 => ?_)
  · exact ry_to (yb_X12_frequency0_112 cx w a0 x1 ha0 S) ⟨rfl, rfl, trivial⟩
  · refine ry_iload_n dX12_frequency0_79 rfl ?_
    refine ry_sipush (v := 249) dX12_frequency0_80 (by decide) ?_
    refine ry_icmp_gt 112 dX12_frequency0_83 (by decide) (fun c11 => ?_) (fun c11 => ?_)
    · exact ry_to (yb_X12_frequency0_112 cx w a0 x1 ha0 S) ⟨rfl, rfl, trivial⟩
    · refine ry_aload_n dX12_frequency0_86 rfl ?_
      refine ry_iconst (v := 1) dX12_frequency0_87 (by decide) ?_
      refine ry_putz dX12_frequency0_88 ha0 fl_RX12_202 rfl rfl rfl (by decide) ?_
      refine ry_letS (fun s12 => ?_)
      refine ry_aload_n dX12_frequency0_91 rfl ?_
      refine ry_iload_n dX12_frequency0_92 rfl ?_
      refine ry_sipush (v := 224) dX12_frequency0_93 (by decide) ?_
      refine ry_isub dX12_frequency0_96 ?_
      refine ry_puti dX12_frequency0_97 ha0 fl_RX12_211 rfl rfl rfl ?_
      refine ry_letS (fun s13 => ?_)
      refine ry_aload_n dX12_frequency0_100 rfl ?_
      refine ry_iconst (v := 0) dX12_frequency0_101 (by decide) ?_
      refine ry_puti dX12_frequency0_102 ha0 fl_RX12_214 rfl rfl rfl ?_
      refine ry_letS (fun s14 => ?_)
      refine ry_aload_n dX12_frequency0_105 rfl ?_
      refine ry_callv (fun l r9 h9 => cm_X12_finish l cx w a0 ha0 s14 r9 h9) (rd_runV (vs := []) dX12_frequency0_106 ha0 rfl rfl yf_X12_finish mi_X12_finish ms_X12_finish ml_RX12_217 ⟨Nat.le_of_ble_eq_true rfl, Nat.le_of_ble_eq_true rfl⟩ (Nat.le_of_ble_eq_true rfl) rfl) rfl rfl (Nat.le_of_ble_eq_true rfl) (Nat.le_of_ble_eq_true rfl) (fun s15 => ?_)
      refine ry_goto 174 dX12_frequency0_109 (by decide) ?_
      exact ry_to (yb_X12_frequency0_174 cx w s15) trivial
def B_X12_frequency0_66 (w : rd_W) (t0 : Int32) (e1 : Nat) (S : rd_S) : Option (rd_S) :=
  rd_c (F_X12_add w e1 t0 S) fun s20 =>
  B_X12_frequency0_174 w s20
theorem yb_X12_frequency0_66 (cx : rd_Cx) (w : rd_W) (t0 : Int32) (e1 : Nat) (he1 : rd_ok w e1 12) (S : rd_S) : rd_Y cx G_X12_frequency0 (fun r => rd_P cx G_X12_frequency0.2.2.2.2.2 0 w (rd_rV w r)) (B_X12_frequency0_66 w t0 e1 S) 66 [] [.inl t0, .inr (some e1)] w S 0 0 := by
  unfold B_X12_frequency0_66
  refine ry_callv (fun l r9 h9 => cm_X12_add l cx w e1 t0 he1 S r9 h9) (rd_runV (vs := [.inl t0]) dX12_frequency0_66 he1 rfl rfl yf_X12_add mi_X12_add ms_X12_add ml_RX12_208 ⟨Nat.le_of_ble_eq_true rfl, Nat.le_of_ble_eq_true rfl⟩ (Nat.le_of_ble_eq_true rfl) rfl) rfl rfl (Nat.le_of_ble_eq_true rfl) (Nat.le_of_ble_eq_true rfl) (fun s20 => ?_)
  refine ry_goto 174 dX12_frequency0_69 (by decide) ?_
  exact ry_to (yb_X12_frequency0_174 cx w s20) trivial
def B_X12_frequency0_65 (w : rd_W) (e0 : Nat) (S : rd_S) : Option (rd_S) :=
  B_X12_frequency0_66 w 0 e0 S
theorem yb_X12_frequency0_65 (cx : rd_Cx) (w : rd_W) (e0 : Nat) (he0 : rd_ok w e0 12) (S : rd_S) : rd_Y cx G_X12_frequency0 (fun r => rd_P cx G_X12_frequency0.2.2.2.2.2 0 w (rd_rV w r)) (B_X12_frequency0_65 w e0 S) 65 [] [.inr (some e0)] w S 0 0 := by
  unfold B_X12_frequency0_65
  refine ry_iconst (v := 0) dX12_frequency0_65 (by decide) ?_
  exact ry_to (yb_X12_frequency0_66 cx w 0 e0 he0 S) trivial
def B_X12_frequency0_41 (w : rd_W) (x1 : Int32) (e0 : Nat) (S : rd_S) : Option (rd_S) :=
  if x1 ≤ 15 then
  (B_X12_frequency0_65 w e0 S)
  else
  (if 136 ≤ x1 then
  (B_X12_frequency0_65 w e0 S)
  else
  (B_X12_frequency0_66 w (387 + (9 * x1)) e0 S))
theorem yb_X12_frequency0_41 (cx : rd_Cx) (w : rd_W) (x1 : Int32) (e0 : Nat) (he0 : rd_ok w e0 12) (S : rd_S) : rd_Y cx G_X12_frequency0 (fun r => rd_P cx G_X12_frequency0.2.2.2.2.2 0 w (rd_rV w r)) (B_X12_frequency0_41 w x1 e0 S) 41 [(1, .inl x1)] [.inr (some e0)] w S 0 0 := by
  unfold B_X12_frequency0_41
  refine ry_iload_n dX12_frequency0_41 rfl ?_
  refine ry_bipush (v := 15) dX12_frequency0_42 (by decide) ?_
  refine ry_icmp_le 65 dX12_frequency0_44 (by decide) (fun c19 => ?_) (fun c19 => ?_)
  · exact ry_to (yb_X12_frequency0_65 cx w e0 he0 S) trivial
  · refine ry_iload_n dX12_frequency0_47 rfl ?_
    refine ry_sipush (v := 136) dX12_frequency0_48 (by decide) ?_
    refine ry_icmp_ge 65 dX12_frequency0_51 (by decide) (fun c21 => ?_) (fun c21 => ?_)
    · exact ry_to (yb_X12_frequency0_65 cx w e0 he0 S) trivial
    · refine ry_sipush (v := 387) dX12_frequency0_54 (by decide) ?_
      refine ry_bipush (v := 9) dX12_frequency0_57 (by decide) ?_
      refine ry_iload_n dX12_frequency0_59 rfl ?_
      refine ry_imul dX12_frequency0_60 ?_
      refine ry_iadd dX12_frequency0_61 ?_
      refine ry_goto 66 dX12_frequency0_62 (by decide) ?_
      exact ry_to (yb_X12_frequency0_66 cx w (387 + (9 * x1)) e0 he0 S) trivial
def F_X12_frequency0 (w : rd_W) (a0 : Nat) (x1 : Int32) (S : rd_S) : Option (rd_S) :=
  if (gI S a0 38) = 0 then
  (B_X12_frequency0_72 w a0 x1 S)
  else
  (if (gI S a0 39) = 0 then
  (B_X12_frequency0_72 w a0 x1 S)
  else
  (rd_let (pI S a0 39 0) fun s17 =>
  if x1 ≤ 0 then
  (B_X12_frequency0_41 w x1 a0 s17)
  else
  (if 16 ≤ x1 then
  (B_X12_frequency0_41 w x1 a0 s17)
  else
  (B_X12_frequency0_66 w (144 + (9 * x1)) a0 s17))))
theorem ym_X12_frequency0 (cx : rd_Cx) (w : rd_W) (a0 : Nat) (x1 : Int32) (ha0 : rd_ok w a0 12) (S : rd_S) : rd_Y cx G_X12_frequency0 (fun r => rd_P cx G_X12_frequency0.2.2.2.2.2 0 w (rd_rV w r)) (F_X12_frequency0 w a0 x1 S) 0 (rd_as 0 [.inr (some a0), .inl x1]) [] w S 0 0 := by
  unfold F_X12_frequency0
  refine ry_aload_n dX12_frequency0_0 rfl ?_
  refine ry_geti dX12_frequency0_1 ha0 fl_RX12_202 rfl ?_
  refine ry_if_eq 72 dX12_frequency0_4 (by decide) (fun c1 => ?_) (fun c1 => ?_)
  · exact ry_to (yb_X12_frequency0_72 cx w a0 x1 ha0 S) ⟨rfl, rfl, trivial⟩
  · refine ry_aload_n dX12_frequency0_7 rfl ?_
    refine ry_geti dX12_frequency0_8 ha0 fl_RX12_205 rfl ?_
    refine ry_if_eq 72 dX12_frequency0_11 (by decide) (fun c16 => ?_) (fun c16 => ?_)
    · exact ry_to (yb_X12_frequency0_72 cx w a0 x1 ha0 S) ⟨rfl, rfl, trivial⟩
    · refine ry_aload_n dX12_frequency0_14 rfl ?_
      refine ry_iconst (v := 0) dX12_frequency0_15 (by decide) ?_
      refine ry_putz dX12_frequency0_16 ha0 fl_RX12_205 rfl rfl rfl (by decide) ?_
      refine ry_letS (fun s17 => ?_)
      refine ry_aload_n dX12_frequency0_19 rfl ?_
      refine ry_iload_n dX12_frequency0_20 rfl ?_
      refine ry_if_le 41 dX12_frequency0_21 (by decide) (fun c18 => ?_) (fun c18 => ?_)
      · exact ry_to (yb_X12_frequency0_41 cx w x1 a0 ha0 s17) ⟨rfl, trivial⟩
      · refine ry_iload_n dX12_frequency0_24 rfl ?_
        refine ry_bipush (v := 16) dX12_frequency0_25 (by decide) ?_
        refine ry_icmp_ge 41 dX12_frequency0_27 (by decide) (fun c22 => ?_) (fun c22 => ?_)
        · exact ry_to (yb_X12_frequency0_41 cx w x1 a0 ha0 s17) ⟨rfl, trivial⟩
        · refine ry_sipush (v := 144) dX12_frequency0_30 (by decide) ?_
          refine ry_bipush (v := 9) dX12_frequency0_33 (by decide) ?_
          refine ry_iload_n dX12_frequency0_35 rfl ?_
          refine ry_imul dX12_frequency0_36 ?_
          refine ry_iadd dX12_frequency0_37 ?_
          refine ry_goto 66 dX12_frequency0_38 (by decide) ?_
          exact ry_to (yb_X12_frequency0_66 cx w (144 + (9 * x1)) a0 ha0 s17) trivial
theorem cm_X12_frequency0 (l : Launch) (cx : rd_Cx) (w : rd_W) (a0 : Nat) (x1 : Int32) (ha0 : rd_ok w a0 12) (S : rd_S) (r : rd_S) (h : F_X12_frequency0 w a0 x1 S = some r) : rd_M l cx yX12_frequency0 G_X12_frequency0 0 [.inr (some a0), .inl x1] w S (rd_rV w r) :=
  rd_enter (plainFor_of_name (by decide +kernel)) rfl (fun h => by cases h) (Nat.le_of_ble_eq_true rfl) (ym_X12_frequency0 cx w a0 x1 ha0 S r h)
abbrev G_X12_programmeItem : rd_G := (RX12, cX12_programmeItem, 3, none, false, { frames := 1, cells := 0, slots := 0, locals := 21 })
theorem yf_X12_programmeItem : rd_YL yX12_programmeItem G_X12_programmeItem 1 := ⟨rd_mem 954 (by decide +kernel) rfl, rd_mem 75 (by decide +kernel) rfl, by decide +kernel, by decide +kernel, by decide +kernel⟩
theorem mi_X12_programmeItem : Cond.instanceMethod yX12_programmeItem ∈ rd_gw := rd_mem 953 (by decide +kernel) rfl
theorem ms_X12_programmeItem : Cond.selects (MethodName.cls yX12_programmeItem) yX12_programmeItem yX12_programmeItem ∈ rd_gw := rd_mem 53 (by decide +kernel) rfl
theorem dX12_programmeItem_0 : decode cX12_programmeItem 0 = .ok (.aload_n 0, 1) := by decide +kernel
theorem dX12_programmeItem_1 : decode cX12_programmeItem 1 = .ok (.iconst 3, 1) := by decide +kernel
theorem dX12_programmeItem_2 : decode cX12_programmeItem 2 = .ok (.invokevirtual 114, 3) := by decide +kernel
theorem dX12_programmeItem_5 : decode cX12_programmeItem 5 = .ok (.ifCond .eq 16, 3) := by decide +kernel
theorem dX12_programmeItem_8 : decode cX12_programmeItem 8 = .ok (.aload_n 0, 1) := by decide +kernel
theorem dX12_programmeItem_9 : decode cX12_programmeItem 9 = .ok (.getfield 127, 3) := by decide +kernel
theorem dX12_programmeItem_12 : decode cX12_programmeItem 12 = .ok (.bipush 6, 2) := by decide +kernel
theorem dX12_programmeItem_14 : decode cX12_programmeItem 14 = .ok (.aload_n 0, 1) := by decide +kernel
theorem dX12_programmeItem_15 : decode cX12_programmeItem 15 = .ok (.getfield 77, 3) := by decide +kernel
theorem dX12_programmeItem_18 : decode cX12_programmeItem 18 = .ok (.iconst 3, 1) := by decide +kernel
theorem dX12_programmeItem_19 : decode cX12_programmeItem 19 = .ok (.iaload, 1) := by decide +kernel
theorem dX12_programmeItem_20 : decode cX12_programmeItem 20 = .ok (.iastore, 1) := by decide +kernel
theorem dX12_programmeItem_21 : decode cX12_programmeItem 21 = .ok (.iload_n 1, 1) := by decide +kernel
theorem dX12_programmeItem_22 : decode cX12_programmeItem 22 = .ok (.iconst 1, 1) := by decide +kernel
theorem dX12_programmeItem_23 : decode cX12_programmeItem 23 = .ok (.if_icmp .eq 11, 3) := by decide +kernel
theorem dX12_programmeItem_26 : decode cX12_programmeItem 26 = .ok (.aload_n 0, 1) := by decide +kernel
theorem dX12_programmeItem_27 : decode cX12_programmeItem 27 = .ok (.iconst 2, 1) := by decide +kernel
theorem dX12_programmeItem_28 : decode cX12_programmeItem 28 = .ok (.invokevirtual 114, 3) := by decide +kernel
theorem dX12_programmeItem_31 : decode cX12_programmeItem 31 = .ok (.ifCond .ne 4, 3) := by decide +kernel
theorem dX12_programmeItem_34 : decode cX12_programmeItem 34 = .ok (.return_, 1) := by decide +kernel
theorem dX12_programmeItem_35 : decode cX12_programmeItem 35 = .ok (.aload_n 0, 1) := by decide +kernel
theorem dX12_programmeItem_36 : decode cX12_programmeItem 36 = .ok (.getfield 77, 3) := by decide +kernel
theorem dX12_programmeItem_39 : decode cX12_programmeItem 39 = .ok (.iconst 2, 1) := by decide +kernel
theorem dX12_programmeItem_40 : decode cX12_programmeItem 40 = .ok (.iaload, 1) := by decide +kernel
theorem dX12_programmeItem_41 : decode cX12_programmeItem 41 = .ok (.bipush 12, 2) := by decide +kernel
theorem dX12_programmeItem_43 : decode cX12_programmeItem 43 = .ok (.ishr, 1) := by decide +kernel
theorem dX12_programmeItem_44 : decode cX12_programmeItem 44 = .ok (.bipush 7, 2) := by decide +kernel
theorem dX12_programmeItem_46 : decode cX12_programmeItem 46 = .ok (.iand, 1) := by decide +kernel
theorem dX12_programmeItem_47 : decode cX12_programmeItem 47 = .ok (.istore_n 2, 1) := by decide +kernel
theorem dX12_programmeItem_48 : decode cX12_programmeItem 48 = .ok (.iload_n 2, 1) := by decide +kernel
theorem dX12_programmeItem_49 : decode cX12_programmeItem 49 = .ok (.ifCond .ne 20, 3) := by decide +kernel
theorem dX12_programmeItem_52 : decode cX12_programmeItem 52 = .ok (.aload_n 0, 1) := by decide +kernel
theorem dX12_programmeItem_53 : decode cX12_programmeItem 53 = .ok (.getfield 127, 3) := by decide +kernel
theorem dX12_programmeItem_56 : decode cX12_programmeItem 56 = .ok (.bipush 7, 2) := by decide +kernel
theorem dX12_programmeItem_58 : decode cX12_programmeItem 58 = .ok (.aload_n 0, 1) := by decide +kernel
theorem dX12_programmeItem_59 : decode cX12_programmeItem 59 = .ok (.getfield 77, 3) := by decide +kernel
theorem dX12_programmeItem_62 : decode cX12_programmeItem 62 = .ok (.iconst 2, 1) := by decide +kernel
theorem dX12_programmeItem_63 : decode cX12_programmeItem 63 = .ok (.iaload, 1) := by decide +kernel
theorem dX12_programmeItem_64 : decode cX12_programmeItem 64 = .ok (.sipush 255, 3) := by decide +kernel
theorem dX12_programmeItem_67 : decode cX12_programmeItem 67 = .ok (.iand, 1) := by decide +kernel
theorem dX12_programmeItem_68 : decode cX12_programmeItem 68 = .ok (.iastore, 1) := by decide +kernel
theorem dX12_programmeItem_69 : decode cX12_programmeItem 69 = .ok (.iload_n 2, 1) := by decide +kernel
theorem dX12_programmeItem_70 : decode cX12_programmeItem 70 = .ok (.iconst 3, 1) := by decide +kernel
theorem dX12_programmeItem_71 : decode cX12_programmeItem 71 = .ok (.if_icmp .ne 20, 3) := by decide +kernel
theorem dX12_programmeItem_74 : decode cX12_programmeItem 74 = .ok (.aload_n 0, 1) := by decide +kernel
theorem dX12_programmeItem_75 : decode cX12_programmeItem 75 = .ok (.getfield 127, 3) := by decide +kernel
theorem dX12_programmeItem_78 : decode cX12_programmeItem 78 = .ok (.bipush 8, 2) := by decide +kernel
theorem dX12_programmeItem_80 : decode cX12_programmeItem 80 = .ok (.aload_n 0, 1) := by decide +kernel
theorem dX12_programmeItem_81 : decode cX12_programmeItem 81 = .ok (.getfield 77, 3) := by decide +kernel
theorem dX12_programmeItem_84 : decode cX12_programmeItem 84 = .ok (.iconst 2, 1) := by decide +kernel
theorem dX12_programmeItem_85 : decode cX12_programmeItem 85 = .ok (.iaload, 1) := by decide +kernel
theorem dX12_programmeItem_86 : decode cX12_programmeItem 86 = .ok (.sipush 255, 3) := by decide +kernel
theorem dX12_programmeItem_89 : decode cX12_programmeItem 89 = .ok (.iand, 1) := by decide +kernel
theorem dX12_programmeItem_90 : decode cX12_programmeItem 90 = .ok (.iastore, 1) := by decide +kernel
theorem dX12_programmeItem_91 : decode cX12_programmeItem 91 = .ok (.iload_n 2, 1) := by decide +kernel
theorem dX12_programmeItem_92 : decode cX12_programmeItem 92 = .ok (.bipush 7, 2) := by decide +kernel
theorem dX12_programmeItem_94 : decode cX12_programmeItem 94 = .ok (.if_icmp .ne 20, 3) := by decide +kernel
theorem dX12_programmeItem_97 : decode cX12_programmeItem 97 = .ok (.aload_n 0, 1) := by decide +kernel
theorem dX12_programmeItem_98 : decode cX12_programmeItem 98 = .ok (.getfield 127, 3) := by decide +kernel
theorem dX12_programmeItem_101 : decode cX12_programmeItem 101 = .ok (.bipush 9, 2) := by decide +kernel
theorem dX12_programmeItem_103 : decode cX12_programmeItem 103 = .ok (.aload_n 0, 1) := by decide +kernel
theorem dX12_programmeItem_104 : decode cX12_programmeItem 104 = .ok (.getfield 77, 3) := by decide +kernel
theorem dX12_programmeItem_107 : decode cX12_programmeItem 107 = .ok (.iconst 2, 1) := by decide +kernel
theorem dX12_programmeItem_108 : decode cX12_programmeItem 108 = .ok (.iaload, 1) := by decide +kernel
theorem dX12_programmeItem_109 : decode cX12_programmeItem 109 = .ok (.sipush 4095, 3) := by decide +kernel
theorem dX12_programmeItem_112 : decode cX12_programmeItem 112 = .ok (.iand, 1) := by decide +kernel
theorem dX12_programmeItem_113 : decode cX12_programmeItem 113 = .ok (.iastore, 1) := by decide +kernel
theorem dX12_programmeItem_114 : decode cX12_programmeItem 114 = .ok (.return_, 1) := by decide +kernel
def B_X12_programmeItem_34 (w : rd_W) (S : rd_S) : Option (rd_S) :=
  some S
theorem yb_X12_programmeItem_34 (cx : rd_Cx) (w : rd_W) (S : rd_S) : rd_Y cx G_X12_programmeItem (fun r => rd_P cx G_X12_programmeItem.2.2.2.2.2 0 w (rd_rV w r)) (B_X12_programmeItem_34 w S) 34 [] [] w S 0 0 := by
  unfold B_X12_programmeItem_34
  exact ry_vret dX12_programmeItem_34 rfl (Nat.le_of_ble_eq_true rfl) (Nat.le_of_ble_eq_true rfl)
def B_X12_programmeItem_114 (w : rd_W) (S : rd_S) : Option (rd_S) :=
  some S
theorem yb_X12_programmeItem_114 (cx : rd_Cx) (w : rd_W) (S : rd_S) : rd_Y cx G_X12_programmeItem (fun r => rd_P cx G_X12_programmeItem.2.2.2.2.2 0 w (rd_rV w r)) (B_X12_programmeItem_114 w S) 114 [] [] w S 0 0 := by
  unfold B_X12_programmeItem_114
  exact ry_vret dX12_programmeItem_114 rfl (Nat.le_of_ble_eq_true rfl) (Nat.le_of_ble_eq_true rfl)
def B_X12_programmeItem_91 (w : rd_W) (a0 : Nat) (x2 : Int32) (S : rd_S) : Option (rd_S) :=
  if x2 = 7 then
  (rd_c (gR S a0 25) fun b19 =>
  rd_c (gR S a0 18) fun b20 =>
  rd_i 2 (w.2.2 b20) <|
  rd_i 9 (w.2.2 b19) <|
  rd_let (pI S b19 (9 : Int32).toNatClampNeg ((gI S b20 (2 : Int32).toNatClampNeg) &&& 4095)) fun s21 =>
  B_X12_programmeItem_114 w s21)
  else
  (B_X12_programmeItem_114 w S)
theorem yb_X12_programmeItem_91 (cx : rd_Cx) (w : rd_W) (a0 : Nat) (x2 : Int32) (ha0 : rd_ok w a0 12) (S : rd_S) : rd_Y cx G_X12_programmeItem (fun r => rd_P cx G_X12_programmeItem.2.2.2.2.2 0 w (rd_rV w r)) (B_X12_programmeItem_91 w a0 x2 S) 91 [(0, .inr (some a0)), (2, .inl x2)] [] w S 0 0 := by
  unfold B_X12_programmeItem_91
  refine ry_iload_n dX12_programmeItem_91 rfl ?_
  refine ry_bipush (v := 7) dX12_programmeItem_92 (by decide) ?_
  refine ry_icmp_ne 114 dX12_programmeItem_94 (by decide) (fun c18 => ?_) (fun c18 => ?_)
  · refine ry_aload_n dX12_programmeItem_97 rfl ?_
    refine ry_getr dX12_programmeItem_98 ha0 fl_RX12_127 rfl (fun b19 hb19 => ?_)
    refine ry_bipush (v := 9) dX12_programmeItem_101 (by decide) ?_
    refine ry_aload_n dX12_programmeItem_103 rfl ?_
    refine ry_getr dX12_programmeItem_104 ha0 fl_RX12_77 rfl (fun b20 hb20 => ?_)
    refine ry_iconst (v := 2) dX12_programmeItem_107 (by decide) ?_
    refine ry_iald dX12_programmeItem_108 hb20 ?_
    refine ry_sipush (v := 4095) dX12_programmeItem_109 (by decide) ?_
    refine ry_iand dX12_programmeItem_112 ?_
    refine ry_iast dX12_programmeItem_113 hb19 ?_
    refine ry_letS (fun s21 => ?_)
    exact ry_to (yb_X12_programmeItem_114 cx w s21) trivial
  · exact ry_to (yb_X12_programmeItem_114 cx w S) trivial
def B_X12_programmeItem_69 (w : rd_W) (a0 : Nat) (x2 : Int32) (S : rd_S) : Option (rd_S) :=
  if x2 = 3 then
  (rd_c (gR S a0 25) fun b15 =>
  rd_c (gR S a0 18) fun b16 =>
  rd_i 2 (w.2.2 b16) <|
  rd_i 8 (w.2.2 b15) <|
  rd_let (pI S b15 (8 : Int32).toNatClampNeg ((gI S b16 (2 : Int32).toNatClampNeg) &&& 255)) fun s17 =>
  B_X12_programmeItem_91 w a0 x2 s17)
  else
  (B_X12_programmeItem_91 w a0 x2 S)
theorem yb_X12_programmeItem_69 (cx : rd_Cx) (w : rd_W) (a0 : Nat) (x2 : Int32) (ha0 : rd_ok w a0 12) (S : rd_S) : rd_Y cx G_X12_programmeItem (fun r => rd_P cx G_X12_programmeItem.2.2.2.2.2 0 w (rd_rV w r)) (B_X12_programmeItem_69 w a0 x2 S) 69 [(0, .inr (some a0)), (2, .inl x2)] [] w S 0 0 := by
  unfold B_X12_programmeItem_69
  refine ry_iload_n dX12_programmeItem_69 rfl ?_
  refine ry_iconst (v := 3) dX12_programmeItem_70 (by decide) ?_
  refine ry_icmp_ne 91 dX12_programmeItem_71 (by decide) (fun c14 => ?_) (fun c14 => ?_)
  · refine ry_aload_n dX12_programmeItem_74 rfl ?_
    refine ry_getr dX12_programmeItem_75 ha0 fl_RX12_127 rfl (fun b15 hb15 => ?_)
    refine ry_bipush (v := 8) dX12_programmeItem_78 (by decide) ?_
    refine ry_aload_n dX12_programmeItem_80 rfl ?_
    refine ry_getr dX12_programmeItem_81 ha0 fl_RX12_77 rfl (fun b16 hb16 => ?_)
    refine ry_iconst (v := 2) dX12_programmeItem_84 (by decide) ?_
    refine ry_iald dX12_programmeItem_85 hb16 ?_
    refine ry_sipush (v := 255) dX12_programmeItem_86 (by decide) ?_
    refine ry_iand dX12_programmeItem_89 ?_
    refine ry_iast dX12_programmeItem_90 hb15 ?_
    refine ry_letS (fun s17 => ?_)
    exact ry_to (yb_X12_programmeItem_91 cx w a0 x2 ha0 s17) ⟨rfl, rfl, trivial⟩
  · exact ry_to (yb_X12_programmeItem_91 cx w a0 x2 ha0 S) ⟨rfl, rfl, trivial⟩
def B_X12_programmeItem_21 (w : rd_W) (a0 : Nat) (x1 : Int32) (S : rd_S) : Option (rd_S) :=
  if x1 = 1 then
  (B_X12_programmeItem_34 w S)
  else
  (rd_b (F_X12_isKnown w a0 2 S) fun v6 s5 =>
  if v6 = 0 then
  (B_X12_programmeItem_34 w s5)
  else
  (rd_c (gR s5 a0 18) fun b8 =>
  rd_i 2 (w.2.2 b8) <|
  rd_let ((rd_shr (gI s5 b8 (2 : Int32).toNatClampNeg) 12) &&& 7) fun v9 =>
  if v9 = 0 then
  (rd_c (gR s5 a0 25) fun b11 =>
  rd_c (gR s5 a0 18) fun b12 =>
  rd_i 2 (w.2.2 b12) <|
  rd_i 7 (w.2.2 b11) <|
  rd_let (pI s5 b11 (7 : Int32).toNatClampNeg ((gI s5 b12 (2 : Int32).toNatClampNeg) &&& 255)) fun s13 =>
  B_X12_programmeItem_69 w a0 v9 s13)
  else
  (B_X12_programmeItem_69 w a0 v9 s5)))
theorem yb_X12_programmeItem_21 (cx : rd_Cx) (w : rd_W) (a0 : Nat) (x1 : Int32) (ha0 : rd_ok w a0 12) (S : rd_S) : rd_Y cx G_X12_programmeItem (fun r => rd_P cx G_X12_programmeItem.2.2.2.2.2 0 w (rd_rV w r)) (B_X12_programmeItem_21 w a0 x1 S) 21 [(0, .inr (some a0)), (1, .inl x1)] [] w S 0 0 := by
  unfold B_X12_programmeItem_21
  refine ry_iload_n dX12_programmeItem_21 rfl ?_
  refine ry_iconst (v := 1) dX12_programmeItem_22 (by decide) ?_
  refine ry_icmp_eq 34 dX12_programmeItem_23 (by decide) (fun c4 => ?_) (fun c4 => ?_)
  · exact ry_to (yb_X12_programmeItem_34 cx w S) trivial
  · refine ry_aload_n dX12_programmeItem_26 rfl ?_
    refine ry_iconst (v := 2) dX12_programmeItem_27 (by decide) ?_
    refine ry_callI (fun l r9 h9 => cm_X12_isKnown l cx w a0 2 ha0 S r9 h9) (rd_runV (vs := [.inl 2]) dX12_programmeItem_28 ha0 rfl rfl yf_X12_isKnown mi_X12_isKnown ms_X12_isKnown ml_RX12_114 ⟨Nat.le_of_ble_eq_true rfl, Nat.le_of_ble_eq_true rfl⟩ (Nat.le_of_ble_eq_true rfl) rfl) rfl rfl (Nat.le_of_ble_eq_true rfl) (Nat.le_of_ble_eq_true rfl) (fun v6 s5 => ?_)
    refine ry_if_ne 35 dX12_programmeItem_31 (by decide) (fun c7 => ?_) (fun c7 => ?_)
    · exact ry_to (yb_X12_programmeItem_34 cx w s5) trivial
    · refine ry_aload_n dX12_programmeItem_35 rfl ?_
      refine ry_getr dX12_programmeItem_36 ha0 fl_RX12_77 rfl (fun b8 hb8 => ?_)
      refine ry_iconst (v := 2) dX12_programmeItem_39 (by decide) ?_
      refine ry_iald dX12_programmeItem_40 hb8 ?_
      refine ry_bipush (v := 12) dX12_programmeItem_41 (by decide) ?_
      refine ry_ishr dX12_programmeItem_43 ?_
      refine ry_bipush (v := 7) dX12_programmeItem_44 (by decide) ?_
      refine ry_iand dX12_programmeItem_46 ?_
      refine ry_istore_n dX12_programmeItem_47 (by decide) ?_
      refine ry_let (fun v9 => ?_)
      refine ry_iload_n dX12_programmeItem_48 rfl ?_
      refine ry_if_ne 69 dX12_programmeItem_49 (by decide) (fun c10 => ?_) (fun c10 => ?_)
      · refine ry_aload_n dX12_programmeItem_52 rfl ?_
        refine ry_getr dX12_programmeItem_53 ha0 fl_RX12_127 rfl (fun b11 hb11 => ?_)
        refine ry_bipush (v := 7) dX12_programmeItem_56 (by decide) ?_
        refine ry_aload_n dX12_programmeItem_58 rfl ?_
        refine ry_getr dX12_programmeItem_59 ha0 fl_RX12_77 rfl (fun b12 hb12 => ?_)
        refine ry_iconst (v := 2) dX12_programmeItem_62 (by decide) ?_
        refine ry_iald dX12_programmeItem_63 hb12 ?_
        refine ry_sipush (v := 255) dX12_programmeItem_64 (by decide) ?_
        refine ry_iand dX12_programmeItem_67 ?_
        refine ry_iast dX12_programmeItem_68 hb11 ?_
        refine ry_letS (fun s13 => ?_)
        exact ry_to (yb_X12_programmeItem_69 cx w a0 v9 ha0 s13) ⟨rfl, rfl, trivial⟩
      · exact ry_to (yb_X12_programmeItem_69 cx w a0 v9 ha0 s5) ⟨rfl, rfl, trivial⟩
def F_X12_programmeItem (w : rd_W) (a0 : Nat) (x1 : Int32) (S : rd_S) : Option (rd_S) :=
  rd_b (F_X12_isKnown w a0 3 S) fun v2 s1 =>
  if v2 = 0 then
  (B_X12_programmeItem_21 w a0 x1 s1)
  else
  (rd_c (gR s1 a0 25) fun b22 =>
  rd_c (gR s1 a0 18) fun b23 =>
  rd_i 3 (w.2.2 b23) <|
  rd_i 6 (w.2.2 b22) <|
  rd_let (pI s1 b22 (6 : Int32).toNatClampNeg (gI s1 b23 (3 : Int32).toNatClampNeg)) fun s24 =>
  B_X12_programmeItem_21 w a0 x1 s24)
theorem ym_X12_programmeItem (cx : rd_Cx) (w : rd_W) (a0 : Nat) (x1 : Int32) (ha0 : rd_ok w a0 12) (S : rd_S) : rd_Y cx G_X12_programmeItem (fun r => rd_P cx G_X12_programmeItem.2.2.2.2.2 0 w (rd_rV w r)) (F_X12_programmeItem w a0 x1 S) 0 (rd_as 0 [.inr (some a0), .inl x1]) [] w S 0 0 := by
  unfold F_X12_programmeItem
  refine ry_aload_n dX12_programmeItem_0 rfl ?_
  refine ry_iconst (v := 3) dX12_programmeItem_1 (by decide) ?_
  refine ry_callI (fun l r9 h9 => cm_X12_isKnown l cx w a0 3 ha0 S r9 h9) (rd_runV (vs := [.inl 3]) dX12_programmeItem_2 ha0 rfl rfl yf_X12_isKnown mi_X12_isKnown ms_X12_isKnown ml_RX12_114 ⟨Nat.le_of_ble_eq_true rfl, Nat.le_of_ble_eq_true rfl⟩ (Nat.le_of_ble_eq_true rfl) rfl) rfl rfl (Nat.le_of_ble_eq_true rfl) (Nat.le_of_ble_eq_true rfl) (fun v2 s1 => ?_)
  refine ry_if_eq 21 dX12_programmeItem_5 (by decide) (fun c3 => ?_) (fun c3 => ?_)
  · exact ry_to (yb_X12_programmeItem_21 cx w a0 x1 ha0 s1) ⟨rfl, rfl, trivial⟩
  · refine ry_aload_n dX12_programmeItem_8 rfl ?_
    refine ry_getr dX12_programmeItem_9 ha0 fl_RX12_127 rfl (fun b22 hb22 => ?_)
    refine ry_bipush (v := 6) dX12_programmeItem_12 (by decide) ?_
    refine ry_aload_n dX12_programmeItem_14 rfl ?_
    refine ry_getr dX12_programmeItem_15 ha0 fl_RX12_77 rfl (fun b23 hb23 => ?_)
    refine ry_iconst (v := 3) dX12_programmeItem_18 (by decide) ?_
    refine ry_iald dX12_programmeItem_19 hb23 ?_
    refine ry_iast dX12_programmeItem_20 hb22 ?_
    refine ry_letS (fun s24 => ?_)
    exact ry_to (yb_X12_programmeItem_21 cx w a0 x1 ha0 s24) ⟨rfl, rfl, trivial⟩
theorem cm_X12_programmeItem (l : Launch) (cx : rd_Cx) (w : rd_W) (a0 : Nat) (x1 : Int32) (ha0 : rd_ok w a0 12) (S : rd_S) (r : rd_S) (h : F_X12_programmeItem w a0 x1 S = some r) : rd_M l cx yX12_programmeItem G_X12_programmeItem 0 [.inr (some a0), .inl x1] w S (rd_rV w r) :=
  rd_enter (plainFor_of_name (by decide +kernel)) rfl (fun h => by cases h) (Nat.le_of_ble_eq_true rfl) (ym_X12_programmeItem cx w a0 x1 ha0 S r h)
abbrev G_X12_text : rd_G := (RX12, cX12_text, 3, none, false, { frames := 2, cells := 0, slots := 0, locals := 54 })
theorem yf_X12_text : rd_YL yX12_text G_X12_text 1 := ⟨rd_mem 958 (by decide +kernel) rfl, rd_mem 75 (by decide +kernel) rfl, by decide +kernel, by decide +kernel, by decide +kernel⟩
theorem mi_X12_text : Cond.instanceMethod yX12_text ∈ rd_gw := rd_mem 957 (by decide +kernel) rfl
theorem ms_X12_text : Cond.selects (MethodName.cls yX12_text) yX12_text yX12_text ∈ rd_gw := rd_mem 54 (by decide +kernel) rfl
theorem dX12_text_0 : decode cX12_text 0 = .ok (.aload_n 0, 1) := by decide +kernel
theorem dX12_text_1 : decode cX12_text 1 = .ok (.iconst 3, 1) := by decide +kernel
theorem dX12_text_2 : decode cX12_text 2 = .ok (.invokevirtual 114, 3) := by decide +kernel
theorem dX12_text_5 : decode cX12_text 5 = .ok (.ifCond .eq 15, 3) := by decide +kernel
theorem dX12_text_8 : decode cX12_text 8 = .ok (.iload_n 1, 1) := by decide +kernel
theorem dX12_text_9 : decode cX12_text 9 = .ok (.ifCond .ne 12, 3) := by decide +kernel
theorem dX12_text_12 : decode cX12_text 12 = .ok (.aload_n 0, 1) := by decide +kernel
theorem dX12_text_13 : decode cX12_text 13 = .ok (.iconst 2, 1) := by decide +kernel
theorem dX12_text_14 : decode cX12_text 14 = .ok (.invokevirtual 114, 3) := by decide +kernel
theorem dX12_text_17 : decode cX12_text 17 = .ok (.ifCond .ne 4, 3) := by decide +kernel
theorem dX12_text_20 : decode cX12_text 20 = .ok (.return_, 1) := by decide +kernel
theorem dX12_text_21 : decode cX12_text 21 = .ok (.aload_n 0, 1) := by decide +kernel
theorem dX12_text_22 : decode cX12_text 22 = .ok (.getfield 77, 3) := by decide +kernel
theorem dX12_text_25 : decode cX12_text 25 = .ok (.iconst 1, 1) := by decide +kernel
theorem dX12_text_26 : decode cX12_text 26 = .ok (.iaload, 1) := by decide +kernel
theorem dX12_text_27 : decode cX12_text 27 = .ok (.iconst 4, 1) := by decide +kernel
theorem dX12_text_28 : decode cX12_text 28 = .ok (.ishr, 1) := by decide +kernel
theorem dX12_text_29 : decode cX12_text 29 = .ok (.iconst 1, 1) := by decide +kernel
theorem dX12_text_30 : decode cX12_text 30 = .ok (.iand, 1) := by decide +kernel
theorem dX12_text_31 : decode cX12_text 31 = .ok (.iconst 2, 1) := by decide +kernel
theorem dX12_text_32 : decode cX12_text 32 = .ok (.imul, 1) := by decide +kernel
theorem dX12_text_33 : decode cX12_text 33 = .ok (.iload_n 1, 1) := by decide +kernel
theorem dX12_text_34 : decode cX12_text 34 = .ok (.iadd, 1) := by decide +kernel
theorem dX12_text_35 : decode cX12_text 35 = .ok (.istore_n 2, 1) := by decide +kernel
theorem dX12_text_36 : decode cX12_text 36 = .ok (.aload_n 0, 1) := by decide +kernel
theorem dX12_text_37 : decode cX12_text 37 = .ok (.getfield 196, 3) := by decide +kernel
theorem dX12_text_40 : decode cX12_text 40 = .ok (.iconst (-1), 1) := by decide +kernel
theorem dX12_text_41 : decode cX12_text 41 = .ok (.if_icmp .eq 18, 3) := by decide +kernel
theorem dX12_text_44 : decode cX12_text 44 = .ok (.aload_n 0, 1) := by decide +kernel
theorem dX12_text_45 : decode cX12_text 45 = .ok (.getfield 196, 3) := by decide +kernel
theorem dX12_text_48 : decode cX12_text 48 = .ok (.iload_n 2, 1) := by decide +kernel
theorem dX12_text_49 : decode cX12_text 49 = .ok (.if_icmp .eq 10, 3) := by decide +kernel
theorem dX12_text_52 : decode cX12_text 52 = .ok (.aload_n 0, 1) := by decide +kernel
theorem dX12_text_53 : decode cX12_text 53 = .ok (.getfield 178, 3) := by decide +kernel
theorem dX12_text_56 : decode cX12_text 56 = .ok (.iconst 1, 1) := by decide +kernel
theorem dX12_text_57 : decode cX12_text 57 = .ok (.iconst 0, 1) := by decide +kernel
theorem dX12_text_58 : decode cX12_text 58 = .ok (.iastore, 1) := by decide +kernel
theorem dX12_text_59 : decode cX12_text 59 = .ok (.aload_n 0, 1) := by decide +kernel
theorem dX12_text_60 : decode cX12_text 60 = .ok (.iload_n 2, 1) := by decide +kernel
theorem dX12_text_61 : decode cX12_text 61 = .ok (.putfield 196, 3) := by decide +kernel
theorem dX12_text_64 : decode cX12_text 64 = .ok (.aload_n 0, 1) := by decide +kernel
theorem dX12_text_65 : decode cX12_text 65 = .ok (.iconst 1, 1) := by decide +kernel
theorem dX12_text_66 : decode cX12_text 66 = .ok (.aload_n 0, 1) := by decide +kernel
theorem dX12_text_67 : decode cX12_text 67 = .ok (.getfield 77, 3) := by decide +kernel
theorem dX12_text_70 : decode cX12_text 70 = .ok (.iconst 1, 1) := by decide +kernel
theorem dX12_text_71 : decode cX12_text 71 = .ok (.iaload, 1) := by decide +kernel
theorem dX12_text_72 : decode cX12_text 72 = .ok (.bipush 15, 2) := by decide +kernel
theorem dX12_text_74 : decode cX12_text 74 = .ok (.iand, 1) := by decide +kernel
theorem dX12_text_75 : decode cX12_text 75 = .ok (.aload_n 0, 1) := by decide +kernel
theorem dX12_text_76 : decode cX12_text 76 = .ok (.getfield 77, 3) := by decide +kernel
theorem dX12_text_79 : decode cX12_text 79 = .ok (.iconst 3, 1) := by decide +kernel
theorem dX12_text_80 : decode cX12_text 80 = .ok (.iaload, 1) := by decide +kernel
theorem dX12_text_81 : decode cX12_text 81 = .ok (.aload_n 0, 1) := by decide +kernel
theorem dX12_text_82 : decode cX12_text 82 = .ok (.getfield 77, 3) := by decide +kernel
theorem dX12_text_85 : decode cX12_text 85 = .ok (.iconst 2, 1) := by decide +kernel
theorem dX12_text_86 : decode cX12_text 86 = .ok (.iaload, 1) := by decide +kernel
theorem dX12_text_87 : decode cX12_text 87 = .ok (.iload_n 1, 1) := by decide +kernel
theorem dX12_text_88 : decode cX12_text 88 = .ok (.ifCond .ne 7, 3) := by decide +kernel
theorem dX12_text_91 : decode cX12_text 91 = .ok (.iconst 4, 1) := by decide +kernel
theorem dX12_text_92 : decode cX12_text 92 = .ok (.goto 4, 3) := by decide +kernel
theorem dX12_text_95 : decode cX12_text 95 = .ok (.iconst 2, 1) := by decide +kernel
theorem dX12_text_96 : decode cX12_text 96 = .ok (.invokevirtual 146, 3) := by decide +kernel
theorem dX12_text_99 : decode cX12_text 99 = .ok (.return_, 1) := by decide +kernel
def B_X12_text_20 (w : rd_W) (S : rd_S) : Option (rd_S) :=
  some S
theorem yb_X12_text_20 (cx : rd_Cx) (w : rd_W) (S : rd_S) : rd_Y cx G_X12_text (fun r => rd_P cx G_X12_text.2.2.2.2.2 0 w (rd_rV w r)) (B_X12_text_20 w S) 20 [] [] w S 0 0 := by
  unfold B_X12_text_20
  exact ry_vret dX12_text_20 rfl (Nat.le_of_ble_eq_true rfl) (Nat.le_of_ble_eq_true rfl)
def B_X12_text_96 (w : rd_W) (t0 : Int32) (t1 : Int32) (t2 : Int32) (t3 : Int32) (t4 : Int32) (e5 : Nat) (S : rd_S) : Option (rd_S) :=
  rd_c (F_X12_piece w e5 t4 t3 t2 t1 t0 S) fun s16 =>
  some s16
theorem yb_X12_text_96 (cx : rd_Cx) (w : rd_W) (t0 : Int32) (t1 : Int32) (t2 : Int32) (t3 : Int32) (t4 : Int32) (e5 : Nat) (he5 : rd_ok w e5 12) (S : rd_S) : rd_Y cx G_X12_text (fun r => rd_P cx G_X12_text.2.2.2.2.2 0 w (rd_rV w r)) (B_X12_text_96 w t0 t1 t2 t3 t4 e5 S) 96 [] [.inl t0, .inl t1, .inl t2, .inl t3, .inl t4, .inr (some e5)] w S 0 0 := by
  unfold B_X12_text_96
  refine ry_callv (fun l r9 h9 => cm_X12_piece l cx w e5 t4 t3 t2 t1 t0 he5 S r9 h9) (rd_runV (vs := [.inl t4, .inl t3, .inl t2, .inl t1, .inl t0]) dX12_text_96 he5 rfl rfl yf_X12_piece mi_X12_piece ms_X12_piece ml_RX12_146 ⟨Nat.le_of_ble_eq_true rfl, Nat.le_of_ble_eq_true rfl⟩ (Nat.le_of_ble_eq_true rfl) rfl) rfl rfl (Nat.le_of_ble_eq_true rfl) (Nat.le_of_ble_eq_true rfl) (fun s16 => ?_)
  exact ry_vret dX12_text_99 rfl (Nat.le_of_ble_eq_true rfl) (Nat.le_of_ble_eq_true rfl)
def B_X12_text_59 (w : rd_W) (a0 : Nat) (x1 : Int32) (x2 : Int32) (S : rd_S) : Option (rd_S) :=
  rd_let (pI S a0 31 x2) fun s11 =>
  rd_c (gR s11 a0 18) fun b12 =>
  rd_i 1 (w.2.2 b12) <|
  rd_c (gR s11 a0 18) fun b13 =>
  rd_i 3 (w.2.2 b13) <|
  rd_c (gR s11 a0 18) fun b14 =>
  rd_i 2 (w.2.2 b14) <|
  if x1 = 0 then
  (B_X12_text_96 w 4 (gI s11 b14 (2 : Int32).toNatClampNeg) (gI s11 b13 (3 : Int32).toNatClampNeg) ((gI s11 b12 (1 : Int32).toNatClampNeg) &&& 15) 1 a0 s11)
  else
  (B_X12_text_96 w 2 (gI s11 b14 (2 : Int32).toNatClampNeg) (gI s11 b13 (3 : Int32).toNatClampNeg) ((gI s11 b12 (1 : Int32).toNatClampNeg) &&& 15) 1 a0 s11)
theorem yb_X12_text_59 (cx : rd_Cx) (w : rd_W) (a0 : Nat) (x1 : Int32) (x2 : Int32) (ha0 : rd_ok w a0 12) (S : rd_S) : rd_Y cx G_X12_text (fun r => rd_P cx G_X12_text.2.2.2.2.2 0 w (rd_rV w r)) (B_X12_text_59 w a0 x1 x2 S) 59 [(0, .inr (some a0)), (1, .inl x1), (2, .inl x2)] [] w S 0 0 := by
  unfold B_X12_text_59
  refine ry_aload_n dX12_text_59 rfl ?_
  refine ry_iload_n dX12_text_60 rfl ?_
  refine ry_puti dX12_text_61 ha0 fl_RX12_196 rfl rfl rfl ?_
  refine ry_letS (fun s11 => ?_)
  refine ry_aload_n dX12_text_64 rfl ?_
  refine ry_iconst (v := 1) dX12_text_65 (by decide) ?_
  refine ry_aload_n dX12_text_66 rfl ?_
  refine ry_getr dX12_text_67 ha0 fl_RX12_77 rfl (fun b12 hb12 => ?_)
  refine ry_iconst (v := 1) dX12_text_70 (by decide) ?_
  refine ry_iald dX12_text_71 hb12 ?_
  refine ry_bipush (v := 15) dX12_text_72 (by decide) ?_
  refine ry_iand dX12_text_74 ?_
  refine ry_aload_n dX12_text_75 rfl ?_
  refine ry_getr dX12_text_76 ha0 fl_RX12_77 rfl (fun b13 hb13 => ?_)
  refine ry_iconst (v := 3) dX12_text_79 (by decide) ?_
  refine ry_iald dX12_text_80 hb13 ?_
  refine ry_aload_n dX12_text_81 rfl ?_
  refine ry_getr dX12_text_82 ha0 fl_RX12_77 rfl (fun b14 hb14 => ?_)
  refine ry_iconst (v := 2) dX12_text_85 (by decide) ?_
  refine ry_iald dX12_text_86 hb14 ?_
  refine ry_iload_n dX12_text_87 rfl ?_
  refine ry_if_ne 95 dX12_text_88 (by decide) (fun c15 => ?_) (fun c15 => ?_)
  · refine ry_iconst (v := 4) dX12_text_91 (by decide) ?_
    refine ry_goto 96 dX12_text_92 (by decide) ?_
    exact ry_to (yb_X12_text_96 cx w 4 (gI s11 b14 (2 : Int32).toNatClampNeg) (gI s11 b13 (3 : Int32).toNatClampNeg) ((gI s11 b12 (1 : Int32).toNatClampNeg) &&& 15) 1 a0 ha0 s11) trivial
  · refine ry_iconst (v := 2) dX12_text_95 (by decide) ?_
    exact ry_to (yb_X12_text_96 cx w 2 (gI s11 b14 (2 : Int32).toNatClampNeg) (gI s11 b13 (3 : Int32).toNatClampNeg) ((gI s11 b12 (1 : Int32).toNatClampNeg) &&& 15) 1 a0 ha0 s11) trivial
def B_X12_text_21 (w : rd_W) (a0 : Nat) (x1 : Int32) (S : rd_S) : Option (rd_S) :=
  rd_c (gR S a0 18) fun b8 =>
  rd_i 1 (w.2.2 b8) <|
  rd_let ((((rd_shr (gI S b8 (1 : Int32).toNatClampNeg) 4) &&& 1) * 2) + x1) fun v9 =>
  if (gI S a0 31) = (-1) then
  (B_X12_text_59 w a0 x1 v9 S)
  else
  (if (gI S a0 31) = v9 then
  (B_X12_text_59 w a0 x1 v9 S)
  else
  (rd_c (gR S a0 28) fun b18 =>
  rd_i 1 (w.2.2 b18) <|
  rd_let (pI S b18 (1 : Int32).toNatClampNeg 0) fun s19 =>
  B_X12_text_59 w a0 x1 v9 s19))
theorem yb_X12_text_21 (cx : rd_Cx) (w : rd_W) (a0 : Nat) (x1 : Int32) (ha0 : rd_ok w a0 12) (S : rd_S) : rd_Y cx G_X12_text (fun r => rd_P cx G_X12_text.2.2.2.2.2 0 w (rd_rV w r)) (B_X12_text_21 w a0 x1 S) 21 [(0, .inr (some a0)), (1, .inl x1)] [] w S 0 0 := by
  unfold B_X12_text_21
  refine ry_aload_n dX12_text_21 rfl ?_
  refine ry_getr dX12_text_22 ha0 fl_RX12_77 rfl (fun b8 hb8 => ?_)
  refine ry_iconst (v := 1) dX12_text_25 (by decide) ?_
  refine ry_iald dX12_text_26 hb8 ?_
  refine ry_iconst (v := 4) dX12_text_27 (by decide) ?_
  refine ry_ishr dX12_text_28 ?_
  refine ry_iconst (v := 1) dX12_text_29 (by decide) ?_
  refine ry_iand dX12_text_30 ?_
  refine ry_iconst (v := 2) dX12_text_31 (by decide) ?_
  refine ry_imul dX12_text_32 ?_
  refine ry_iload_n dX12_text_33 rfl ?_
  refine ry_iadd dX12_text_34 ?_
  refine ry_istore_n dX12_text_35 (by decide) ?_
  refine ry_let (fun v9 => ?_)
  refine ry_aload_n dX12_text_36 rfl ?_
  refine ry_geti dX12_text_37 ha0 fl_RX12_196 rfl ?_
  refine ry_iconst (v := (-1)) dX12_text_40 (by decide) ?_
  refine ry_icmp_eq 59 dX12_text_41 (by decide) (fun c10 => ?_) (fun c10 => ?_)
  · exact ry_to (yb_X12_text_59 cx w a0 x1 v9 ha0 S) ⟨rfl, rfl, rfl, trivial⟩
  · refine ry_aload_n dX12_text_44 rfl ?_
    refine ry_geti dX12_text_45 ha0 fl_RX12_196 rfl ?_
    refine ry_iload_n dX12_text_48 rfl ?_
    refine ry_icmp_eq 59 dX12_text_49 (by decide) (fun c17 => ?_) (fun c17 => ?_)
    · exact ry_to (yb_X12_text_59 cx w a0 x1 v9 ha0 S) ⟨rfl, rfl, rfl, trivial⟩
    · refine ry_aload_n dX12_text_52 rfl ?_
      refine ry_getr dX12_text_53 ha0 fl_RX12_178 rfl (fun b18 hb18 => ?_)
      refine ry_iconst (v := 1) dX12_text_56 (by decide) ?_
      refine ry_iconst (v := 0) dX12_text_57 (by decide) ?_
      refine ry_iast dX12_text_58 hb18 ?_
      refine ry_letS (fun s19 => ?_)
      exact ry_to (yb_X12_text_59 cx w a0 x1 v9 ha0 s19) ⟨rfl, rfl, rfl, trivial⟩
def F_X12_text (w : rd_W) (a0 : Nat) (x1 : Int32) (S : rd_S) : Option (rd_S) :=
  rd_b (F_X12_isKnown w a0 3 S) fun v2 s1 =>
  if v2 = 0 then
  (B_X12_text_20 w s1)
  else
  (if x1 = 0 then
  (rd_b (F_X12_isKnown w a0 2 s1) fun v6 s5 =>
  if v6 = 0 then
  (B_X12_text_20 w s5)
  else
  (B_X12_text_21 w a0 x1 s5))
  else
  (B_X12_text_21 w a0 x1 s1))
theorem ym_X12_text (cx : rd_Cx) (w : rd_W) (a0 : Nat) (x1 : Int32) (ha0 : rd_ok w a0 12) (S : rd_S) : rd_Y cx G_X12_text (fun r => rd_P cx G_X12_text.2.2.2.2.2 0 w (rd_rV w r)) (F_X12_text w a0 x1 S) 0 (rd_as 0 [.inr (some a0), .inl x1]) [] w S 0 0 := by
  unfold F_X12_text
  refine ry_aload_n dX12_text_0 rfl ?_
  refine ry_iconst (v := 3) dX12_text_1 (by decide) ?_
  refine ry_callI (fun l r9 h9 => cm_X12_isKnown l cx w a0 3 ha0 S r9 h9) (rd_runV (vs := [.inl 3]) dX12_text_2 ha0 rfl rfl yf_X12_isKnown mi_X12_isKnown ms_X12_isKnown ml_RX12_114 ⟨Nat.le_of_ble_eq_true rfl, Nat.le_of_ble_eq_true rfl⟩ (Nat.le_of_ble_eq_true rfl) rfl) rfl rfl (Nat.le_of_ble_eq_true rfl) (Nat.le_of_ble_eq_true rfl) (fun v2 s1 => ?_)
  refine ry_if_eq 20 dX12_text_5 (by decide) (fun c3 => ?_) (fun c3 => ?_)
  · exact ry_to (yb_X12_text_20 cx w s1) trivial
  · refine ry_iload_n dX12_text_8 rfl ?_
    refine ry_if_ne 21 dX12_text_9 (by decide) (fun c4 => ?_) (fun c4 => ?_)
    · refine ry_aload_n dX12_text_12 rfl ?_
      refine ry_iconst (v := 2) dX12_text_13 (by decide) ?_
      refine ry_callI (fun l r9 h9 => cm_X12_isKnown l cx w a0 2 ha0 s1 r9 h9) (rd_runV (vs := [.inl 2]) dX12_text_14 ha0 rfl rfl yf_X12_isKnown mi_X12_isKnown ms_X12_isKnown ml_RX12_114 ⟨Nat.le_of_ble_eq_true rfl, Nat.le_of_ble_eq_true rfl⟩ (Nat.le_of_ble_eq_true rfl) rfl) rfl rfl (Nat.le_of_ble_eq_true rfl) (Nat.le_of_ble_eq_true rfl) (fun v6 s5 => ?_)
      refine ry_if_ne 21 dX12_text_17 (by decide) (fun c7 => ?_) (fun c7 => ?_)
      · exact ry_to (yb_X12_text_20 cx w s5) trivial
      · exact ry_to (yb_X12_text_21 cx w a0 x1 ha0 s5) ⟨rfl, rfl, trivial⟩
    · exact ry_to (yb_X12_text_21 cx w a0 x1 ha0 s1) ⟨rfl, rfl, trivial⟩
theorem cm_X12_text (l : Launch) (cx : rd_Cx) (w : rd_W) (a0 : Nat) (x1 : Int32) (ha0 : rd_ok w a0 12) (S : rd_S) (r : rd_S) (h : F_X12_text w a0 x1 S = some r) : rd_M l cx yX12_text G_X12_text 0 [.inr (some a0), .inl x1] w S (rd_rV w r) :=
  rd_enter (plainFor_of_name (by decide +kernel)) rfl (fun h => by cases h) (Nat.le_of_ble_eq_true rfl) (ym_X12_text cx w a0 x1 ha0 S r h)
abbrev G_X12_application : rd_G := (RX12, cX12_application, 3, none, false, { frames := 0, cells := 0, slots := 0, locals := 0 })
theorem yf_X12_application : rd_YL yX12_application G_X12_application 0 := ⟨rd_mem 962 (by decide +kernel) rfl, rd_mem 75 (by decide +kernel) rfl, by decide +kernel, by decide +kernel, by decide +kernel⟩
theorem mi_X12_application : Cond.instanceMethod yX12_application ∈ rd_gw := rd_mem 961 (by decide +kernel) rfl
theorem ms_X12_application : Cond.selects (MethodName.cls yX12_application) yX12_application yX12_application ∈ rd_gw := rd_mem 55 (by decide +kernel) rfl
theorem dX12_application_0 : decode cX12_application 0 = .ok (.iconst 0, 1) := by decide +kernel
theorem dX12_application_1 : decode cX12_application 1 = .ok (.istore_n 1, 1) := by decide +kernel
theorem dX12_application_2 : decode cX12_application 2 = .ok (.iload_n 1, 1) := by decide +kernel
theorem dX12_application_3 : decode cX12_application 3 = .ok (.aload_n 0, 1) := by decide +kernel
theorem dX12_application_4 : decode cX12_application 4 = .ok (.getfield 230, 3) := by decide +kernel
theorem dX12_application_7 : decode cX12_application 7 = .ok (.if_icmp .ge 24, 3) := by decide +kernel
theorem dX12_application_10 : decode cX12_application 10 = .ok (.aload_n 0, 1) := by decide +kernel
theorem dX12_application_11 : decode cX12_application 11 = .ok (.getfield 233, 3) := by decide +kernel
theorem dX12_application_14 : decode cX12_application 14 = .ok (.iload_n 1, 1) := by decide +kernel
theorem dX12_application_15 : decode cX12_application 15 = .ok (.iaload, 1) := by decide +kernel
theorem dX12_application_16 : decode cX12_application 16 = .ok (.aload_n 0, 1) := by decide +kernel
theorem dX12_application_17 : decode cX12_application 17 = .ok (.getfield 77, 3) := by decide +kernel
theorem dX12_application_20 : decode cX12_application 20 = .ok (.iconst 3, 1) := by decide +kernel
theorem dX12_application_21 : decode cX12_application 21 = .ok (.iaload, 1) := by decide +kernel
theorem dX12_application_22 : decode cX12_application 22 = .ok (.if_icmp .eq 9, 3) := by decide +kernel
theorem dX12_application_25 : decode cX12_application 25 = .ok (.iinc 1 1, 3) := by decide +kernel
theorem dX12_application_28 : decode cX12_application 28 = .ok (.goto (-26), 3) := by decide +kernel
theorem dX12_application_31 : decode cX12_application 31 = .ok (.iload_n 1, 1) := by decide +kernel
theorem dX12_application_32 : decode cX12_application 32 = .ok (.bipush 8, 2) := by decide +kernel
theorem dX12_application_34 : decode cX12_application 34 = .ok (.if_icmp .ne 68, 3) := by decide +kernel
theorem dX12_application_37 : decode cX12_application 37 = .ok (.iconst 0, 1) := by decide +kernel
theorem dX12_application_38 : decode cX12_application 38 = .ok (.istore_n 2, 1) := by decide +kernel
theorem dX12_application_39 : decode cX12_application 39 = .ok (.iload_n 2, 1) := by decide +kernel
theorem dX12_application_40 : decode cX12_application 40 = .ok (.bipush 7, 2) := by decide +kernel
theorem dX12_application_42 : decode cX12_application 42 = .ok (.if_icmp .ge 51, 3) := by decide +kernel
theorem dX12_application_45 : decode cX12_application 45 = .ok (.aload_n 0, 1) := by decide +kernel
theorem dX12_application_46 : decode cX12_application 46 = .ok (.getfield 233, 3) := by decide +kernel
theorem dX12_application_49 : decode cX12_application 49 = .ok (.iload_n 2, 1) := by decide +kernel
theorem dX12_application_50 : decode cX12_application 50 = .ok (.aload_n 0, 1) := by decide +kernel
theorem dX12_application_51 : decode cX12_application 51 = .ok (.getfield 233, 3) := by decide +kernel
theorem dX12_application_54 : decode cX12_application 54 = .ok (.iload_n 2, 1) := by decide +kernel
theorem dX12_application_55 : decode cX12_application 55 = .ok (.iconst 1, 1) := by decide +kernel
theorem dX12_application_56 : decode cX12_application 56 = .ok (.iadd, 1) := by decide +kernel
theorem dX12_application_57 : decode cX12_application 57 = .ok (.iaload, 1) := by decide +kernel
theorem dX12_application_58 : decode cX12_application 58 = .ok (.iastore, 1) := by decide +kernel
theorem dX12_application_59 : decode cX12_application 59 = .ok (.aload_n 0, 1) := by decide +kernel
theorem dX12_application_60 : decode cX12_application 60 = .ok (.getfield 236, 3) := by decide +kernel
theorem dX12_application_63 : decode cX12_application 63 = .ok (.iload_n 2, 1) := by decide +kernel
theorem dX12_application_64 : decode cX12_application 64 = .ok (.aload_n 0, 1) := by decide +kernel
theorem dX12_application_65 : decode cX12_application 65 = .ok (.getfield 236, 3) := by decide +kernel
theorem dX12_application_68 : decode cX12_application 68 = .ok (.iload_n 2, 1) := by decide +kernel
theorem dX12_application_69 : decode cX12_application 69 = .ok (.iconst 1, 1) := by decide +kernel
theorem dX12_application_70 : decode cX12_application 70 = .ok (.iadd, 1) := by decide +kernel
theorem dX12_application_71 : decode cX12_application 71 = .ok (.iaload, 1) := by decide +kernel
theorem dX12_application_72 : decode cX12_application 72 = .ok (.iastore, 1) := by decide +kernel
theorem dX12_application_73 : decode cX12_application 73 = .ok (.aload_n 0, 1) := by decide +kernel
theorem dX12_application_74 : decode cX12_application 74 = .ok (.getfield 239, 3) := by decide +kernel
theorem dX12_application_77 : decode cX12_application 77 = .ok (.iload_n 2, 1) := by decide +kernel
theorem dX12_application_78 : decode cX12_application 78 = .ok (.aload_n 0, 1) := by decide +kernel
theorem dX12_application_79 : decode cX12_application 79 = .ok (.getfield 239, 3) := by decide +kernel
theorem dX12_application_82 : decode cX12_application 82 = .ok (.iload_n 2, 1) := by decide +kernel
theorem dX12_application_83 : decode cX12_application 83 = .ok (.iconst 1, 1) := by decide +kernel
theorem dX12_application_84 : decode cX12_application 84 = .ok (.iadd, 1) := by decide +kernel
theorem dX12_application_85 : decode cX12_application 85 = .ok (.iaload, 1) := by decide +kernel
theorem dX12_application_86 : decode cX12_application 86 = .ok (.iastore, 1) := by decide +kernel
theorem dX12_application_87 : decode cX12_application 87 = .ok (.iinc 2 1, 3) := by decide +kernel
theorem dX12_application_90 : decode cX12_application 90 = .ok (.goto (-51), 3) := by decide +kernel
theorem dX12_application_93 : decode cX12_application 93 = .ok (.bipush 7, 2) := by decide +kernel
theorem dX12_application_95 : decode cX12_application 95 = .ok (.istore_n 1, 1) := by decide +kernel
theorem dX12_application_96 : decode cX12_application 96 = .ok (.aload_n 0, 1) := by decide +kernel
theorem dX12_application_97 : decode cX12_application 97 = .ok (.bipush 7, 2) := by decide +kernel
theorem dX12_application_99 : decode cX12_application 99 = .ok (.putfield 230, 3) := by decide +kernel
theorem dX12_application_102 : decode cX12_application 102 = .ok (.iload_n 1, 1) := by decide +kernel
theorem dX12_application_103 : decode cX12_application 103 = .ok (.aload_n 0, 1) := by decide +kernel
theorem dX12_application_104 : decode cX12_application 104 = .ok (.getfield 230, 3) := by decide +kernel
theorem dX12_application_107 : decode cX12_application 107 = .ok (.if_icmp .ne 13, 3) := by decide +kernel
theorem dX12_application_110 : decode cX12_application 110 = .ok (.aload_n 0, 1) := by decide +kernel
theorem dX12_application_111 : decode cX12_application 111 = .ok (.dup, 1) := by decide +kernel
theorem dX12_application_112 : decode cX12_application 112 = .ok (.getfield 230, 3) := by decide +kernel
theorem dX12_application_115 : decode cX12_application 115 = .ok (.iconst 1, 1) := by decide +kernel
theorem dX12_application_116 : decode cX12_application 116 = .ok (.iadd, 1) := by decide +kernel
theorem dX12_application_117 : decode cX12_application 117 = .ok (.putfield 230, 3) := by decide +kernel
theorem dX12_application_120 : decode cX12_application 120 = .ok (.aload_n 0, 1) := by decide +kernel
theorem dX12_application_121 : decode cX12_application 121 = .ok (.getfield 233, 3) := by decide +kernel
theorem dX12_application_124 : decode cX12_application 124 = .ok (.iload_n 1, 1) := by decide +kernel
theorem dX12_application_125 : decode cX12_application 125 = .ok (.aload_n 0, 1) := by decide +kernel
theorem dX12_application_126 : decode cX12_application 126 = .ok (.getfield 77, 3) := by decide +kernel
theorem dX12_application_129 : decode cX12_application 129 = .ok (.iconst 3, 1) := by decide +kernel
theorem dX12_application_130 : decode cX12_application 130 = .ok (.iaload, 1) := by decide +kernel
theorem dX12_application_131 : decode cX12_application 131 = .ok (.iastore, 1) := by decide +kernel
theorem dX12_application_132 : decode cX12_application 132 = .ok (.aload_n 0, 1) := by decide +kernel
theorem dX12_application_133 : decode cX12_application 133 = .ok (.getfield 236, 3) := by decide +kernel
theorem dX12_application_136 : decode cX12_application 136 = .ok (.iload_n 1, 1) := by decide +kernel
theorem dX12_application_137 : decode cX12_application 137 = .ok (.aload_n 0, 1) := by decide +kernel
theorem dX12_application_138 : decode cX12_application 138 = .ok (.getfield 77, 3) := by decide +kernel
theorem dX12_application_141 : decode cX12_application 141 = .ok (.iconst 1, 1) := by decide +kernel
theorem dX12_application_142 : decode cX12_application 142 = .ok (.iaload, 1) := by decide +kernel
theorem dX12_application_143 : decode cX12_application 143 = .ok (.bipush 31, 2) := by decide +kernel
theorem dX12_application_145 : decode cX12_application 145 = .ok (.iand, 1) := by decide +kernel
theorem dX12_application_146 : decode cX12_application 146 = .ok (.iastore, 1) := by decide +kernel
theorem dX12_application_147 : decode cX12_application 147 = .ok (.aload_n 0, 1) := by decide +kernel
theorem dX12_application_148 : decode cX12_application 148 = .ok (.getfield 239, 3) := by decide +kernel
theorem dX12_application_151 : decode cX12_application 151 = .ok (.iload_n 1, 1) := by decide +kernel
theorem dX12_application_152 : decode cX12_application 152 = .ok (.aload_n 0, 1) := by decide +kernel
theorem dX12_application_153 : decode cX12_application 153 = .ok (.getfield 77, 3) := by decide +kernel
theorem dX12_application_156 : decode cX12_application 156 = .ok (.iconst 2, 1) := by decide +kernel
theorem dX12_application_157 : decode cX12_application 157 = .ok (.iaload, 1) := by decide +kernel
theorem dX12_application_158 : decode cX12_application 158 = .ok (.iastore, 1) := by decide +kernel
theorem dX12_application_159 : decode cX12_application 159 = .ok (.return_, 1) := by decide +kernel
def B_X12_application_120 (w : rd_W) (a0 : Nat) (x1 : Int32) (S : rd_S) : Option (rd_S) :=
  rd_c (gR S a0 40) fun b7 =>
  rd_c (gR S a0 18) fun b8 =>
  rd_i 3 (w.2.2 b8) <|
  rd_i x1 (w.2.2 b7) <|
  rd_let (pI S b7 x1.toNatClampNeg (gI S b8 (3 : Int32).toNatClampNeg)) fun s9 =>
  rd_c (gR s9 a0 41) fun b10 =>
  rd_c (gR s9 a0 18) fun b11 =>
  rd_i 1 (w.2.2 b11) <|
  rd_i x1 (w.2.2 b10) <|
  rd_let (pI s9 b10 x1.toNatClampNeg ((gI s9 b11 (1 : Int32).toNatClampNeg) &&& 31)) fun s12 =>
  rd_c (gR s12 a0 42) fun b13 =>
  rd_c (gR s12 a0 18) fun b14 =>
  rd_i 2 (w.2.2 b14) <|
  rd_i x1 (w.2.2 b13) <|
  rd_let (pI s12 b13 x1.toNatClampNeg (gI s12 b14 (2 : Int32).toNatClampNeg)) fun s15 =>
  some s15
theorem yb_X12_application_120 (cx : rd_Cx) (w : rd_W) (a0 : Nat) (x1 : Int32) (ha0 : rd_ok w a0 12) (S : rd_S) : rd_Y cx G_X12_application (fun r => rd_P cx G_X12_application.2.2.2.2.2 0 w (rd_rV w r)) (B_X12_application_120 w a0 x1 S) 120 [(0, .inr (some a0)), (1, .inl x1)] [] w S 0 0 := by
  unfold B_X12_application_120
  refine ry_aload_n dX12_application_120 rfl ?_
  refine ry_getr dX12_application_121 ha0 fl_RX12_233 rfl (fun b7 hb7 => ?_)
  refine ry_iload_n dX12_application_124 rfl ?_
  refine ry_aload_n dX12_application_125 rfl ?_
  refine ry_getr dX12_application_126 ha0 fl_RX12_77 rfl (fun b8 hb8 => ?_)
  refine ry_iconst (v := 3) dX12_application_129 (by decide) ?_
  refine ry_iald dX12_application_130 hb8 ?_
  refine ry_iast dX12_application_131 hb7 ?_
  refine ry_letS (fun s9 => ?_)
  refine ry_aload_n dX12_application_132 rfl ?_
  refine ry_getr dX12_application_133 ha0 fl_RX12_236 rfl (fun b10 hb10 => ?_)
  refine ry_iload_n dX12_application_136 rfl ?_
  refine ry_aload_n dX12_application_137 rfl ?_
  refine ry_getr dX12_application_138 ha0 fl_RX12_77 rfl (fun b11 hb11 => ?_)
  refine ry_iconst (v := 1) dX12_application_141 (by decide) ?_
  refine ry_iald dX12_application_142 hb11 ?_
  refine ry_bipush (v := 31) dX12_application_143 (by decide) ?_
  refine ry_iand dX12_application_145 ?_
  refine ry_iast dX12_application_146 hb10 ?_
  refine ry_letS (fun s12 => ?_)
  refine ry_aload_n dX12_application_147 rfl ?_
  refine ry_getr dX12_application_148 ha0 fl_RX12_239 rfl (fun b13 hb13 => ?_)
  refine ry_iload_n dX12_application_151 rfl ?_
  refine ry_aload_n dX12_application_152 rfl ?_
  refine ry_getr dX12_application_153 ha0 fl_RX12_77 rfl (fun b14 hb14 => ?_)
  refine ry_iconst (v := 2) dX12_application_156 (by decide) ?_
  refine ry_iald dX12_application_157 hb14 ?_
  refine ry_iast dX12_application_158 hb13 ?_
  refine ry_letS (fun s15 => ?_)
  exact ry_vret dX12_application_159 rfl (Nat.le_of_ble_eq_true rfl) (Nat.le_of_ble_eq_true rfl)
def B_X12_application_102 (w : rd_W) (a0 : Nat) (x1 : Int32) (S : rd_S) : Option (rd_S) :=
  if x1 = (gI S a0 43) then
  (rd_let (pI S a0 43 ((gI S a0 43) + 1)) fun s6 =>
  B_X12_application_120 w a0 x1 s6)
  else
  (B_X12_application_120 w a0 x1 S)
theorem yb_X12_application_102 (cx : rd_Cx) (w : rd_W) (a0 : Nat) (x1 : Int32) (ha0 : rd_ok w a0 12) (S : rd_S) : rd_Y cx G_X12_application (fun r => rd_P cx G_X12_application.2.2.2.2.2 0 w (rd_rV w r)) (B_X12_application_102 w a0 x1 S) 102 [(0, .inr (some a0)), (1, .inl x1)] [] w S 0 0 := by
  unfold B_X12_application_102
  refine ry_iload_n dX12_application_102 rfl ?_
  refine ry_aload_n dX12_application_103 rfl ?_
  refine ry_geti dX12_application_104 ha0 fl_RX12_230 rfl ?_
  refine ry_icmp_ne 120 dX12_application_107 (by decide) (fun c5 => ?_) (fun c5 => ?_)
  · refine ry_aload_n dX12_application_110 rfl ?_
    refine ry_dup dX12_application_111 ?_
    refine ry_geti dX12_application_112 ha0 fl_RX12_230 rfl ?_
    refine ry_iconst (v := 1) dX12_application_115 (by decide) ?_
    refine ry_iadd dX12_application_116 ?_
    refine ry_puti dX12_application_117 ha0 fl_RX12_230 rfl rfl rfl ?_
    refine ry_letS (fun s6 => ?_)
    exact ry_to (yb_X12_application_120 cx w a0 x1 ha0 s6) ⟨rfl, rfl, trivial⟩
  · exact ry_to (yb_X12_application_120 cx w a0 x1 ha0 S) ⟨rfl, rfl, trivial⟩
def B_X12_application_39 (w : rd_W) (k39 : Nat → Int32 → rd_S → Option (rd_S)) (a0 : Nat) (x2 : Int32) (S : rd_S) : Option (rd_S) :=
  if 7 ≤ x2 then
  (rd_let (pI S a0 43 7) fun s4 =>
  B_X12_application_102 w a0 7 s4)
  else
  (rd_c (gR S a0 40) fun b16 =>
  rd_c (gR S a0 40) fun b17 =>
  rd_let (x2 + 1) fun v18 =>
  rd_i v18 (w.2.2 b17) <|
  rd_i x2 (w.2.2 b16) <|
  rd_let (pI S b16 x2.toNatClampNeg (gI S b17 v18.toNatClampNeg)) fun s19 =>
  rd_c (gR s19 a0 41) fun b20 =>
  rd_c (gR s19 a0 41) fun b21 =>
  rd_let (x2 + 1) fun v22 =>
  rd_i v22 (w.2.2 b21) <|
  rd_i x2 (w.2.2 b20) <|
  rd_let (pI s19 b20 x2.toNatClampNeg (gI s19 b21 v22.toNatClampNeg)) fun s23 =>
  rd_c (gR s23 a0 42) fun b24 =>
  rd_c (gR s23 a0 42) fun b25 =>
  rd_let (x2 + 1) fun v26 =>
  rd_i v26 (w.2.2 b25) <|
  rd_i x2 (w.2.2 b24) <|
  rd_let (pI s23 b24 x2.toNatClampNeg (gI s23 b25 v26.toNatClampNeg)) fun s27 =>
  rd_let (x2 + 1) fun v28 =>
  k39 a0 v28 s27)
theorem yb_X12_application_39 (cx : rd_Cx) (w : rd_W) {k39 : Nat → Int32 → rd_S → Option (rd_S)} (hk39 : ∀ (a0 : Nat) (x2 : Int32) (ha0 : rd_ok w a0 12) (S : rd_S), rd_Y cx G_X12_application (fun r => rd_P cx G_X12_application.2.2.2.2.2 0 w (rd_rV w r)) (k39 a0 x2 S) 39 [(0, .inr (some a0)), (2, .inl x2)] [] w S 0 0) (a0 : Nat) (x2 : Int32) (ha0 : rd_ok w a0 12) (S : rd_S) : rd_Y cx G_X12_application (fun r => rd_P cx G_X12_application.2.2.2.2.2 0 w (rd_rV w r)) (B_X12_application_39 w k39 a0 x2 S) 39 [(0, .inr (some a0)), (2, .inl x2)] [] w S 0 0 := by
  unfold B_X12_application_39
  refine ry_iload_n dX12_application_39 rfl ?_
  refine ry_bipush (v := 7) dX12_application_40 (by decide) ?_
  refine ry_icmp_ge 93 dX12_application_42 (by decide) (fun c3 => ?_) (fun c3 => ?_)
  · refine ry_bipush (v := 7) dX12_application_93 (by decide) ?_
    refine ry_istore_n dX12_application_95 (by decide) ?_
    refine ry_aload_n dX12_application_96 rfl ?_
    refine ry_bipush (v := 7) dX12_application_97 (by decide) ?_
    refine ry_puti dX12_application_99 ha0 fl_RX12_230 rfl rfl rfl ?_
    refine ry_letS (fun s4 => ?_)
    exact ry_to (yb_X12_application_102 cx w a0 7 ha0 s4) ⟨rfl, rfl, trivial⟩
  · refine ry_aload_n dX12_application_45 rfl ?_
    refine ry_getr dX12_application_46 ha0 fl_RX12_233 rfl (fun b16 hb16 => ?_)
    refine ry_iload_n dX12_application_49 rfl ?_
    refine ry_aload_n dX12_application_50 rfl ?_
    refine ry_getr dX12_application_51 ha0 fl_RX12_233 rfl (fun b17 hb17 => ?_)
    refine ry_iload_n dX12_application_54 rfl ?_
    refine ry_iconst (v := 1) dX12_application_55 (by decide) ?_
    refine ry_iadd dX12_application_56 ?_
    refine ry_lets (fun v18 => ?_)
    refine ry_iald dX12_application_57 hb17 ?_
    refine ry_iast dX12_application_58 hb16 ?_
    refine ry_letS (fun s19 => ?_)
    refine ry_aload_n dX12_application_59 rfl ?_
    refine ry_getr dX12_application_60 ha0 fl_RX12_236 rfl (fun b20 hb20 => ?_)
    refine ry_iload_n dX12_application_63 rfl ?_
    refine ry_aload_n dX12_application_64 rfl ?_
    refine ry_getr dX12_application_65 ha0 fl_RX12_236 rfl (fun b21 hb21 => ?_)
    refine ry_iload_n dX12_application_68 rfl ?_
    refine ry_iconst (v := 1) dX12_application_69 (by decide) ?_
    refine ry_iadd dX12_application_70 ?_
    refine ry_lets (fun v22 => ?_)
    refine ry_iald dX12_application_71 hb21 ?_
    refine ry_iast dX12_application_72 hb20 ?_
    refine ry_letS (fun s23 => ?_)
    refine ry_aload_n dX12_application_73 rfl ?_
    refine ry_getr dX12_application_74 ha0 fl_RX12_239 rfl (fun b24 hb24 => ?_)
    refine ry_iload_n dX12_application_77 rfl ?_
    refine ry_aload_n dX12_application_78 rfl ?_
    refine ry_getr dX12_application_79 ha0 fl_RX12_239 rfl (fun b25 hb25 => ?_)
    refine ry_iload_n dX12_application_82 rfl ?_
    refine ry_iconst (v := 1) dX12_application_83 (by decide) ?_
    refine ry_iadd dX12_application_84 ?_
    refine ry_lets (fun v26 => ?_)
    refine ry_iald dX12_application_85 hb25 ?_
    refine ry_iast dX12_application_86 hb24 ?_
    refine ry_letS (fun s27 => ?_)
    refine ry_iinc (v := 1) dX12_application_87 rfl (by decide) (by decide) ?_
    refine ry_let (fun v28 => ?_)
    refine ry_goto 39 dX12_application_90 (by decide) ?_
    exact ry_to (hk39 a0 v28 ha0 s27) ⟨rfl, rfl, trivial⟩
def F_X12_application_39 (w : rd_W) (n : Nat) : Nat → Int32 → rd_S → Option (rd_S) :=
  Nat.rec (motive := fun _ => Nat → Int32 → rd_S → Option (rd_S)) (fun _ _ _ => none) (fun _ ih => B_X12_application_39 w ih) n
theorem yl_X12_application_39 (cx : rd_Cx) (w : rd_W) : ∀ (n : Nat) (a0 : Nat) (x2 : Int32) (ha0 : rd_ok w a0 12) (S : rd_S), rd_Y cx G_X12_application (fun r => rd_P cx G_X12_application.2.2.2.2.2 0 w (rd_rV w r)) (F_X12_application_39 w n a0 x2 S) 39 [(0, .inr (some a0)), (2, .inl x2)] [] w S 0 0 := by
  intro n
  induction n with
  | zero => intro a0 x2 ha0 S; exact ry_none
  | succ n ih => intro a0 x2 ha0 S; exact yb_X12_application_39 cx w ih a0 x2 ha0 S
def B_X12_application_31 (w : rd_W) (a0 : Nat) (x1 : Int32) (S : rd_S) : Option (rd_S) :=
  if x1 = 8 then
  (F_X12_application_39 w rd_big a0 0 S)
  else
  (B_X12_application_102 w a0 x1 S)
theorem yb_X12_application_31 (cx : rd_Cx) (w : rd_W) (a0 : Nat) (x1 : Int32) (ha0 : rd_ok w a0 12) (S : rd_S) : rd_Y cx G_X12_application (fun r => rd_P cx G_X12_application.2.2.2.2.2 0 w (rd_rV w r)) (B_X12_application_31 w a0 x1 S) 31 [(0, .inr (some a0)), (1, .inl x1)] [] w S 0 0 := by
  unfold B_X12_application_31
  refine ry_iload_n dX12_application_31 rfl ?_
  refine ry_bipush (v := 8) dX12_application_32 (by decide) ?_
  refine ry_icmp_ne 102 dX12_application_34 (by decide) (fun c2 => ?_) (fun c2 => ?_)
  · refine ry_iconst (v := 0) dX12_application_37 (by decide) ?_
    refine ry_istore_n dX12_application_38 (by decide) ?_
    exact ry_to (yl_X12_application_39 cx w rd_big a0 0 ha0 S) ⟨rfl, rfl, trivial⟩
  · exact ry_to (yb_X12_application_102 cx w a0 x1 ha0 S) ⟨rfl, rfl, trivial⟩
def B_X12_application_2 (w : rd_W) (k2 : Nat → Int32 → rd_S → Option (rd_S)) (a0 : Nat) (x1 : Int32) (S : rd_S) : Option (rd_S) :=
  if (gI S a0 43) ≤ x1 then
  (B_X12_application_31 w a0 x1 S)
  else
  (rd_c (gR S a0 40) fun b29 =>
  rd_i x1 (w.2.2 b29) <|
  rd_c (gR S a0 18) fun b30 =>
  rd_i 3 (w.2.2 b30) <|
  if (gI S b29 x1.toNatClampNeg) = (gI S b30 (3 : Int32).toNatClampNeg) then
  (B_X12_application_31 w a0 x1 S)
  else
  (rd_let (x1 + 1) fun v32 =>
  k2 a0 v32 S))
theorem yb_X12_application_2 (cx : rd_Cx) (w : rd_W) {k2 : Nat → Int32 → rd_S → Option (rd_S)} (hk2 : ∀ (a0 : Nat) (x1 : Int32) (ha0 : rd_ok w a0 12) (S : rd_S), rd_Y cx G_X12_application (fun r => rd_P cx G_X12_application.2.2.2.2.2 0 w (rd_rV w r)) (k2 a0 x1 S) 2 [(0, .inr (some a0)), (1, .inl x1)] [] w S 0 0) (a0 : Nat) (x1 : Int32) (ha0 : rd_ok w a0 12) (S : rd_S) : rd_Y cx G_X12_application (fun r => rd_P cx G_X12_application.2.2.2.2.2 0 w (rd_rV w r)) (B_X12_application_2 w k2 a0 x1 S) 2 [(0, .inr (some a0)), (1, .inl x1)] [] w S 0 0 := by
  unfold B_X12_application_2
  refine ry_iload_n dX12_application_2 rfl ?_
  refine ry_aload_n dX12_application_3 rfl ?_
  refine ry_geti dX12_application_4 ha0 fl_RX12_230 rfl ?_
  refine ry_icmp_ge 31 dX12_application_7 (by decide) (fun c1 => ?_) (fun c1 => ?_)
  · exact ry_to (yb_X12_application_31 cx w a0 x1 ha0 S) ⟨rfl, rfl, trivial⟩
  · refine ry_aload_n dX12_application_10 rfl ?_
    refine ry_getr dX12_application_11 ha0 fl_RX12_233 rfl (fun b29 hb29 => ?_)
    refine ry_iload_n dX12_application_14 rfl ?_
    refine ry_iald dX12_application_15 hb29 ?_
    refine ry_aload_n dX12_application_16 rfl ?_
    refine ry_getr dX12_application_17 ha0 fl_RX12_77 rfl (fun b30 hb30 => ?_)
    refine ry_iconst (v := 3) dX12_application_20 (by decide) ?_
    refine ry_iald dX12_application_21 hb30 ?_
    refine ry_icmp_eq 31 dX12_application_22 (by decide) (fun c31 => ?_) (fun c31 => ?_)
    · exact ry_to (yb_X12_application_31 cx w a0 x1 ha0 S) ⟨rfl, rfl, trivial⟩
    · refine ry_iinc (v := 1) dX12_application_25 rfl (by decide) (by decide) ?_
      refine ry_let (fun v32 => ?_)
      refine ry_goto 2 dX12_application_28 (by decide) ?_
      exact ry_to (hk2 a0 v32 ha0 S) ⟨rfl, rfl, trivial⟩
def F_X12_application_2 (w : rd_W) (n : Nat) : Nat → Int32 → rd_S → Option (rd_S) :=
  Nat.rec (motive := fun _ => Nat → Int32 → rd_S → Option (rd_S)) (fun _ _ _ => none) (fun _ ih => B_X12_application_2 w ih) n
theorem yl_X12_application_2 (cx : rd_Cx) (w : rd_W) : ∀ (n : Nat) (a0 : Nat) (x1 : Int32) (ha0 : rd_ok w a0 12) (S : rd_S), rd_Y cx G_X12_application (fun r => rd_P cx G_X12_application.2.2.2.2.2 0 w (rd_rV w r)) (F_X12_application_2 w n a0 x1 S) 2 [(0, .inr (some a0)), (1, .inl x1)] [] w S 0 0 := by
  intro n
  induction n with
  | zero => intro a0 x1 ha0 S; exact ry_none
  | succ n ih => intro a0 x1 ha0 S; exact yb_X12_application_2 cx w ih a0 x1 ha0 S
def F_X12_application (w : rd_W) (a0 : Nat) (S : rd_S) : Option (rd_S) :=
  F_X12_application_2 w rd_big a0 0 S
theorem ym_X12_application (cx : rd_Cx) (w : rd_W) (a0 : Nat) (ha0 : rd_ok w a0 12) (S : rd_S) : rd_Y cx G_X12_application (fun r => rd_P cx G_X12_application.2.2.2.2.2 0 w (rd_rV w r)) (F_X12_application w a0 S) 0 (rd_as 0 [.inr (some a0)]) [] w S 0 0 := by
  unfold F_X12_application
  refine ry_iconst (v := 0) dX12_application_0 (by decide) ?_
  refine ry_istore_n dX12_application_1 (by decide) ?_
  exact ry_to (yl_X12_application_2 cx w rd_big a0 0 ha0 S) ⟨rfl, rfl, trivial⟩
theorem cm_X12_application (l : Launch) (cx : rd_Cx) (w : rd_W) (a0 : Nat) (ha0 : rd_ok w a0 12) (S : rd_S) (r : rd_S) (h : F_X12_application w a0 S = some r) : rd_M l cx yX12_application G_X12_application 0 [.inr (some a0)] w S (rd_rV w r) :=
  rd_enter (plainFor_of_name (by decide +kernel)) rfl (fun h => by cases h) (Nat.le_of_ble_eq_true rfl) (ym_X12_application cx w a0 ha0 S r h)
abbrev G_X12_clock : rd_G := (RX12, cX12_clock, 4, none, false, { frames := 0, cells := 0, slots := 0, locals := 0 })
theorem yf_X12_clock : rd_YL yX12_clock G_X12_clock 0 := ⟨rd_mem 966 (by decide +kernel) rfl, rd_mem 75 (by decide +kernel) rfl, by decide +kernel, by decide +kernel, by decide +kernel⟩
theorem mi_X12_clock : Cond.instanceMethod yX12_clock ∈ rd_gw := rd_mem 965 (by decide +kernel) rfl
theorem ms_X12_clock : Cond.selects (MethodName.cls yX12_clock) yX12_clock yX12_clock ∈ rd_gw := rd_mem 56 (by decide +kernel) rfl
theorem dX12_clock_0 : decode cX12_clock 0 = .ok (.aload_n 0, 1) := by decide +kernel
theorem dX12_clock_1 : decode cX12_clock 1 = .ok (.getfield 77, 3) := by decide +kernel
theorem dX12_clock_4 : decode cX12_clock 4 = .ok (.iconst 2, 1) := by decide +kernel
theorem dX12_clock_5 : decode cX12_clock 5 = .ok (.iaload, 1) := by decide +kernel
theorem dX12_clock_6 : decode cX12_clock 6 = .ok (.iconst 1, 1) := by decide +kernel
theorem dX12_clock_7 : decode cX12_clock 7 = .ok (.iand, 1) := by decide +kernel
theorem dX12_clock_8 : decode cX12_clock 8 = .ok (.iconst 4, 1) := by decide +kernel
theorem dX12_clock_9 : decode cX12_clock 9 = .ok (.ishl, 1) := by decide +kernel
theorem dX12_clock_10 : decode cX12_clock 10 = .ok (.aload_n 0, 1) := by decide +kernel
theorem dX12_clock_11 : decode cX12_clock 11 = .ok (.getfield 77, 3) := by decide +kernel
theorem dX12_clock_14 : decode cX12_clock 14 = .ok (.iconst 3, 1) := by decide +kernel
theorem dX12_clock_15 : decode cX12_clock 15 = .ok (.iaload, 1) := by decide +kernel
theorem dX12_clock_16 : decode cX12_clock 16 = .ok (.bipush 12, 2) := by decide +kernel
theorem dX12_clock_18 : decode cX12_clock 18 = .ok (.ishr, 1) := by decide +kernel
theorem dX12_clock_19 : decode cX12_clock 19 = .ok (.bipush 15, 2) := by decide +kernel
theorem dX12_clock_21 : decode cX12_clock 21 = .ok (.iand, 1) := by decide +kernel
theorem dX12_clock_22 : decode cX12_clock 22 = .ok (.ior, 1) := by decide +kernel
theorem dX12_clock_23 : decode cX12_clock 23 = .ok (.istore_n 1, 1) := by decide +kernel
theorem dX12_clock_24 : decode cX12_clock 24 = .ok (.aload_n 0, 1) := by decide +kernel
theorem dX12_clock_25 : decode cX12_clock 25 = .ok (.getfield 77, 3) := by decide +kernel
theorem dX12_clock_28 : decode cX12_clock 28 = .ok (.iconst 3, 1) := by decide +kernel
theorem dX12_clock_29 : decode cX12_clock 29 = .ok (.iaload, 1) := by decide +kernel
theorem dX12_clock_30 : decode cX12_clock 30 = .ok (.bipush 6, 2) := by decide +kernel
theorem dX12_clock_32 : decode cX12_clock 32 = .ok (.ishr, 1) := by decide +kernel
theorem dX12_clock_33 : decode cX12_clock 33 = .ok (.bipush 63, 2) := by decide +kernel
theorem dX12_clock_35 : decode cX12_clock 35 = .ok (.iand, 1) := by decide +kernel
theorem dX12_clock_36 : decode cX12_clock 36 = .ok (.istore_n 2, 1) := by decide +kernel
theorem dX12_clock_37 : decode cX12_clock 37 = .ok (.aload_n 0, 1) := by decide +kernel
theorem dX12_clock_38 : decode cX12_clock 38 = .ok (.getfield 77, 3) := by decide +kernel
theorem dX12_clock_41 : decode cX12_clock 41 = .ok (.iconst 3, 1) := by decide +kernel
theorem dX12_clock_42 : decode cX12_clock 42 = .ok (.iaload, 1) := by decide +kernel
theorem dX12_clock_43 : decode cX12_clock 43 = .ok (.bipush 31, 2) := by decide +kernel
theorem dX12_clock_45 : decode cX12_clock 45 = .ok (.iand, 1) := by decide +kernel
theorem dX12_clock_46 : decode cX12_clock 46 = .ok (.istore_n 3, 1) := by decide +kernel
theorem dX12_clock_47 : decode cX12_clock 47 = .ok (.iload_n 1, 1) := by decide +kernel
theorem dX12_clock_48 : decode cX12_clock 48 = .ok (.bipush 23, 2) := by decide +kernel
theorem dX12_clock_50 : decode cX12_clock 50 = .ok (.if_icmp .gt 15, 3) := by decide +kernel
theorem dX12_clock_53 : decode cX12_clock 53 = .ok (.iload_n 2, 1) := by decide +kernel
theorem dX12_clock_54 : decode cX12_clock 54 = .ok (.bipush 59, 2) := by decide +kernel
theorem dX12_clock_56 : decode cX12_clock 56 = .ok (.if_icmp .gt 9, 3) := by decide +kernel
theorem dX12_clock_59 : decode cX12_clock 59 = .ok (.iload_n 3, 1) := by decide +kernel
theorem dX12_clock_60 : decode cX12_clock 60 = .ok (.bipush 28, 2) := by decide +kernel
theorem dX12_clock_62 : decode cX12_clock 62 = .ok (.if_icmp .le 4, 3) := by decide +kernel
theorem dX12_clock_65 : decode cX12_clock 65 = .ok (.return_, 1) := by decide +kernel
theorem dX12_clock_66 : decode cX12_clock 66 = .ok (.aload_n 0, 1) := by decide +kernel
theorem dX12_clock_67 : decode cX12_clock 67 = .ok (.aload_n 0, 1) := by decide +kernel
theorem dX12_clock_68 : decode cX12_clock 68 = .ok (.getfield 77, 3) := by decide +kernel
theorem dX12_clock_71 : decode cX12_clock 71 = .ok (.iconst 1, 1) := by decide +kernel
theorem dX12_clock_72 : decode cX12_clock 72 = .ok (.iaload, 1) := by decide +kernel
theorem dX12_clock_73 : decode cX12_clock 73 = .ok (.iconst 3, 1) := by decide +kernel
theorem dX12_clock_74 : decode cX12_clock 74 = .ok (.iand, 1) := by decide +kernel
theorem dX12_clock_75 : decode cX12_clock 75 = .ok (.bipush 15, 2) := by decide +kernel
theorem dX12_clock_77 : decode cX12_clock 77 = .ok (.ishl, 1) := by decide +kernel
theorem dX12_clock_78 : decode cX12_clock 78 = .ok (.aload_n 0, 1) := by decide +kernel
theorem dX12_clock_79 : decode cX12_clock 79 = .ok (.getfield 77, 3) := by decide +kernel
theorem dX12_clock_82 : decode cX12_clock 82 = .ok (.iconst 2, 1) := by decide +kernel
theorem dX12_clock_83 : decode cX12_clock 83 = .ok (.iaload, 1) := by decide +kernel
theorem dX12_clock_84 : decode cX12_clock 84 = .ok (.iconst 1, 1) := by decide +kernel
theorem dX12_clock_85 : decode cX12_clock 85 = .ok (.ishr, 1) := by decide +kernel
theorem dX12_clock_86 : decode cX12_clock 86 = .ok (.sipush 32767, 3) := by decide +kernel
theorem dX12_clock_89 : decode cX12_clock 89 = .ok (.iand, 1) := by decide +kernel
theorem dX12_clock_90 : decode cX12_clock 90 = .ok (.ior, 1) := by decide +kernel
theorem dX12_clock_91 : decode cX12_clock 91 = .ok (.putfield 248, 3) := by decide +kernel
theorem dX12_clock_94 : decode cX12_clock 94 = .ok (.aload_n 0, 1) := by decide +kernel
theorem dX12_clock_95 : decode cX12_clock 95 = .ok (.iload_n 1, 1) := by decide +kernel
theorem dX12_clock_96 : decode cX12_clock 96 = .ok (.putfield 251, 3) := by decide +kernel
theorem dX12_clock_99 : decode cX12_clock 99 = .ok (.aload_n 0, 1) := by decide +kernel
theorem dX12_clock_100 : decode cX12_clock 100 = .ok (.iload_n 2, 1) := by decide +kernel
theorem dX12_clock_101 : decode cX12_clock 101 = .ok (.putfield 254, 3) := by decide +kernel
theorem dX12_clock_104 : decode cX12_clock 104 = .ok (.aload_n 0, 1) := by decide +kernel
theorem dX12_clock_105 : decode cX12_clock 105 = .ok (.aload_n 0, 1) := by decide +kernel
theorem dX12_clock_106 : decode cX12_clock 106 = .ok (.getfield 77, 3) := by decide +kernel
theorem dX12_clock_109 : decode cX12_clock 109 = .ok (.iconst 3, 1) := by decide +kernel
theorem dX12_clock_110 : decode cX12_clock 110 = .ok (.iaload, 1) := by decide +kernel
theorem dX12_clock_111 : decode cX12_clock 111 = .ok (.iconst 5, 1) := by decide +kernel
theorem dX12_clock_112 : decode cX12_clock 112 = .ok (.ishr, 1) := by decide +kernel
theorem dX12_clock_113 : decode cX12_clock 113 = .ok (.iconst 1, 1) := by decide +kernel
theorem dX12_clock_114 : decode cX12_clock 114 = .ok (.iand, 1) := by decide +kernel
theorem dX12_clock_115 : decode cX12_clock 115 = .ok (.iconst 1, 1) := by decide +kernel
theorem dX12_clock_116 : decode cX12_clock 116 = .ok (.if_icmp .ne 8, 3) := by decide +kernel
theorem dX12_clock_119 : decode cX12_clock 119 = .ok (.iload_n 3, 1) := by decide +kernel
theorem dX12_clock_120 : decode cX12_clock 120 = .ok (.ineg, 1) := by decide +kernel
theorem dX12_clock_121 : decode cX12_clock 121 = .ok (.goto 4, 3) := by decide +kernel
theorem dX12_clock_124 : decode cX12_clock 124 = .ok (.iload_n 3, 1) := by decide +kernel
theorem dX12_clock_125 : decode cX12_clock 125 = .ok (.putfield 257, 3) := by decide +kernel
theorem dX12_clock_128 : decode cX12_clock 128 = .ok (.aload_n 0, 1) := by decide +kernel
theorem dX12_clock_129 : decode cX12_clock 129 = .ok (.iconst 1, 1) := by decide +kernel
theorem dX12_clock_130 : decode cX12_clock 130 = .ok (.putfield 260, 3) := by decide +kernel
theorem dX12_clock_133 : decode cX12_clock 133 = .ok (.aload_n 0, 1) := by decide +kernel
theorem dX12_clock_134 : decode cX12_clock 134 = .ok (.getfield 190, 3) := by decide +kernel
theorem dX12_clock_137 : decode cX12_clock 137 = .ok (.iconst 4, 1) := by decide +kernel
theorem dX12_clock_138 : decode cX12_clock 138 = .ok (.dup2, 1) := by decide +kernel
theorem dX12_clock_139 : decode cX12_clock 139 = .ok (.iaload, 1) := by decide +kernel
theorem dX12_clock_140 : decode cX12_clock 140 = .ok (.iconst 1, 1) := by decide +kernel
theorem dX12_clock_141 : decode cX12_clock 141 = .ok (.iadd, 1) := by decide +kernel
theorem dX12_clock_142 : decode cX12_clock 142 = .ok (.iastore, 1) := by decide +kernel
theorem dX12_clock_143 : decode cX12_clock 143 = .ok (.return_, 1) := by decide +kernel
def B_X12_clock_65 (w : rd_W) (S : rd_S) : Option (rd_S) :=
  some S
theorem yb_X12_clock_65 (cx : rd_Cx) (w : rd_W) (S : rd_S) : rd_Y cx G_X12_clock (fun r => rd_P cx G_X12_clock.2.2.2.2.2 0 w (rd_rV w r)) (B_X12_clock_65 w S) 65 [] [] w S 0 0 := by
  unfold B_X12_clock_65
  exact ry_vret dX12_clock_65 rfl (Nat.le_of_ble_eq_true rfl) (Nat.le_of_ble_eq_true rfl)
def B_X12_clock_125 (w : rd_W) (a0 : Nat) (t0 : Int32) (e1 : Nat) (S : rd_S) : Option (rd_S) :=
  rd_let (pI S e1 49 t0) fun s18 =>
  rd_let (pI s18 a0 50 1) fun s19 =>
  rd_c (gR s19 a0 26) fun b20 =>
  rd_i 4 (w.2.2 b20) <|
  rd_i 4 (w.2.2 b20) <|
  rd_let (pI s19 b20 (4 : Int32).toNatClampNeg ((gI s19 b20 (4 : Int32).toNatClampNeg) + 1)) fun s21 =>
  some s21
theorem yb_X12_clock_125 (cx : rd_Cx) (w : rd_W) (a0 : Nat) (t0 : Int32) (e1 : Nat) (ha0 : rd_ok w a0 12) (he1 : rd_ok w e1 12) (S : rd_S) : rd_Y cx G_X12_clock (fun r => rd_P cx G_X12_clock.2.2.2.2.2 0 w (rd_rV w r)) (B_X12_clock_125 w a0 t0 e1 S) 125 [(0, .inr (some a0))] [.inl t0, .inr (some e1)] w S 0 0 := by
  unfold B_X12_clock_125
  refine ry_puti dX12_clock_125 he1 fl_RX12_257 rfl rfl rfl ?_
  refine ry_letS (fun s18 => ?_)
  refine ry_aload_n dX12_clock_128 rfl ?_
  refine ry_iconst (v := 1) dX12_clock_129 (by decide) ?_
  refine ry_putz dX12_clock_130 ha0 fl_RX12_260 rfl rfl rfl (by decide) ?_
  refine ry_letS (fun s19 => ?_)
  refine ry_aload_n dX12_clock_133 rfl ?_
  refine ry_getr dX12_clock_134 ha0 fl_RX12_190 rfl (fun b20 hb20 => ?_)
  refine ry_iconst (v := 4) dX12_clock_137 (by decide) ?_
  refine ry_dup2 dX12_clock_138 ?_
  refine ry_iald dX12_clock_139 hb20 ?_
  refine ry_iconst (v := 1) dX12_clock_140 (by decide) ?_
  refine ry_iadd dX12_clock_141 ?_
  refine ry_iast dX12_clock_142 hb20 ?_
  refine ry_letS (fun s21 => ?_)
  exact ry_vret dX12_clock_143 rfl (Nat.le_of_ble_eq_true rfl) (Nat.le_of_ble_eq_true rfl)
def F_X12_clock (w : rd_W) (a0 : Nat) (S : rd_S) : Option (rd_S) :=
  rd_c (gR S a0 18) fun b1 =>
  rd_i 2 (w.2.2 b1) <|
  rd_c (gR S a0 18) fun b2 =>
  rd_i 3 (w.2.2 b2) <|
  rd_let ((rd_shl ((gI S b1 (2 : Int32).toNatClampNeg) &&& 1) 4) ||| ((rd_shr (gI S b2 (3 : Int32).toNatClampNeg) 12) &&& 15)) fun v3 =>
  rd_c (gR S a0 18) fun b4 =>
  rd_i 3 (w.2.2 b4) <|
  rd_let ((rd_shr (gI S b4 (3 : Int32).toNatClampNeg) 6) &&& 63) fun v5 =>
  rd_c (gR S a0 18) fun b6 =>
  rd_i 3 (w.2.2 b6) <|
  rd_let ((gI S b6 (3 : Int32).toNatClampNeg) &&& 31) fun v7 =>
  if 23 < v3 then
  (B_X12_clock_65 w S)
  else
  (if 59 < v5 then
  (B_X12_clock_65 w S)
  else
  (if v7 ≤ 28 then
  (rd_c (gR S a0 18) fun b11 =>
  rd_i 1 (w.2.2 b11) <|
  rd_c (gR S a0 18) fun b12 =>
  rd_i 2 (w.2.2 b12) <|
  rd_let (pI S a0 46 ((rd_shl ((gI S b11 (1 : Int32).toNatClampNeg) &&& 3) 15) ||| ((rd_shr (gI S b12 (2 : Int32).toNatClampNeg) 1) &&& 32767))) fun s13 =>
  rd_let (pI s13 a0 47 v3) fun s14 =>
  rd_let (pI s14 a0 48 v5) fun s15 =>
  rd_c (gR s15 a0 18) fun b16 =>
  rd_i 3 (w.2.2 b16) <|
  if ((rd_shr (gI s15 b16 (3 : Int32).toNatClampNeg) 5) &&& 1) = 1 then
  (B_X12_clock_125 w a0 (-v7) a0 s15)
  else
  (B_X12_clock_125 w a0 v7 a0 s15))
  else
  (B_X12_clock_65 w S)))
theorem ym_X12_clock (cx : rd_Cx) (w : rd_W) (a0 : Nat) (ha0 : rd_ok w a0 12) (S : rd_S) : rd_Y cx G_X12_clock (fun r => rd_P cx G_X12_clock.2.2.2.2.2 0 w (rd_rV w r)) (F_X12_clock w a0 S) 0 (rd_as 0 [.inr (some a0)]) [] w S 0 0 := by
  unfold F_X12_clock
  refine ry_aload_n dX12_clock_0 rfl ?_
  refine ry_getr dX12_clock_1 ha0 fl_RX12_77 rfl (fun b1 hb1 => ?_)
  refine ry_iconst (v := 2) dX12_clock_4 (by decide) ?_
  refine ry_iald dX12_clock_5 hb1 ?_
  refine ry_iconst (v := 1) dX12_clock_6 (by decide) ?_
  refine ry_iand dX12_clock_7 ?_
  refine ry_iconst (v := 4) dX12_clock_8 (by decide) ?_
  refine ry_ishl dX12_clock_9 ?_
  refine ry_aload_n dX12_clock_10 rfl ?_
  refine ry_getr dX12_clock_11 ha0 fl_RX12_77 rfl (fun b2 hb2 => ?_)
  refine ry_iconst (v := 3) dX12_clock_14 (by decide) ?_
  refine ry_iald dX12_clock_15 hb2 ?_
  refine ry_bipush (v := 12) dX12_clock_16 (by decide) ?_
  refine ry_ishr dX12_clock_18 ?_
  refine ry_bipush (v := 15) dX12_clock_19 (by decide) ?_
  refine ry_iand dX12_clock_21 ?_
  refine ry_ior dX12_clock_22 ?_
  refine ry_istore_n dX12_clock_23 (by decide) ?_
  refine ry_let (fun v3 => ?_)
  refine ry_aload_n dX12_clock_24 rfl ?_
  refine ry_getr dX12_clock_25 ha0 fl_RX12_77 rfl (fun b4 hb4 => ?_)
  refine ry_iconst (v := 3) dX12_clock_28 (by decide) ?_
  refine ry_iald dX12_clock_29 hb4 ?_
  refine ry_bipush (v := 6) dX12_clock_30 (by decide) ?_
  refine ry_ishr dX12_clock_32 ?_
  refine ry_bipush (v := 63) dX12_clock_33 (by decide) ?_
  refine ry_iand dX12_clock_35 ?_
  refine ry_istore_n dX12_clock_36 (by decide) ?_
  refine ry_let (fun v5 => ?_)
  refine ry_aload_n dX12_clock_37 rfl ?_
  refine ry_getr dX12_clock_38 ha0 fl_RX12_77 rfl (fun b6 hb6 => ?_)
  refine ry_iconst (v := 3) dX12_clock_41 (by decide) ?_
  refine ry_iald dX12_clock_42 hb6 ?_
  refine ry_bipush (v := 31) dX12_clock_43 (by decide) ?_
  refine ry_iand dX12_clock_45 ?_
  refine ry_istore_n dX12_clock_46 (by decide) ?_
  refine ry_let (fun v7 => ?_)
  refine ry_iload_n dX12_clock_47 rfl ?_
  refine ry_bipush (v := 23) dX12_clock_48 (by decide) ?_
  refine ry_icmp_gt 65 dX12_clock_50 (by decide) (fun c8 => ?_) (fun c8 => ?_)
  · exact ry_to (yb_X12_clock_65 cx w S) trivial
  · refine ry_iload_n dX12_clock_53 rfl ?_
    refine ry_bipush (v := 59) dX12_clock_54 (by decide) ?_
    refine ry_icmp_gt 65 dX12_clock_56 (by decide) (fun c9 => ?_) (fun c9 => ?_)
    · exact ry_to (yb_X12_clock_65 cx w S) trivial
    · refine ry_iload_n dX12_clock_59 rfl ?_
      refine ry_bipush (v := 28) dX12_clock_60 (by decide) ?_
      refine ry_icmp_le 66 dX12_clock_62 (by decide) (fun c10 => ?_) (fun c10 => ?_)
      · refine ry_aload_n dX12_clock_66 rfl ?_
        refine ry_aload_n dX12_clock_67 rfl ?_
        refine ry_getr dX12_clock_68 ha0 fl_RX12_77 rfl (fun b11 hb11 => ?_)
        refine ry_iconst (v := 1) dX12_clock_71 (by decide) ?_
        refine ry_iald dX12_clock_72 hb11 ?_
        refine ry_iconst (v := 3) dX12_clock_73 (by decide) ?_
        refine ry_iand dX12_clock_74 ?_
        refine ry_bipush (v := 15) dX12_clock_75 (by decide) ?_
        refine ry_ishl dX12_clock_77 ?_
        refine ry_aload_n dX12_clock_78 rfl ?_
        refine ry_getr dX12_clock_79 ha0 fl_RX12_77 rfl (fun b12 hb12 => ?_)
        refine ry_iconst (v := 2) dX12_clock_82 (by decide) ?_
        refine ry_iald dX12_clock_83 hb12 ?_
        refine ry_iconst (v := 1) dX12_clock_84 (by decide) ?_
        refine ry_ishr dX12_clock_85 ?_
        refine ry_sipush (v := 32767) dX12_clock_86 (by decide) ?_
        refine ry_iand dX12_clock_89 ?_
        refine ry_ior dX12_clock_90 ?_
        refine ry_puti dX12_clock_91 ha0 fl_RX12_248 rfl rfl rfl ?_
        refine ry_letS (fun s13 => ?_)
        refine ry_aload_n dX12_clock_94 rfl ?_
        refine ry_iload_n dX12_clock_95 rfl ?_
        refine ry_puti dX12_clock_96 ha0 fl_RX12_251 rfl rfl rfl ?_
        refine ry_letS (fun s14 => ?_)
        refine ry_aload_n dX12_clock_99 rfl ?_
        refine ry_iload_n dX12_clock_100 rfl ?_
        refine ry_puti dX12_clock_101 ha0 fl_RX12_254 rfl rfl rfl ?_
        refine ry_letS (fun s15 => ?_)
        refine ry_aload_n dX12_clock_104 rfl ?_
        refine ry_aload_n dX12_clock_105 rfl ?_
        refine ry_getr dX12_clock_106 ha0 fl_RX12_77 rfl (fun b16 hb16 => ?_)
        refine ry_iconst (v := 3) dX12_clock_109 (by decide) ?_
        refine ry_iald dX12_clock_110 hb16 ?_
        refine ry_iconst (v := 5) dX12_clock_111 (by decide) ?_
        refine ry_ishr dX12_clock_112 ?_
        refine ry_iconst (v := 1) dX12_clock_113 (by decide) ?_
        refine ry_iand dX12_clock_114 ?_
        refine ry_iconst (v := 1) dX12_clock_115 (by decide) ?_
        refine ry_icmp_ne 124 dX12_clock_116 (by decide) (fun c17 => ?_) (fun c17 => ?_)
        · refine ry_iload_n dX12_clock_119 rfl ?_
          refine ry_ineg dX12_clock_120 ?_
          refine ry_goto 125 dX12_clock_121 (by decide) ?_
          exact ry_to (yb_X12_clock_125 cx w a0 (-v7) a0 ha0 ha0 s15) ⟨rfl, trivial⟩
        · refine ry_iload_n dX12_clock_124 rfl ?_
          exact ry_to (yb_X12_clock_125 cx w a0 v7 a0 ha0 ha0 s15) ⟨rfl, trivial⟩
      · exact ry_to (yb_X12_clock_65 cx w S) trivial
theorem cm_X12_clock (l : Launch) (cx : rd_Cx) (w : rd_W) (a0 : Nat) (ha0 : rd_ok w a0 12) (S : rd_S) (r : rd_S) (h : F_X12_clock w a0 S = some r) : rd_M l cx yX12_clock G_X12_clock 0 [.inr (some a0)] w S (rd_rV w r) :=
  rd_enter (plainFor_of_name (by decide +kernel)) rfl (fun h => by cases h) (Nat.le_of_ble_eq_true rfl) (ym_X12_clock cx w a0 ha0 S r h)
abbrev G_X12_kindPiece : rd_G := (RX12, cX12_kindPiece, 2, none, false, { frames := 2, cells := 0, slots := 0, locals := 54 })
theorem yf_X12_kindPiece : rd_YL yX12_kindPiece G_X12_kindPiece 0 := ⟨rd_mem 970 (by decide +kernel) rfl, rd_mem 75 (by decide +kernel) rfl, by decide +kernel, by decide +kernel, by decide +kernel⟩
theorem mi_X12_kindPiece : Cond.instanceMethod yX12_kindPiece ∈ rd_gw := rd_mem 969 (by decide +kernel) rfl
theorem ms_X12_kindPiece : Cond.selects (MethodName.cls yX12_kindPiece) yX12_kindPiece yX12_kindPiece ∈ rd_gw := rd_mem 57 (by decide +kernel) rfl
theorem dX12_kindPiece_0 : decode cX12_kindPiece 0 = .ok (.aload_n 0, 1) := by decide +kernel
theorem dX12_kindPiece_1 : decode cX12_kindPiece 1 = .ok (.getfield 77, 3) := by decide +kernel
theorem dX12_kindPiece_4 : decode cX12_kindPiece 4 = .ok (.iconst 1, 1) := by decide +kernel
theorem dX12_kindPiece_5 : decode cX12_kindPiece 5 = .ok (.iaload, 1) := by decide +kernel
theorem dX12_kindPiece_6 : decode cX12_kindPiece 6 = .ok (.iconst 4, 1) := by decide +kernel
theorem dX12_kindPiece_7 : decode cX12_kindPiece 7 = .ok (.ishr, 1) := by decide +kernel
theorem dX12_kindPiece_8 : decode cX12_kindPiece 8 = .ok (.iconst 1, 1) := by decide +kernel
theorem dX12_kindPiece_9 : decode cX12_kindPiece 9 = .ok (.iand, 1) := by decide +kernel
theorem dX12_kindPiece_10 : decode cX12_kindPiece 10 = .ok (.istore_n 1, 1) := by decide +kernel
theorem dX12_kindPiece_11 : decode cX12_kindPiece 11 = .ok (.aload_n 0, 1) := by decide +kernel
theorem dX12_kindPiece_12 : decode cX12_kindPiece 12 = .ok (.getfield 199, 3) := by decide +kernel
theorem dX12_kindPiece_15 : decode cX12_kindPiece 15 = .ok (.iconst (-1), 1) := by decide +kernel
theorem dX12_kindPiece_16 : decode cX12_kindPiece 16 = .ok (.if_icmp .eq 18, 3) := by decide +kernel
theorem dX12_kindPiece_19 : decode cX12_kindPiece 19 = .ok (.aload_n 0, 1) := by decide +kernel
theorem dX12_kindPiece_20 : decode cX12_kindPiece 20 = .ok (.getfield 199, 3) := by decide +kernel
theorem dX12_kindPiece_23 : decode cX12_kindPiece 23 = .ok (.iload_n 1, 1) := by decide +kernel
theorem dX12_kindPiece_24 : decode cX12_kindPiece 24 = .ok (.if_icmp .eq 10, 3) := by decide +kernel
theorem dX12_kindPiece_27 : decode cX12_kindPiece 27 = .ok (.aload_n 0, 1) := by decide +kernel
theorem dX12_kindPiece_28 : decode cX12_kindPiece 28 = .ok (.getfield 178, 3) := by decide +kernel
theorem dX12_kindPiece_31 : decode cX12_kindPiece 31 = .ok (.iconst 2, 1) := by decide +kernel
theorem dX12_kindPiece_32 : decode cX12_kindPiece 32 = .ok (.iconst 0, 1) := by decide +kernel
theorem dX12_kindPiece_33 : decode cX12_kindPiece 33 = .ok (.iastore, 1) := by decide +kernel
theorem dX12_kindPiece_34 : decode cX12_kindPiece 34 = .ok (.aload_n 0, 1) := by decide +kernel
theorem dX12_kindPiece_35 : decode cX12_kindPiece 35 = .ok (.iload_n 1, 1) := by decide +kernel
theorem dX12_kindPiece_36 : decode cX12_kindPiece 36 = .ok (.putfield 199, 3) := by decide +kernel
theorem dX12_kindPiece_39 : decode cX12_kindPiece 39 = .ok (.aload_n 0, 1) := by decide +kernel
theorem dX12_kindPiece_40 : decode cX12_kindPiece 40 = .ok (.iconst 2, 1) := by decide +kernel
theorem dX12_kindPiece_41 : decode cX12_kindPiece 41 = .ok (.aload_n 0, 1) := by decide +kernel
theorem dX12_kindPiece_42 : decode cX12_kindPiece 42 = .ok (.getfield 77, 3) := by decide +kernel
theorem dX12_kindPiece_45 : decode cX12_kindPiece 45 = .ok (.iconst 1, 1) := by decide +kernel
theorem dX12_kindPiece_46 : decode cX12_kindPiece 46 = .ok (.iaload, 1) := by decide +kernel
theorem dX12_kindPiece_47 : decode cX12_kindPiece 47 = .ok (.iconst 1, 1) := by decide +kernel
theorem dX12_kindPiece_48 : decode cX12_kindPiece 48 = .ok (.iand, 1) := by decide +kernel
theorem dX12_kindPiece_49 : decode cX12_kindPiece 49 = .ok (.aload_n 0, 1) := by decide +kernel
theorem dX12_kindPiece_50 : decode cX12_kindPiece 50 = .ok (.getfield 77, 3) := by decide +kernel
theorem dX12_kindPiece_53 : decode cX12_kindPiece 53 = .ok (.iconst 3, 1) := by decide +kernel
theorem dX12_kindPiece_54 : decode cX12_kindPiece 54 = .ok (.iaload, 1) := by decide +kernel
theorem dX12_kindPiece_55 : decode cX12_kindPiece 55 = .ok (.aload_n 0, 1) := by decide +kernel
theorem dX12_kindPiece_56 : decode cX12_kindPiece 56 = .ok (.getfield 77, 3) := by decide +kernel
theorem dX12_kindPiece_59 : decode cX12_kindPiece 59 = .ok (.iconst 2, 1) := by decide +kernel
theorem dX12_kindPiece_60 : decode cX12_kindPiece 60 = .ok (.iaload, 1) := by decide +kernel
theorem dX12_kindPiece_61 : decode cX12_kindPiece 61 = .ok (.iconst 4, 1) := by decide +kernel
theorem dX12_kindPiece_62 : decode cX12_kindPiece 62 = .ok (.invokevirtual 146, 3) := by decide +kernel
theorem dX12_kindPiece_65 : decode cX12_kindPiece 65 = .ok (.return_, 1) := by decide +kernel
def B_X12_kindPiece_34 (w : rd_W) (a0 : Nat) (x1 : Int32) (S : rd_S) : Option (rd_S) :=
  rd_let (pI S a0 32 x1) fun s4 =>
  rd_c (gR s4 a0 18) fun b5 =>
  rd_i 1 (w.2.2 b5) <|
  rd_c (gR s4 a0 18) fun b6 =>
  rd_i 3 (w.2.2 b6) <|
  rd_c (gR s4 a0 18) fun b7 =>
  rd_i 2 (w.2.2 b7) <|
  rd_c (F_X12_piece w a0 2 ((gI s4 b5 (1 : Int32).toNatClampNeg) &&& 1) (gI s4 b6 (3 : Int32).toNatClampNeg) (gI s4 b7 (2 : Int32).toNatClampNeg) 4 s4) fun s8 =>
  some s8
theorem yb_X12_kindPiece_34 (cx : rd_Cx) (w : rd_W) (a0 : Nat) (x1 : Int32) (ha0 : rd_ok w a0 12) (S : rd_S) : rd_Y cx G_X12_kindPiece (fun r => rd_P cx G_X12_kindPiece.2.2.2.2.2 0 w (rd_rV w r)) (B_X12_kindPiece_34 w a0 x1 S) 34 [(0, .inr (some a0)), (1, .inl x1)] [] w S 0 0 := by
  unfold B_X12_kindPiece_34
  refine ry_aload_n dX12_kindPiece_34 rfl ?_
  refine ry_iload_n dX12_kindPiece_35 rfl ?_
  refine ry_puti dX12_kindPiece_36 ha0 fl_RX12_199 rfl rfl rfl ?_
  refine ry_letS (fun s4 => ?_)
  refine ry_aload_n dX12_kindPiece_39 rfl ?_
  refine ry_iconst (v := 2) dX12_kindPiece_40 (by decide) ?_
  refine ry_aload_n dX12_kindPiece_41 rfl ?_
  refine ry_getr dX12_kindPiece_42 ha0 fl_RX12_77 rfl (fun b5 hb5 => ?_)
  refine ry_iconst (v := 1) dX12_kindPiece_45 (by decide) ?_
  refine ry_iald dX12_kindPiece_46 hb5 ?_
  refine ry_iconst (v := 1) dX12_kindPiece_47 (by decide) ?_
  refine ry_iand dX12_kindPiece_48 ?_
  refine ry_aload_n dX12_kindPiece_49 rfl ?_
  refine ry_getr dX12_kindPiece_50 ha0 fl_RX12_77 rfl (fun b6 hb6 => ?_)
  refine ry_iconst (v := 3) dX12_kindPiece_53 (by decide) ?_
  refine ry_iald dX12_kindPiece_54 hb6 ?_
  refine ry_aload_n dX12_kindPiece_55 rfl ?_
  refine ry_getr dX12_kindPiece_56 ha0 fl_RX12_77 rfl (fun b7 hb7 => ?_)
  refine ry_iconst (v := 2) dX12_kindPiece_59 (by decide) ?_
  refine ry_iald dX12_kindPiece_60 hb7 ?_
  refine ry_iconst (v := 4) dX12_kindPiece_61 (by decide) ?_
  refine ry_callv (fun l r9 h9 => cm_X12_piece l cx w a0 2 ((gI s4 b5 (1 : Int32).toNatClampNeg) &&& 1) (gI s4 b6 (3 : Int32).toNatClampNeg) (gI s4 b7 (2 : Int32).toNatClampNeg) 4 ha0 s4 r9 h9) (rd_runV (vs := [.inl 2, .inl ((gI s4 b5 (1 : Int32).toNatClampNeg) &&& 1), .inl (gI s4 b6 (3 : Int32).toNatClampNeg), .inl (gI s4 b7 (2 : Int32).toNatClampNeg), .inl 4]) dX12_kindPiece_62 ha0 rfl rfl yf_X12_piece mi_X12_piece ms_X12_piece ml_RX12_146 ⟨Nat.le_of_ble_eq_true rfl, Nat.le_of_ble_eq_true rfl⟩ (Nat.le_of_ble_eq_true rfl) rfl) rfl rfl (Nat.le_of_ble_eq_true rfl) (Nat.le_of_ble_eq_true rfl) (fun s8 => ?_)
  exact ry_vret dX12_kindPiece_65 rfl (Nat.le_of_ble_eq_true rfl) (Nat.le_of_ble_eq_true rfl)
def F_X12_kindPiece (w : rd_W) (a0 : Nat) (S : rd_S) : Option (rd_S) :=
  rd_c (gR S a0 18) fun b1 =>
  rd_i 1 (w.2.2 b1) <|
  rd_let ((rd_shr (gI S b1 (1 : Int32).toNatClampNeg) 4) &&& 1) fun v2 =>
  if (gI S a0 32) = (-1) then
  (B_X12_kindPiece_34 w a0 v2 S)
  else
  (if (gI S a0 32) = v2 then
  (B_X12_kindPiece_34 w a0 v2 S)
  else
  (rd_c (gR S a0 28) fun b10 =>
  rd_i 2 (w.2.2 b10) <|
  rd_let (pI S b10 (2 : Int32).toNatClampNeg 0) fun s11 =>
  B_X12_kindPiece_34 w a0 v2 s11))
theorem ym_X12_kindPiece (cx : rd_Cx) (w : rd_W) (a0 : Nat) (ha0 : rd_ok w a0 12) (S : rd_S) : rd_Y cx G_X12_kindPiece (fun r => rd_P cx G_X12_kindPiece.2.2.2.2.2 0 w (rd_rV w r)) (F_X12_kindPiece w a0 S) 0 (rd_as 0 [.inr (some a0)]) [] w S 0 0 := by
  unfold F_X12_kindPiece
  refine ry_aload_n dX12_kindPiece_0 rfl ?_
  refine ry_getr dX12_kindPiece_1 ha0 fl_RX12_77 rfl (fun b1 hb1 => ?_)
  refine ry_iconst (v := 1) dX12_kindPiece_4 (by decide) ?_
  refine ry_iald dX12_kindPiece_5 hb1 ?_
  refine ry_iconst (v := 4) dX12_kindPiece_6 (by decide) ?_
  refine ry_ishr dX12_kindPiece_7 ?_
  refine ry_iconst (v := 1) dX12_kindPiece_8 (by decide) ?_
  refine ry_iand dX12_kindPiece_9 ?_
  refine ry_istore_n dX12_kindPiece_10 (by decide) ?_
  refine ry_let (fun v2 => ?_)
  refine ry_aload_n dX12_kindPiece_11 rfl ?_
  refine ry_geti dX12_kindPiece_12 ha0 fl_RX12_199 rfl ?_
  refine ry_iconst (v := (-1)) dX12_kindPiece_15 (by decide) ?_
  refine ry_icmp_eq 34 dX12_kindPiece_16 (by decide) (fun c3 => ?_) (fun c3 => ?_)
  · exact ry_to (yb_X12_kindPiece_34 cx w a0 v2 ha0 S) ⟨rfl, rfl, trivial⟩
  · refine ry_aload_n dX12_kindPiece_19 rfl ?_
    refine ry_geti dX12_kindPiece_20 ha0 fl_RX12_199 rfl ?_
    refine ry_iload_n dX12_kindPiece_23 rfl ?_
    refine ry_icmp_eq 34 dX12_kindPiece_24 (by decide) (fun c9 => ?_) (fun c9 => ?_)
    · exact ry_to (yb_X12_kindPiece_34 cx w a0 v2 ha0 S) ⟨rfl, rfl, trivial⟩
    · refine ry_aload_n dX12_kindPiece_27 rfl ?_
      refine ry_getr dX12_kindPiece_28 ha0 fl_RX12_178 rfl (fun b10 hb10 => ?_)
      refine ry_iconst (v := 2) dX12_kindPiece_31 (by decide) ?_
      refine ry_iconst (v := 0) dX12_kindPiece_32 (by decide) ?_
      refine ry_iast dX12_kindPiece_33 hb10 ?_
      refine ry_letS (fun s11 => ?_)
      exact ry_to (yb_X12_kindPiece_34 cx w a0 v2 ha0 s11) ⟨rfl, rfl, trivial⟩
theorem cm_X12_kindPiece (l : Launch) (cx : rd_Cx) (w : rd_W) (a0 : Nat) (ha0 : rd_ok w a0 12) (S : rd_S) (r : rd_S) (h : F_X12_kindPiece w a0 S = some r) : rd_M l cx yX12_kindPiece G_X12_kindPiece 0 [.inr (some a0)] w S (rd_rV w r) :=
  rd_enter (plainFor_of_name (by decide +kernel)) rfl (fun h => by cases h) (Nat.le_of_ble_eq_true rfl) (ym_X12_kindPiece cx w a0 ha0 S r h)
