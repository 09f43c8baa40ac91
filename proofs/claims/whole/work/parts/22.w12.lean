abbrev G_J9_floorDiv_7cf53 : rd_G := (RJ9, cJ9_floorDiv_7cf53, 3, (some .int), false, { frames := 0, cells := 0, slots := 0, locals := 0 })
theorem yf_J9_floorDiv_7cf53 : rd_YL yJ9_floorDiv_7cf53 G_J9_floorDiv_7cf53 2 := ⟨rd_mem 815 (by decide +kernel) rfl, rd_mem 76 (by decide +kernel) rfl, by decide +kernel, by decide +kernel, by decide +kernel⟩
theorem mt_J9_floorDiv_7cf53 : Cond.static yJ9_floorDiv_7cf53 ∈ rd_gw := rd_mem 814 (by decide +kernel) rfl
theorem dJ9_floorDiv_7cf53_0 : decode cJ9_floorDiv_7cf53 0 = .ok (.iload_n 0, 1) := by decide +kernel
theorem dJ9_floorDiv_7cf53_1 : decode cJ9_floorDiv_7cf53 1 = .ok (.iload_n 1, 1) := by decide +kernel
theorem dJ9_floorDiv_7cf53_2 : decode cJ9_floorDiv_7cf53 2 = .ok (.idiv, 1) := by decide +kernel
theorem dJ9_floorDiv_7cf53_3 : decode cJ9_floorDiv_7cf53 3 = .ok (.istore_n 2, 1) := by decide +kernel
theorem dJ9_floorDiv_7cf53_4 : decode cJ9_floorDiv_7cf53 4 = .ok (.iload_n 0, 1) := by decide +kernel
theorem dJ9_floorDiv_7cf53_5 : decode cJ9_floorDiv_7cf53 5 = .ok (.iload_n 1, 1) := by decide +kernel
theorem dJ9_floorDiv_7cf53_6 : decode cJ9_floorDiv_7cf53 6 = .ok (.ixor, 1) := by decide +kernel
theorem dJ9_floorDiv_7cf53_7 : decode cJ9_floorDiv_7cf53 7 = .ok (.ifCond .ge 14, 3) := by decide +kernel
theorem dJ9_floorDiv_7cf53_10 : decode cJ9_floorDiv_7cf53 10 = .ok (.iload_n 2, 1) := by decide +kernel
theorem dJ9_floorDiv_7cf53_11 : decode cJ9_floorDiv_7cf53 11 = .ok (.iload_n 1, 1) := by decide +kernel
theorem dJ9_floorDiv_7cf53_12 : decode cJ9_floorDiv_7cf53 12 = .ok (.imul, 1) := by decide +kernel
theorem dJ9_floorDiv_7cf53_13 : decode cJ9_floorDiv_7cf53 13 = .ok (.iload_n 0, 1) := by decide +kernel
theorem dJ9_floorDiv_7cf53_14 : decode cJ9_floorDiv_7cf53 14 = .ok (.if_icmp .eq 7, 3) := by decide +kernel
theorem dJ9_floorDiv_7cf53_17 : decode cJ9_floorDiv_7cf53 17 = .ok (.iload_n 2, 1) := by decide +kernel
theorem dJ9_floorDiv_7cf53_18 : decode cJ9_floorDiv_7cf53 18 = .ok (.iconst 1, 1) := by decide +kernel
theorem dJ9_floorDiv_7cf53_19 : decode cJ9_floorDiv_7cf53 19 = .ok (.isub, 1) := by decide +kernel
theorem dJ9_floorDiv_7cf53_20 : decode cJ9_floorDiv_7cf53 20 = .ok (.ireturn, 1) := by decide +kernel
theorem dJ9_floorDiv_7cf53_21 : decode cJ9_floorDiv_7cf53 21 = .ok (.iload_n 2, 1) := by decide +kernel
theorem dJ9_floorDiv_7cf53_22 : decode cJ9_floorDiv_7cf53 22 = .ok (.ireturn, 1) := by decide +kernel
def B_J9_floorDiv_7cf53_21 (w : rd_W) (x2 : Int32) (S : rd_S) : Option (Int32 × rd_S) :=
  some (x2, S)
theorem yb_J9_floorDiv_7cf53_21 (cx : rd_Cx) (w : rd_W) (x2 : Int32) (S : rd_S) : rd_Y cx G_J9_floorDiv_7cf53 (fun r => rd_P cx G_J9_floorDiv_7cf53.2.2.2.2.2 0 w (rd_rI w r)) (B_J9_floorDiv_7cf53_21 w x2 S) 21 [(2, .inl x2)] [] w S 0 0 := by
  unfold B_J9_floorDiv_7cf53_21
  refine ry_iload_n dJ9_floorDiv_7cf53_21 rfl ?_
  exact ry_iret dJ9_floorDiv_7cf53_22 rfl (Nat.le_of_ble_eq_true rfl) (Nat.le_of_ble_eq_true rfl)
def F_J9_floorDiv_7cf53 (w : rd_W) (x0 : Int32) (x1 : Int32) (S : rd_S) : Option (Int32 × rd_S) :=
  rd_d x1 <|
  rd_let (x0 / x1) fun v2 =>
  if 0 ≤ (x0 ^^^ x1) then
  (B_J9_floorDiv_7cf53_21 w v2 S)
  else
  (if (v2 * x1) = x0 then
  (B_J9_floorDiv_7cf53_21 w v2 S)
  else
  (some (v2 - 1, S)))
theorem ym_J9_floorDiv_7cf53 (cx : rd_Cx) (w : rd_W) (x0 : Int32) (x1 : Int32) (S : rd_S) : rd_Y cx G_J9_floorDiv_7cf53 (fun r => rd_P cx G_J9_floorDiv_7cf53.2.2.2.2.2 0 w (rd_rI w r)) (F_J9_floorDiv_7cf53 w x0 x1 S) 0 (rd_as 0 [.inl x0, .inl x1]) [] w S 0 0 := by
  unfold F_J9_floorDiv_7cf53
  refine ry_iload_n dJ9_floorDiv_7cf53_0 rfl ?_
  refine ry_iload_n dJ9_floorDiv_7cf53_1 rfl ?_
  refine ry_guard (fun g1 => ?_)
  refine ry_idivK dJ9_floorDiv_7cf53_2 g1 ?_
  refine ry_istore_n dJ9_floorDiv_7cf53_3 (by decide) ?_
  refine ry_let (fun v2 => ?_)
  refine ry_iload_n dJ9_floorDiv_7cf53_4 rfl ?_
  refine ry_iload_n dJ9_floorDiv_7cf53_5 rfl ?_
  refine ry_ixor dJ9_floorDiv_7cf53_6 ?_
  refine ry_if_ge 21 dJ9_floorDiv_7cf53_7 (by decide) (fun c3 => ?_) (fun c3 => ?_)
  · exact ry_to (yb_J9_floorDiv_7cf53_21 cx w v2 S) ⟨rfl, trivial⟩
  · refine ry_iload_n dJ9_floorDiv_7cf53_10 rfl ?_
    refine ry_iload_n dJ9_floorDiv_7cf53_11 rfl ?_
    refine ry_imul dJ9_floorDiv_7cf53_12 ?_
    refine ry_iload_n dJ9_floorDiv_7cf53_13 rfl ?_
    refine ry_icmp_eq 21 dJ9_floorDiv_7cf53_14 (by decide) (fun c4 => ?_) (fun c4 => ?_)
    · exact ry_to (yb_J9_floorDiv_7cf53_21 cx w v2 S) ⟨rfl, trivial⟩
    · refine ry_iload_n dJ9_floorDiv_7cf53_17 rfl ?_
      refine ry_iconst (v := 1) dJ9_floorDiv_7cf53_18 (by decide) ?_
      refine ry_isub dJ9_floorDiv_7cf53_19 ?_
      exact ry_iret dJ9_floorDiv_7cf53_20 rfl (Nat.le_of_ble_eq_true rfl) (Nat.le_of_ble_eq_true rfl)
theorem cm_J9_floorDiv_7cf53 (l : Launch) (cx : rd_Cx) (w : rd_W) (x0 : Int32) (x1 : Int32) (S : rd_S) (r : Int32 × rd_S) (h : F_J9_floorDiv_7cf53 w x0 x1 S = some r) : rd_M l cx yJ9_floorDiv_7cf53 G_J9_floorDiv_7cf53 0 [.inl x0, .inl x1] w S (rd_rI w r) :=
  rd_enter (by decide +kernel) rfl (fun h => by cases h) (Nat.le_of_ble_eq_true rfl) (ym_J9_floorDiv_7cf53 cx w x0 x1 S r h)
abbrev G_X0_datePart : rd_G := (RX0, cX0_datePart, 8, (some .int), false, { frames := 1, cells := 0, slots := 0, locals := 22 })
theorem yf_X0_datePart : rd_YL yX0_datePart G_X0_datePart 2 := ⟨rd_mem 810 (by decide +kernel) rfl, rd_mem 70 (by decide +kernel) rfl, by decide +kernel, by decide +kernel, by decide +kernel⟩
theorem mt_X0_datePart : Cond.static yX0_datePart ∈ rd_gw := rd_mem 809 (by decide +kernel) rfl
theorem dX0_datePart_0 : decode cX0_datePart 0 = .ok (.iload_n 0, 1) := by decide +kernel
theorem dX0_datePart_1 : decode cX0_datePart 1 = .ok (.ldc 50, 2) := by decide +kernel
theorem dX0_datePart_3 : decode cX0_datePart 3 = .ok (.iadd, 1) := by decide +kernel
theorem dX0_datePart_4 : decode cX0_datePart 4 = .ok (.istore_n 2, 1) := by decide +kernel
theorem dX0_datePart_5 : decode cX0_datePart 5 = .ok (.iload_n 2, 1) := by decide +kernel
theorem dX0_datePart_6 : decode cX0_datePart 6 = .ok (.ldc 51, 2) := by decide +kernel
theorem dX0_datePart_8 : decode cX0_datePart 8 = .ok (.invokestatic 47, 3) := by decide +kernel
theorem dX0_datePart_11 : decode cX0_datePart 11 = .ok (.istore_n 3, 1) := by decide +kernel
theorem dX0_datePart_12 : decode cX0_datePart 12 = .ok (.iload_n 2, 1) := by decide +kernel
theorem dX0_datePart_13 : decode cX0_datePart 13 = .ok (.ldc 51, 2) := by decide +kernel
theorem dX0_datePart_15 : decode cX0_datePart 15 = .ok (.invokestatic 35, 3) := by decide +kernel
theorem dX0_datePart_18 : decode cX0_datePart 18 = .ok (.istore 4, 2) := by decide +kernel
theorem dX0_datePart_20 : decode cX0_datePart 20 = .ok (.iload 4, 2) := by decide +kernel
theorem dX0_datePart_22 : decode cX0_datePart 22 = .ok (.iload 4, 2) := by decide +kernel
theorem dX0_datePart_24 : decode cX0_datePart 24 = .ok (.sipush 1460, 3) := by decide +kernel
theorem dX0_datePart_27 : decode cX0_datePart 27 = .ok (.idiv, 1) := by decide +kernel
theorem dX0_datePart_28 : decode cX0_datePart 28 = .ok (.isub, 1) := by decide +kernel
theorem dX0_datePart_29 : decode cX0_datePart 29 = .ok (.iload 4, 2) := by decide +kernel
theorem dX0_datePart_31 : decode cX0_datePart 31 = .ok (.ldc 52, 2) := by decide +kernel
theorem dX0_datePart_33 : decode cX0_datePart 33 = .ok (.idiv, 1) := by decide +kernel
theorem dX0_datePart_34 : decode cX0_datePart 34 = .ok (.iadd, 1) := by decide +kernel
theorem dX0_datePart_35 : decode cX0_datePart 35 = .ok (.iload 4, 2) := by decide +kernel
theorem dX0_datePart_37 : decode cX0_datePart 37 = .ok (.ldc 53, 2) := by decide +kernel
theorem dX0_datePart_39 : decode cX0_datePart 39 = .ok (.idiv, 1) := by decide +kernel
theorem dX0_datePart_40 : decode cX0_datePart 40 = .ok (.isub, 1) := by decide +kernel
theorem dX0_datePart_41 : decode cX0_datePart 41 = .ok (.sipush 365, 3) := by decide +kernel
theorem dX0_datePart_44 : decode cX0_datePart 44 = .ok (.idiv, 1) := by decide +kernel
theorem dX0_datePart_45 : decode cX0_datePart 45 = .ok (.istore 5, 2) := by decide +kernel
theorem dX0_datePart_47 : decode cX0_datePart 47 = .ok (.iload 4, 2) := by decide +kernel
theorem dX0_datePart_49 : decode cX0_datePart 49 = .ok (.sipush 365, 3) := by decide +kernel
theorem dX0_datePart_52 : decode cX0_datePart 52 = .ok (.iload 5, 2) := by decide +kernel
theorem dX0_datePart_54 : decode cX0_datePart 54 = .ok (.imul, 1) := by decide +kernel
theorem dX0_datePart_55 : decode cX0_datePart 55 = .ok (.iload 5, 2) := by decide +kernel
theorem dX0_datePart_57 : decode cX0_datePart 57 = .ok (.iconst 4, 1) := by decide +kernel
theorem dX0_datePart_58 : decode cX0_datePart 58 = .ok (.idiv, 1) := by decide +kernel
theorem dX0_datePart_59 : decode cX0_datePart 59 = .ok (.iadd, 1) := by decide +kernel
theorem dX0_datePart_60 : decode cX0_datePart 60 = .ok (.iload 5, 2) := by decide +kernel
theorem dX0_datePart_62 : decode cX0_datePart 62 = .ok (.bipush 100, 2) := by decide +kernel
theorem dX0_datePart_64 : decode cX0_datePart 64 = .ok (.idiv, 1) := by decide +kernel
theorem dX0_datePart_65 : decode cX0_datePart 65 = .ok (.isub, 1) := by decide +kernel
theorem dX0_datePart_66 : decode cX0_datePart 66 = .ok (.isub, 1) := by decide +kernel
theorem dX0_datePart_67 : decode cX0_datePart 67 = .ok (.istore 6, 2) := by decide +kernel
theorem dX0_datePart_69 : decode cX0_datePart 69 = .ok (.iconst 5, 1) := by decide +kernel
theorem dX0_datePart_70 : decode cX0_datePart 70 = .ok (.iload 6, 2) := by decide +kernel
theorem dX0_datePart_72 : decode cX0_datePart 72 = .ok (.imul, 1) := by decide +kernel
theorem dX0_datePart_73 : decode cX0_datePart 73 = .ok (.iconst 2, 1) := by decide +kernel
theorem dX0_datePart_74 : decode cX0_datePart 74 = .ok (.iadd, 1) := by decide +kernel
theorem dX0_datePart_75 : decode cX0_datePart 75 = .ok (.sipush 153, 3) := by decide +kernel
theorem dX0_datePart_78 : decode cX0_datePart 78 = .ok (.idiv, 1) := by decide +kernel
theorem dX0_datePart_79 : decode cX0_datePart 79 = .ok (.istore 7, 2) := by decide +kernel
theorem dX0_datePart_81 : decode cX0_datePart 81 = .ok (.iload_n 1, 1) := by decide +kernel
theorem dX0_datePart_82 : decode cX0_datePart 82 = .ok (.lookupswitch 68 #[(0, 26), (1, 48)], 26) := by decide +kernel
theorem dX0_datePart_108 : decode cX0_datePart 108 = .ok (.sipush 400, 3) := by decide +kernel
theorem dX0_datePart_111 : decode cX0_datePart 111 = .ok (.iload_n 3, 1) := by decide +kernel
theorem dX0_datePart_112 : decode cX0_datePart 112 = .ok (.imul, 1) := by decide +kernel
theorem dX0_datePart_113 : decode cX0_datePart 113 = .ok (.iload 5, 2) := by decide +kernel
theorem dX0_datePart_115 : decode cX0_datePart 115 = .ok (.iadd, 1) := by decide +kernel
theorem dX0_datePart_116 : decode cX0_datePart 116 = .ok (.iload 7, 2) := by decide +kernel
theorem dX0_datePart_118 : decode cX0_datePart 118 = .ok (.bipush 10, 2) := by decide +kernel
theorem dX0_datePart_120 : decode cX0_datePart 120 = .ok (.if_icmp .ge 7, 3) := by decide +kernel
theorem dX0_datePart_123 : decode cX0_datePart 123 = .ok (.iconst 0, 1) := by decide +kernel
theorem dX0_datePart_124 : decode cX0_datePart 124 = .ok (.goto 4, 3) := by decide +kernel
theorem dX0_datePart_127 : decode cX0_datePart 127 = .ok (.iconst 1, 1) := by decide +kernel
theorem dX0_datePart_128 : decode cX0_datePart 128 = .ok (.iadd, 1) := by decide +kernel
theorem dX0_datePart_129 : decode cX0_datePart 129 = .ok (.ireturn, 1) := by decide +kernel
theorem dX0_datePart_130 : decode cX0_datePart 130 = .ok (.iload 7, 2) := by decide +kernel
theorem dX0_datePart_132 : decode cX0_datePart 132 = .ok (.bipush 10, 2) := by decide +kernel
theorem dX0_datePart_134 : decode cX0_datePart 134 = .ok (.if_icmp .ge 10, 3) := by decide +kernel
theorem dX0_datePart_137 : decode cX0_datePart 137 = .ok (.iload 7, 2) := by decide +kernel
theorem dX0_datePart_139 : decode cX0_datePart 139 = .ok (.iconst 3, 1) := by decide +kernel
theorem dX0_datePart_140 : decode cX0_datePart 140 = .ok (.iadd, 1) := by decide +kernel
theorem dX0_datePart_141 : decode cX0_datePart 141 = .ok (.goto 8, 3) := by decide +kernel
theorem dX0_datePart_144 : decode cX0_datePart 144 = .ok (.iload 7, 2) := by decide +kernel
theorem dX0_datePart_146 : decode cX0_datePart 146 = .ok (.bipush 9, 2) := by decide +kernel
theorem dX0_datePart_148 : decode cX0_datePart 148 = .ok (.isub, 1) := by decide +kernel
theorem dX0_datePart_149 : decode cX0_datePart 149 = .ok (.ireturn, 1) := by decide +kernel
theorem dX0_datePart_150 : decode cX0_datePart 150 = .ok (.iload 6, 2) := by decide +kernel
theorem dX0_datePart_152 : decode cX0_datePart 152 = .ok (.sipush 153, 3) := by decide +kernel
theorem dX0_datePart_155 : decode cX0_datePart 155 = .ok (.iload 7, 2) := by decide +kernel
theorem dX0_datePart_157 : decode cX0_datePart 157 = .ok (.imul, 1) := by decide +kernel
theorem dX0_datePart_158 : decode cX0_datePart 158 = .ok (.iconst 2, 1) := by decide +kernel
theorem dX0_datePart_159 : decode cX0_datePart 159 = .ok (.iadd, 1) := by decide +kernel
theorem dX0_datePart_160 : decode cX0_datePart 160 = .ok (.iconst 5, 1) := by decide +kernel
theorem dX0_datePart_161 : decode cX0_datePart 161 = .ok (.idiv, 1) := by decide +kernel
theorem dX0_datePart_162 : decode cX0_datePart 162 = .ok (.isub, 1) := by decide +kernel
theorem dX0_datePart_163 : decode cX0_datePart 163 = .ok (.iconst 1, 1) := by decide +kernel
theorem dX0_datePart_164 : decode cX0_datePart 164 = .ok (.iadd, 1) := by decide +kernel
theorem dX0_datePart_165 : decode cX0_datePart 165 = .ok (.ireturn, 1) := by decide +kernel
def B_X0_datePart_128 (w : rd_W) (t0 : Int32) (t1 : Int32) (S : rd_S) : Option (Int32 × rd_S) :=
  some (t1 + t0, S)
theorem yb_X0_datePart_128 (cx : rd_Cx) (w : rd_W) (t0 : Int32) (t1 : Int32) (S : rd_S) : rd_Y cx G_X0_datePart (fun r => rd_P cx G_X0_datePart.2.2.2.2.2 0 w (rd_rI w r)) (B_X0_datePart_128 w t0 t1 S) 128 [] [.inl t0, .inl t1] w S 0 0 := by
  unfold B_X0_datePart_128
  refine ry_iadd dX0_datePart_128 ?_
  exact ry_iret dX0_datePart_129 rfl (Nat.le_of_ble_eq_true rfl) (Nat.le_of_ble_eq_true rfl)
def B_X0_datePart_149 (w : rd_W) (t0 : Int32) (S : rd_S) : Option (Int32 × rd_S) :=
  some (t0, S)
theorem yb_X0_datePart_149 (cx : rd_Cx) (w : rd_W) (t0 : Int32) (S : rd_S) : rd_Y cx G_X0_datePart (fun r => rd_P cx G_X0_datePart.2.2.2.2.2 0 w (rd_rI w r)) (B_X0_datePart_149 w t0 S) 149 [] [.inl t0] w S 0 0 := by
  unfold B_X0_datePart_149
  exact ry_iret dX0_datePart_149 rfl (Nat.le_of_ble_eq_true rfl) (Nat.le_of_ble_eq_true rfl)
def F_X0_datePart (w : rd_W) (x0 : Int32) (x1 : Int32) (S : rd_S) : Option (Int32 × rd_S) :=
  rd_let (x0 + 678881) fun v1 =>
  rd_b (F_J9_floorDiv_7cf53 w v1 146097 S) fun v3 s2 =>
  rd_b (F_J9_floorMod_7cf53 w v1 146097 s2) fun v5 s4 =>
  rd_let ((((v5 - (v5 / 1460)) + (v5 / 36524)) - (v5 / 146096)) / 365) fun v6 =>
  rd_let (v5 - (((365 * v6) + (v6 / 4)) - (v6 / 100))) fun v7 =>
  rd_let (((5 * v7) + 2) / 153) fun v8 =>
  if x1 = 0 then
  (if 10 ≤ v8 then
  (B_X0_datePart_128 w 1 ((400 * v3) + v6) s4)
  else
  (B_X0_datePart_128 w 0 ((400 * v3) + v6) s4))
  else
  if x1 = 1 then
  (if 10 ≤ v8 then
  (B_X0_datePart_149 w (v8 - 9) s4)
  else
  (B_X0_datePart_149 w (v8 + 3) s4))
  else
  (some ((v7 - (((153 * v8) + 2) / 5)) + 1, s4))
theorem ym_X0_datePart (cx : rd_Cx) (w : rd_W) (x0 : Int32) (x1 : Int32) (S : rd_S) : rd_Y cx G_X0_datePart (fun r => rd_P cx G_X0_datePart.2.2.2.2.2 0 w (rd_rI w r)) (F_X0_datePart w x0 x1 S) 0 (rd_as 0 [.inl x0, .inl x1]) [] w S 0 0 := by
  unfold F_X0_datePart
  refine ry_iload_n dX0_datePart_0 rfl ?_
  refine ry_ldc (v := 678881) dX0_datePart_1 co_RX0_50 ?_
  refine ry_iadd dX0_datePart_3 ?_
  refine ry_istore_n dX0_datePart_4 (by decide) ?_
  refine ry_let (fun v1 => ?_)
  refine ry_iload_n dX0_datePart_5 rfl ?_
  refine ry_ldc (v := 146097) dX0_datePart_6 co_RX0_51 ?_
  refine ry_callI (fun l r9 h9 => cm_J9_floorDiv_7cf53 l cx w v1 146097 S r9 h9) (rd_runS (vs := [.inl v1, .inl 146097]) dX0_datePart_8 yf_J9_floorDiv_7cf53 mt_J9_floorDiv_7cf53 ml_RX0_47 ⟨Nat.le_of_ble_eq_true rfl, Nat.le_of_ble_eq_true rfl⟩ (Nat.le_of_ble_eq_true rfl) rfl) rfl rfl (Nat.le_of_ble_eq_true rfl) (Nat.le_of_ble_eq_true rfl) (fun v3 s2 => ?_)
  refine ry_istore_n dX0_datePart_11 (by decide) ?_
  refine ry_iload_n dX0_datePart_12 rfl ?_
  refine ry_ldc (v := 146097) dX0_datePart_13 co_RX0_51 ?_
  refine ry_callI (fun l r9 h9 => cm_J9_floorMod_7cf53 l cx w v1 146097 s2 r9 h9) (rd_runS (vs := [.inl v1, .inl 146097]) dX0_datePart_15 yf_J9_floorMod_7cf53 mt_J9_floorMod_7cf53 ml_RX0_35 ⟨Nat.le_of_ble_eq_true rfl, Nat.le_of_ble_eq_true rfl⟩ (Nat.le_of_ble_eq_true rfl) rfl) rfl rfl (Nat.le_of_ble_eq_true rfl) (Nat.le_of_ble_eq_true rfl) (fun v5 s4 => ?_)
  refine ry_istore dX0_datePart_18 (by decide) ?_
  refine ry_iload dX0_datePart_20 rfl ?_
  refine ry_iload dX0_datePart_22 rfl ?_
  refine ry_sipush (v := 1460) dX0_datePart_24 (by decide) ?_
  refine ry_idivK dX0_datePart_27 (by decide) ?_
  refine ry_isub dX0_datePart_28 ?_
  refine ry_iload dX0_datePart_29 rfl ?_
  refine ry_ldc (v := 36524) dX0_datePart_31 co_RX0_52 ?_
  refine ry_idivK dX0_datePart_33 (by decide) ?_
  refine ry_iadd dX0_datePart_34 ?_
  refine ry_iload dX0_datePart_35 rfl ?_
  refine ry_ldc (v := 146096) dX0_datePart_37 co_RX0_53 ?_
  refine ry_idivK dX0_datePart_39 (by decide) ?_
  refine ry_isub dX0_datePart_40 ?_
  refine ry_sipush (v := 365) dX0_datePart_41 (by decide) ?_
  refine ry_idivK dX0_datePart_44 (by decide) ?_
  refine ry_istore dX0_datePart_45 (by decide) ?_
  refine ry_let (fun v6 => ?_)
  refine ry_iload dX0_datePart_47 rfl ?_
  refine ry_sipush (v := 365) dX0_datePart_49 (by decide) ?_
  refine ry_iload dX0_datePart_52 rfl ?_
  refine ry_imul dX0_datePart_54 ?_
  refine ry_iload dX0_datePart_55 rfl ?_
  refine ry_iconst (v := 4) dX0_datePart_57 (by decide) ?_
  refine ry_idivK dX0_datePart_58 (by decide) ?_
  refine ry_iadd dX0_datePart_59 ?_
  refine ry_iload dX0_datePart_60 rfl ?_
  refine ry_bipush (v := 100) dX0_datePart_62 (by decide) ?_
  refine ry_idivK dX0_datePart_64 (by decide) ?_
  refine ry_isub dX0_datePart_65 ?_
  refine ry_isub dX0_datePart_66 ?_
  refine ry_istore dX0_datePart_67 (by decide) ?_
  refine ry_let (fun v7 => ?_)
  refine ry_iconst (v := 5) dX0_datePart_69 (by decide) ?_
  refine ry_iload dX0_datePart_70 rfl ?_
  refine ry_imul dX0_datePart_72 ?_
  refine ry_iconst (v := 2) dX0_datePart_73 (by decide) ?_
  refine ry_iadd dX0_datePart_74 ?_
  refine ry_sipush (v := 153) dX0_datePart_75 (by decide) ?_
  refine ry_idivK dX0_datePart_78 (by decide) ?_
  refine ry_istore dX0_datePart_79 (by decide) ?_
  refine ry_let (fun v8 => ?_)
  refine ry_iload_n dX0_datePart_81 rfl ?_
  refine ry_split _ (fun c9 => ?_) (fun c9 => ?_)
  · refine ry_lsw (off := 26) 108 dX0_datePart_82 (by decide) (by rw [c9]; decide) (by decide) ?_
    refine ry_sipush (v := 400) dX0_datePart_108 (by decide) ?_
    refine ry_iload_n dX0_datePart_111 rfl ?_
    refine ry_imul dX0_datePart_112 ?_
    refine ry_iload dX0_datePart_113 rfl ?_
    refine ry_iadd dX0_datePart_115 ?_
    refine ry_iload dX0_datePart_116 rfl ?_
    refine ry_bipush (v := 10) dX0_datePart_118 (by decide) ?_
    refine ry_icmp_ge 127 dX0_datePart_120 (by decide) (fun c10 => ?_) (fun c10 => ?_)
    · refine ry_iconst (v := 1) dX0_datePart_127 (by decide) ?_
      exact ry_to (yb_X0_datePart_128 cx w 1 ((400 * v3) + v6) s4) trivial
    · refine ry_iconst (v := 0) dX0_datePart_123 (by decide) ?_
      refine ry_goto 128 dX0_datePart_124 (by decide) ?_
      exact ry_to (yb_X0_datePart_128 cx w 0 ((400 * v3) + v6) s4) trivial
  refine ry_split _ (fun c11 => ?_) (fun c11 => ?_)
  · refine ry_lsw (off := 48) 130 dX0_datePart_82 (by decide) (by rw [c11]; decide) (by decide) ?_
    refine ry_iload dX0_datePart_130 rfl ?_
    refine ry_bipush (v := 10) dX0_datePart_132 (by decide) ?_
    refine ry_icmp_ge 144 dX0_datePart_134 (by decide) (fun c12 => ?_) (fun c12 => ?_)
    · refine ry_iload dX0_datePart_144 rfl ?_
      refine ry_bipush (v := 9) dX0_datePart_146 (by decide) ?_
      refine ry_isub dX0_datePart_148 ?_
      exact ry_to (yb_X0_datePart_149 cx w (v8 - 9) s4) trivial
    · refine ry_iload dX0_datePart_137 rfl ?_
      refine ry_iconst (v := 3) dX0_datePart_139 (by decide) ?_
      refine ry_iadd dX0_datePart_140 ?_
      refine ry_goto 149 dX0_datePart_141 (by decide) ?_
      exact ry_to (yb_X0_datePart_149 cx w (v8 + 3) s4) trivial
  refine ry_lsw (off := 68) 150 dX0_datePart_82 (by decide) (by show Op.lookupswitch.offset [(0, 26), (1, 48)] _ _ = _; rw [lv_osw c9 (by decide), lv_osw c11 (by decide)]; rfl) (by decide) ?_
  refine ry_iload dX0_datePart_150 rfl ?_
  refine ry_sipush (v := 153) dX0_datePart_152 (by decide) ?_
  refine ry_iload dX0_datePart_155 rfl ?_
  refine ry_imul dX0_datePart_157 ?_
  refine ry_iconst (v := 2) dX0_datePart_158 (by decide) ?_
  refine ry_iadd dX0_datePart_159 ?_
  refine ry_iconst (v := 5) dX0_datePart_160 (by decide) ?_
  refine ry_idivK dX0_datePart_161 (by decide) ?_
  refine ry_isub dX0_datePart_162 ?_
  refine ry_iconst (v := 1) dX0_datePart_163 (by decide) ?_
  refine ry_iadd dX0_datePart_164 ?_
  exact ry_iret dX0_datePart_165 rfl (Nat.le_of_ble_eq_true rfl) (Nat.le_of_ble_eq_true rfl)
theorem cm_X0_datePart (l : Launch) (cx : rd_Cx) (w : rd_W) (x0 : Int32) (x1 : Int32) (S : rd_S) (r : Int32 × rd_S) (h : F_X0_datePart w x0 x1 S = some r) : rd_M l cx yX0_datePart G_X0_datePart 0 [.inl x0, .inl x1] w S (rd_rI w r) :=
  rd_enter (plainFor_of_name (by decide +kernel)) rfl (fun h => by cases h) (Nat.le_of_ble_eq_true rfl) (ym_X0_datePart cx w x0 x1 S r h)
abbrev G_X0_localMinutes : rd_G := (RX0, cX0_localMinutes, 1, (some .int), false, { frames := 0, cells := 0, slots := 0, locals := 0 })
theorem yf_X0_localMinutes : rd_YL yX0_localMinutes G_X0_localMinutes 0 := ⟨rd_mem 826 (by decide +kernel) rfl, rd_mem 70 (by decide +kernel) rfl, by decide +kernel, by decide +kernel, by decide +kernel⟩
theorem mi_X0_localMinutes : Cond.instanceMethod yX0_localMinutes ∈ rd_gw := rd_mem 825 (by decide +kernel) rfl
theorem ms_X0_localMinutes : Cond.selects (MethodName.cls yX0_localMinutes) yX0_localMinutes yX0_localMinutes ∈ rd_gw := rd_mem 34 (by decide +kernel) rfl
theorem dX0_localMinutes_0 : decode cX0_localMinutes 0 = .ok (.aload_n 0, 1) := by decide +kernel
theorem dX0_localMinutes_1 : decode cX0_localMinutes 1 = .ok (.getfield 22, 3) := by decide +kernel
theorem dX0_localMinutes_4 : decode cX0_localMinutes 4 = .ok (.bipush 60, 2) := by decide +kernel
theorem dX0_localMinutes_6 : decode cX0_localMinutes 6 = .ok (.imul, 1) := by decide +kernel
theorem dX0_localMinutes_7 : decode cX0_localMinutes 7 = .ok (.aload_n 0, 1) := by decide +kernel
theorem dX0_localMinutes_8 : decode cX0_localMinutes 8 = .ok (.getfield 25, 3) := by decide +kernel
theorem dX0_localMinutes_11 : decode cX0_localMinutes 11 = .ok (.iadd, 1) := by decide +kernel
theorem dX0_localMinutes_12 : decode cX0_localMinutes 12 = .ok (.bipush 30, 2) := by decide +kernel
theorem dX0_localMinutes_14 : decode cX0_localMinutes 14 = .ok (.aload_n 0, 1) := by decide +kernel
theorem dX0_localMinutes_15 : decode cX0_localMinutes 15 = .ok (.getfield 28, 3) := by decide +kernel
theorem dX0_localMinutes_18 : decode cX0_localMinutes 18 = .ok (.imul, 1) := by decide +kernel
theorem dX0_localMinutes_19 : decode cX0_localMinutes 19 = .ok (.iadd, 1) := by decide +kernel
theorem dX0_localMinutes_20 : decode cX0_localMinutes 20 = .ok (.ireturn, 1) := by decide +kernel
def F_X0_localMinutes (w : rd_W) (a0 : Nat) (S : rd_S) : Option (Int32 × rd_S) :=
  some ((((gI S a0 1) * 60) + (gI S a0 2)) + (30 * (gI S a0 3)), S)
theorem ym_X0_localMinutes (cx : rd_Cx) (w : rd_W) (a0 : Nat) (ha0 : rd_ok w a0 0) (S : rd_S) : rd_Y cx G_X0_localMinutes (fun r => rd_P cx G_X0_localMinutes.2.2.2.2.2 0 w (rd_rI w r)) (F_X0_localMinutes w a0 S) 0 (rd_as 0 [.inr (some a0)]) [] w S 0 0 := by
  unfold F_X0_localMinutes
  refine ry_aload_n dX0_localMinutes_0 rfl ?_
  refine ry_geti dX0_localMinutes_1 ha0 fl_RX0_22 rfl ?_
  refine ry_bipush (v := 60) dX0_localMinutes_4 (by decide) ?_
  refine ry_imul dX0_localMinutes_6 ?_
  refine ry_aload_n dX0_localMinutes_7 rfl ?_
  refine ry_geti dX0_localMinutes_8 ha0 fl_RX0_25 rfl ?_
  refine ry_iadd dX0_localMinutes_11 ?_
  refine ry_bipush (v := 30) dX0_localMinutes_12 (by decide) ?_
  refine ry_aload_n dX0_localMinutes_14 rfl ?_
  refine ry_geti dX0_localMinutes_15 ha0 fl_RX0_28 rfl ?_
  refine ry_imul dX0_localMinutes_18 ?_
  refine ry_iadd dX0_localMinutes_19 ?_
  exact ry_iret dX0_localMinutes_20 rfl (Nat.le_of_ble_eq_true rfl) (Nat.le_of_ble_eq_true rfl)
theorem cm_X0_localMinutes (l : Launch) (cx : rd_Cx) (w : rd_W) (a0 : Nat) (ha0 : rd_ok w a0 0) (S : rd_S) (r : Int32 × rd_S) (h : F_X0_localMinutes w a0 S = some r) : rd_M l cx yX0_localMinutes G_X0_localMinutes 0 [.inr (some a0)] w S (rd_rI w r) :=
  rd_enter (plainFor_of_name (by decide +kernel)) rfl (fun h => by cases h) (Nat.le_of_ble_eq_true rfl) (ym_X0_localMinutes cx w a0 ha0 S r h)
abbrev G_X0_localDay : rd_G := (RX0, cX0_localDay, 1, (some .int), false, { frames := 1, cells := 0, slots := 0, locals := 22 })
theorem yf_X0_localDay : rd_YL yX0_localDay G_X0_localDay 0 := ⟨rd_mem 822 (by decide +kernel) rfl, rd_mem 70 (by decide +kernel) rfl, by decide +kernel, by decide +kernel, by decide +kernel⟩
theorem mi_X0_localDay : Cond.instanceMethod yX0_localDay ∈ rd_gw := rd_mem 821 (by decide +kernel) rfl
theorem ms_X0_localDay : Cond.selects (MethodName.cls yX0_localDay) yX0_localDay yX0_localDay ∈ rd_gw := rd_mem 33 (by decide +kernel) rfl
theorem dX0_localDay_0 : decode cX0_localDay 0 = .ok (.aload_n 0, 1) := by decide +kernel
theorem dX0_localDay_1 : decode cX0_localDay 1 = .ok (.getfield 19, 3) := by decide +kernel
theorem dX0_localDay_4 : decode cX0_localDay 4 = .ok (.aload_n 0, 1) := by decide +kernel
theorem dX0_localDay_5 : decode cX0_localDay 5 = .ok (.invokevirtual 44, 3) := by decide +kernel
theorem dX0_localDay_8 : decode cX0_localDay 8 = .ok (.sipush 1440, 3) := by decide +kernel
theorem dX0_localDay_11 : decode cX0_localDay 11 = .ok (.invokestatic 47, 3) := by decide +kernel
theorem dX0_localDay_14 : decode cX0_localDay 14 = .ok (.iadd, 1) := by decide +kernel
theorem dX0_localDay_15 : decode cX0_localDay 15 = .ok (.ireturn, 1) := by decide +kernel
def F_X0_localDay (w : rd_W) (a0 : Nat) (S : rd_S) : Option (Int32 × rd_S) :=
  rd_b (F_X0_localMinutes w a0 S) fun v2 s1 =>
  rd_b (F_J9_floorDiv_7cf53 w v2 1440 s1) fun v4 s3 =>
  some ((gI S a0 0) + v4, s3)
theorem ym_X0_localDay (cx : rd_Cx) (w : rd_W) (a0 : Nat) (ha0 : rd_ok w a0 0) (S : rd_S) : rd_Y cx G_X0_localDay (fun r => rd_P cx G_X0_localDay.2.2.2.2.2 0 w (rd_rI w r)) (F_X0_localDay w a0 S) 0 (rd_as 0 [.inr (some a0)]) [] w S 0 0 := by
  unfold F_X0_localDay
  refine ry_aload_n dX0_localDay_0 rfl ?_
  refine ry_geti dX0_localDay_1 ha0 fl_RX0_19 rfl ?_
  refine ry_aload_n dX0_localDay_4 rfl ?_
  refine ry_callI (fun l r9 h9 => cm_X0_localMinutes l cx w a0 ha0 S r9 h9) (rd_runV (vs := []) dX0_localDay_5 ha0 rfl rfl yf_X0_localMinutes mi_X0_localMinutes ms_X0_localMinutes ml_RX0_44 ⟨Nat.le_of_ble_eq_true rfl, Nat.le_of_ble_eq_true rfl⟩ (Nat.le_of_ble_eq_true rfl) rfl) rfl rfl (Nat.le_of_ble_eq_true rfl) (Nat.le_of_ble_eq_true rfl) (fun v2 s1 => ?_)
  refine ry_sipush (v := 1440) dX0_localDay_8 (by decide) ?_
  refine ry_callI (fun l r9 h9 => cm_J9_floorDiv_7cf53 l cx w v2 1440 s1 r9 h9) (rd_runS (vs := [.inl v2, .inl 1440]) dX0_localDay_11 yf_J9_floorDiv_7cf53 mt_J9_floorDiv_7cf53 ml_RX0_47 ⟨Nat.le_of_ble_eq_true rfl, Nat.le_of_ble_eq_true rfl⟩ (Nat.le_of_ble_eq_true rfl) rfl) rfl rfl (Nat.le_of_ble_eq_true rfl) (Nat.le_of_ble_eq_true rfl) (fun v4 s3 => ?_)
  refine ry_iadd dX0_localDay_14 ?_
  exact ry_iret dX0_localDay_15 rfl (Nat.le_of_ble_eq_true rfl) (Nat.le_of_ble_eq_true rfl)
theorem cm_X0_localDay (l : Launch) (cx : rd_Cx) (w : rd_W) (a0 : Nat) (ha0 : rd_ok w a0 0) (S : rd_S) (r : Int32 × rd_S) (h : F_X0_localDay w a0 S = some r) : rd_M l cx yX0_localDay G_X0_localDay 0 [.inr (some a0)] w S (rd_rI w r) :=
  rd_enter (plainFor_of_name (by decide +kernel)) rfl (fun h => by cases h) (Nat.le_of_ble_eq_true rfl) (ym_X0_localDay cx w a0 ha0 S r h)
abbrev G_X0_tell : rd_G := (RX0, cX0_tell, 2, (some .int), false, { frames := 2, cells := 0, slots := 0, locals := 49 })
theorem yf_X0_tell : rd_YL yX0_tell G_X0_tell 1 := ⟨rd_mem 807 (by decide +kernel) rfl, rd_mem 70 (by decide +kernel) rfl, by decide +kernel, by decide +kernel, by decide +kernel⟩
theorem mi_X0_tell : Cond.instanceMethod yX0_tell ∈ rd_gw := rd_mem 805 (by decide +kernel) rfl
theorem ms_X0_tell : Cond.selects (MethodName.cls yX0_tell) yX0_tell yX0_tell ∈ rd_gw := rd_mem 806 (by decide +kernel) rfl
theorem dX0_tell_0 : decode cX0_tell 0 = .ok (.aload_n 0, 1) := by decide +kernel
theorem dX0_tell_1 : decode cX0_tell 1 = .ok (.getfield 9, 3) := by decide +kernel
theorem dX0_tell_4 : decode cX0_tell 4 = .ok (.ifCond .ne 5, 3) := by decide +kernel
theorem dX0_tell_7 : decode cX0_tell 7 = .ok (.iconst (-1), 1) := by decide +kernel
theorem dX0_tell_8 : decode cX0_tell 8 = .ok (.ireturn, 1) := by decide +kernel
theorem dX0_tell_9 : decode cX0_tell 9 = .ok (.iload_n 1, 1) := by decide +kernel
theorem dX0_tell_10 : decode cX0_tell 10 = .ok (.tableswitch 176 0 12 #[66, 71, 76, 81, 86, 95, 104, 113, 125, 134, 143, 152, 166], 66) := by decide +kernel
theorem dX0_tell_76 : decode cX0_tell 76 = .ok (.aload_n 0, 1) := by decide +kernel
theorem dX0_tell_77 : decode cX0_tell 77 = .ok (.getfield 19, 3) := by decide +kernel
theorem dX0_tell_80 : decode cX0_tell 80 = .ok (.ireturn, 1) := by decide +kernel
theorem dX0_tell_81 : decode cX0_tell 81 = .ok (.aload_n 0, 1) := by decide +kernel
theorem dX0_tell_82 : decode cX0_tell 82 = .ok (.getfield 22, 3) := by decide +kernel
theorem dX0_tell_85 : decode cX0_tell 85 = .ok (.ireturn, 1) := by decide +kernel
theorem dX0_tell_86 : decode cX0_tell 86 = .ok (.aload_n 0, 1) := by decide +kernel
theorem dX0_tell_87 : decode cX0_tell 87 = .ok (.getfield 25, 3) := by decide +kernel
theorem dX0_tell_90 : decode cX0_tell 90 = .ok (.ireturn, 1) := by decide +kernel
theorem dX0_tell_91 : decode cX0_tell 91 = .ok (.aload_n 0, 1) := by decide +kernel
theorem dX0_tell_92 : decode cX0_tell 92 = .ok (.getfield 28, 3) := by decide +kernel
theorem dX0_tell_95 : decode cX0_tell 95 = .ok (.ireturn, 1) := by decide +kernel
theorem dX0_tell_96 : decode cX0_tell 96 = .ok (.aload_n 0, 1) := by decide +kernel
theorem dX0_tell_97 : decode cX0_tell 97 = .ok (.getfield 19, 3) := by decide +kernel
theorem dX0_tell_100 : decode cX0_tell 100 = .ok (.iconst 0, 1) := by decide +kernel
theorem dX0_tell_101 : decode cX0_tell 101 = .ok (.invokestatic 31, 3) := by decide +kernel
theorem dX0_tell_104 : decode cX0_tell 104 = .ok (.ireturn, 1) := by decide +kernel
theorem dX0_tell_105 : decode cX0_tell 105 = .ok (.aload_n 0, 1) := by decide +kernel
theorem dX0_tell_106 : decode cX0_tell 106 = .ok (.getfield 19, 3) := by decide +kernel
theorem dX0_tell_109 : decode cX0_tell 109 = .ok (.iconst 1, 1) := by decide +kernel
theorem dX0_tell_110 : decode cX0_tell 110 = .ok (.invokestatic 31, 3) := by decide +kernel
theorem dX0_tell_113 : decode cX0_tell 113 = .ok (.ireturn, 1) := by decide +kernel
theorem dX0_tell_114 : decode cX0_tell 114 = .ok (.aload_n 0, 1) := by decide +kernel
theorem dX0_tell_115 : decode cX0_tell 115 = .ok (.getfield 19, 3) := by decide +kernel
theorem dX0_tell_118 : decode cX0_tell 118 = .ok (.iconst 2, 1) := by decide +kernel
theorem dX0_tell_119 : decode cX0_tell 119 = .ok (.invokestatic 31, 3) := by decide +kernel
theorem dX0_tell_122 : decode cX0_tell 122 = .ok (.ireturn, 1) := by decide +kernel
theorem dX0_tell_123 : decode cX0_tell 123 = .ok (.aload_n 0, 1) := by decide +kernel
theorem dX0_tell_124 : decode cX0_tell 124 = .ok (.getfield 19, 3) := by decide +kernel
theorem dX0_tell_127 : decode cX0_tell 127 = .ok (.iconst 2, 1) := by decide +kernel
theorem dX0_tell_128 : decode cX0_tell 128 = .ok (.iadd, 1) := by decide +kernel
theorem dX0_tell_129 : decode cX0_tell 129 = .ok (.bipush 7, 2) := by decide +kernel
theorem dX0_tell_131 : decode cX0_tell 131 = .ok (.invokestatic 35, 3) := by decide +kernel
theorem dX0_tell_134 : decode cX0_tell 134 = .ok (.ireturn, 1) := by decide +kernel
theorem dX0_tell_135 : decode cX0_tell 135 = .ok (.aload_n 0, 1) := by decide +kernel
theorem dX0_tell_136 : decode cX0_tell 136 = .ok (.invokevirtual 40, 3) := by decide +kernel
theorem dX0_tell_139 : decode cX0_tell 139 = .ok (.iconst 0, 1) := by decide +kernel
theorem dX0_tell_140 : decode cX0_tell 140 = .ok (.invokestatic 31, 3) := by decide +kernel
theorem dX0_tell_143 : decode cX0_tell 143 = .ok (.ireturn, 1) := by decide +kernel
theorem dX0_tell_144 : decode cX0_tell 144 = .ok (.aload_n 0, 1) := by decide +kernel
theorem dX0_tell_145 : decode cX0_tell 145 = .ok (.invokevirtual 40, 3) := by decide +kernel
theorem dX0_tell_148 : decode cX0_tell 148 = .ok (.iconst 1, 1) := by decide +kernel
theorem dX0_tell_149 : decode cX0_tell 149 = .ok (.invokestatic 31, 3) := by decide +kernel
theorem dX0_tell_152 : decode cX0_tell 152 = .ok (.ireturn, 1) := by decide +kernel
theorem dX0_tell_153 : decode cX0_tell 153 = .ok (.aload_n 0, 1) := by decide +kernel
theorem dX0_tell_154 : decode cX0_tell 154 = .ok (.invokevirtual 40, 3) := by decide +kernel
theorem dX0_tell_157 : decode cX0_tell 157 = .ok (.iconst 2, 1) := by decide +kernel
theorem dX0_tell_158 : decode cX0_tell 158 = .ok (.invokestatic 31, 3) := by decide +kernel
theorem dX0_tell_161 : decode cX0_tell 161 = .ok (.ireturn, 1) := by decide +kernel
theorem dX0_tell_162 : decode cX0_tell 162 = .ok (.aload_n 0, 1) := by decide +kernel
theorem dX0_tell_163 : decode cX0_tell 163 = .ok (.invokevirtual 44, 3) := by decide +kernel
theorem dX0_tell_166 : decode cX0_tell 166 = .ok (.sipush 1440, 3) := by decide +kernel
theorem dX0_tell_169 : decode cX0_tell 169 = .ok (.invokestatic 35, 3) := by decide +kernel
theorem dX0_tell_172 : decode cX0_tell 172 = .ok (.bipush 60, 2) := by decide +kernel
theorem dX0_tell_174 : decode cX0_tell 174 = .ok (.idiv, 1) := by decide +kernel
theorem dX0_tell_175 : decode cX0_tell 175 = .ok (.ireturn, 1) := by decide +kernel
theorem dX0_tell_176 : decode cX0_tell 176 = .ok (.aload_n 0, 1) := by decide +kernel
theorem dX0_tell_177 : decode cX0_tell 177 = .ok (.invokevirtual 44, 3) := by decide +kernel
theorem dX0_tell_180 : decode cX0_tell 180 = .ok (.bipush 60, 2) := by decide +kernel
theorem dX0_tell_182 : decode cX0_tell 182 = .ok (.invokestatic 35, 3) := by decide +kernel
theorem dX0_tell_185 : decode cX0_tell 185 = .ok (.ireturn, 1) := by decide +kernel
theorem dX0_tell_186 : decode cX0_tell 186 = .ok (.iconst (-1), 1) := by decide +kernel
theorem dX0_tell_187 : decode cX0_tell 187 = .ok (.ireturn, 1) := by decide +kernel
def F_X0_tell (w : rd_W) (a0 : Nat) (x1 : Int32) (S : rd_S) : Option (Int32 × rd_S) :=
  if (gI S a0 4) = 0 then
  (some ((-1), S))
  else
  (if x1 = 0 then
  (some (gI S a0 0, S))
  else
  if x1 = 1 then
  (some (gI S a0 1, S))
  else
  if x1 = 2 then
  (some (gI S a0 2, S))
  else
  if x1 = 3 then
  (some (gI S a0 3, S))
  else
  if x1 = 4 then
  (rd_b (F_X0_datePart w (gI S a0 0) 0 S) fun v8 s7 =>
  some (v8, s7))
  else
  if x1 = 5 then
  (rd_b (F_X0_datePart w (gI S a0 0) 1 S) fun v11 s10 =>
  some (v11, s10))
  else
  if x1 = 6 then
  (rd_b (F_X0_datePart w (gI S a0 0) 2 S) fun v14 s13 =>
  some (v14, s13))
  else
  if x1 = 7 then
  (rd_b (F_J9_floorMod_7cf53 w ((gI S a0 0) + 2) 7 S) fun v17 s16 =>
  some (v17, s16))
  else
  if x1 = 8 then
  (rd_b (F_X0_localDay w a0 S) fun v20 s19 =>
  rd_b (F_X0_datePart w v20 0 s19) fun v22 s21 =>
  some (v22, s21))
  else
  if x1 = 9 then
  (rd_b (F_X0_localDay w a0 S) fun v25 s24 =>
  rd_b (F_X0_datePart w v25 1 s24) fun v27 s26 =>
  some (v27, s26))
  else
  if x1 = 10 then
  (rd_b (F_X0_localDay w a0 S) fun v30 s29 =>
  rd_b (F_X0_datePart w v30 2 s29) fun v32 s31 =>
  some (v32, s31))
  else
  if x1 = 11 then
  (rd_b (F_X0_localMinutes w a0 S) fun v35 s34 =>
  rd_b (F_J9_floorMod_7cf53 w v35 1440 s34) fun v37 s36 =>
  some (v37 / 60, s36))
  else
  if x1 = 12 then
  (rd_b (F_X0_localMinutes w a0 S) fun v40 s39 =>
  rd_b (F_J9_floorMod_7cf53 w v40 60 s39) fun v42 s41 =>
  some (v42, s41))
  else
  (some ((-1), S)))
theorem ym_X0_tell (cx : rd_Cx) (w : rd_W) (a0 : Nat) (x1 : Int32) (ha0 : rd_ok w a0 0) (S : rd_S) : rd_Y cx G_X0_tell (fun r => rd_P cx G_X0_tell.2.2.2.2.2 0 w (rd_rI w r)) (F_X0_tell w a0 x1 S) 0 (rd_as 0 [.inr (some a0), .inl x1]) [] w S 0 0 := by
  unfold F_X0_tell
  refine ry_aload_n dX0_tell_0 rfl ?_
  refine ry_geti dX0_tell_1 ha0 fl_RX0_9 rfl ?_
  refine ry_if_ne 9 dX0_tell_4 (by decide) (fun c1 => ?_) (fun c1 => ?_)
  · refine ry_iconst (v := (-1)) dX0_tell_7 (by decide) ?_
    exact ry_iret dX0_tell_8 rfl (Nat.le_of_ble_eq_true rfl) (Nat.le_of_ble_eq_true rfl)
  · refine ry_iload_n dX0_tell_9 rfl ?_
    refine ry_split _ (fun c2 => ?_) (fun c2 => ?_)
    · refine ry_tsIn 76 0 c2 dX0_tell_10 (by decide) (by decide) rfl (by decide) ?_
      refine ry_aload_n dX0_tell_76 rfl ?_
      refine ry_geti dX0_tell_77 ha0 fl_RX0_19 rfl ?_
      exact ry_iret dX0_tell_80 rfl (Nat.le_of_ble_eq_true rfl) (Nat.le_of_ble_eq_true rfl)
    refine ry_split _ (fun c3 => ?_) (fun c3 => ?_)
    · refine ry_tsIn 81 1 c3 dX0_tell_10 (by decide) (by decide) rfl (by decide) ?_
      refine ry_aload_n dX0_tell_81 rfl ?_
      refine ry_geti dX0_tell_82 ha0 fl_RX0_22 rfl ?_
      exact ry_iret dX0_tell_85 rfl (Nat.le_of_ble_eq_true rfl) (Nat.le_of_ble_eq_true rfl)
    refine ry_split _ (fun c4 => ?_) (fun c4 => ?_)
    · refine ry_tsIn 86 2 c4 dX0_tell_10 (by decide) (by decide) rfl (by decide) ?_
      refine ry_aload_n dX0_tell_86 rfl ?_
      refine ry_geti dX0_tell_87 ha0 fl_RX0_25 rfl ?_
      exact ry_iret dX0_tell_90 rfl (Nat.le_of_ble_eq_true rfl) (Nat.le_of_ble_eq_true rfl)
    refine ry_split _ (fun c5 => ?_) (fun c5 => ?_)
    · refine ry_tsIn 91 3 c5 dX0_tell_10 (by decide) (by decide) rfl (by decide) ?_
      refine ry_aload_n dX0_tell_91 rfl ?_
      refine ry_geti dX0_tell_92 ha0 fl_RX0_28 rfl ?_
      exact ry_iret dX0_tell_95 rfl (Nat.le_of_ble_eq_true rfl) (Nat.le_of_ble_eq_true rfl)
    refine ry_split _ (fun c6 => ?_) (fun c6 => ?_)
    · refine ry_tsIn 96 4 c6 dX0_tell_10 (by decide) (by decide) rfl (by decide) ?_
      refine ry_aload_n dX0_tell_96 rfl ?_
      refine ry_geti dX0_tell_97 ha0 fl_RX0_19 rfl ?_
      refine ry_iconst (v := 0) dX0_tell_100 (by decide) ?_
      refine ry_callI (fun l r9 h9 => cm_X0_datePart l cx w (gI S a0 0) 0 S r9 h9) (rd_runS (vs := [.inl (gI S a0 0), .inl 0]) dX0_tell_101 yf_X0_datePart mt_X0_datePart ml_RX0_31 ⟨Nat.le_of_ble_eq_true rfl, Nat.le_of_ble_eq_true rfl⟩ (Nat.le_of_ble_eq_true rfl) rfl) rfl rfl (Nat.le_of_ble_eq_true rfl) (Nat.le_of_ble_eq_true rfl) (fun v8 s7 => ?_)
      exact ry_iret dX0_tell_104 rfl (Nat.le_of_ble_eq_true rfl) (Nat.le_of_ble_eq_true rfl)
    refine ry_split _ (fun c9 => ?_) (fun c9 => ?_)
    · refine ry_tsIn 105 5 c9 dX0_tell_10 (by decide) (by decide) rfl (by decide) ?_
      refine ry_aload_n dX0_tell_105 rfl ?_
      refine ry_geti dX0_tell_106 ha0 fl_RX0_19 rfl ?_
      refine ry_iconst (v := 1) dX0_tell_109 (by decide) ?_
      refine ry_callI (fun l r9 h9 => cm_X0_datePart l cx w (gI S a0 0) 1 S r9 h9) (rd_runS (vs := [.inl (gI S a0 0), .inl 1]) dX0_tell_110 yf_X0_datePart mt_X0_datePart ml_RX0_31 ⟨Nat.le_of_ble_eq_true rfl, Nat.le_of_ble_eq_true rfl⟩ (Nat.le_of_ble_eq_true rfl) rfl) rfl rfl (Nat.le_of_ble_eq_true rfl) (Nat.le_of_ble_eq_true rfl) (fun v11 s10 => ?_)
      exact ry_iret dX0_tell_113 rfl (Nat.le_of_ble_eq_true rfl) (Nat.le_of_ble_eq_true rfl)
    refine ry_split _ (fun c12 => ?_) (fun c12 => ?_)
    · refine ry_tsIn 114 6 c12 dX0_tell_10 (by decide) (by decide) rfl (by decide) ?_
      refine ry_aload_n dX0_tell_114 rfl ?_
      refine ry_geti dX0_tell_115 ha0 fl_RX0_19 rfl ?_
      refine ry_iconst (v := 2) dX0_tell_118 (by decide) ?_
      refine ry_callI (fun l r9 h9 => cm_X0_datePart l cx w (gI S a0 0) 2 S r9 h9) (rd_runS (vs := [.inl (gI S a0 0), .inl 2]) dX0_tell_119 yf_X0_datePart mt_X0_datePart ml_RX0_31 ⟨Nat.le_of_ble_eq_true rfl, Nat.le_of_ble_eq_true rfl⟩ (Nat.le_of_ble_eq_true rfl) rfl) rfl rfl (Nat.le_of_ble_eq_true rfl) (Nat.le_of_ble_eq_true rfl) (fun v14 s13 => ?_)
      exact ry_iret dX0_tell_122 rfl (Nat.le_of_ble_eq_true rfl) (Nat.le_of_ble_eq_true rfl)
    refine ry_split _ (fun c15 => ?_) (fun c15 => ?_)
    · refine ry_tsIn 123 7 c15 dX0_tell_10 (by decide) (by decide) rfl (by decide) ?_
      refine ry_aload_n dX0_tell_123 rfl ?_
      refine ry_geti dX0_tell_124 ha0 fl_RX0_19 rfl ?_
      refine ry_iconst (v := 2) dX0_tell_127 (by decide) ?_
      refine ry_iadd dX0_tell_128 ?_
      refine ry_bipush (v := 7) dX0_tell_129 (by decide) ?_
      refine ry_callI (fun l r9 h9 => cm_J9_floorMod_7cf53 l cx w ((gI S a0 0) + 2) 7 S r9 h9) (rd_runS (vs := [.inl ((gI S a0 0) + 2), .inl 7]) dX0_tell_131 yf_J9_floorMod_7cf53 mt_J9_floorMod_7cf53 ml_RX0_35 ⟨Nat.le_of_ble_eq_true rfl, Nat.le_of_ble_eq_true rfl⟩ (Nat.le_of_ble_eq_true rfl) rfl) rfl rfl (Nat.le_of_ble_eq_true rfl) (Nat.le_of_ble_eq_true rfl) (fun v17 s16 => ?_)
      exact ry_iret dX0_tell_134 rfl (Nat.le_of_ble_eq_true rfl) (Nat.le_of_ble_eq_true rfl)
    refine ry_split _ (fun c18 => ?_) (fun c18 => ?_)
    · refine ry_tsIn 135 8 c18 dX0_tell_10 (by decide) (by decide) rfl (by decide) ?_
      refine ry_aload_n dX0_tell_135 rfl ?_
      refine ry_callI (fun l r9 h9 => cm_X0_localDay l cx w a0 ha0 S r9 h9) (rd_runV (vs := []) dX0_tell_136 ha0 rfl rfl yf_X0_localDay mi_X0_localDay ms_X0_localDay ml_RX0_40 ⟨Nat.le_of_ble_eq_true rfl, Nat.le_of_ble_eq_true rfl⟩ (Nat.le_of_ble_eq_true rfl) rfl) rfl rfl (Nat.le_of_ble_eq_true rfl) (Nat.le_of_ble_eq_true rfl) (fun v20 s19 => ?_)
      refine ry_iconst (v := 0) dX0_tell_139 (by decide) ?_
      refine ry_callI (fun l r9 h9 => cm_X0_datePart l cx w v20 0 s19 r9 h9) (rd_runS (vs := [.inl v20, .inl 0]) dX0_tell_140 yf_X0_datePart mt_X0_datePart ml_RX0_31 ⟨Nat.le_of_ble_eq_true rfl, Nat.le_of_ble_eq_true rfl⟩ (Nat.le_of_ble_eq_true rfl) rfl) rfl rfl (Nat.le_of_ble_eq_true rfl) (Nat.le_of_ble_eq_true rfl) (fun v22 s21 => ?_)
      exact ry_iret dX0_tell_143 rfl (Nat.le_of_ble_eq_true rfl) (Nat.le_of_ble_eq_true rfl)
    refine ry_split _ (fun c23 => ?_) (fun c23 => ?_)
    · refine ry_tsIn 144 9 c23 dX0_tell_10 (by decide) (by decide) rfl (by decide) ?_
      refine ry_aload_n dX0_tell_144 rfl ?_
      refine ry_callI (fun l r9 h9 => cm_X0_localDay l cx w a0 ha0 S r9 h9) (rd_runV (vs := []) dX0_tell_145 ha0 rfl rfl yf_X0_localDay mi_X0_localDay ms_X0_localDay ml_RX0_40 ⟨Nat.le_of_ble_eq_true rfl, Nat.le_of_ble_eq_true rfl⟩ (Nat.le_of_ble_eq_true rfl) rfl) rfl rfl (Nat.le_of_ble_eq_true rfl) (Nat.le_of_ble_eq_true rfl) (fun v25 s24 => ?_)
      refine ry_iconst (v := 1) dX0_tell_148 (by decide) ?_
      refine ry_callI (fun l r9 h9 => cm_X0_datePart l cx w v25 1 s24 r9 h9) (rd_runS (vs := [.inl v25, .inl 1]) dX0_tell_149 yf_X0_datePart mt_X0_datePart ml_RX0_31 ⟨Nat.le_of_ble_eq_true rfl, Nat.le_of_ble_eq_true rfl⟩ (Nat.le_of_ble_eq_true rfl) rfl) rfl rfl (Nat.le_of_ble_eq_true rfl) (Nat.le_of_ble_eq_true rfl) (fun v27 s26 => ?_)
      exact ry_iret dX0_tell_152 rfl (Nat.le_of_ble_eq_true rfl) (Nat.le_of_ble_eq_true rfl)
    refine ry_split _ (fun c28 => ?_) (fun c28 => ?_)
    · refine ry_tsIn 153 10 c28 dX0_tell_10 (by decide) (by decide) rfl (by decide) ?_
      refine ry_aload_n dX0_tell_153 rfl ?_
      refine ry_callI (fun l r9 h9 => cm_X0_localDay l cx w a0 ha0 S r9 h9) (rd_runV (vs := []) dX0_tell_154 ha0 rfl rfl yf_X0_localDay mi_X0_localDay ms_X0_localDay ml_RX0_40 ⟨Nat.le_of_ble_eq_true rfl, Nat.le_of_ble_eq_true rfl⟩ (Nat.le_of_ble_eq_true rfl) rfl) rfl rfl (Nat.le_of_ble_eq_true rfl) (Nat.le_of_ble_eq_true rfl) (fun v30 s29 => ?_)
      refine ry_iconst (v := 2) dX0_tell_157 (by decide) ?_
      refine ry_callI (fun l r9 h9 => cm_X0_datePart l cx w v30 2 s29 r9 h9) (rd_runS (vs := [.inl v30, .inl 2]) dX0_tell_158 yf_X0_datePart mt_X0_datePart ml_RX0_31 ⟨Nat.le_of_ble_eq_true rfl, Nat.le_of_ble_eq_true rfl⟩ (Nat.le_of_ble_eq_true rfl) rfl) rfl rfl (Nat.le_of_ble_eq_true rfl) (Nat.le_of_ble_eq_true rfl) (fun v32 s31 => ?_)
      exact ry_iret dX0_tell_161 rfl (Nat.le_of_ble_eq_true rfl) (Nat.le_of_ble_eq_true rfl)
    refine ry_split _ (fun c33 => ?_) (fun c33 => ?_)
    · refine ry_tsIn 162 11 c33 dX0_tell_10 (by decide) (by decide) rfl (by decide) ?_
      refine ry_aload_n dX0_tell_162 rfl ?_
      refine ry_callI (fun l r9 h9 => cm_X0_localMinutes l cx w a0 ha0 S r9 h9) (rd_runV (vs := []) dX0_tell_163 ha0 rfl rfl yf_X0_localMinutes mi_X0_localMinutes ms_X0_localMinutes ml_RX0_44 ⟨Nat.le_of_ble_eq_true rfl, Nat.le_of_ble_eq_true rfl⟩ (Nat.le_of_ble_eq_true rfl) rfl) rfl rfl (Nat.le_of_ble_eq_true rfl) (Nat.le_of_ble_eq_true rfl) (fun v35 s34 => ?_)
      refine ry_sipush (v := 1440) dX0_tell_166 (by decide) ?_
      refine ry_callI (fun l r9 h9 => cm_J9_floorMod_7cf53 l cx w v35 1440 s34 r9 h9) (rd_runS (vs := [.inl v35, .inl 1440]) dX0_tell_169 yf_J9_floorMod_7cf53 mt_J9_floorMod_7cf53 ml_RX0_35 ⟨Nat.le_of_ble_eq_true rfl, Nat.le_of_ble_eq_true rfl⟩ (Nat.le_of_ble_eq_true rfl) rfl) rfl rfl (Nat.le_of_ble_eq_true rfl) (Nat.le_of_ble_eq_true rfl) (fun v37 s36 => ?_)
      refine ry_bipush (v := 60) dX0_tell_172 (by decide) ?_
      refine ry_idivK dX0_tell_174 (by decide) ?_
      exact ry_iret dX0_tell_175 rfl (Nat.le_of_ble_eq_true rfl) (Nat.le_of_ble_eq_true rfl)
    refine ry_split _ (fun c38 => ?_) (fun c38 => ?_)
    · refine ry_tsIn 176 12 c38 dX0_tell_10 (by decide) (by decide) rfl (by decide) ?_
      refine ry_aload_n dX0_tell_176 rfl ?_
      refine ry_callI (fun l r9 h9 => cm_X0_localMinutes l cx w a0 ha0 S r9 h9) (rd_runV (vs := []) dX0_tell_177 ha0 rfl rfl yf_X0_localMinutes mi_X0_localMinutes ms_X0_localMinutes ml_RX0_44 ⟨Nat.le_of_ble_eq_true rfl, Nat.le_of_ble_eq_true rfl⟩ (Nat.le_of_ble_eq_true rfl) rfl) rfl rfl (Nat.le_of_ble_eq_true rfl) (Nat.le_of_ble_eq_true rfl) (fun v40 s39 => ?_)
      refine ry_bipush (v := 60) dX0_tell_180 (by decide) ?_
      refine ry_callI (fun l r9 h9 => cm_J9_floorMod_7cf53 l cx w v40 60 s39 r9 h9) (rd_runS (vs := [.inl v40, .inl 60]) dX0_tell_182 yf_J9_floorMod_7cf53 mt_J9_floorMod_7cf53 ml_RX0_35 ⟨Nat.le_of_ble_eq_true rfl, Nat.le_of_ble_eq_true rfl⟩ (Nat.le_of_ble_eq_true rfl) rfl) rfl rfl (Nat.le_of_ble_eq_true rfl) (Nat.le_of_ble_eq_true rfl) (fun v42 s41 => ?_)
      exact ry_iret dX0_tell_185 rfl (Nat.le_of_ble_eq_true rfl) (Nat.le_of_ble_eq_true rfl)
    refine ry_tsD 186 [(0, 0), (1, 1), (2, 2), (3, 3), (4, 4), (5, 5), (6, 6), (7, 7), (8, 8), (9, 9), (10, 10), (11, 11), (12, 12)] 13 dX0_tell_10 (by decide) (by decide +kernel) (by decide +kernel) ⟨c2, c3, c4, c5, c6, c9, c12, c15, c18, c23, c28, c33, c38, trivial⟩ (by decide) ?_
    refine ry_iconst (v := (-1)) dX0_tell_186 (by decide) ?_
    exact ry_iret dX0_tell_187 rfl (Nat.le_of_ble_eq_true rfl) (Nat.le_of_ble_eq_true rfl)
theorem cm_X0_tell (l : Launch) (cx : rd_Cx) (w : rd_W) (a0 : Nat) (x1 : Int32) (ha0 : rd_ok w a0 0) (S : rd_S) (r : Int32 × rd_S) (h : F_X0_tell w a0 x1 S = some r) : rd_M l cx yX0_tell G_X0_tell 0 [.inr (some a0), .inl x1] w S (rd_rI w r) :=
  rd_enter (plainFor_of_name (by decide +kernel)) rfl (fun h => by cases h) (Nat.le_of_ble_eq_true rfl) (ym_X0_tell cx w a0 x1 ha0 S r h)
abbrev G_X11_time : rd_G := (RX11, cX11_time, 2, (some .int), false, { frames := 3, cells := 0, slots := 0, locals := 70 })
theorem yf_X11_time : rd_YL yX11_time G_X11_time 1 := ⟨rd_mem 803 (by decide +kernel) rfl, rd_mem 62 (by decide +kernel) rfl, by decide +kernel, by decide +kernel, by decide +kernel⟩
theorem mi_X11_time : Cond.instanceMethod yX11_time ∈ rd_gw := rd_mem 801 (by decide +kernel) rfl
theorem ms_X11_time : Cond.selects (MethodName.cls yX11_time) yX11_time yX11_time ∈ rd_gw := rd_mem 802 (by decide +kernel) rfl
theorem dX11_time_0 : decode cX11_time 0 = .ok (.aload_n 0, 1) := by decide +kernel
theorem dX11_time_1 : decode cX11_time 1 = .ok (.getfield 26, 3) := by decide +kernel
theorem dX11_time_4 : decode cX11_time 4 = .ok (.getfield 100, 3) := by decide +kernel
theorem dX11_time_7 : decode cX11_time 7 = .ok (.iload_n 1, 1) := by decide +kernel
theorem dX11_time_8 : decode cX11_time 8 = .ok (.invokevirtual 127, 3) := by decide +kernel
theorem dX11_time_11 : decode cX11_time 11 = .ok (.ireturn, 1) := by decide +kernel
def F_X11_time (w : rd_W) (a0 : Nat) (x1 : Int32) (S : rd_S) : Option (Int32 × rd_S) :=
  rd_c (gR S a0 2) fun b1 =>
  rd_c (gR S b1 5) fun b2 =>
  rd_b (F_X0_tell w b2 x1 S) fun v4 s3 =>
  some (v4, s3)
theorem ym_X11_time (cx : rd_Cx) (w : rd_W) (a0 : Nat) (x1 : Int32) (ha0 : rd_ok w a0 11) (S : rd_S) : rd_Y cx G_X11_time (fun r => rd_P cx G_X11_time.2.2.2.2.2 0 w (rd_rI w r)) (F_X11_time w a0 x1 S) 0 (rd_as 0 [.inr (some a0), .inl x1]) [] w S 0 0 := by
  unfold F_X11_time
  refine ry_aload_n dX11_time_0 rfl ?_
  refine ry_getr dX11_time_1 ha0 fl_RX11_26 rfl (fun b1 hb1 => ?_)
  refine ry_getr dX11_time_4 hb1 fl_RX11_100 rfl (fun b2 hb2 => ?_)
  refine ry_iload_n dX11_time_7 rfl ?_
  refine ry_callI (fun l r9 h9 => cm_X0_tell l cx w b2 x1 hb2 S r9 h9) (rd_runV (vs := [.inl x1]) dX11_time_8 hb2 rfl rfl yf_X0_tell mi_X0_tell ms_X0_tell ml_RX11_127 ⟨Nat.le_of_ble_eq_true rfl, Nat.le_of_ble_eq_true rfl⟩ (Nat.le_of_ble_eq_true rfl) rfl) rfl rfl (Nat.le_of_ble_eq_true rfl) (Nat.le_of_ble_eq_true rfl) (fun v4 s3 => ?_)
  exact ry_iret dX11_time_11 rfl (Nat.le_of_ble_eq_true rfl) (Nat.le_of_ble_eq_true rfl)
theorem cm_X11_time (l : Launch) (cx : rd_Cx) (w : rd_W) (a0 : Nat) (x1 : Int32) (ha0 : rd_ok w a0 11) (S : rd_S) (r : Int32 × rd_S) (h : F_X11_time w a0 x1 S = some r) : rd_M l cx yX11_time G_X11_time 0 [.inr (some a0), .inl x1] w S (rd_rI w r) :=
  rd_enter (plainFor_of_name (by decide +kernel)) rfl (fun h => by cases h) (Nat.le_of_ble_eq_true rfl) (ym_X11_time cx w a0 x1 ha0 S r h)
abbrev G_X12_isLeap : rd_G := (RX12, cX12_isLeap, 1, (some .boolean), false, { frames := 0, cells := 0, slots := 0, locals := 0 })
theorem yf_X12_isLeap : rd_YL yX12_isLeap G_X12_isLeap 1 := ⟨rd_mem 992 (by decide +kernel) rfl, rd_mem 75 (by decide +kernel) rfl, by decide +kernel, by decide +kernel, by decide +kernel⟩
theorem mt_X12_isLeap : Cond.static yX12_isLeap ∈ rd_gw := rd_mem 991 (by decide +kernel) rfl
theorem dX12_isLeap_0 : decode cX12_isLeap 0 = .ok (.iload_n 0, 1) := by decide +kernel
theorem dX12_isLeap_1 : decode cX12_isLeap 1 = .ok (.iconst 4, 1) := by decide +kernel
theorem dX12_isLeap_2 : decode cX12_isLeap 2 = .ok (.irem, 1) := by decide +kernel
theorem dX12_isLeap_3 : decode cX12_isLeap 3 = .ok (.ifCond .ne 22, 3) := by decide +kernel
theorem dX12_isLeap_6 : decode cX12_isLeap 6 = .ok (.iload_n 0, 1) := by decide +kernel
theorem dX12_isLeap_7 : decode cX12_isLeap 7 = .ok (.bipush 100, 2) := by decide +kernel
theorem dX12_isLeap_9 : decode cX12_isLeap 9 = .ok (.irem, 1) := by decide +kernel
theorem dX12_isLeap_10 : decode cX12_isLeap 10 = .ok (.ifCond .ne 11, 3) := by decide +kernel
theorem dX12_isLeap_13 : decode cX12_isLeap 13 = .ok (.iload_n 0, 1) := by decide +kernel
theorem dX12_isLeap_14 : decode cX12_isLeap 14 = .ok (.sipush 400, 3) := by decide +kernel
theorem dX12_isLeap_17 : decode cX12_isLeap 17 = .ok (.irem, 1) := by decide +kernel
theorem dX12_isLeap_18 : decode cX12_isLeap 18 = .ok (.ifCond .ne 7, 3) := by decide +kernel
theorem dX12_isLeap_21 : decode cX12_isLeap 21 = .ok (.iconst 1, 1) := by decide +kernel
theorem dX12_isLeap_22 : decode cX12_isLeap 22 = .ok (.goto 4, 3) := by decide +kernel
theorem dX12_isLeap_25 : decode cX12_isLeap 25 = .ok (.iconst 0, 1) := by decide +kernel
theorem dX12_isLeap_26 : decode cX12_isLeap 26 = .ok (.ireturn, 1) := by decide +kernel
def B_X12_isLeap_26 (w : rd_W) (t0 : Int32) (S : rd_S) : Option (Int32 × rd_S) :=
  rd_z t0 <|
  some (t0, S)
theorem yb_X12_isLeap_26 (cx : rd_Cx) (w : rd_W) (t0 : Int32) (S : rd_S) : rd_Y cx G_X12_isLeap (fun r => rd_P cx G_X12_isLeap.2.2.2.2.2 0 w (rd_rI w r)) (B_X12_isLeap_26 w t0 S) 26 [] [.inl t0] w S 0 0 := by
  unfold B_X12_isLeap_26
  refine ry_zg (fun z4 => ?_)
  exact ry_zret dX12_isLeap_26 rfl z4 (Nat.le_of_ble_eq_true rfl) (Nat.le_of_ble_eq_true rfl)
def B_X12_isLeap_21 (w : rd_W) (S : rd_S) : Option (Int32 × rd_S) :=
  B_X12_isLeap_26 w 1 S
theorem yb_X12_isLeap_21 (cx : rd_Cx) (w : rd_W) (S : rd_S) : rd_Y cx G_X12_isLeap (fun r => rd_P cx G_X12_isLeap.2.2.2.2.2 0 w (rd_rI w r)) (B_X12_isLeap_21 w S) 21 [] [] w S 0 0 := by
  unfold B_X12_isLeap_21
  refine ry_iconst (v := 1) dX12_isLeap_21 (by decide) ?_
  refine ry_goto 26 dX12_isLeap_22 (by decide) ?_
  exact ry_to (yb_X12_isLeap_26 cx w 1 S) trivial
def B_X12_isLeap_25 (w : rd_W) (S : rd_S) : Option (Int32 × rd_S) :=
  B_X12_isLeap_26 w 0 S
theorem yb_X12_isLeap_25 (cx : rd_Cx) (w : rd_W) (S : rd_S) : rd_Y cx G_X12_isLeap (fun r => rd_P cx G_X12_isLeap.2.2.2.2.2 0 w (rd_rI w r)) (B_X12_isLeap_25 w S) 25 [] [] w S 0 0 := by
  unfold B_X12_isLeap_25
  refine ry_iconst (v := 0) dX12_isLeap_25 (by decide) ?_
  exact ry_to (yb_X12_isLeap_26 cx w 0 S) trivial
def F_X12_isLeap (w : rd_W) (x0 : Int32) (S : rd_S) : Option (Int32 × rd_S) :=
  if (rd_rem x0 4) = 0 then
  (if (rd_rem x0 100) = 0 then
  (if (rd_rem x0 400) = 0 then
  (B_X12_isLeap_21 w S)
  else
  (B_X12_isLeap_25 w S))
  else
  (B_X12_isLeap_21 w S))
  else
  (B_X12_isLeap_25 w S)
theorem ym_X12_isLeap (cx : rd_Cx) (w : rd_W) (x0 : Int32) (S : rd_S) : rd_Y cx G_X12_isLeap (fun r => rd_P cx G_X12_isLeap.2.2.2.2.2 0 w (rd_rI w r)) (F_X12_isLeap w x0 S) 0 (rd_as 0 [.inl x0]) [] w S 0 0 := by
  unfold F_X12_isLeap
  refine ry_iload_n dX12_isLeap_0 rfl ?_
  refine ry_iconst (v := 4) dX12_isLeap_1 (by decide) ?_
  refine ry_iremK dX12_isLeap_2 (by decide) ?_
  refine ry_if_ne 25 dX12_isLeap_3 (by decide) (fun c1 => ?_) (fun c1 => ?_)
  · refine ry_iload_n dX12_isLeap_6 rfl ?_
    refine ry_bipush (v := 100) dX12_isLeap_7 (by decide) ?_
    refine ry_iremK dX12_isLeap_9 (by decide) ?_
    refine ry_if_ne 21 dX12_isLeap_10 (by decide) (fun c2 => ?_) (fun c2 => ?_)
    · refine ry_iload_n dX12_isLeap_13 rfl ?_
      refine ry_sipush (v := 400) dX12_isLeap_14 (by decide) ?_
      refine ry_iremK dX12_isLeap_17 (by decide) ?_
      refine ry_if_ne 25 dX12_isLeap_18 (by decide) (fun c3 => ?_) (fun c3 => ?_)
      · exact ry_to (yb_X12_isLeap_21 cx w S) trivial
      · exact ry_to (yb_X12_isLeap_25 cx w S) trivial
    · exact ry_to (yb_X12_isLeap_21 cx w S) trivial
  · exact ry_to (yb_X12_isLeap_25 cx w S) trivial
theorem cm_X12_isLeap (l : Launch) (cx : rd_Cx) (w : rd_W) (x0 : Int32) (S : rd_S) (r : Int32 × rd_S) (h : F_X12_isLeap w x0 S = some r) : rd_M l cx yX12_isLeap G_X12_isLeap 0 [.inl x0] w S (rd_rI w r) :=
  rd_enter (plainFor_of_name (by decide +kernel)) rfl (fun h => by cases h) (Nat.le_of_ble_eq_true rfl) (ym_X12_isLeap cx w x0 S r h)
abbrev G_X12_daysOf : rd_G := (RX12, cX12_daysOf, 2, (some .int), false, { frames := 1, cells := 0, slots := 0, locals := 20 })
theorem yf_X12_daysOf : rd_YL yX12_daysOf G_X12_daysOf 2 := ⟨rd_mem 995 (by decide +kernel) rfl, rd_mem 75 (by decide +kernel) rfl, by decide +kernel, by decide +kernel, by decide +kernel⟩
theorem mt_X12_daysOf : Cond.static yX12_daysOf ∈ rd_gw := rd_mem 994 (by decide +kernel) rfl
theorem dX12_daysOf_0 : decode cX12_daysOf 0 = .ok (.iload_n 1, 1) := by decide +kernel
theorem dX12_daysOf_1 : decode cX12_daysOf 1 = .ok (.iconst 2, 1) := by decide +kernel
theorem dX12_daysOf_2 : decode cX12_daysOf 2 = .ok (.if_icmp .ne 20, 3) := by decide +kernel
theorem dX12_daysOf_5 : decode cX12_daysOf 5 = .ok (.iload_n 0, 1) := by decide +kernel
theorem dX12_daysOf_6 : decode cX12_daysOf 6 = .ok (.invokestatic 263, 3) := by decide +kernel
theorem dX12_daysOf_9 : decode cX12_daysOf 9 = .ok (.ifCond .eq 8, 3) := by decide +kernel
theorem dX12_daysOf_12 : decode cX12_daysOf 12 = .ok (.bipush 29, 2) := by decide +kernel
theorem dX12_daysOf_14 : decode cX12_daysOf 14 = .ok (.goto 38, 3) := by decide +kernel
theorem dX12_daysOf_17 : decode cX12_daysOf 17 = .ok (.bipush 28, 2) := by decide +kernel
theorem dX12_daysOf_19 : decode cX12_daysOf 19 = .ok (.goto 33, 3) := by decide +kernel
theorem dX12_daysOf_22 : decode cX12_daysOf 22 = .ok (.iload_n 1, 1) := by decide +kernel
theorem dX12_daysOf_23 : decode cX12_daysOf 23 = .ok (.iconst 4, 1) := by decide +kernel
theorem dX12_daysOf_24 : decode cX12_daysOf 24 = .ok (.if_icmp .eq 21, 3) := by decide +kernel
theorem dX12_daysOf_27 : decode cX12_daysOf 27 = .ok (.iload_n 1, 1) := by decide +kernel
theorem dX12_daysOf_28 : decode cX12_daysOf 28 = .ok (.bipush 6, 2) := by decide +kernel
theorem dX12_daysOf_30 : decode cX12_daysOf 30 = .ok (.if_icmp .eq 15, 3) := by decide +kernel
theorem dX12_daysOf_33 : decode cX12_daysOf 33 = .ok (.iload_n 1, 1) := by decide +kernel
theorem dX12_daysOf_34 : decode cX12_daysOf 34 = .ok (.bipush 9, 2) := by decide +kernel
theorem dX12_daysOf_36 : decode cX12_daysOf 36 = .ok (.if_icmp .eq 9, 3) := by decide +kernel
theorem dX12_daysOf_39 : decode cX12_daysOf 39 = .ok (.iload_n 1, 1) := by decide +kernel
theorem dX12_daysOf_40 : decode cX12_daysOf 40 = .ok (.bipush 11, 2) := by decide +kernel
theorem dX12_daysOf_42 : decode cX12_daysOf 42 = .ok (.if_icmp .ne 8, 3) := by decide +kernel
theorem dX12_daysOf_45 : decode cX12_daysOf 45 = .ok (.bipush 30, 2) := by decide +kernel
theorem dX12_daysOf_47 : decode cX12_daysOf 47 = .ok (.goto 5, 3) := by decide +kernel
theorem dX12_daysOf_50 : decode cX12_daysOf 50 = .ok (.bipush 31, 2) := by decide +kernel
theorem dX12_daysOf_52 : decode cX12_daysOf 52 = .ok (.ireturn, 1) := by decide +kernel
def B_X12_daysOf_52 (w : rd_W) (t0 : Int32) (S : rd_S) : Option (Int32 × rd_S) :=
  some (t0, S)
theorem yb_X12_daysOf_52 (cx : rd_Cx) (w : rd_W) (t0 : Int32) (S : rd_S) : rd_Y cx G_X12_daysOf (fun r => rd_P cx G_X12_daysOf.2.2.2.2.2 0 w (rd_rI w r)) (B_X12_daysOf_52 w t0 S) 52 [] [.inl t0] w S 0 0 := by
  unfold B_X12_daysOf_52
  exact ry_iret dX12_daysOf_52 rfl (Nat.le_of_ble_eq_true rfl) (Nat.le_of_ble_eq_true rfl)
def B_X12_daysOf_45 (w : rd_W) (S : rd_S) : Option (Int32 × rd_S) :=
  B_X12_daysOf_52 w 30 S
theorem yb_X12_daysOf_45 (cx : rd_Cx) (w : rd_W) (S : rd_S) : rd_Y cx G_X12_daysOf (fun r => rd_P cx G_X12_daysOf.2.2.2.2.2 0 w (rd_rI w r)) (B_X12_daysOf_45 w S) 45 [] [] w S 0 0 := by
  unfold B_X12_daysOf_45
  refine ry_bipush (v := 30) dX12_daysOf_45 (by decide) ?_
  refine ry_goto 52 dX12_daysOf_47 (by decide) ?_
  exact ry_to (yb_X12_daysOf_52 cx w 30 S) trivial
def F_X12_daysOf (w : rd_W) (x0 : Int32) (x1 : Int32) (S : rd_S) : Option (Int32 × rd_S) :=
  if x1 = 2 then
  (rd_b (F_X12_isLeap w x0 S) fun v3 s2 =>
  if v3 = 0 then
  (B_X12_daysOf_52 w 28 s2)
  else
  (B_X12_daysOf_52 w 29 s2))
  else
  (if x1 = 4 then
  (B_X12_daysOf_45 w S)
  else
  (if x1 = 6 then
  (B_X12_daysOf_45 w S)
  else
  (if x1 = 9 then
  (B_X12_daysOf_45 w S)
  else
  (if x1 = 11 then
  (B_X12_daysOf_45 w S)
  else
  (B_X12_daysOf_52 w 31 S)))))
theorem ym_X12_daysOf (cx : rd_Cx) (w : rd_W) (x0 : Int32) (x1 : Int32) (S : rd_S) : rd_Y cx G_X12_daysOf (fun r => rd_P cx G_X12_daysOf.2.2.2.2.2 0 w (rd_rI w r)) (F_X12_daysOf w x0 x1 S) 0 (rd_as 0 [.inl x0, .inl x1]) [] w S 0 0 := by
  unfold F_X12_daysOf
  refine ry_iload_n dX12_daysOf_0 rfl ?_
  refine ry_iconst (v := 2) dX12_daysOf_1 (by decide) ?_
  refine ry_icmp_ne 22 dX12_daysOf_2 (by decide) (fun c1 => ?_) (fun c1 => ?_)
  · refine ry_iload_n dX12_daysOf_5 rfl ?_
    refine ry_callI (fun l r9 h9 => cm_X12_isLeap l cx w x0 S r9 h9) (rd_runS (vs := [.inl x0]) dX12_daysOf_6 yf_X12_isLeap mt_X12_isLeap ml_RX12_263 ⟨Nat.le_of_ble_eq_true rfl, Nat.le_of_ble_eq_true rfl⟩ (Nat.le_of_ble_eq_true rfl) rfl) rfl rfl (Nat.le_of_ble_eq_true rfl) (Nat.le_of_ble_eq_true rfl) (fun v3 s2 => ?_)
    refine ry_if_eq 17 dX12_daysOf_9 (by decide) (fun c4 => ?_) (fun c4 => ?_)
    · refine ry_bipush (v := 28) dX12_daysOf_17 (by decide) ?_
      refine ry_goto 52 dX12_daysOf_19 (by decide) ?_
      exact ry_to (yb_X12_daysOf_52 cx w 28 s2) trivial
    · refine ry_bipush (v := 29) dX12_daysOf_12 (by decide) ?_
      refine ry_goto 52 dX12_daysOf_14 (by decide) ?_
      exact ry_to (yb_X12_daysOf_52 cx w 29 s2) trivial
  · refine ry_iload_n dX12_daysOf_22 rfl ?_
    refine ry_iconst (v := 4) dX12_daysOf_23 (by decide) ?_
    refine ry_icmp_eq 45 dX12_daysOf_24 (by decide) (fun c5 => ?_) (fun c5 => ?_)
    · exact ry_to (yb_X12_daysOf_45 cx w S) trivial
    · refine ry_iload_n dX12_daysOf_27 rfl ?_
      refine ry_bipush (v := 6) dX12_daysOf_28 (by decide) ?_
      refine ry_icmp_eq 45 dX12_daysOf_30 (by decide) (fun c6 => ?_) (fun c6 => ?_)
      · exact ry_to (yb_X12_daysOf_45 cx w S) trivial
      · refine ry_iload_n dX12_daysOf_33 rfl ?_
        refine ry_bipush (v := 9) dX12_daysOf_34 (by decide) ?_
        refine ry_icmp_eq 45 dX12_daysOf_36 (by decide) (fun c7 => ?_) (fun c7 => ?_)
        · exact ry_to (yb_X12_daysOf_45 cx w S) trivial
        · refine ry_iload_n dX12_daysOf_39 rfl ?_
          refine ry_bipush (v := 11) dX12_daysOf_40 (by decide) ?_
          refine ry_icmp_ne 50 dX12_daysOf_42 (by decide) (fun c8 => ?_) (fun c8 => ?_)
          · exact ry_to (yb_X12_daysOf_45 cx w S) trivial
          · refine ry_bipush (v := 31) dX12_daysOf_50 (by decide) ?_
            exact ry_to (yb_X12_daysOf_52 cx w 31 S) trivial
theorem cm_X12_daysOf (l : Launch) (cx : rd_Cx) (w : rd_W) (x0 : Int32) (x1 : Int32) (S : rd_S) (r : Int32 × rd_S) (h : F_X12_daysOf w x0 x1 S = some r) : rd_M l cx yX12_daysOf G_X12_daysOf 0 [.inl x0, .inl x1] w S (rd_rI w r) :=
  rd_enter (plainFor_of_name (by decide +kernel)) rfl (fun h => by cases h) (Nat.le_of_ble_eq_true rfl) (ym_X12_daysOf cx w x0 x1 S r h)
abbrev G_X12_date : rd_G := (RX12, cX12_date, 5, (some .int), false, { frames := 2, cells := 0, slots := 0, locals := 41 })
theorem yf_X12_date : rd_YL yX12_date G_X12_date 2 := ⟨rd_mem 989 (by decide +kernel) rfl, rd_mem 75 (by decide +kernel) rfl, by decide +kernel, by decide +kernel, by decide +kernel⟩
theorem mt_X12_date : Cond.static yX12_date ∈ rd_gw := rd_mem 988 (by decide +kernel) rfl
theorem dX12_date_0 : decode cX12_date 0 = .ok (.sipush 1859, 3) := by decide +kernel
theorem dX12_date_3 : decode cX12_date 3 = .ok (.istore_n 2, 1) := by decide +kernel
theorem dX12_date_4 : decode cX12_date 4 = .ok (.iload_n 0, 1) := by decide +kernel
theorem dX12_date_5 : decode cX12_date 5 = .ok (.bipush 45, 2) := by decide +kernel
theorem dX12_date_7 : decode cX12_date 7 = .ok (.isub, 1) := by decide +kernel
theorem dX12_date_8 : decode cX12_date 8 = .ok (.istore_n 3, 1) := by decide +kernel
theorem dX12_date_9 : decode cX12_date 9 = .ok (.iload_n 3, 1) := by decide +kernel
theorem dX12_date_10 : decode cX12_date 10 = .ok (.ifCond .ge 28, 3) := by decide +kernel
theorem dX12_date_13 : decode cX12_date 13 = .ok (.iinc 2 (-1), 3) := by decide +kernel
theorem dX12_date_16 : decode cX12_date 16 = .ok (.iload_n 3, 1) := by decide +kernel
theorem dX12_date_17 : decode cX12_date 17 = .ok (.iload_n 2, 1) := by decide +kernel
theorem dX12_date_18 : decode cX12_date 18 = .ok (.invokestatic 263, 3) := by decide +kernel
theorem dX12_date_21 : decode cX12_date 21 = .ok (.ifCond .eq 9, 3) := by decide +kernel
theorem dX12_date_24 : decode cX12_date 24 = .ok (.sipush 366, 3) := by decide +kernel
theorem dX12_date_27 : decode cX12_date 27 = .ok (.goto 6, 3) := by decide +kernel
theorem dX12_date_30 : decode cX12_date 30 = .ok (.sipush 365, 3) := by decide +kernel
theorem dX12_date_33 : decode cX12_date 33 = .ok (.iadd, 1) := by decide +kernel
theorem dX12_date_34 : decode cX12_date 34 = .ok (.istore_n 3, 1) := by decide +kernel
theorem dX12_date_35 : decode cX12_date 35 = .ok (.goto (-26), 3) := by decide +kernel
theorem dX12_date_38 : decode cX12_date 38 = .ok (.iload_n 3, 1) := by decide +kernel
theorem dX12_date_39 : decode cX12_date 39 = .ok (.iload_n 2, 1) := by decide +kernel
theorem dX12_date_40 : decode cX12_date 40 = .ok (.invokestatic 263, 3) := by decide +kernel
theorem dX12_date_43 : decode cX12_date 43 = .ok (.ifCond .eq 9, 3) := by decide +kernel
theorem dX12_date_46 : decode cX12_date 46 = .ok (.sipush 366, 3) := by decide +kernel
theorem dX12_date_49 : decode cX12_date 49 = .ok (.goto 6, 3) := by decide +kernel
theorem dX12_date_52 : decode cX12_date 52 = .ok (.sipush 365, 3) := by decide +kernel
theorem dX12_date_55 : decode cX12_date 55 = .ok (.if_icmp .lt 28, 3) := by decide +kernel
theorem dX12_date_58 : decode cX12_date 58 = .ok (.iload_n 3, 1) := by decide +kernel
theorem dX12_date_59 : decode cX12_date 59 = .ok (.iload_n 2, 1) := by decide +kernel
theorem dX12_date_60 : decode cX12_date 60 = .ok (.invokestatic 263, 3) := by decide +kernel
theorem dX12_date_63 : decode cX12_date 63 = .ok (.ifCond .eq 9, 3) := by decide +kernel
theorem dX12_date_66 : decode cX12_date 66 = .ok (.sipush 366, 3) := by decide +kernel
theorem dX12_date_69 : decode cX12_date 69 = .ok (.goto 6, 3) := by decide +kernel
theorem dX12_date_72 : decode cX12_date 72 = .ok (.sipush 365, 3) := by decide +kernel
theorem dX12_date_75 : decode cX12_date 75 = .ok (.isub, 1) := by decide +kernel
theorem dX12_date_76 : decode cX12_date 76 = .ok (.istore_n 3, 1) := by decide +kernel
theorem dX12_date_77 : decode cX12_date 77 = .ok (.iinc 2 1, 3) := by decide +kernel
theorem dX12_date_80 : decode cX12_date 80 = .ok (.goto (-42), 3) := by decide +kernel
theorem dX12_date_83 : decode cX12_date 83 = .ok (.iconst 1, 1) := by decide +kernel
theorem dX12_date_84 : decode cX12_date 84 = .ok (.istore 4, 2) := by decide +kernel
theorem dX12_date_86 : decode cX12_date 86 = .ok (.iload_n 3, 1) := by decide +kernel
theorem dX12_date_87 : decode cX12_date 87 = .ok (.iload_n 2, 1) := by decide +kernel
theorem dX12_date_88 : decode cX12_date 88 = .ok (.iload 4, 2) := by decide +kernel
theorem dX12_date_90 : decode cX12_date 90 = .ok (.invokestatic 266, 3) := by decide +kernel
theorem dX12_date_93 : decode cX12_date 93 = .ok (.if_icmp .lt 18, 3) := by decide +kernel
theorem dX12_date_96 : decode cX12_date 96 = .ok (.iload_n 3, 1) := by decide +kernel
theorem dX12_date_97 : decode cX12_date 97 = .ok (.iload_n 2, 1) := by decide +kernel
theorem dX12_date_98 : decode cX12_date 98 = .ok (.iload 4, 2) := by decide +kernel
theorem dX12_date_100 : decode cX12_date 100 = .ok (.invokestatic 266, 3) := by decide +kernel
theorem dX12_date_103 : decode cX12_date 103 = .ok (.isub, 1) := by decide +kernel
theorem dX12_date_104 : decode cX12_date 104 = .ok (.istore_n 3, 1) := by decide +kernel
theorem dX12_date_105 : decode cX12_date 105 = .ok (.iinc 4 1, 3) := by decide +kernel
theorem dX12_date_108 : decode cX12_date 108 = .ok (.goto (-22), 3) := by decide +kernel
theorem dX12_date_111 : decode cX12_date 111 = .ok (.iload_n 1, 1) := by decide +kernel
theorem dX12_date_112 : decode cX12_date 112 = .ok (.ifCond .ne 7, 3) := by decide +kernel
theorem dX12_date_115 : decode cX12_date 115 = .ok (.iload_n 2, 1) := by decide +kernel
theorem dX12_date_116 : decode cX12_date 116 = .ok (.goto 16, 3) := by decide +kernel
theorem dX12_date_119 : decode cX12_date 119 = .ok (.iload_n 1, 1) := by decide +kernel
theorem dX12_date_120 : decode cX12_date 120 = .ok (.iconst 1, 1) := by decide +kernel
theorem dX12_date_121 : decode cX12_date 121 = .ok (.if_icmp .ne 8, 3) := by decide +kernel
theorem dX12_date_124 : decode cX12_date 124 = .ok (.iload 4, 2) := by decide +kernel
theorem dX12_date_126 : decode cX12_date 126 = .ok (.goto 6, 3) := by decide +kernel
theorem dX12_date_129 : decode cX12_date 129 = .ok (.iload_n 3, 1) := by decide +kernel
theorem dX12_date_130 : decode cX12_date 130 = .ok (.iconst 1, 1) := by decide +kernel
theorem dX12_date_131 : decode cX12_date 131 = .ok (.iadd, 1) := by decide +kernel
theorem dX12_date_132 : decode cX12_date 132 = .ok (.ireturn, 1) := by decide +kernel
def B_X12_date_132 (w : rd_W) (t0 : Int32) (S : rd_S) : Option (Int32 × rd_S) :=
  some (t0, S)
theorem yb_X12_date_132 (cx : rd_Cx) (w : rd_W) (t0 : Int32) (S : rd_S) : rd_Y cx G_X12_date (fun r => rd_P cx G_X12_date.2.2.2.2.2 0 w (rd_rI w r)) (B_X12_date_132 w t0 S) 132 [] [.inl t0] w S 0 0 := by
  unfold B_X12_date_132
  exact ry_iret dX12_date_132 rfl (Nat.le_of_ble_eq_true rfl) (Nat.le_of_ble_eq_true rfl)
def B_X12_date_86 (w : rd_W) (k86 : Int32 → Int32 → Int32 → Int32 → rd_S → Option (Int32 × rd_S)) (x1 : Int32) (x2 : Int32) (x3 : Int32) (x4 : Int32) (S : rd_S) : Option (Int32 × rd_S) :=
  rd_b (F_X12_daysOf w x2 x4 S) fun v8 s7 =>
  if x3 < v8 then
  (if x1 = 0 then
  (B_X12_date_132 w x2 s7)
  else
  (if x1 = 1 then
  (B_X12_date_132 w x4 s7)
  else
  (B_X12_date_132 w (x3 + 1) s7)))
  else
  (rd_b (F_X12_daysOf w x2 x4 s7) fun v13 s12 =>
  rd_let (x3 - v13) fun v14 =>
  rd_let (x4 + 1) fun v15 =>
  k86 x1 x2 v14 v15 s12)
theorem yb_X12_date_86 (cx : rd_Cx) (w : rd_W) {k86 : Int32 → Int32 → Int32 → Int32 → rd_S → Option (Int32 × rd_S)} (hk86 : ∀ (x1 : Int32) (x2 : Int32) (x3 : Int32) (x4 : Int32) (S : rd_S), rd_Y cx G_X12_date (fun r => rd_P cx G_X12_date.2.2.2.2.2 0 w (rd_rI w r)) (k86 x1 x2 x3 x4 S) 86 [(1, .inl x1), (2, .inl x2), (3, .inl x3), (4, .inl x4)] [] w S 0 0) (x1 : Int32) (x2 : Int32) (x3 : Int32) (x4 : Int32) (S : rd_S) : rd_Y cx G_X12_date (fun r => rd_P cx G_X12_date.2.2.2.2.2 0 w (rd_rI w r)) (B_X12_date_86 w k86 x1 x2 x3 x4 S) 86 [(1, .inl x1), (2, .inl x2), (3, .inl x3), (4, .inl x4)] [] w S 0 0 := by
  unfold B_X12_date_86
  refine ry_iload_n dX12_date_86 rfl ?_
  refine ry_iload_n dX12_date_87 rfl ?_
  refine ry_iload dX12_date_88 rfl ?_
  refine ry_callI (fun l r9 h9 => cm_X12_daysOf l cx w x2 x4 S r9 h9) (rd_runS (vs := [.inl x2, .inl x4]) dX12_date_90 yf_X12_daysOf mt_X12_daysOf ml_RX12_266 ⟨Nat.le_of_ble_eq_true rfl, Nat.le_of_ble_eq_true rfl⟩ (Nat.le_of_ble_eq_true rfl) rfl) rfl rfl (Nat.le_of_ble_eq_true rfl) (Nat.le_of_ble_eq_true rfl) (fun v8 s7 => ?_)
  refine ry_icmp_lt 111 dX12_date_93 (by decide) (fun c9 => ?_) (fun c9 => ?_)
  · refine ry_iload_n dX12_date_111 rfl ?_
    refine ry_if_ne 119 dX12_date_112 (by decide) (fun c10 => ?_) (fun c10 => ?_)
    · refine ry_iload_n dX12_date_115 rfl ?_
      refine ry_goto 132 dX12_date_116 (by decide) ?_
      exact ry_to (yb_X12_date_132 cx w x2 s7) trivial
    · refine ry_iload_n dX12_date_119 rfl ?_
      refine ry_iconst (v := 1) dX12_date_120 (by decide) ?_
      refine ry_icmp_ne 129 dX12_date_121 (by decide) (fun c11 => ?_) (fun c11 => ?_)
      · refine ry_iload dX12_date_124 rfl ?_
        refine ry_goto 132 dX12_date_126 (by decide) ?_
        exact ry_to (yb_X12_date_132 cx w x4 s7) trivial
      · refine ry_iload_n dX12_date_129 rfl ?_
        refine ry_iconst (v := 1) dX12_date_130 (by decide) ?_
        refine ry_iadd dX12_date_131 ?_
        exact ry_to (yb_X12_date_132 cx w (x3 + 1) s7) trivial
  · refine ry_iload_n dX12_date_96 rfl ?_
    refine ry_iload_n dX12_date_97 rfl ?_
    refine ry_iload dX12_date_98 rfl ?_
    refine ry_callI (fun l r9 h9 => cm_X12_daysOf l cx w x2 x4 s7 r9 h9) (rd_runS (vs := [.inl x2, .inl x4]) dX12_date_100 yf_X12_daysOf mt_X12_daysOf ml_RX12_266 ⟨Nat.le_of_ble_eq_true rfl, Nat.le_of_ble_eq_true rfl⟩ (Nat.le_of_ble_eq_true rfl) rfl) rfl rfl (Nat.le_of_ble_eq_true rfl) (Nat.le_of_ble_eq_true rfl) (fun v13 s12 => ?_)
    refine ry_isub dX12_date_103 ?_
    refine ry_istore_n dX12_date_104 (by decide) ?_
    refine ry_let (fun v14 => ?_)
    refine ry_iinc (v := 1) dX12_date_105 rfl (by decide) (by decide) ?_
    refine ry_let (fun v15 => ?_)
    refine ry_goto 86 dX12_date_108 (by decide) ?_
    exact ry_to (hk86 x1 x2 v14 v15 s12) ⟨rfl, rfl, rfl, rfl, trivial⟩
def F_X12_date_86 (w : rd_W) (n : Nat) : Int32 → Int32 → Int32 → Int32 → rd_S → Option (Int32 × rd_S) :=
  Nat.rec (motive := fun _ => Int32 → Int32 → Int32 → Int32 → rd_S → Option (Int32 × rd_S)) (fun _ _ _ _ _ => none) (fun _ ih => B_X12_date_86 w ih) n
theorem yl_X12_date_86 (cx : rd_Cx) (w : rd_W) : ∀ (n : Nat) (x1 : Int32) (x2 : Int32) (x3 : Int32) (x4 : Int32) (S : rd_S), rd_Y cx G_X12_date (fun r => rd_P cx G_X12_date.2.2.2.2.2 0 w (rd_rI w r)) (F_X12_date_86 w n x1 x2 x3 x4 S) 86 [(1, .inl x1), (2, .inl x2), (3, .inl x3), (4, .inl x4)] [] w S 0 0 := by
  intro n
  induction n with
  | zero => intro x1 x2 x3 x4 S; exact ry_none
  | succ n ih => intro x1 x2 x3 x4 S; exact yb_X12_date_86 cx w ih x1 x2 x3 x4 S
def B_X12_date_75 (w : rd_W) (k38 : Int32 → Int32 → Int32 → rd_S → Option (Int32 × rd_S)) (x1 : Int32) (x2 : Int32) (t0 : Int32) (t1 : Int32) (S : rd_S) : Option (Int32 × rd_S) :=
  rd_let (t1 - t0) fun v19 =>
  rd_let (x2 + 1) fun v20 =>
  k38 x1 v20 v19 S
theorem yb_X12_date_75 (cx : rd_Cx) (w : rd_W) {k38 : Int32 → Int32 → Int32 → rd_S → Option (Int32 × rd_S)} (hk38 : ∀ (x1 : Int32) (x2 : Int32) (x3 : Int32) (S : rd_S), rd_Y cx G_X12_date (fun r => rd_P cx G_X12_date.2.2.2.2.2 0 w (rd_rI w r)) (k38 x1 x2 x3 S) 38 [(1, .inl x1), (2, .inl x2), (3, .inl x3)] [] w S 0 0) (x1 : Int32) (x2 : Int32) (t0 : Int32) (t1 : Int32) (S : rd_S) : rd_Y cx G_X12_date (fun r => rd_P cx G_X12_date.2.2.2.2.2 0 w (rd_rI w r)) (B_X12_date_75 w k38 x1 x2 t0 t1 S) 75 [(1, .inl x1), (2, .inl x2)] [.inl t0, .inl t1] w S 0 0 := by
  unfold B_X12_date_75
  refine ry_isub dX12_date_75 ?_
  refine ry_istore_n dX12_date_76 (by decide) ?_
  refine ry_let (fun v19 => ?_)
  refine ry_iinc (v := 1) dX12_date_77 rfl (by decide) (by decide) ?_
  refine ry_let (fun v20 => ?_)
  refine ry_goto 38 dX12_date_80 (by decide) ?_
  exact ry_to (hk38 x1 v20 v19 S) ⟨rfl, rfl, rfl, trivial⟩
def B_X12_date_55 (w : rd_W) (k38 : Int32 → Int32 → Int32 → rd_S → Option (Int32 × rd_S)) (x1 : Int32) (x2 : Int32) (x3 : Int32) (t0 : Int32) (t1 : Int32) (S : rd_S) : Option (Int32 × rd_S) :=
  if t1 < t0 then
  (F_X12_date_86 w rd_big x1 x2 x3 1 S)
  else
  (rd_b (F_X12_isLeap w x2 S) fun v17 s16 =>
  if v17 = 0 then
  (B_X12_date_75 w k38 x1 x2 365 x3 s16)
  else
  (B_X12_date_75 w k38 x1 x2 366 x3 s16))
theorem yb_X12_date_55 (cx : rd_Cx) (w : rd_W) {k38 : Int32 → Int32 → Int32 → rd_S → Option (Int32 × rd_S)} (hk38 : ∀ (x1 : Int32) (x2 : Int32) (x3 : Int32) (S : rd_S), rd_Y cx G_X12_date (fun r => rd_P cx G_X12_date.2.2.2.2.2 0 w (rd_rI w r)) (k38 x1 x2 x3 S) 38 [(1, .inl x1), (2, .inl x2), (3, .inl x3)] [] w S 0 0) (x1 : Int32) (x2 : Int32) (x3 : Int32) (t0 : Int32) (t1 : Int32) (S : rd_S) : rd_Y cx G_X12_date (fun r => rd_P cx G_X12_date.2.2.2.2.2 0 w (rd_rI w r)) (B_X12_date_55 w k38 x1 x2 x3 t0 t1 S) 55 [(1, .inl x1), (2, .inl x2), (3, .inl x3)] [.inl t0, .inl t1] w S 0 0 := by
  unfold B_X12_date_55
  refine ry_icmp_lt 83 dX12_date_55 (by decide) (fun c6 => ?_) (fun c6 => ?_)
  · refine ry_iconst (v := 1) dX12_date_83 (by decide) ?_
    refine ry_istore dX12_date_84 (by decide) ?_
    exact ry_to (yl_X12_date_86 cx w rd_big x1 x2 x3 1 S) ⟨rfl, rfl, rfl, rfl, trivial⟩
  · refine ry_iload_n dX12_date_58 rfl ?_
    refine ry_iload_n dX12_date_59 rfl ?_
    refine ry_callI (fun l r9 h9 => cm_X12_isLeap l cx w x2 S r9 h9) (rd_runS (vs := [.inl x2]) dX12_date_60 yf_X12_isLeap mt_X12_isLeap ml_RX12_263 ⟨Nat.le_of_ble_eq_true rfl, Nat.le_of_ble_eq_true rfl⟩ (Nat.le_of_ble_eq_true rfl) rfl) rfl rfl (Nat.le_of_ble_eq_true rfl) (Nat.le_of_ble_eq_true rfl) (fun v17 s16 => ?_)
    refine ry_if_eq 72 dX12_date_63 (by decide) (fun c18 => ?_) (fun c18 => ?_)
    · refine ry_sipush (v := 365) dX12_date_72 (by decide) ?_
      exact ry_to (yb_X12_date_75 cx w (k38 := k38) hk38 x1 x2 365 x3 s16) ⟨rfl, rfl, trivial⟩
    · refine ry_sipush (v := 366) dX12_date_66 (by decide) ?_
      refine ry_goto 75 dX12_date_69 (by decide) ?_
      exact ry_to (yb_X12_date_75 cx w (k38 := k38) hk38 x1 x2 366 x3 s16) ⟨rfl, rfl, trivial⟩
def B_X12_date_38 (w : rd_W) (k38 : Int32 → Int32 → Int32 → rd_S → Option (Int32 × rd_S)) (x1 : Int32) (x2 : Int32) (x3 : Int32) (S : rd_S) : Option (Int32 × rd_S) :=
  rd_b (F_X12_isLeap w x2 S) fun v4 s3 =>
  if v4 = 0 then
  (B_X12_date_55 w k38 x1 x2 x3 365 x3 s3)
  else
  (B_X12_date_55 w k38 x1 x2 x3 366 x3 s3)
theorem yb_X12_date_38 (cx : rd_Cx) (w : rd_W) {k38 : Int32 → Int32 → Int32 → rd_S → Option (Int32 × rd_S)} (hk38 : ∀ (x1 : Int32) (x2 : Int32) (x3 : Int32) (S : rd_S), rd_Y cx G_X12_date (fun r => rd_P cx G_X12_date.2.2.2.2.2 0 w (rd_rI w r)) (k38 x1 x2 x3 S) 38 [(1, .inl x1), (2, .inl x2), (3, .inl x3)] [] w S 0 0) (x1 : Int32) (x2 : Int32) (x3 : Int32) (S : rd_S) : rd_Y cx G_X12_date (fun r => rd_P cx G_X12_date.2.2.2.2.2 0 w (rd_rI w r)) (B_X12_date_38 w k38 x1 x2 x3 S) 38 [(1, .inl x1), (2, .inl x2), (3, .inl x3)] [] w S 0 0 := by
  unfold B_X12_date_38
  refine ry_iload_n dX12_date_38 rfl ?_
  refine ry_iload_n dX12_date_39 rfl ?_
  refine ry_callI (fun l r9 h9 => cm_X12_isLeap l cx w x2 S r9 h9) (rd_runS (vs := [.inl x2]) dX12_date_40 yf_X12_isLeap mt_X12_isLeap ml_RX12_263 ⟨Nat.le_of_ble_eq_true rfl, Nat.le_of_ble_eq_true rfl⟩ (Nat.le_of_ble_eq_true rfl) rfl) rfl rfl (Nat.le_of_ble_eq_true rfl) (Nat.le_of_ble_eq_true rfl) (fun v4 s3 => ?_)
  refine ry_if_eq 52 dX12_date_43 (by decide) (fun c5 => ?_) (fun c5 => ?_)
  · refine ry_sipush (v := 365) dX12_date_52 (by decide) ?_
    exact ry_to (yb_X12_date_55 cx w (k38 := k38) hk38 x1 x2 x3 365 x3 s3) ⟨rfl, rfl, rfl, trivial⟩
  · refine ry_sipush (v := 366) dX12_date_46 (by decide) ?_
    refine ry_goto 55 dX12_date_49 (by decide) ?_
    exact ry_to (yb_X12_date_55 cx w (k38 := k38) hk38 x1 x2 x3 366 x3 s3) ⟨rfl, rfl, rfl, trivial⟩
def F_X12_date_38 (w : rd_W) (n : Nat) : Int32 → Int32 → Int32 → rd_S → Option (Int32 × rd_S) :=
  Nat.rec (motive := fun _ => Int32 → Int32 → Int32 → rd_S → Option (Int32 × rd_S)) (fun _ _ _ _ => none) (fun _ ih => B_X12_date_38 w ih) n
theorem yl_X12_date_38 (cx : rd_Cx) (w : rd_W) : ∀ (n : Nat) (x1 : Int32) (x2 : Int32) (x3 : Int32) (S : rd_S), rd_Y cx G_X12_date (fun r => rd_P cx G_X12_date.2.2.2.2.2 0 w (rd_rI w r)) (F_X12_date_38 w n x1 x2 x3 S) 38 [(1, .inl x1), (2, .inl x2), (3, .inl x3)] [] w S 0 0 := by
  intro n
  induction n with
  | zero => intro x1 x2 x3 S; exact ry_none
  | succ n ih => intro x1 x2 x3 S; exact yb_X12_date_38 cx w ih x1 x2 x3 S
def B_X12_date_33 (w : rd_W) (k9 : Int32 → Int32 → Int32 → rd_S → Option (Int32 × rd_S)) (x1 : Int32) (x2 : Int32) (t0 : Int32) (t1 : Int32) (S : rd_S) : Option (Int32 × rd_S) :=
  rd_let (t1 + t0) fun v25 =>
  k9 x1 x2 v25 S
theorem yb_X12_date_33 (cx : rd_Cx) (w : rd_W) {k9 : Int32 → Int32 → Int32 → rd_S → Option (Int32 × rd_S)} (hk9 : ∀ (x1 : Int32) (x2 : Int32) (x3 : Int32) (S : rd_S), rd_Y cx G_X12_date (fun r => rd_P cx G_X12_date.2.2.2.2.2 0 w (rd_rI w r)) (k9 x1 x2 x3 S) 9 [(1, .inl x1), (2, .inl x2), (3, .inl x3)] [] w S 0 0) (x1 : Int32) (x2 : Int32) (t0 : Int32) (t1 : Int32) (S : rd_S) : rd_Y cx G_X12_date (fun r => rd_P cx G_X12_date.2.2.2.2.2 0 w (rd_rI w r)) (B_X12_date_33 w k9 x1 x2 t0 t1 S) 33 [(1, .inl x1), (2, .inl x2)] [.inl t0, .inl t1] w S 0 0 := by
  unfold B_X12_date_33
  refine ry_iadd dX12_date_33 ?_
  refine ry_istore_n dX12_date_34 (by decide) ?_
  refine ry_let (fun v25 => ?_)
  refine ry_goto 9 dX12_date_35 (by decide) ?_
  exact ry_to (hk9 x1 x2 v25 S) ⟨rfl, rfl, rfl, trivial⟩
def B_X12_date_9 (w : rd_W) (k9 : Int32 → Int32 → Int32 → rd_S → Option (Int32 × rd_S)) (x1 : Int32) (x2 : Int32) (x3 : Int32) (S : rd_S) : Option (Int32 × rd_S) :=
  if 0 ≤ x3 then
  (F_X12_date_38 w rd_big x1 x2 x3 S)
  else
  (rd_let (x2 + (-1)) fun v21 =>
  rd_b (F_X12_isLeap w v21 S) fun v23 s22 =>
  if v23 = 0 then
  (B_X12_date_33 w k9 x1 v21 365 x3 s22)
  else
  (B_X12_date_33 w k9 x1 v21 366 x3 s22))
theorem yb_X12_date_9 (cx : rd_Cx) (w : rd_W) {k9 : Int32 → Int32 → Int32 → rd_S → Option (Int32 × rd_S)} (hk9 : ∀ (x1 : Int32) (x2 : Int32) (x3 : Int32) (S : rd_S), rd_Y cx G_X12_date (fun r => rd_P cx G_X12_date.2.2.2.2.2 0 w (rd_rI w r)) (k9 x1 x2 x3 S) 9 [(1, .inl x1), (2, .inl x2), (3, .inl x3)] [] w S 0 0) (x1 : Int32) (x2 : Int32) (x3 : Int32) (S : rd_S) : rd_Y cx G_X12_date (fun r => rd_P cx G_X12_date.2.2.2.2.2 0 w (rd_rI w r)) (B_X12_date_9 w k9 x1 x2 x3 S) 9 [(1, .inl x1), (2, .inl x2), (3, .inl x3)] [] w S 0 0 := by
  unfold B_X12_date_9
  refine ry_iload_n dX12_date_9 rfl ?_
  refine ry_if_ge 38 dX12_date_10 (by decide) (fun c2 => ?_) (fun c2 => ?_)
  · exact ry_to (yl_X12_date_38 cx w rd_big x1 x2 x3 S) ⟨rfl, rfl, rfl, trivial⟩
  · refine ry_iinc (v := (-1)) dX12_date_13 rfl (by decide) (by decide) ?_
    refine ry_let (fun v21 => ?_)
    refine ry_iload_n dX12_date_16 rfl ?_
    refine ry_iload_n dX12_date_17 rfl ?_
    refine ry_callI (fun l r9 h9 => cm_X12_isLeap l cx w v21 S r9 h9) (rd_runS (vs := [.inl v21]) dX12_date_18 yf_X12_isLeap mt_X12_isLeap ml_RX12_263 ⟨Nat.le_of_ble_eq_true rfl, Nat.le_of_ble_eq_true rfl⟩ (Nat.le_of_ble_eq_true rfl) rfl) rfl rfl (Nat.le_of_ble_eq_true rfl) (Nat.le_of_ble_eq_true rfl) (fun v23 s22 => ?_)
    refine ry_if_eq 30 dX12_date_21 (by decide) (fun c24 => ?_) (fun c24 => ?_)
    · refine ry_sipush (v := 365) dX12_date_30 (by decide) ?_
      exact ry_to (yb_X12_date_33 cx w (k9 := k9) hk9 x1 v21 365 x3 s22) ⟨rfl, rfl, trivial⟩
    · refine ry_sipush (v := 366) dX12_date_24 (by decide) ?_
      refine ry_goto 33 dX12_date_27 (by decide) ?_
      exact ry_to (yb_X12_date_33 cx w (k9 := k9) hk9 x1 v21 366 x3 s22) ⟨rfl, rfl, trivial⟩
def F_X12_date_9 (w : rd_W) (n : Nat) : Int32 → Int32 → Int32 → rd_S → Option (Int32 × rd_S) :=
  Nat.rec (motive := fun _ => Int32 → Int32 → Int32 → rd_S → Option (Int32 × rd_S)) (fun _ _ _ _ => none) (fun _ ih => B_X12_date_9 w ih) n
theorem yl_X12_date_9 (cx : rd_Cx) (w : rd_W) : ∀ (n : Nat) (x1 : Int32) (x2 : Int32) (x3 : Int32) (S : rd_S), rd_Y cx G_X12_date (fun r => rd_P cx G_X12_date.2.2.2.2.2 0 w (rd_rI w r)) (F_X12_date_9 w n x1 x2 x3 S) 9 [(1, .inl x1), (2, .inl x2), (3, .inl x3)] [] w S 0 0 := by
  intro n
  induction n with
  | zero => intro x1 x2 x3 S; exact ry_none
  | succ n ih => intro x1 x2 x3 S; exact yb_X12_date_9 cx w ih x1 x2 x3 S
def F_X12_date (w : rd_W) (x0 : Int32) (x1 : Int32) (S : rd_S) : Option (Int32 × rd_S) :=
  rd_let (x0 - 45) fun v1 =>
  F_X12_date_9 w rd_big x1 1859 v1 S
theorem ym_X12_date (cx : rd_Cx) (w : rd_W) (x0 : Int32) (x1 : Int32) (S : rd_S) : rd_Y cx G_X12_date (fun r => rd_P cx G_X12_date.2.2.2.2.2 0 w (rd_rI w r)) (F_X12_date w x0 x1 S) 0 (rd_as 0 [.inl x0, .inl x1]) [] w S 0 0 := by
  unfold F_X12_date
  refine ry_sipush (v := 1859) dX12_date_0 (by decide) ?_
  refine ry_istore_n dX12_date_3 (by decide) ?_
  refine ry_iload_n dX12_date_4 rfl ?_
  refine ry_bipush (v := 45) dX12_date_5 (by decide) ?_
  refine ry_isub dX12_date_7 ?_
  refine ry_istore_n dX12_date_8 (by decide) ?_
  refine ry_let (fun v1 => ?_)
  exact ry_to (yl_X12_date_9 cx w rd_big x1 1859 v1 S) ⟨rfl, rfl, rfl, trivial⟩
theorem cm_X12_date (l : Launch) (cx : rd_Cx) (w : rd_W) (x0 : Int32) (x1 : Int32) (S : rd_S) (r : Int32 × rd_S) (h : F_X12_date w x0 x1 S = some r) : rd_M l cx yX12_date G_X12_date 0 [.inl x0, .inl x1] w S (rd_rI w r) :=
  rd_enter (plainFor_of_name (by decide +kernel)) rfl (fun h => by cases h) (Nat.le_of_ble_eq_true rfl) (ym_X12_date cx w x0 x1 S r h)
abbrev G_X12_time : rd_G := (RX12, cX12_time, 5, (some .int), false, { frames := 3, cells := 0, slots := 0, locals := 65 })
theorem yf_X12_time : rd_YL yX12_time G_X12_time 1 := ⟨rd_mem 986 (by decide +kernel) rfl, rd_mem 75 (by decide +kernel) rfl, by decide +kernel, by decide +kernel, by decide +kernel⟩
theorem mi_X12_time : Cond.instanceMethod yX12_time ∈ rd_gw := rd_mem 984 (by decide +kernel) rfl
theorem ms_X12_time : Cond.selects (MethodName.cls yX12_time) yX12_time yX12_time ∈ rd_gw := rd_mem 985 (by decide +kernel) rfl
theorem dX12_time_0 : decode cX12_time 0 = .ok (.aload_n 0, 1) := by decide +kernel
theorem dX12_time_1 : decode cX12_time 1 = .ok (.iconst 0, 1) := by decide +kernel
theorem dX12_time_2 : decode cX12_time 2 = .ok (.putfield 1, 3) := by decide +kernel
theorem dX12_time_5 : decode cX12_time 5 = .ok (.aload_n 0, 1) := by decide +kernel
theorem dX12_time_6 : decode cX12_time 6 = .ok (.getfield 260, 3) := by decide +kernel
theorem dX12_time_9 : decode cX12_time 9 = .ok (.ifCond .ne 5, 3) := by decide +kernel
theorem dX12_time_12 : decode cX12_time 12 = .ok (.iconst (-1), 1) := by decide +kernel
theorem dX12_time_13 : decode cX12_time 13 = .ok (.ireturn, 1) := by decide +kernel
theorem dX12_time_14 : decode cX12_time 14 = .ok (.aload_n 0, 1) := by decide +kernel
theorem dX12_time_15 : decode cX12_time 15 = .ok (.getfield 251, 3) := by decide +kernel
theorem dX12_time_18 : decode cX12_time 18 = .ok (.bipush 60, 2) := by decide +kernel
theorem dX12_time_20 : decode cX12_time 20 = .ok (.imul, 1) := by decide +kernel
theorem dX12_time_21 : decode cX12_time 21 = .ok (.aload_n 0, 1) := by decide +kernel
theorem dX12_time_22 : decode cX12_time 22 = .ok (.getfield 254, 3) := by decide +kernel
theorem dX12_time_25 : decode cX12_time 25 = .ok (.iadd, 1) := by decide +kernel
theorem dX12_time_26 : decode cX12_time 26 = .ok (.bipush 30, 2) := by decide +kernel
theorem dX12_time_28 : decode cX12_time 28 = .ok (.aload_n 0, 1) := by decide +kernel
theorem dX12_time_29 : decode cX12_time 29 = .ok (.getfield 257, 3) := by decide +kernel
theorem dX12_time_32 : decode cX12_time 32 = .ok (.imul, 1) := by decide +kernel
theorem dX12_time_33 : decode cX12_time 33 = .ok (.iadd, 1) := by decide +kernel
theorem dX12_time_34 : decode cX12_time 34 = .ok (.istore_n 2, 1) := by decide +kernel
theorem dX12_time_35 : decode cX12_time 35 = .ok (.iload_n 2, 1) := by decide +kernel
theorem dX12_time_36 : decode cX12_time 36 = .ok (.ifCond .ge 12, 3) := by decide +kernel
theorem dX12_time_39 : decode cX12_time 39 = .ok (.aload_n 0, 1) := by decide +kernel
theorem dX12_time_40 : decode cX12_time 40 = .ok (.getfield 248, 3) := by decide +kernel
theorem dX12_time_43 : decode cX12_time 43 = .ok (.iconst 1, 1) := by decide +kernel
theorem dX12_time_44 : decode cX12_time 44 = .ok (.isub, 1) := by decide +kernel
theorem dX12_time_45 : decode cX12_time 45 = .ok (.goto 23, 3) := by decide +kernel
theorem dX12_time_48 : decode cX12_time 48 = .ok (.iload_n 2, 1) := by decide +kernel
theorem dX12_time_49 : decode cX12_time 49 = .ok (.sipush 1439, 3) := by decide +kernel
theorem dX12_time_52 : decode cX12_time 52 = .ok (.if_icmp .le 12, 3) := by decide +kernel
theorem dX12_time_55 : decode cX12_time 55 = .ok (.aload_n 0, 1) := by decide +kernel
theorem dX12_time_56 : decode cX12_time 56 = .ok (.getfield 248, 3) := by decide +kernel
theorem dX12_time_59 : decode cX12_time 59 = .ok (.iconst 1, 1) := by decide +kernel
theorem dX12_time_60 : decode cX12_time 60 = .ok (.iadd, 1) := by decide +kernel
theorem dX12_time_61 : decode cX12_time 61 = .ok (.goto 7, 3) := by decide +kernel
theorem dX12_time_64 : decode cX12_time 64 = .ok (.aload_n 0, 1) := by decide +kernel
theorem dX12_time_65 : decode cX12_time 65 = .ok (.getfield 248, 3) := by decide +kernel
theorem dX12_time_68 : decode cX12_time 68 = .ok (.istore_n 3, 1) := by decide +kernel
theorem dX12_time_69 : decode cX12_time 69 = .ok (.iload_n 2, 1) := by decide +kernel
theorem dX12_time_70 : decode cX12_time 70 = .ok (.ifCond .ge 11, 3) := by decide +kernel
theorem dX12_time_73 : decode cX12_time 73 = .ok (.iload_n 2, 1) := by decide +kernel
theorem dX12_time_74 : decode cX12_time 74 = .ok (.sipush 1440, 3) := by decide +kernel
theorem dX12_time_77 : decode cX12_time 77 = .ok (.iadd, 1) := by decide +kernel
theorem dX12_time_78 : decode cX12_time 78 = .ok (.goto 19, 3) := by decide +kernel
theorem dX12_time_81 : decode cX12_time 81 = .ok (.iload_n 2, 1) := by decide +kernel
theorem dX12_time_82 : decode cX12_time 82 = .ok (.sipush 1439, 3) := by decide +kernel
theorem dX12_time_85 : decode cX12_time 85 = .ok (.if_icmp .le 11, 3) := by decide +kernel
theorem dX12_time_88 : decode cX12_time 88 = .ok (.iload_n 2, 1) := by decide +kernel
theorem dX12_time_89 : decode cX12_time 89 = .ok (.sipush 1440, 3) := by decide +kernel
theorem dX12_time_92 : decode cX12_time 92 = .ok (.isub, 1) := by decide +kernel
theorem dX12_time_93 : decode cX12_time 93 = .ok (.goto 4, 3) := by decide +kernel
theorem dX12_time_96 : decode cX12_time 96 = .ok (.iload_n 2, 1) := by decide +kernel
theorem dX12_time_97 : decode cX12_time 97 = .ok (.istore 4, 2) := by decide +kernel
theorem dX12_time_99 : decode cX12_time 99 = .ok (.iload_n 1, 1) := by decide +kernel
theorem dX12_time_100 : decode cX12_time 100 = .ok (.tableswitch 130 0 12 #[68, 73, 78, 83, 88, 88, 88, 99, 109, 109, 109, 118, 124], 68) := by decide +kernel
theorem dX12_time_168 : decode cX12_time 168 = .ok (.aload_n 0, 1) := by decide +kernel
theorem dX12_time_169 : decode cX12_time 169 = .ok (.getfield 248, 3) := by decide +kernel
theorem dX12_time_172 : decode cX12_time 172 = .ok (.ireturn, 1) := by decide +kernel
theorem dX12_time_173 : decode cX12_time 173 = .ok (.aload_n 0, 1) := by decide +kernel
theorem dX12_time_174 : decode cX12_time 174 = .ok (.getfield 251, 3) := by decide +kernel
theorem dX12_time_177 : decode cX12_time 177 = .ok (.ireturn, 1) := by decide +kernel
theorem dX12_time_178 : decode cX12_time 178 = .ok (.aload_n 0, 1) := by decide +kernel
theorem dX12_time_179 : decode cX12_time 179 = .ok (.getfield 254, 3) := by decide +kernel
theorem dX12_time_182 : decode cX12_time 182 = .ok (.ireturn, 1) := by decide +kernel
theorem dX12_time_183 : decode cX12_time 183 = .ok (.aload_n 0, 1) := by decide +kernel
theorem dX12_time_184 : decode cX12_time 184 = .ok (.getfield 257, 3) := by decide +kernel
theorem dX12_time_187 : decode cX12_time 187 = .ok (.ireturn, 1) := by decide +kernel
theorem dX12_time_188 : decode cX12_time 188 = .ok (.aload_n 0, 1) := by decide +kernel
theorem dX12_time_189 : decode cX12_time 189 = .ok (.getfield 248, 3) := by decide +kernel
theorem dX12_time_192 : decode cX12_time 192 = .ok (.iload_n 1, 1) := by decide +kernel
theorem dX12_time_193 : decode cX12_time 193 = .ok (.iconst 4, 1) := by decide +kernel
theorem dX12_time_194 : decode cX12_time 194 = .ok (.isub, 1) := by decide +kernel
theorem dX12_time_195 : decode cX12_time 195 = .ok (.invokestatic 269, 3) := by decide +kernel
theorem dX12_time_198 : decode cX12_time 198 = .ok (.ireturn, 1) := by decide +kernel
theorem dX12_time_199 : decode cX12_time 199 = .ok (.aload_n 0, 1) := by decide +kernel
theorem dX12_time_200 : decode cX12_time 200 = .ok (.getfield 248, 3) := by decide +kernel
theorem dX12_time_203 : decode cX12_time 203 = .ok (.iconst 2, 1) := by decide +kernel
theorem dX12_time_204 : decode cX12_time 204 = .ok (.iadd, 1) := by decide +kernel
theorem dX12_time_205 : decode cX12_time 205 = .ok (.bipush 7, 2) := by decide +kernel
theorem dX12_time_207 : decode cX12_time 207 = .ok (.irem, 1) := by decide +kernel
theorem dX12_time_208 : decode cX12_time 208 = .ok (.ireturn, 1) := by decide +kernel
theorem dX12_time_209 : decode cX12_time 209 = .ok (.iload_n 3, 1) := by decide +kernel
theorem dX12_time_210 : decode cX12_time 210 = .ok (.iload_n 1, 1) := by decide +kernel
theorem dX12_time_211 : decode cX12_time 211 = .ok (.bipush 8, 2) := by decide +kernel
theorem dX12_time_213 : decode cX12_time 213 = .ok (.isub, 1) := by decide +kernel
theorem dX12_time_214 : decode cX12_time 214 = .ok (.invokestatic 269, 3) := by decide +kernel
theorem dX12_time_217 : decode cX12_time 217 = .ok (.ireturn, 1) := by decide +kernel
theorem dX12_time_218 : decode cX12_time 218 = .ok (.iload 4, 2) := by decide +kernel
theorem dX12_time_220 : decode cX12_time 220 = .ok (.bipush 60, 2) := by decide +kernel
theorem dX12_time_222 : decode cX12_time 222 = .ok (.idiv, 1) := by decide +kernel
theorem dX12_time_223 : decode cX12_time 223 = .ok (.ireturn, 1) := by decide +kernel
theorem dX12_time_224 : decode cX12_time 224 = .ok (.iload 4, 2) := by decide +kernel
theorem dX12_time_226 : decode cX12_time 226 = .ok (.bipush 60, 2) := by decide +kernel
theorem dX12_time_228 : decode cX12_time 228 = .ok (.irem, 1) := by decide +kernel
theorem dX12_time_229 : decode cX12_time 229 = .ok (.ireturn, 1) := by decide +kernel
theorem dX12_time_230 : decode cX12_time 230 = .ok (.iconst (-1), 1) := by decide +kernel
theorem dX12_time_231 : decode cX12_time 231 = .ok (.ireturn, 1) := by decide +kernel
def B_X12_time_188 (w : rd_W) (a0 : Nat) (x1 : Int32) (S : rd_S) : Option (Int32 × rd_S) :=
  rd_b (F_X12_date w (gI S a0 46) (x1 - 4) S) fun v14 s13 =>
  some (v14, s13)
theorem yb_X12_time_188 (cx : rd_Cx) (w : rd_W) (a0 : Nat) (x1 : Int32) (ha0 : rd_ok w a0 12) (S : rd_S) : rd_Y cx G_X12_time (fun r => rd_P cx G_X12_time.2.2.2.2.2 0 w (rd_rI w r)) (B_X12_time_188 w a0 x1 S) 188 [(0, .inr (some a0)), (1, .inl x1)] [] w S 0 0 := by
  unfold B_X12_time_188
  refine ry_aload_n dX12_time_188 rfl ?_
  refine ry_geti dX12_time_189 ha0 fl_RX12_248 rfl ?_
  refine ry_iload_n dX12_time_192 rfl ?_
  refine ry_iconst (v := 4) dX12_time_193 (by decide) ?_
  refine ry_isub dX12_time_194 ?_
  refine ry_callI (fun l r9 h9 => cm_X12_date l cx w (gI S a0 46) (x1 - 4) S r9 h9) (rd_runS (vs := [.inl (gI S a0 46), .inl (x1 - 4)]) dX12_time_195 yf_X12_date mt_X12_date ml_RX12_269 ⟨Nat.le_of_ble_eq_true rfl, Nat.le_of_ble_eq_true rfl⟩ (Nat.le_of_ble_eq_true rfl) rfl) rfl rfl (Nat.le_of_ble_eq_true rfl) (Nat.le_of_ble_eq_true rfl) (fun v14 s13 => ?_)
  exact ry_iret dX12_time_198 rfl (Nat.le_of_ble_eq_true rfl) (Nat.le_of_ble_eq_true rfl)
def B_X12_time_209 (w : rd_W) (x1 : Int32) (x3 : Int32) (S : rd_S) : Option (Int32 × rd_S) :=
  rd_b (F_X12_date w x3 (x1 - 8) S) fun v20 s19 =>
  some (v20, s19)
theorem yb_X12_time_209 (cx : rd_Cx) (w : rd_W) (x1 : Int32) (x3 : Int32) (S : rd_S) : rd_Y cx G_X12_time (fun r => rd_P cx G_X12_time.2.2.2.2.2 0 w (rd_rI w r)) (B_X12_time_209 w x1 x3 S) 209 [(1, .inl x1), (3, .inl x3)] [] w S 0 0 := by
  unfold B_X12_time_209
  refine ry_iload_n dX12_time_209 rfl ?_
  refine ry_iload_n dX12_time_210 rfl ?_
  refine ry_bipush (v := 8) dX12_time_211 (by decide) ?_
  refine ry_isub dX12_time_213 ?_
  refine ry_callI (fun l r9 h9 => cm_X12_date l cx w x3 (x1 - 8) S r9 h9) (rd_runS (vs := [.inl x3, .inl (x1 - 8)]) dX12_time_214 yf_X12_date mt_X12_date ml_RX12_269 ⟨Nat.le_of_ble_eq_true rfl, Nat.le_of_ble_eq_true rfl⟩ (Nat.le_of_ble_eq_true rfl) rfl) rfl rfl (Nat.le_of_ble_eq_true rfl) (Nat.le_of_ble_eq_true rfl) (fun v20 s19 => ?_)
  exact ry_iret dX12_time_217 rfl (Nat.le_of_ble_eq_true rfl) (Nat.le_of_ble_eq_true rfl)
def B_X12_time_97 (w : rd_W) (a0 : Nat) (x1 : Int32) (x3 : Int32) (t0 : Int32) (S : rd_S) : Option (Int32 × rd_S) :=
  if x1 = 0 then
  (some (gI S a0 46, S))
  else
  if x1 = 1 then
  (some (gI S a0 47, S))
  else
  if x1 = 2 then
  (some (gI S a0 48, S))
  else
  if x1 = 3 then
  (some (gI S a0 49, S))
  else
  if x1 = 4 then
  (B_X12_time_188 w a0 x1 S)
  else
  if x1 = 5 then
  (B_X12_time_188 w a0 x1 S)
  else
  if x1 = 6 then
  (B_X12_time_188 w a0 x1 S)
  else
  if x1 = 7 then
  (some (rd_rem ((gI S a0 46) + 2) 7, S))
  else
  if x1 = 8 then
  (B_X12_time_209 w x1 x3 S)
  else
  if x1 = 9 then
  (B_X12_time_209 w x1 x3 S)
  else
  if x1 = 10 then
  (B_X12_time_209 w x1 x3 S)
  else
  if x1 = 11 then
  (some (t0 / 60, S))
  else
  if x1 = 12 then
  (some (rd_rem t0 60, S))
  else
  (some ((-1), S))
theorem yb_X12_time_97 (cx : rd_Cx) (w : rd_W) (a0 : Nat) (x1 : Int32) (x3 : Int32) (t0 : Int32) (ha0 : rd_ok w a0 12) (S : rd_S) : rd_Y cx G_X12_time (fun r => rd_P cx G_X12_time.2.2.2.2.2 0 w (rd_rI w r)) (B_X12_time_97 w a0 x1 x3 t0 S) 97 [(0, .inr (some a0)), (1, .inl x1), (3, .inl x3)] [.inl t0] w S 0 0 := by
  unfold B_X12_time_97
  refine ry_istore dX12_time_97 (by decide) ?_
  refine ry_iload_n dX12_time_99 rfl ?_
  refine ry_split _ (fun c8 => ?_) (fun c8 => ?_)
  · refine ry_tsIn 168 0 c8 dX12_time_100 (by decide) (by decide) rfl (by decide) ?_
    refine ry_aload_n dX12_time_168 rfl ?_
    refine ry_geti dX12_time_169 ha0 fl_RX12_248 rfl ?_
    exact ry_iret dX12_time_172 rfl (Nat.le_of_ble_eq_true rfl) (Nat.le_of_ble_eq_true rfl)
  refine ry_split _ (fun c9 => ?_) (fun c9 => ?_)
  · refine ry_tsIn 173 1 c9 dX12_time_100 (by decide) (by decide) rfl (by decide) ?_
    refine ry_aload_n dX12_time_173 rfl ?_
    refine ry_geti dX12_time_174 ha0 fl_RX12_251 rfl ?_
    exact ry_iret dX12_time_177 rfl (Nat.le_of_ble_eq_true rfl) (Nat.le_of_ble_eq_true rfl)
  refine ry_split _ (fun c10 => ?_) (fun c10 => ?_)
  · refine ry_tsIn 178 2 c10 dX12_time_100 (by decide) (by decide) rfl (by decide) ?_
    refine ry_aload_n dX12_time_178 rfl ?_
    refine ry_geti dX12_time_179 ha0 fl_RX12_254 rfl ?_
    exact ry_iret dX12_time_182 rfl (Nat.le_of_ble_eq_true rfl) (Nat.le_of_ble_eq_true rfl)
  refine ry_split _ (fun c11 => ?_) (fun c11 => ?_)
  · refine ry_tsIn 183 3 c11 dX12_time_100 (by decide) (by decide) rfl (by decide) ?_
    refine ry_aload_n dX12_time_183 rfl ?_
    refine ry_geti dX12_time_184 ha0 fl_RX12_257 rfl ?_
    exact ry_iret dX12_time_187 rfl (Nat.le_of_ble_eq_true rfl) (Nat.le_of_ble_eq_true rfl)
  refine ry_split _ (fun c12 => ?_) (fun c12 => ?_)
  · refine ry_tsIn 188 4 c12 dX12_time_100 (by decide) (by decide) rfl (by decide) ?_
    exact ry_to (yb_X12_time_188 cx w a0 x1 ha0 S) ⟨rfl, rfl, trivial⟩
  refine ry_split _ (fun c15 => ?_) (fun c15 => ?_)
  · refine ry_tsIn 188 5 c15 dX12_time_100 (by decide) (by decide) rfl (by decide) ?_
    exact ry_to (yb_X12_time_188 cx w a0 x1 ha0 S) ⟨rfl, rfl, trivial⟩
  refine ry_split _ (fun c16 => ?_) (fun c16 => ?_)
  · refine ry_tsIn 188 6 c16 dX12_time_100 (by decide) (by decide) rfl (by decide) ?_
    exact ry_to (yb_X12_time_188 cx w a0 x1 ha0 S) ⟨rfl, rfl, trivial⟩
  refine ry_split _ (fun c17 => ?_) (fun c17 => ?_)
  · refine ry_tsIn 199 7 c17 dX12_time_100 (by decide) (by decide) rfl (by decide) ?_
    refine ry_aload_n dX12_time_199 rfl ?_
    refine ry_geti dX12_time_200 ha0 fl_RX12_248 rfl ?_
    refine ry_iconst (v := 2) dX12_time_203 (by decide) ?_
    refine ry_iadd dX12_time_204 ?_
    refine ry_bipush (v := 7) dX12_time_205 (by decide) ?_
    refine ry_iremK dX12_time_207 (by decide) ?_
    exact ry_iret dX12_time_208 rfl (Nat.le_of_ble_eq_true rfl) (Nat.le_of_ble_eq_true rfl)
  refine ry_split _ (fun c18 => ?_) (fun c18 => ?_)
  · refine ry_tsIn 209 8 c18 dX12_time_100 (by decide) (by decide) rfl (by decide) ?_
    exact ry_to (yb_X12_time_209 cx w x1 x3 S) ⟨rfl, rfl, trivial⟩
  refine ry_split _ (fun c21 => ?_) (fun c21 => ?_)
  · refine ry_tsIn 209 9 c21 dX12_time_100 (by decide) (by decide) rfl (by decide) ?_
    exact ry_to (yb_X12_time_209 cx w x1 x3 S) ⟨rfl, rfl, trivial⟩
  refine ry_split _ (fun c22 => ?_) (fun c22 => ?_)
  · refine ry_tsIn 209 10 c22 dX12_time_100 (by decide) (by decide) rfl (by decide) ?_
    exact ry_to (yb_X12_time_209 cx w x1 x3 S) ⟨rfl, rfl, trivial⟩
  refine ry_split _ (fun c23 => ?_) (fun c23 => ?_)
  · refine ry_tsIn 218 11 c23 dX12_time_100 (by decide) (by decide) rfl (by decide) ?_
    refine ry_iload dX12_time_218 rfl ?_
    refine ry_bipush (v := 60) dX12_time_220 (by decide) ?_
    refine ry_idivK dX12_time_222 (by decide) ?_
    exact ry_iret dX12_time_223 rfl (Nat.le_of_ble_eq_true rfl) (Nat.le_of_ble_eq_true rfl)
  refine ry_split _ (fun c24 => ?_) (fun c24 => ?_)
  · refine ry_tsIn 224 12 c24 dX12_time_100 (by decide) (by decide) rfl (by decide) ?_
    refine ry_iload dX12_time_224 rfl ?_
    refine ry_bipush (v := 60) dX12_time_226 (by decide) ?_
    refine ry_iremK dX12_time_228 (by decide) ?_
    exact ry_iret dX12_time_229 rfl (Nat.le_of_ble_eq_true rfl) (Nat.le_of_ble_eq_true rfl)
  refine ry_tsD 230 [(0, 0), (1, 1), (2, 2), (3, 3), (4, 4), (5, 5), (6, 6), (7, 7), (8, 8), (9, 9), (10, 10), (11, 11), (12, 12)] 13 dX12_time_100 (by decide) (by decide +kernel) (by decide +kernel) ⟨c8, c9, c10, c11, c12, c15, c16, c17, c18, c21, c22, c23, c24, trivial⟩ (by decide) ?_
  refine ry_iconst (v := (-1)) dX12_time_230 (by decide) ?_
  exact ry_iret dX12_time_231 rfl (Nat.le_of_ble_eq_true rfl) (Nat.le_of_ble_eq_true rfl)
def B_X12_time_68 (w : rd_W) (a0 : Nat) (x1 : Int32) (x2 : Int32) (t0 : Int32) (S : rd_S) : Option (Int32 × rd_S) :=
  if 0 ≤ x2 then
  (if x2 ≤ 1439 then
  (B_X12_time_97 w a0 x1 t0 x2 S)
  else
  (B_X12_time_97 w a0 x1 t0 (x2 - 1440) S))
  else
  (B_X12_time_97 w a0 x1 t0 (x2 + 1440) S)
theorem yb_X12_time_68 (cx : rd_Cx) (w : rd_W) (a0 : Nat) (x1 : Int32) (x2 : Int32) (t0 : Int32) (ha0 : rd_ok w a0 12) (S : rd_S) : rd_Y cx G_X12_time (fun r => rd_P cx G_X12_time.2.2.2.2.2 0 w (rd_rI w r)) (B_X12_time_68 w a0 x1 x2 t0 S) 68 [(0, .inr (some a0)), (1, .inl x1), (2, .inl x2)] [.inl t0] w S 0 0 := by
  unfold B_X12_time_68
  refine ry_istore_n dX12_time_68 (by decide) ?_
  refine ry_iload_n dX12_time_69 rfl ?_
  refine ry_if_ge 81 dX12_time_70 (by decide) (fun c6 => ?_) (fun c6 => ?_)
  · refine ry_iload_n dX12_time_81 rfl ?_
    refine ry_sipush (v := 1439) dX12_time_82 (by decide) ?_
    refine ry_icmp_le 96 dX12_time_85 (by decide) (fun c7 => ?_) (fun c7 => ?_)
    · refine ry_iload_n dX12_time_96 rfl ?_
      exact ry_to (yb_X12_time_97 cx w a0 x1 t0 x2 ha0 S) ⟨rfl, rfl, rfl, trivial⟩
    · refine ry_iload_n dX12_time_88 rfl ?_
      refine ry_sipush (v := 1440) dX12_time_89 (by decide) ?_
      refine ry_isub dX12_time_92 ?_
      refine ry_goto 97 dX12_time_93 (by decide) ?_
      exact ry_to (yb_X12_time_97 cx w a0 x1 t0 (x2 - 1440) ha0 S) ⟨rfl, rfl, rfl, trivial⟩
  · refine ry_iload_n dX12_time_73 rfl ?_
    refine ry_sipush (v := 1440) dX12_time_74 (by decide) ?_
    refine ry_iadd dX12_time_77 ?_
    refine ry_goto 97 dX12_time_78 (by decide) ?_
    exact ry_to (yb_X12_time_97 cx w a0 x1 t0 (x2 + 1440) ha0 S) ⟨rfl, rfl, rfl, trivial⟩
def F_X12_time (w : rd_W) (a0 : Nat) (x1 : Int32) (S : rd_S) : Option (Int32 × rd_S) :=
  rd_let (pI S a0 0 0) fun s1 =>
  if (gI s1 a0 50) = 0 then
  (some ((-1), s1))
  else
  (rd_let ((((gI s1 a0 47) * 60) + (gI s1 a0 48)) + (30 * (gI s1 a0 49))) fun v3 =>
  if 0 ≤ v3 then
  (if v3 ≤ 1439 then
  (B_X12_time_68 w a0 x1 v3 (gI s1 a0 46) s1)
  else
  (B_X12_time_68 w a0 x1 v3 ((gI s1 a0 46) + 1) s1))
  else
  (B_X12_time_68 w a0 x1 v3 ((gI s1 a0 46) - 1) s1))
theorem ym_X12_time (cx : rd_Cx) (w : rd_W) (a0 : Nat) (x1 : Int32) (ha0 : rd_ok w a0 12) (S : rd_S) : rd_Y cx G_X12_time (fun r => rd_P cx G_X12_time.2.2.2.2.2 0 w (rd_rI w r)) (F_X12_time w a0 x1 S) 0 (rd_as 0 [.inr (some a0), .inl x1]) [] w S 0 0 := by
  unfold F_X12_time
  refine ry_aload_n dX12_time_0 rfl ?_
  refine ry_iconst (v := 0) dX12_time_1 (by decide) ?_
  refine ry_puti dX12_time_2 ha0 fl_RX12_1 rfl rfl rfl ?_
  refine ry_letS (fun s1 => ?_)
  refine ry_aload_n dX12_time_5 rfl ?_
  refine ry_geti dX12_time_6 ha0 fl_RX12_260 rfl ?_
  refine ry_if_ne 14 dX12_time_9 (by decide) (fun c2 => ?_) (fun c2 => ?_)
  · refine ry_iconst (v := (-1)) dX12_time_12 (by decide) ?_
    exact ry_iret dX12_time_13 rfl (Nat.le_of_ble_eq_true rfl) (Nat.le_of_ble_eq_true rfl)
  · refine ry_aload_n dX12_time_14 rfl ?_
    refine ry_geti dX12_time_15 ha0 fl_RX12_251 rfl ?_
    refine ry_bipush (v := 60) dX12_time_18 (by decide) ?_
    refine ry_imul dX12_time_20 ?_
    refine ry_aload_n dX12_time_21 rfl ?_
    refine ry_geti dX12_time_22 ha0 fl_RX12_254 rfl ?_
    refine ry_iadd dX12_time_25 ?_
    refine ry_bipush (v := 30) dX12_time_26 (by decide) ?_
    refine ry_aload_n dX12_time_28 rfl ?_
    refine ry_geti dX12_time_29 ha0 fl_RX12_257 rfl ?_
    refine ry_imul dX12_time_32 ?_
    refine ry_iadd dX12_time_33 ?_
    refine ry_istore_n dX12_time_34 (by decide) ?_
    refine ry_let (fun v3 => ?_)
    refine ry_iload_n dX12_time_35 rfl ?_
    refine ry_if_ge 48 dX12_time_36 (by decide) (fun c4 => ?_) (fun c4 => ?_)
    · refine ry_iload_n dX12_time_48 rfl ?_
      refine ry_sipush (v := 1439) dX12_time_49 (by decide) ?_
      refine ry_icmp_le 64 dX12_time_52 (by decide) (fun c5 => ?_) (fun c5 => ?_)
      · refine ry_aload_n dX12_time_64 rfl ?_
        refine ry_geti dX12_time_65 ha0 fl_RX12_248 rfl ?_
        exact ry_to (yb_X12_time_68 cx w a0 x1 v3 (gI s1 a0 46) ha0 s1) ⟨rfl, rfl, rfl, trivial⟩
      · refine ry_aload_n dX12_time_55 rfl ?_
        refine ry_geti dX12_time_56 ha0 fl_RX12_248 rfl ?_
        refine ry_iconst (v := 1) dX12_time_59 (by decide) ?_
        refine ry_iadd dX12_time_60 ?_
        refine ry_goto 68 dX12_time_61 (by decide) ?_
        exact ry_to (yb_X12_time_68 cx w a0 x1 v3 ((gI s1 a0 46) + 1) ha0 s1) ⟨rfl, rfl, rfl, trivial⟩
    · refine ry_aload_n dX12_time_39 rfl ?_
      refine ry_geti dX12_time_40 ha0 fl_RX12_248 rfl ?_
      refine ry_iconst (v := 1) dX12_time_43 (by decide) ?_
      refine ry_isub dX12_time_44 ?_
      refine ry_goto 68 dX12_time_45 (by decide) ?_
      exact ry_to (yb_X12_time_68 cx w a0 x1 v3 ((gI s1 a0 46) - 1) ha0 s1) ⟨rfl, rfl, rfl, trivial⟩
theorem cm_X12_time (l : Launch) (cx : rd_Cx) (w : rd_W) (a0 : Nat) (x1 : Int32) (ha0 : rd_ok w a0 12) (S : rd_S) (r : Int32 × rd_S) (h : F_X12_time w a0 x1 S = some r) : rd_M l cx yX12_time G_X12_time 0 [.inr (some a0), .inl x1] w S (rd_rI w r) :=
  rd_enter (plainFor_of_name (by decide +kernel)) rfl (fun h => by cases h) (Nat.le_of_ble_eq_true rfl) (ym_X12_time cx w a0 x1 ha0 S r h)
abbrev G_X4_tell : rd_G := (RX4, cX4_tell, 3, (some .int), false, { frames := 1, cells := 0, slots := 0, locals := 21 })
theorem yf_X4_tell : rd_YL yX4_tell G_X4_tell 2 := ⟨rd_mem 834 (by decide +kernel) rfl, rd_mem 71 (by decide +kernel) rfl, by decide +kernel, by decide +kernel, by decide +kernel⟩
theorem mi_X4_tell : Cond.instanceMethod yX4_tell ∈ rd_gw := rd_mem 832 (by decide +kernel) rfl
theorem ms_X4_tell : Cond.selects (MethodName.cls yX4_tell) yX4_tell yX4_tell ∈ rd_gw := rd_mem 833 (by decide +kernel) rfl
theorem dX4_tell_0 : decode cX4_tell 0 = .ok (.iload_n 1, 1) := by decide +kernel
theorem dX4_tell_1 : decode cX4_tell 1 = .ok (.aload_n 0, 1) := by decide +kernel
theorem dX4_tell_2 : decode cX4_tell 2 = .ok (.getfield 21, 3) := by decide +kernel
theorem dX4_tell_5 : decode cX4_tell 5 = .ok (.if_icmp .lt 5, 3) := by decide +kernel
theorem dX4_tell_8 : decode cX4_tell 8 = .ok (.iconst (-1), 1) := by decide +kernel
theorem dX4_tell_9 : decode cX4_tell 9 = .ok (.ireturn, 1) := by decide +kernel
theorem dX4_tell_10 : decode cX4_tell 10 = .ok (.iload_n 2, 1) := by decide +kernel
theorem dX4_tell_11 : decode cX4_tell 11 = .ok (.tableswitch 52 0 2 #[25, 34, 43], 25) := by decide +kernel
theorem dX4_tell_36 : decode cX4_tell 36 = .ok (.aload_n 0, 1) := by decide +kernel
theorem dX4_tell_37 : decode cX4_tell 37 = .ok (.getfield 11, 3) := by decide +kernel
theorem dX4_tell_40 : decode cX4_tell 40 = .ok (.iload_n 1, 1) := by decide +kernel
theorem dX4_tell_41 : decode cX4_tell 41 = .ok (.invokestatic 39, 3) := by decide +kernel
theorem dX4_tell_44 : decode cX4_tell 44 = .ok (.ireturn, 1) := by decide +kernel
theorem dX4_tell_45 : decode cX4_tell 45 = .ok (.aload_n 0, 1) := by decide +kernel
theorem dX4_tell_46 : decode cX4_tell 46 = .ok (.getfield 15, 3) := by decide +kernel
theorem dX4_tell_49 : decode cX4_tell 49 = .ok (.iload_n 1, 1) := by decide +kernel
theorem dX4_tell_50 : decode cX4_tell 50 = .ok (.invokestatic 39, 3) := by decide +kernel
theorem dX4_tell_53 : decode cX4_tell 53 = .ok (.ireturn, 1) := by decide +kernel
theorem dX4_tell_54 : decode cX4_tell 54 = .ok (.aload_n 0, 1) := by decide +kernel
theorem dX4_tell_55 : decode cX4_tell 55 = .ok (.getfield 18, 3) := by decide +kernel
theorem dX4_tell_58 : decode cX4_tell 58 = .ok (.iload_n 1, 1) := by decide +kernel
theorem dX4_tell_59 : decode cX4_tell 59 = .ok (.invokestatic 39, 3) := by decide +kernel
theorem dX4_tell_62 : decode cX4_tell 62 = .ok (.ireturn, 1) := by decide +kernel
theorem dX4_tell_63 : decode cX4_tell 63 = .ok (.iconst (-1), 1) := by decide +kernel
theorem dX4_tell_64 : decode cX4_tell 64 = .ok (.ireturn, 1) := by decide +kernel
def F_X4_tell (w : rd_W) (a0 : Nat) (x1 : Int32) (x2 : Int32) (S : rd_S) : Option (Int32 × rd_S) :=
  if x1 < (gI S a0 3) then
  (if x2 = 0 then
  (rd_c (gR S a0 0) fun b3 =>
  rd_b (F_X11_at w b3 x1 S) fun v5 s4 =>
  some (v5, s4))
  else
  if x2 = 1 then
  (rd_c (gR S a0 1) fun b7 =>
  rd_b (F_X11_at w b7 x1 S) fun v9 s8 =>
  some (v9, s8))
  else
  if x2 = 2 then
  (rd_c (gR S a0 2) fun b11 =>
  rd_b (F_X11_at w b11 x1 S) fun v13 s12 =>
  some (v13, s12))
  else
  (some ((-1), S)))
  else
  (some ((-1), S))
theorem ym_X4_tell (cx : rd_Cx) (w : rd_W) (a0 : Nat) (x1 : Int32) (x2 : Int32) (ha0 : rd_ok w a0 4) (S : rd_S) : rd_Y cx G_X4_tell (fun r => rd_P cx G_X4_tell.2.2.2.2.2 0 w (rd_rI w r)) (F_X4_tell w a0 x1 x2 S) 0 (rd_as 0 [.inr (some a0), .inl x1, .inl x2]) [] w S 0 0 := by
  unfold F_X4_tell
  refine ry_iload_n dX4_tell_0 rfl ?_
  refine ry_aload_n dX4_tell_1 rfl ?_
  refine ry_geti dX4_tell_2 ha0 fl_RX4_21 rfl ?_
  refine ry_icmp_lt 10 dX4_tell_5 (by decide) (fun c1 => ?_) (fun c1 => ?_)
  · refine ry_iload_n dX4_tell_10 rfl ?_
    refine ry_split _ (fun c2 => ?_) (fun c2 => ?_)
    · refine ry_tsIn 36 0 c2 dX4_tell_11 (by decide) (by decide) rfl (by decide) ?_
      refine ry_aload_n dX4_tell_36 rfl ?_
      refine ry_getr dX4_tell_37 ha0 fl_RX4_11 rfl (fun b3 hb3 => ?_)
      refine ry_iload_n dX4_tell_40 rfl ?_
      refine ry_callI (fun l r9 h9 => cm_X11_at l cx w b3 x1 hb3 S r9 h9) (rd_runSN (vs := [.inr (some b3), .inl x1]) dX4_tell_41 yf_X11_at mt_X11_at mn_RX4_39 ⟨Nat.le_of_ble_eq_true rfl, Nat.le_of_ble_eq_true rfl⟩ (Nat.le_of_ble_eq_true rfl) rfl) rfl rfl (Nat.le_of_ble_eq_true rfl) (Nat.le_of_ble_eq_true rfl) (fun v5 s4 => ?_)
      exact ry_iret dX4_tell_44 rfl (Nat.le_of_ble_eq_true rfl) (Nat.le_of_ble_eq_true rfl)
    refine ry_split _ (fun c6 => ?_) (fun c6 => ?_)
    · refine ry_tsIn 45 1 c6 dX4_tell_11 (by decide) (by decide) rfl (by decide) ?_
      refine ry_aload_n dX4_tell_45 rfl ?_
      refine ry_getr dX4_tell_46 ha0 fl_RX4_15 rfl (fun b7 hb7 => ?_)
      refine ry_iload_n dX4_tell_49 rfl ?_
      refine ry_callI (fun l r9 h9 => cm_X11_at l cx w b7 x1 hb7 S r9 h9) (rd_runSN (vs := [.inr (some b7), .inl x1]) dX4_tell_50 yf_X11_at mt_X11_at mn_RX4_39 ⟨Nat.le_of_ble_eq_true rfl, Nat.le_of_ble_eq_true rfl⟩ (Nat.le_of_ble_eq_true rfl) rfl) rfl rfl (Nat.le_of_ble_eq_true rfl) (Nat.le_of_ble_eq_true rfl) (fun v9 s8 => ?_)
      exact ry_iret dX4_tell_53 rfl (Nat.le_of_ble_eq_true rfl) (Nat.le_of_ble_eq_true rfl)
    refine ry_split _ (fun c10 => ?_) (fun c10 => ?_)
    · refine ry_tsIn 54 2 c10 dX4_tell_11 (by decide) (by decide) rfl (by decide) ?_
      refine ry_aload_n dX4_tell_54 rfl ?_
      refine ry_getr dX4_tell_55 ha0 fl_RX4_18 rfl (fun b11 hb11 => ?_)
      refine ry_iload_n dX4_tell_58 rfl ?_
      refine ry_callI (fun l r9 h9 => cm_X11_at l cx w b11 x1 hb11 S r9 h9) (rd_runSN (vs := [.inr (some b11), .inl x1]) dX4_tell_59 yf_X11_at mt_X11_at mn_RX4_39 ⟨Nat.le_of_ble_eq_true rfl, Nat.le_of_ble_eq_true rfl⟩ (Nat.le_of_ble_eq_true rfl) rfl) rfl rfl (Nat.le_of_ble_eq_true rfl) (Nat.le_of_ble_eq_true rfl) (fun v13 s12 => ?_)
      exact ry_iret dX4_tell_62 rfl (Nat.le_of_ble_eq_true rfl) (Nat.le_of_ble_eq_true rfl)
    refine ry_tsD 63 [(0, 0), (1, 1), (2, 2)] 3 dX4_tell_11 (by decide) (by decide +kernel) (by decide +kernel) ⟨c2, c6, c10, trivial⟩ (by decide) ?_
    refine ry_iconst (v := (-1)) dX4_tell_63 (by decide) ?_
    exact ry_iret dX4_tell_64 rfl (Nat.le_of_ble_eq_true rfl) (Nat.le_of_ble_eq_true rfl)
  · refine ry_iconst (v := (-1)) dX4_tell_8 (by decide) ?_
    exact ry_iret dX4_tell_9 rfl (Nat.le_of_ble_eq_true rfl) (Nat.le_of_ble_eq_true rfl)
theorem cm_X4_tell (l : Launch) (cx : rd_Cx) (w : rd_W) (a0 : Nat) (x1 : Int32) (x2 : Int32) (ha0 : rd_ok w a0 4) (S : rd_S) (r : Int32 × rd_S) (h : F_X4_tell w a0 x1 x2 S = some r) : rd_M l cx yX4_tell G_X4_tell 0 [.inr (some a0), .inl x1, .inl x2] w S (rd_rI w r) :=
  rd_enter (plainFor_of_name (by decide +kernel)) rfl (fun h => by cases h) (Nat.le_of_ble_eq_true rfl) (ym_X4_tell cx w a0 x1 x2 ha0 S r h)
abbrev G_X11_oda : rd_G := (RX11, cX11_oda, 3, (some .int), false, { frames := 2, cells := 0, slots := 0, locals := 43 })
theorem yf_X11_oda : rd_YL yX11_oda G_X11_oda 2 := ⟨rd_mem 830 (by decide +kernel) rfl, rd_mem 62 (by decide +kernel) rfl, by decide +kernel, by decide +kernel, by decide +kernel⟩
theorem mi_X11_oda : Cond.instanceMethod yX11_oda ∈ rd_gw := rd_mem 828 (by decide +kernel) rfl
theorem ms_X11_oda : Cond.selects (MethodName.cls yX11_oda) yX11_oda yX11_oda ∈ rd_gw := rd_mem 829 (by decide +kernel) rfl
theorem dX11_oda_0 : decode cX11_oda 0 = .ok (.aload_n 0, 1) := by decide +kernel
theorem dX11_oda_1 : decode cX11_oda 1 = .ok (.getfield 26, 3) := by decide +kernel
theorem dX11_oda_4 : decode cX11_oda 4 = .ok (.getfield 128, 3) := by decide +kernel
theorem dX11_oda_7 : decode cX11_oda 7 = .ok (.iload_n 1, 1) := by decide +kernel
theorem dX11_oda_8 : decode cX11_oda 8 = .ok (.iload_n 2, 1) := by decide +kernel
theorem dX11_oda_9 : decode cX11_oda 9 = .ok (.invokevirtual 132, 3) := by decide +kernel
theorem dX11_oda_12 : decode cX11_oda 12 = .ok (.ireturn, 1) := by decide +kernel
def F_X11_oda (w : rd_W) (a0 : Nat) (x1 : Int32) (x2 : Int32) (S : rd_S) : Option (Int32 × rd_S) :=
  rd_c (gR S a0 2) fun b1 =>
  rd_c (gR S b1 6) fun b2 =>
  rd_b (F_X4_tell w b2 x1 x2 S) fun v4 s3 =>
  some (v4, s3)
theorem ym_X11_oda (cx : rd_Cx) (w : rd_W) (a0 : Nat) (x1 : Int32) (x2 : Int32) (ha0 : rd_ok w a0 11) (S : rd_S) : rd_Y cx G_X11_oda (fun r => rd_P cx G_X11_oda.2.2.2.2.2 0 w (rd_rI w r)) (F_X11_oda w a0 x1 x2 S) 0 (rd_as 0 [.inr (some a0), .inl x1, .inl x2]) [] w S 0 0 := by
  unfold F_X11_oda
  refine ry_aload_n dX11_oda_0 rfl ?_
  refine ry_getr dX11_oda_1 ha0 fl_RX11_26 rfl (fun b1 hb1 => ?_)
  refine ry_getr dX11_oda_4 hb1 fl_RX11_128 rfl (fun b2 hb2 => ?_)
  refine ry_iload_n dX11_oda_7 rfl ?_
  refine ry_iload_n dX11_oda_8 rfl ?_
  refine ry_callI (fun l r9 h9 => cm_X4_tell l cx w b2 x1 x2 hb2 S r9 h9) (rd_runV (vs := [.inl x1, .inl x2]) dX11_oda_9 hb2 rfl rfl yf_X4_tell mi_X4_tell ms_X4_tell ml_RX11_132 ⟨Nat.le_of_ble_eq_true rfl, Nat.le_of_ble_eq_true rfl⟩ (Nat.le_of_ble_eq_true rfl) rfl) rfl rfl (Nat.le_of_ble_eq_true rfl) (Nat.le_of_ble_eq_true rfl) (fun v4 s3 => ?_)
  exact ry_iret dX11_oda_12 rfl (Nat.le_of_ble_eq_true rfl) (Nat.le_of_ble_eq_true rfl)
theorem cm_X11_oda (l : Launch) (cx : rd_Cx) (w : rd_W) (a0 : Nat) (x1 : Int32) (x2 : Int32) (ha0 : rd_ok w a0 11) (S : rd_S) (r : Int32 × rd_S) (h : F_X11_oda w a0 x1 x2 S = some r) : rd_M l cx yX11_oda G_X11_oda 0 [.inr (some a0), .inl x1, .inl x2] w S (rd_rI w r) :=
  rd_enter (plainFor_of_name (by decide +kernel)) rfl (fun h => by cases h) (Nat.le_of_ble_eq_true rfl) (ym_X11_oda cx w a0 x1 x2 ha0 S r h)
