abbrev G_X12_state : rd_G := (RX12, cX12_state, 2, (some .int), false, { frames := 0, cells := 0, slots := 0, locals := 0 })
theorem yf_X12_state : rd_YL yX12_state G_X12_state 1 := ⟨rd_mem 1171 (by decide +kernel) rfl, rd_mem 75 (by decide +kernel) rfl, by decide +kernel, by decide +kernel, by decide +kernel⟩
theorem mi_X12_state : Cond.instanceMethod yX12_state ∈ rd_gw := rd_mem 1169 (by decide +kernel) rfl
theorem ms_X12_state : Cond.selects (MethodName.cls yX12_state) yX12_state yX12_state ∈ rd_gw := rd_mem 1170 (by decide +kernel) rfl
theorem dX12_state_0 : decode cX12_state 0 = .ok (.aload_n 0, 1) := by decide +kernel
theorem dX12_state_1 : decode cX12_state 1 = .ok (.iconst 0, 1) := by decide +kernel
theorem dX12_state_2 : decode cX12_state 2 = .ok (.putfield 1, 3) := by decide +kernel
theorem dX12_state_5 : decode cX12_state 5 = .ok (.iload_n 1, 1) := by decide +kernel
theorem dX12_state_6 : decode cX12_state 6 = .ok (.tableswitch 126 0 10 #[58, 71, 76, 76, 76, 85, 90, 95, 100, 105, 121], 58) := by decide +kernel
theorem dX12_state_64 : decode cX12_state 64 = .ok (.aload_n 0, 1) := by decide +kernel
theorem dX12_state_65 : decode cX12_state 65 = .ok (.getfield 42, 3) := by decide +kernel
theorem dX12_state_68 : decode cX12_state 68 = .ok (.ifCond .eq 7, 3) := by decide +kernel
theorem dX12_state_71 : decode cX12_state 71 = .ok (.iconst 1, 1) := by decide +kernel
theorem dX12_state_72 : decode cX12_state 72 = .ok (.goto 4, 3) := by decide +kernel
theorem dX12_state_75 : decode cX12_state 75 = .ok (.iconst 0, 1) := by decide +kernel
theorem dX12_state_76 : decode cX12_state 76 = .ok (.ireturn, 1) := by decide +kernel
theorem dX12_state_77 : decode cX12_state 77 = .ok (.aload_n 0, 1) := by decide +kernel
theorem dX12_state_78 : decode cX12_state 78 = .ok (.getfield 39, 3) := by decide +kernel
theorem dX12_state_81 : decode cX12_state 81 = .ok (.ireturn, 1) := by decide +kernel
theorem dX12_state_82 : decode cX12_state 82 = .ok (.aload_n 0, 1) := by decide +kernel
theorem dX12_state_83 : decode cX12_state 83 = .ok (.getfield 87, 3) := by decide +kernel
theorem dX12_state_86 : decode cX12_state 86 = .ok (.iload_n 1, 1) := by decide +kernel
theorem dX12_state_87 : decode cX12_state 87 = .ok (.iconst 2, 1) := by decide +kernel
theorem dX12_state_88 : decode cX12_state 88 = .ok (.isub, 1) := by decide +kernel
theorem dX12_state_89 : decode cX12_state 89 = .ok (.iaload, 1) := by decide +kernel
theorem dX12_state_90 : decode cX12_state 90 = .ok (.ireturn, 1) := by decide +kernel
theorem dX12_state_91 : decode cX12_state 91 = .ok (.aload_n 0, 1) := by decide +kernel
theorem dX12_state_92 : decode cX12_state 92 = .ok (.getfield 105, 3) := by decide +kernel
theorem dX12_state_95 : decode cX12_state 95 = .ok (.ireturn, 1) := by decide +kernel
theorem dX12_state_96 : decode cX12_state 96 = .ok (.aload_n 0, 1) := by decide +kernel
theorem dX12_state_97 : decode cX12_state 97 = .ok (.getfield 118, 3) := by decide +kernel
theorem dX12_state_100 : decode cX12_state 100 = .ok (.ireturn, 1) := by decide +kernel
theorem dX12_state_101 : decode cX12_state 101 = .ok (.aload_n 0, 1) := by decide +kernel
theorem dX12_state_102 : decode cX12_state 102 = .ok (.getfield 62, 3) := by decide +kernel
theorem dX12_state_105 : decode cX12_state 105 = .ok (.ireturn, 1) := by decide +kernel
theorem dX12_state_106 : decode cX12_state 106 = .ok (.aload_n 0, 1) := by decide +kernel
theorem dX12_state_107 : decode cX12_state 107 = .ok (.getfield 96, 3) := by decide +kernel
theorem dX12_state_110 : decode cX12_state 110 = .ok (.ireturn, 1) := by decide +kernel
theorem dX12_state_111 : decode cX12_state 111 = .ok (.aload_n 0, 1) := by decide +kernel
theorem dX12_state_112 : decode cX12_state 112 = .ok (.getfield 42, 3) := by decide +kernel
theorem dX12_state_115 : decode cX12_state 115 = .ok (.ifCond .eq 10, 3) := by decide +kernel
theorem dX12_state_118 : decode cX12_state 118 = .ok (.aload_n 0, 1) := by decide +kernel
theorem dX12_state_119 : decode cX12_state 119 = .ok (.getfield 71, 3) := by decide +kernel
theorem dX12_state_122 : decode cX12_state 122 = .ok (.goto 4, 3) := by decide +kernel
theorem dX12_state_125 : decode cX12_state 125 = .ok (.iconst (-1), 1) := by decide +kernel
theorem dX12_state_126 : decode cX12_state 126 = .ok (.ireturn, 1) := by decide +kernel
theorem dX12_state_127 : decode cX12_state 127 = .ok (.aload_n 0, 1) := by decide +kernel
theorem dX12_state_128 : decode cX12_state 128 = .ok (.getfield 68, 3) := by decide +kernel
theorem dX12_state_131 : decode cX12_state 131 = .ok (.ireturn, 1) := by decide +kernel
theorem dX12_state_132 : decode cX12_state 132 = .ok (.iconst (-1), 1) := by decide +kernel
theorem dX12_state_133 : decode cX12_state 133 = .ok (.ireturn, 1) := by decide +kernel
def B_X12_state_76 (w : rd_W) (t0 : Int32) (S : rd_S) : Option (Int32 × rd_S) :=
  some (t0, S)
theorem yb_X12_state_76 (cx : rd_Cx) (w : rd_W) (t0 : Int32) (S : rd_S) : rd_Y cx G_X12_state (fun r => rd_P cx G_X12_state.2.2.2.2.2 0 w (rd_rI w r)) (B_X12_state_76 w t0 S) 76 [] [.inl t0] w S 0 0 := by
  unfold B_X12_state_76
  exact ry_iret dX12_state_76 rfl (Nat.le_of_ble_eq_true rfl) (Nat.le_of_ble_eq_true rfl)
def B_X12_state_82 (w : rd_W) (a0 : Nat) (x1 : Int32) (S : rd_S) : Option (Int32 × rd_S) :=
  rd_c (gR S a0 13) fun b6 =>
  rd_let (x1 - 2) fun v7 =>
  rd_i v7 (w.2.2 b6) <|
  some (gI S b6 v7.toNatClampNeg, S)
theorem yb_X12_state_82 (cx : rd_Cx) (w : rd_W) (a0 : Nat) (x1 : Int32) (ha0 : rd_ok w a0 12) (S : rd_S) : rd_Y cx G_X12_state (fun r => rd_P cx G_X12_state.2.2.2.2.2 0 w (rd_rI w r)) (B_X12_state_82 w a0 x1 S) 82 [(0, .inr (some a0)), (1, .inl x1)] [] w S 0 0 := by
  unfold B_X12_state_82
  refine ry_aload_n dX12_state_82 rfl ?_
  refine ry_getr dX12_state_83 ha0 fl_RX12_87 rfl (fun b6 hb6 => ?_)
  refine ry_iload_n dX12_state_86 rfl ?_
  refine ry_iconst (v := 2) dX12_state_87 (by decide) ?_
  refine ry_isub dX12_state_88 ?_
  refine ry_lets (fun v7 => ?_)
  refine ry_iald dX12_state_89 hb6 ?_
  exact ry_iret dX12_state_90 rfl (Nat.le_of_ble_eq_true rfl) (Nat.le_of_ble_eq_true rfl)
def B_X12_state_126 (w : rd_W) (t0 : Int32) (S : rd_S) : Option (Int32 × rd_S) :=
  some (t0, S)
theorem yb_X12_state_126 (cx : rd_Cx) (w : rd_W) (t0 : Int32) (S : rd_S) : rd_Y cx G_X12_state (fun r => rd_P cx G_X12_state.2.2.2.2.2 0 w (rd_rI w r)) (B_X12_state_126 w t0 S) 126 [] [.inl t0] w S 0 0 := by
  unfold B_X12_state_126
  exact ry_iret dX12_state_126 rfl (Nat.le_of_ble_eq_true rfl) (Nat.le_of_ble_eq_true rfl)
def F_X12_state (w : rd_W) (a0 : Nat) (x1 : Int32) (S : rd_S) : Option (Int32 × rd_S) :=
  rd_let (pI S a0 0 0) fun s1 =>
  if x1 = 0 then
  (if (gI s1 a0 7) = 0 then
  (B_X12_state_76 w 0 s1)
  else
  (B_X12_state_76 w 1 s1))
  else
  if x1 = 1 then
  (some (gI s1 a0 6, s1))
  else
  if x1 = 2 then
  (B_X12_state_82 w a0 x1 s1)
  else
  if x1 = 3 then
  (B_X12_state_82 w a0 x1 s1)
  else
  if x1 = 4 then
  (B_X12_state_82 w a0 x1 s1)
  else
  if x1 = 5 then
  (some (gI s1 a0 16, s1))
  else
  if x1 = 6 then
  (some (gI s1 a0 17, s1))
  else
  if x1 = 7 then
  (some (gI s1 a0 14, s1))
  else
  if x1 = 8 then
  (some (gI s1 a0 15, s1))
  else
  if x1 = 9 then
  (if (gI s1 a0 7) = 0 then
  (B_X12_state_126 w (-1) s1)
  else
  (B_X12_state_126 w (gI s1 a0 8) s1))
  else
  if x1 = 10 then
  (some (gI s1 a0 12, s1))
  else
  (some ((-1), s1))
theorem ym_X12_state (cx : rd_Cx) (w : rd_W) (a0 : Nat) (x1 : Int32) (ha0 : rd_ok w a0 12) (S : rd_S) : rd_Y cx G_X12_state (fun r => rd_P cx G_X12_state.2.2.2.2.2 0 w (rd_rI w r)) (F_X12_state w a0 x1 S) 0 (rd_as 0 [.inr (some a0), .inl x1]) [] w S 0 0 := by
  unfold F_X12_state
  refine ry_aload_n dX12_state_0 rfl ?_
  refine ry_iconst (v := 0) dX12_state_1 (by decide) ?_
  refine ry_puti dX12_state_2 ha0 fl_RX12_1 rfl rfl rfl ?_
  refine ry_letS (fun s1 => ?_)
  refine ry_iload_n dX12_state_5 rfl ?_
  refine ry_split _ (fun c2 => ?_) (fun c2 => ?_)
  · refine ry_tsIn 64 0 c2 dX12_state_6 (by decide) (by decide) rfl (by decide) ?_
    refine ry_aload_n dX12_state_64 rfl ?_
    refine ry_geti dX12_state_65 ha0 fl_RX12_42 rfl ?_
    refine ry_if_eq 75 dX12_state_68 (by decide) (fun c3 => ?_) (fun c3 => ?_)
    · refine ry_iconst (v := 0) dX12_state_75 (by decide) ?_
      exact ry_to (yb_X12_state_76 cx w 0 s1) trivial
    · refine ry_iconst (v := 1) dX12_state_71 (by decide) ?_
      refine ry_goto 76 dX12_state_72 (by decide) ?_
      exact ry_to (yb_X12_state_76 cx w 1 s1) trivial
  refine ry_split _ (fun c4 => ?_) (fun c4 => ?_)
  · refine ry_tsIn 77 1 c4 dX12_state_6 (by decide) (by decide) rfl (by decide) ?_
    refine ry_aload_n dX12_state_77 rfl ?_
    refine ry_geti dX12_state_78 ha0 fl_RX12_39 rfl ?_
    exact ry_iret dX12_state_81 rfl (Nat.le_of_ble_eq_true rfl) (Nat.le_of_ble_eq_true rfl)
  refine ry_split _ (fun c5 => ?_) (fun c5 => ?_)
  · refine ry_tsIn 82 2 c5 dX12_state_6 (by decide) (by decide) rfl (by decide) ?_
    exact ry_to (yb_X12_state_82 cx w a0 x1 ha0 s1) ⟨rfl, rfl, trivial⟩
  refine ry_split _ (fun c8 => ?_) (fun c8 => ?_)
  · refine ry_tsIn 82 3 c8 dX12_state_6 (by decide) (by decide) rfl (by decide) ?_
    exact ry_to (yb_X12_state_82 cx w a0 x1 ha0 s1) ⟨rfl, rfl, trivial⟩
  refine ry_split _ (fun c9 => ?_) (fun c9 => ?_)
  · refine ry_tsIn 82 4 c9 dX12_state_6 (by decide) (by decide) rfl (by decide) ?_
    exact ry_to (yb_X12_state_82 cx w a0 x1 ha0 s1) ⟨rfl, rfl, trivial⟩
  refine ry_split _ (fun c10 => ?_) (fun c10 => ?_)
  · refine ry_tsIn 91 5 c10 dX12_state_6 (by decide) (by decide) rfl (by decide) ?_
    refine ry_aload_n dX12_state_91 rfl ?_
    refine ry_geti dX12_state_92 ha0 fl_RX12_105 rfl ?_
    exact ry_iret dX12_state_95 rfl (Nat.le_of_ble_eq_true rfl) (Nat.le_of_ble_eq_true rfl)
  refine ry_split _ (fun c11 => ?_) (fun c11 => ?_)
  · refine ry_tsIn 96 6 c11 dX12_state_6 (by decide) (by decide) rfl (by decide) ?_
    refine ry_aload_n dX12_state_96 rfl ?_
    refine ry_geti dX12_state_97 ha0 fl_RX12_118 rfl ?_
    exact ry_iret dX12_state_100 rfl (Nat.le_of_ble_eq_true rfl) (Nat.le_of_ble_eq_true rfl)
  refine ry_split _ (fun c12 => ?_) (fun c12 => ?_)
  · refine ry_tsIn 101 7 c12 dX12_state_6 (by decide) (by decide) rfl (by decide) ?_
    refine ry_aload_n dX12_state_101 rfl ?_
    refine ry_geti dX12_state_102 ha0 fl_RX12_62 rfl ?_
    exact ry_iret dX12_state_105 rfl (Nat.le_of_ble_eq_true rfl) (Nat.le_of_ble_eq_true rfl)
  refine ry_split _ (fun c13 => ?_) (fun c13 => ?_)
  · refine ry_tsIn 106 8 c13 dX12_state_6 (by decide) (by decide) rfl (by decide) ?_
    refine ry_aload_n dX12_state_106 rfl ?_
    refine ry_geti dX12_state_107 ha0 fl_RX12_96 rfl ?_
    exact ry_iret dX12_state_110 rfl (Nat.le_of_ble_eq_true rfl) (Nat.le_of_ble_eq_true rfl)
  refine ry_split _ (fun c14 => ?_) (fun c14 => ?_)
  · refine ry_tsIn 111 9 c14 dX12_state_6 (by decide) (by decide) rfl (by decide) ?_
    refine ry_aload_n dX12_state_111 rfl ?_
    refine ry_geti dX12_state_112 ha0 fl_RX12_42 rfl ?_
    refine ry_if_eq 125 dX12_state_115 (by decide) (fun c15 => ?_) (fun c15 => ?_)
    · refine ry_iconst (v := (-1)) dX12_state_125 (by decide) ?_
      exact ry_to (yb_X12_state_126 cx w (-1) s1) trivial
    · refine ry_aload_n dX12_state_118 rfl ?_
      refine ry_geti dX12_state_119 ha0 fl_RX12_71 rfl ?_
      refine ry_goto 126 dX12_state_122 (by decide) ?_
      exact ry_to (yb_X12_state_126 cx w (gI s1 a0 8) s1) trivial
  refine ry_split _ (fun c16 => ?_) (fun c16 => ?_)
  · refine ry_tsIn 127 10 c16 dX12_state_6 (by decide) (by decide) rfl (by decide) ?_
    refine ry_aload_n dX12_state_127 rfl ?_
    refine ry_geti dX12_state_128 ha0 fl_RX12_68 rfl ?_
    exact ry_iret dX12_state_131 rfl (Nat.le_of_ble_eq_true rfl) (Nat.le_of_ble_eq_true rfl)
  refine ry_tsD 132 [(0, 0), (1, 1), (2, 2), (3, 3), (4, 4), (5, 5), (6, 6), (7, 7), (8, 8), (9, 9), (10, 10)] 11 dX12_state_6 (by decide) (by decide +kernel) (by decide +kernel) ⟨c2, c4, c5, c8, c9, c10, c11, c12, c13, c14, c16, trivial⟩ (by decide) ?_
  refine ry_iconst (v := (-1)) dX12_state_132 (by decide) ?_
  exact ry_iret dX12_state_133 rfl (Nat.le_of_ble_eq_true rfl) (Nat.le_of_ble_eq_true rfl)
theorem cm_X12_state (l : Launch) (cx : rd_Cx) (w : rd_W) (a0 : Nat) (x1 : Int32) (ha0 : rd_ok w a0 12) (S : rd_S) (r : Int32 × rd_S) (h : F_X12_state w a0 x1 S = some r) : rd_M l cx yX12_state G_X12_state 0 [.inr (some a0), .inl x1] w S (rd_rI w r) :=
  rd_enter (plainFor_of_name (by decide +kernel)) rfl (fun h => by cases h) (Nat.le_of_ble_eq_true rfl) (ym_X12_state cx w a0 x1 ha0 S r h)
abbrev G_X3_tell : rd_G := (RX3, cX3_tell, 2, (some .int), false, { frames := 2, cells := 0, slots := 0, locals := 41 })
theorem yf_X3_tell : rd_YL yX3_tell G_X3_tell 1 := ⟨rd_mem 761 (by decide +kernel) rfl, rd_mem 64 (by decide +kernel) rfl, by decide +kernel, by decide +kernel, by decide +kernel⟩
theorem mi_X3_tell : Cond.instanceMethod yX3_tell ∈ rd_gw := rd_mem 759 (by decide +kernel) rfl
theorem ms_X3_tell : Cond.selects (MethodName.cls yX3_tell) yX3_tell yX3_tell ∈ rd_gw := rd_mem 760 (by decide +kernel) rfl
theorem dX3_tell_0 : decode cX3_tell 0 = .ok (.iload_n 1, 1) := by decide +kernel
theorem dX3_tell_1 : decode cX3_tell 1 = .ok (.bipush 8, 2) := by decide +kernel
theorem dX3_tell_3 : decode cX3_tell 3 = .ok (.if_icmp .ne 8, 3) := by decide +kernel
theorem dX3_tell_6 : decode cX3_tell 6 = .ok (.aload_n 0, 1) := by decide +kernel
theorem dX3_tell_7 : decode cX3_tell 7 = .ok (.invokevirtual 63, 3) := by decide +kernel
theorem dX3_tell_10 : decode cX3_tell 10 = .ok (.ireturn, 1) := by decide +kernel
theorem dX3_tell_11 : decode cX3_tell 11 = .ok (.iload_n 1, 1) := by decide +kernel
theorem dX3_tell_12 : decode cX3_tell 12 = .ok (.iconst 4, 1) := by decide +kernel
theorem dX3_tell_13 : decode cX3_tell 13 = .ok (.if_icmp .ge 14, 3) := by decide +kernel
theorem dX3_tell_16 : decode cX3_tell 16 = .ok (.aload_n 0, 1) := by decide +kernel
theorem dX3_tell_17 : decode cX3_tell 17 = .ok (.getfield 9, 3) := by decide +kernel
theorem dX3_tell_20 : decode cX3_tell 20 = .ok (.iload_n 1, 1) := by decide +kernel
theorem dX3_tell_21 : decode cX3_tell 21 = .ok (.invokestatic 67, 3) := by decide +kernel
theorem dX3_tell_24 : decode cX3_tell 24 = .ok (.goto 13, 3) := by decide +kernel
theorem dX3_tell_27 : decode cX3_tell 27 = .ok (.aload_n 0, 1) := by decide +kernel
theorem dX3_tell_28 : decode cX3_tell 28 = .ok (.getfield 15, 3) := by decide +kernel
theorem dX3_tell_31 : decode cX3_tell 31 = .ok (.iload_n 1, 1) := by decide +kernel
theorem dX3_tell_32 : decode cX3_tell 32 = .ok (.iconst 4, 1) := by decide +kernel
theorem dX3_tell_33 : decode cX3_tell 33 = .ok (.isub, 1) := by decide +kernel
theorem dX3_tell_34 : decode cX3_tell 34 = .ok (.invokestatic 67, 3) := by decide +kernel
theorem dX3_tell_37 : decode cX3_tell 37 = .ok (.ireturn, 1) := by decide +kernel
def B_X3_tell_37 (w : rd_W) (t0 : Int32) (S : rd_S) : Option (Int32 × rd_S) :=
  some (t0, S)
theorem yb_X3_tell_37 (cx : rd_Cx) (w : rd_W) (t0 : Int32) (S : rd_S) : rd_Y cx G_X3_tell (fun r => rd_P cx G_X3_tell.2.2.2.2.2 0 w (rd_rI w r)) (B_X3_tell_37 w t0 S) 37 [] [.inl t0] w S 0 0 := by
  unfold B_X3_tell_37
  exact ry_iret dX3_tell_37 rfl (Nat.le_of_ble_eq_true rfl) (Nat.le_of_ble_eq_true rfl)
def F_X3_tell (w : rd_W) (a0 : Nat) (x1 : Int32) (S : rd_S) : Option (Int32 × rd_S) :=
  if x1 = 8 then
  (rd_b (F_X3_typeAndVersion w a0 S) fun v3 s2 =>
  some (v3, s2))
  else
  (if 4 ≤ x1 then
  (rd_c (gR S a0 1) fun b5 =>
  rd_b (F_X11_at w b5 (x1 - 4) S) fun v7 s6 =>
  B_X3_tell_37 w v7 s6)
  else
  (rd_c (gR S a0 0) fun b8 =>
  rd_b (F_X11_at w b8 x1 S) fun v10 s9 =>
  B_X3_tell_37 w v10 s9))
theorem ym_X3_tell (cx : rd_Cx) (w : rd_W) (a0 : Nat) (x1 : Int32) (ha0 : rd_ok w a0 3) (S : rd_S) : rd_Y cx G_X3_tell (fun r => rd_P cx G_X3_tell.2.2.2.2.2 0 w (rd_rI w r)) (F_X3_tell w a0 x1 S) 0 (rd_as 0 [.inr (some a0), .inl x1]) [] w S 0 0 := by
  unfold F_X3_tell
  refine ry_iload_n dX3_tell_0 rfl ?_
  refine ry_bipush (v := 8) dX3_tell_1 (by decide) ?_
  refine ry_icmp_ne 11 dX3_tell_3 (by decide) (fun c1 => ?_) (fun c1 => ?_)
  · refine ry_aload_n dX3_tell_6 rfl ?_
    refine ry_callI (fun l r9 h9 => cm_X3_typeAndVersion l cx w a0 ha0 S r9 h9) (rd_runV (vs := []) dX3_tell_7 ha0 rfl rfl yf_X3_typeAndVersion mi_X3_typeAndVersion ms_X3_typeAndVersion ml_RX3_63 ⟨Nat.le_of_ble_eq_true rfl, Nat.le_of_ble_eq_true rfl⟩ (Nat.le_of_ble_eq_true rfl) rfl) rfl rfl (Nat.le_of_ble_eq_true rfl) (Nat.le_of_ble_eq_true rfl) (fun v3 s2 => ?_)
    exact ry_iret dX3_tell_10 rfl (Nat.le_of_ble_eq_true rfl) (Nat.le_of_ble_eq_true rfl)
  · refine ry_iload_n dX3_tell_11 rfl ?_
    refine ry_iconst (v := 4) dX3_tell_12 (by decide) ?_
    refine ry_icmp_ge 27 dX3_tell_13 (by decide) (fun c4 => ?_) (fun c4 => ?_)
    · refine ry_aload_n dX3_tell_27 rfl ?_
      refine ry_getr dX3_tell_28 ha0 fl_RX3_15 rfl (fun b5 hb5 => ?_)
      refine ry_iload_n dX3_tell_31 rfl ?_
      refine ry_iconst (v := 4) dX3_tell_32 (by decide) ?_
      refine ry_isub dX3_tell_33 ?_
      refine ry_callI (fun l r9 h9 => cm_X11_at l cx w b5 (x1 - 4) hb5 S r9 h9) (rd_runSN (vs := [.inr (some b5), .inl (x1 - 4)]) dX3_tell_34 yf_X11_at mt_X11_at mn_RX3_67 ⟨Nat.le_of_ble_eq_true rfl, Nat.le_of_ble_eq_true rfl⟩ (Nat.le_of_ble_eq_true rfl) rfl) rfl rfl (Nat.le_of_ble_eq_true rfl) (Nat.le_of_ble_eq_true rfl) (fun v7 s6 => ?_)
      exact ry_to (yb_X3_tell_37 cx w v7 s6) trivial
    · refine ry_aload_n dX3_tell_16 rfl ?_
      refine ry_getr dX3_tell_17 ha0 fl_RX3_9 rfl (fun b8 hb8 => ?_)
      refine ry_iload_n dX3_tell_20 rfl ?_
      refine ry_callI (fun l r9 h9 => cm_X11_at l cx w b8 x1 hb8 S r9 h9) (rd_runSN (vs := [.inr (some b8), .inl x1]) dX3_tell_21 yf_X11_at mt_X11_at mn_RX3_67 ⟨Nat.le_of_ble_eq_true rfl, Nat.le_of_ble_eq_true rfl⟩ (Nat.le_of_ble_eq_true rfl) rfl) rfl rfl (Nat.le_of_ble_eq_true rfl) (Nat.le_of_ble_eq_true rfl) (fun v10 s9 => ?_)
      refine ry_goto 37 dX3_tell_24 (by decide) ?_
      exact ry_to (yb_X3_tell_37 cx w v10 s9) trivial
theorem cm_X3_tell (l : Launch) (cx : rd_Cx) (w : rd_W) (a0 : Nat) (x1 : Int32) (ha0 : rd_ok w a0 3) (S : rd_S) (r : Int32 × rd_S) (h : F_X3_tell w a0 x1 S = some r) : rd_M l cx yX3_tell G_X3_tell 0 [.inr (some a0), .inl x1] w S (rd_rI w r) :=
  rd_enter (plainFor_of_name (by decide +kernel)) rfl (fun h => by cases h) (Nat.le_of_ble_eq_true rfl) (ym_X3_tell cx w a0 x1 ha0 S r h)
abbrev G_X11_group : rd_G := (RX11, cX11_group, 2, (some .int), false, { frames := 3, cells := 0, slots := 0, locals := 62 })
theorem yf_X11_group : rd_YL yX11_group G_X11_group 1 := ⟨rd_mem 757 (by decide +kernel) rfl, rd_mem 62 (by decide +kernel) rfl, by decide +kernel, by decide +kernel, by decide +kernel⟩
theorem mi_X11_group : Cond.instanceMethod yX11_group ∈ rd_gw := rd_mem 755 (by decide +kernel) rfl
theorem ms_X11_group : Cond.selects (MethodName.cls yX11_group) yX11_group yX11_group ∈ rd_gw := rd_mem 756 (by decide +kernel) rfl
theorem dX11_group_0 : decode cX11_group 0 = .ok (.aload_n 0, 1) := by decide +kernel
theorem dX11_group_1 : decode cX11_group 1 = .ok (.getfield 19, 3) := by decide +kernel
theorem dX11_group_4 : decode cX11_group 4 = .ok (.iload_n 1, 1) := by decide +kernel
theorem dX11_group_5 : decode cX11_group 5 = .ok (.invokevirtual 69, 3) := by decide +kernel
theorem dX11_group_8 : decode cX11_group 8 = .ok (.ireturn, 1) := by decide +kernel
def F_X11_group (w : rd_W) (a0 : Nat) (x1 : Int32) (S : rd_S) : Option (Int32 × rd_S) :=
  rd_c (gR S a0 1) fun b1 =>
  rd_b (F_X3_tell w b1 x1 S) fun v3 s2 =>
  some (v3, s2)
theorem ym_X11_group (cx : rd_Cx) (w : rd_W) (a0 : Nat) (x1 : Int32) (ha0 : rd_ok w a0 11) (S : rd_S) : rd_Y cx G_X11_group (fun r => rd_P cx G_X11_group.2.2.2.2.2 0 w (rd_rI w r)) (F_X11_group w a0 x1 S) 0 (rd_as 0 [.inr (some a0), .inl x1]) [] w S 0 0 := by
  unfold F_X11_group
  refine ry_aload_n dX11_group_0 rfl ?_
  refine ry_getr dX11_group_1 ha0 fl_RX11_19 rfl (fun b1 hb1 => ?_)
  refine ry_iload_n dX11_group_4 rfl ?_
  refine ry_callI (fun l r9 h9 => cm_X3_tell l cx w b1 x1 hb1 S r9 h9) (rd_runV (vs := [.inl x1]) dX11_group_5 hb1 rfl rfl yf_X3_tell mi_X3_tell ms_X3_tell ml_RX11_69 ⟨Nat.le_of_ble_eq_true rfl, Nat.le_of_ble_eq_true rfl⟩ (Nat.le_of_ble_eq_true rfl) rfl) rfl rfl (Nat.le_of_ble_eq_true rfl) (Nat.le_of_ble_eq_true rfl) (fun v3 s2 => ?_)
  exact ry_iret dX11_group_8 rfl (Nat.le_of_ble_eq_true rfl) (Nat.le_of_ble_eq_true rfl)
theorem cm_X11_group (l : Launch) (cx : rd_Cx) (w : rd_W) (a0 : Nat) (x1 : Int32) (ha0 : rd_ok w a0 11) (S : rd_S) (r : Int32 × rd_S) (h : F_X11_group w a0 x1 S = some r) : rd_M l cx yX11_group G_X11_group 0 [.inr (some a0), .inl x1] w S (rd_rI w r) :=
  rd_enter (plainFor_of_name (by decide +kernel)) rfl (fun h => by cases h) (Nat.le_of_ble_eq_true rfl) (ym_X11_group cx w a0 x1 ha0 S r h)
abbrev G_X12_group : rd_G := (RX12, cX12_group, 2, (some .int), false, { frames := 0, cells := 0, slots := 0, locals := 0 })
theorem yf_X12_group : rd_YL yX12_group G_X12_group 1 := ⟨rd_mem 1175 (by decide +kernel) rfl, rd_mem 75 (by decide +kernel) rfl, by decide +kernel, by decide +kernel, by decide +kernel⟩
theorem mi_X12_group : Cond.instanceMethod yX12_group ∈ rd_gw := rd_mem 1173 (by decide +kernel) rfl
theorem ms_X12_group : Cond.selects (MethodName.cls yX12_group) yX12_group yX12_group ∈ rd_gw := rd_mem 1174 (by decide +kernel) rfl
theorem dX12_group_0 : decode cX12_group 0 = .ok (.aload_n 0, 1) := by decide +kernel
theorem dX12_group_1 : decode cX12_group 1 = .ok (.iconst 0, 1) := by decide +kernel
theorem dX12_group_2 : decode cX12_group 2 = .ok (.putfield 1, 3) := by decide +kernel
theorem dX12_group_5 : decode cX12_group 5 = .ok (.aload_n 0, 1) := by decide +kernel
theorem dX12_group_6 : decode cX12_group 6 = .ok (.getfield 121, 3) := by decide +kernel
theorem dX12_group_9 : decode cX12_group 9 = .ok (.ifCond .eq 13, 3) := by decide +kernel
theorem dX12_group_12 : decode cX12_group 12 = .ok (.iload_n 1, 1) := by decide +kernel
theorem dX12_group_13 : decode cX12_group 13 = .ok (.ifCond .lt 9, 3) := by decide +kernel
theorem dX12_group_16 : decode cX12_group 16 = .ok (.iload_n 1, 1) := by decide +kernel
theorem dX12_group_17 : decode cX12_group 17 = .ok (.bipush 8, 2) := by decide +kernel
theorem dX12_group_19 : decode cX12_group 19 = .ok (.if_icmp .le 5, 3) := by decide +kernel
theorem dX12_group_22 : decode cX12_group 22 = .ok (.iconst (-1), 1) := by decide +kernel
theorem dX12_group_23 : decode cX12_group 23 = .ok (.ireturn, 1) := by decide +kernel
theorem dX12_group_24 : decode cX12_group 24 = .ok (.iload_n 1, 1) := by decide +kernel
theorem dX12_group_25 : decode cX12_group 25 = .ok (.iconst 4, 1) := by decide +kernel
theorem dX12_group_26 : decode cX12_group 26 = .ok (.if_icmp .ge 12, 3) := by decide +kernel
theorem dX12_group_29 : decode cX12_group 29 = .ok (.aload_n 0, 1) := by decide +kernel
theorem dX12_group_30 : decode cX12_group 30 = .ok (.getfield 111, 3) := by decide +kernel
theorem dX12_group_33 : decode cX12_group 33 = .ok (.iload_n 1, 1) := by decide +kernel
theorem dX12_group_34 : decode cX12_group 34 = .ok (.iaload, 1) := by decide +kernel
theorem dX12_group_35 : decode cX12_group 35 = .ok (.goto 24, 3) := by decide +kernel
theorem dX12_group_38 : decode cX12_group 38 = .ok (.iload_n 1, 1) := by decide +kernel
theorem dX12_group_39 : decode cX12_group 39 = .ok (.bipush 8, 2) := by decide +kernel
theorem dX12_group_41 : decode cX12_group 41 = .ok (.if_icmp .ge 14, 3) := by decide +kernel
theorem dX12_group_44 : decode cX12_group 44 = .ok (.aload_n 0, 1) := by decide +kernel
theorem dX12_group_45 : decode cX12_group 45 = .ok (.getfield 108, 3) := by decide +kernel
theorem dX12_group_48 : decode cX12_group 48 = .ok (.iload_n 1, 1) := by decide +kernel
theorem dX12_group_49 : decode cX12_group 49 = .ok (.iconst 4, 1) := by decide +kernel
theorem dX12_group_50 : decode cX12_group 50 = .ok (.isub, 1) := by decide +kernel
theorem dX12_group_51 : decode cX12_group 51 = .ok (.iaload, 1) := by decide +kernel
theorem dX12_group_52 : decode cX12_group 52 = .ok (.goto 7, 3) := by decide +kernel
theorem dX12_group_55 : decode cX12_group 55 = .ok (.aload_n 0, 1) := by decide +kernel
theorem dX12_group_56 : decode cX12_group 56 = .ok (.getfield 124, 3) := by decide +kernel
theorem dX12_group_59 : decode cX12_group 59 = .ok (.ireturn, 1) := by decide +kernel
def B_X12_group_22 (w : rd_W) (S : rd_S) : Option (Int32 × rd_S) :=
  some ((-1), S)
theorem yb_X12_group_22 (cx : rd_Cx) (w : rd_W) (S : rd_S) : rd_Y cx G_X12_group (fun r => rd_P cx G_X12_group.2.2.2.2.2 0 w (rd_rI w r)) (B_X12_group_22 w S) 22 [] [] w S 0 0 := by
  unfold B_X12_group_22
  refine ry_iconst (v := (-1)) dX12_group_22 (by decide) ?_
  exact ry_iret dX12_group_23 rfl (Nat.le_of_ble_eq_true rfl) (Nat.le_of_ble_eq_true rfl)
def B_X12_group_59 (w : rd_W) (t0 : Int32) (S : rd_S) : Option (Int32 × rd_S) :=
  some (t0, S)
theorem yb_X12_group_59 (cx : rd_Cx) (w : rd_W) (t0 : Int32) (S : rd_S) : rd_Y cx G_X12_group (fun r => rd_P cx G_X12_group.2.2.2.2.2 0 w (rd_rI w r)) (B_X12_group_59 w t0 S) 59 [] [.inl t0] w S 0 0 := by
  unfold B_X12_group_59
  exact ry_iret dX12_group_59 rfl (Nat.le_of_ble_eq_true rfl) (Nat.le_of_ble_eq_true rfl)
def F_X12_group (w : rd_W) (a0 : Nat) (x1 : Int32) (S : rd_S) : Option (Int32 × rd_S) :=
  rd_let (pI S a0 0 0) fun s1 =>
  if (gI s1 a0 24) = 0 then
  (B_X12_group_22 w s1)
  else
  (if x1 < 0 then
  (B_X12_group_22 w s1)
  else
  (if x1 ≤ 8 then
  (if 4 ≤ x1 then
  (if 8 ≤ x1 then
  (B_X12_group_59 w (gI s1 a0 23) s1)
  else
  (rd_c (gR s1 a0 22) fun b7 =>
  rd_let (x1 - 4) fun v8 =>
  rd_i v8 (w.2.2 b7) <|
  B_X12_group_59 w (gI s1 b7 v8.toNatClampNeg) s1))
  else
  (rd_c (gR s1 a0 21) fun b9 =>
  rd_i x1 (w.2.2 b9) <|
  B_X12_group_59 w (gI s1 b9 x1.toNatClampNeg) s1))
  else
  (B_X12_group_22 w s1)))
theorem ym_X12_group (cx : rd_Cx) (w : rd_W) (a0 : Nat) (x1 : Int32) (ha0 : rd_ok w a0 12) (S : rd_S) : rd_Y cx G_X12_group (fun r => rd_P cx G_X12_group.2.2.2.2.2 0 w (rd_rI w r)) (F_X12_group w a0 x1 S) 0 (rd_as 0 [.inr (some a0), .inl x1]) [] w S 0 0 := by
  unfold F_X12_group
  refine ry_aload_n dX12_group_0 rfl ?_
  refine ry_iconst (v := 0) dX12_group_1 (by decide) ?_
  refine ry_puti dX12_group_2 ha0 fl_RX12_1 rfl rfl rfl ?_
  refine ry_letS (fun s1 => ?_)
  refine ry_aload_n dX12_group_5 rfl ?_
  refine ry_geti dX12_group_6 ha0 fl_RX12_121 rfl ?_
  refine ry_if_eq 22 dX12_group_9 (by decide) (fun c2 => ?_) (fun c2 => ?_)
  · exact ry_to (yb_X12_group_22 cx w s1) trivial
  · refine ry_iload_n dX12_group_12 rfl ?_
    refine ry_if_lt 22 dX12_group_13 (by decide) (fun c3 => ?_) (fun c3 => ?_)
    · exact ry_to (yb_X12_group_22 cx w s1) trivial
    · refine ry_iload_n dX12_group_16 rfl ?_
      refine ry_bipush (v := 8) dX12_group_17 (by decide) ?_
      refine ry_icmp_le 24 dX12_group_19 (by decide) (fun c4 => ?_) (fun c4 => ?_)
      · refine ry_iload_n dX12_group_24 rfl ?_
        refine ry_iconst (v := 4) dX12_group_25 (by decide) ?_
        refine ry_icmp_ge 38 dX12_group_26 (by decide) (fun c5 => ?_) (fun c5 => ?_)
        · refine ry_iload_n dX12_group_38 rfl ?_
          refine ry_bipush (v := 8) dX12_group_39 (by decide) ?_
          refine ry_icmp_ge 55 dX12_group_41 (by decide) (fun c6 => ?_) (fun c6 => ?_)
          · refine ry_aload_n dX12_group_55 rfl ?_
            refine ry_geti dX12_group_56 ha0 fl_RX12_124 rfl ?_
            exact ry_to (yb_X12_group_59 cx w (gI s1 a0 23) s1) trivial
          · refine ry_aload_n dX12_group_44 rfl ?_
            refine ry_getr dX12_group_45 ha0 fl_RX12_108 rfl (fun b7 hb7 => ?_)
            refine ry_iload_n dX12_group_48 rfl ?_
            refine ry_iconst (v := 4) dX12_group_49 (by decide) ?_
            refine ry_isub dX12_group_50 ?_
            refine ry_lets (fun v8 => ?_)
            refine ry_iald dX12_group_51 hb7 ?_
            refine ry_goto 59 dX12_group_52 (by decide) ?_
            exact ry_to (yb_X12_group_59 cx w (gI s1 b7 v8.toNatClampNeg) s1) trivial
        · refine ry_aload_n dX12_group_29 rfl ?_
          refine ry_getr dX12_group_30 ha0 fl_RX12_111 rfl (fun b9 hb9 => ?_)
          refine ry_iload_n dX12_group_33 rfl ?_
          refine ry_iald dX12_group_34 hb9 ?_
          refine ry_goto 59 dX12_group_35 (by decide) ?_
          exact ry_to (yb_X12_group_59 cx w (gI s1 b9 x1.toNatClampNeg) s1) trivial
      · exact ry_to (yb_X12_group_22 cx w s1) trivial
theorem cm_X12_group (l : Launch) (cx : rd_Cx) (w : rd_W) (a0 : Nat) (x1 : Int32) (ha0 : rd_ok w a0 12) (S : rd_S) (r : Int32 × rd_S) (h : F_X12_group w a0 x1 S = some r) : rd_M l cx yX12_group G_X12_group 0 [.inr (some a0), .inl x1] w S (rd_rI w r) :=
  rd_enter (plainFor_of_name (by decide +kernel)) rfl (fun h => by cases h) (Nat.le_of_ble_eq_true rfl) (ym_X12_group cx w a0 x1 ha0 S r h)
abbrev G_X11_programme : rd_G := (RX11, cX11_programme, 2, (some .int), false, { frames := 1, cells := 0, slots := 0, locals := 21 })
theorem yf_X11_programme : rd_YL yX11_programme G_X11_programme 1 := ⟨rd_mem 767 (by decide +kernel) rfl, rd_mem 62 (by decide +kernel) rfl, by decide +kernel, by decide +kernel, by decide +kernel⟩
theorem mi_X11_programme : Cond.instanceMethod yX11_programme ∈ rd_gw := rd_mem 765 (by decide +kernel) rfl
theorem ms_X11_programme : Cond.selects (MethodName.cls yX11_programme) yX11_programme yX11_programme ∈ rd_gw := rd_mem 766 (by decide +kernel) rfl
theorem dX11_programme_0 : decode cX11_programme 0 = .ok (.aload_n 0, 1) := by decide +kernel
theorem dX11_programme_1 : decode cX11_programme 1 = .ok (.getfield 26, 3) := by decide +kernel
theorem dX11_programme_4 : decode cX11_programme 4 = .ok (.getfield 70, 3) := by decide +kernel
theorem dX11_programme_7 : decode cX11_programme 7 = .ok (.iload_n 1, 1) := by decide +kernel
theorem dX11_programme_8 : decode cX11_programme 8 = .ok (.invokestatic 74, 3) := by decide +kernel
theorem dX11_programme_11 : decode cX11_programme 11 = .ok (.ireturn, 1) := by decide +kernel
def F_X11_programme (w : rd_W) (a0 : Nat) (x1 : Int32) (S : rd_S) : Option (Int32 × rd_S) :=
  rd_c (gR S a0 2) fun b1 =>
  rd_c (gR S b1 0) fun b2 =>
  rd_b (F_X11_at w b2 x1 S) fun v4 s3 =>
  some (v4, s3)
theorem ym_X11_programme (cx : rd_Cx) (w : rd_W) (a0 : Nat) (x1 : Int32) (ha0 : rd_ok w a0 11) (S : rd_S) : rd_Y cx G_X11_programme (fun r => rd_P cx G_X11_programme.2.2.2.2.2 0 w (rd_rI w r)) (F_X11_programme w a0 x1 S) 0 (rd_as 0 [.inr (some a0), .inl x1]) [] w S 0 0 := by
  unfold F_X11_programme
  refine ry_aload_n dX11_programme_0 rfl ?_
  refine ry_getr dX11_programme_1 ha0 fl_RX11_26 rfl (fun b1 hb1 => ?_)
  refine ry_getr dX11_programme_4 hb1 fl_RX11_70 rfl (fun b2 hb2 => ?_)
  refine ry_iload_n dX11_programme_7 rfl ?_
  refine ry_callI (fun l r9 h9 => cm_X11_at l cx w b2 x1 hb2 S r9 h9) (rd_runS (vs := [.inr (some b2), .inl x1]) dX11_programme_8 yf_X11_at mt_X11_at ml_RX11_74 ⟨Nat.le_of_ble_eq_true rfl, Nat.le_of_ble_eq_true rfl⟩ (Nat.le_of_ble_eq_true rfl) rfl) rfl rfl (Nat.le_of_ble_eq_true rfl) (Nat.le_of_ble_eq_true rfl) (fun v4 s3 => ?_)
  exact ry_iret dX11_programme_11 rfl (Nat.le_of_ble_eq_true rfl) (Nat.le_of_ble_eq_true rfl)
theorem cm_X11_programme (l : Launch) (cx : rd_Cx) (w : rd_W) (a0 : Nat) (x1 : Int32) (ha0 : rd_ok w a0 11) (S : rd_S) (r : Int32 × rd_S) (h : F_X11_programme w a0 x1 S = some r) : rd_M l cx yX11_programme G_X11_programme 0 [.inr (some a0), .inl x1] w S (rd_rI w r) :=
  rd_enter (plainFor_of_name (by decide +kernel)) rfl (fun h => by cases h) (Nat.le_of_ble_eq_true rfl) (ym_X11_programme cx w a0 x1 ha0 S r h)
abbrev G_X12_programme : rd_G := (RX12, cX12_programme, 2, (some .int), false, { frames := 0, cells := 0, slots := 0, locals := 0 })
theorem yf_X12_programme : rd_YL yX12_programme G_X12_programme 1 := ⟨rd_mem 1179 (by decide +kernel) rfl, rd_mem 75 (by decide +kernel) rfl, by decide +kernel, by decide +kernel, by decide +kernel⟩
theorem mi_X12_programme : Cond.instanceMethod yX12_programme ∈ rd_gw := rd_mem 1177 (by decide +kernel) rfl
theorem ms_X12_programme : Cond.selects (MethodName.cls yX12_programme) yX12_programme yX12_programme ∈ rd_gw := rd_mem 1178 (by decide +kernel) rfl
theorem dX12_programme_0 : decode cX12_programme 0 = .ok (.aload_n 0, 1) := by decide +kernel
theorem dX12_programme_1 : decode cX12_programme 1 = .ok (.iconst 0, 1) := by decide +kernel
theorem dX12_programme_2 : decode cX12_programme 2 = .ok (.putfield 1, 3) := by decide +kernel
theorem dX12_programme_5 : decode cX12_programme 5 = .ok (.iload_n 1, 1) := by decide +kernel
theorem dX12_programme_6 : decode cX12_programme 6 = .ok (.ifCond .lt 18, 3) := by decide +kernel
theorem dX12_programme_9 : decode cX12_programme 9 = .ok (.iload_n 1, 1) := by decide +kernel
theorem dX12_programme_10 : decode cX12_programme 10 = .ok (.bipush 10, 2) := by decide +kernel
theorem dX12_programme_12 : decode cX12_programme 12 = .ok (.if_icmp .ge 12, 3) := by decide +kernel
theorem dX12_programme_15 : decode cX12_programme 15 = .ok (.aload_n 0, 1) := by decide +kernel
theorem dX12_programme_16 : decode cX12_programme 16 = .ok (.getfield 127, 3) := by decide +kernel
theorem dX12_programme_19 : decode cX12_programme 19 = .ok (.iload_n 1, 1) := by decide +kernel
theorem dX12_programme_20 : decode cX12_programme 20 = .ok (.iaload, 1) := by decide +kernel
theorem dX12_programme_21 : decode cX12_programme 21 = .ok (.goto 4, 3) := by decide +kernel
theorem dX12_programme_24 : decode cX12_programme 24 = .ok (.iconst (-1), 1) := by decide +kernel
theorem dX12_programme_25 : decode cX12_programme 25 = .ok (.ireturn, 1) := by decide +kernel
def B_X12_programme_25 (w : rd_W) (t0 : Int32) (S : rd_S) : Option (Int32 × rd_S) :=
  some (t0, S)
theorem yb_X12_programme_25 (cx : rd_Cx) (w : rd_W) (t0 : Int32) (S : rd_S) : rd_Y cx G_X12_programme (fun r => rd_P cx G_X12_programme.2.2.2.2.2 0 w (rd_rI w r)) (B_X12_programme_25 w t0 S) 25 [] [.inl t0] w S 0 0 := by
  unfold B_X12_programme_25
  exact ry_iret dX12_programme_25 rfl (Nat.le_of_ble_eq_true rfl) (Nat.le_of_ble_eq_true rfl)
def B_X12_programme_24 (w : rd_W) (S : rd_S) : Option (Int32 × rd_S) :=
  B_X12_programme_25 w (-1) S
theorem yb_X12_programme_24 (cx : rd_Cx) (w : rd_W) (S : rd_S) : rd_Y cx G_X12_programme (fun r => rd_P cx G_X12_programme.2.2.2.2.2 0 w (rd_rI w r)) (B_X12_programme_24 w S) 24 [] [] w S 0 0 := by
  unfold B_X12_programme_24
  refine ry_iconst (v := (-1)) dX12_programme_24 (by decide) ?_
  exact ry_to (yb_X12_programme_25 cx w (-1) S) trivial
def F_X12_programme (w : rd_W) (a0 : Nat) (x1 : Int32) (S : rd_S) : Option (Int32 × rd_S) :=
  rd_let (pI S a0 0 0) fun s1 =>
  if x1 < 0 then
  (B_X12_programme_24 w s1)
  else
  (if 10 ≤ x1 then
  (B_X12_programme_24 w s1)
  else
  (rd_c (gR s1 a0 25) fun b4 =>
  rd_i x1 (w.2.2 b4) <|
  B_X12_programme_25 w (gI s1 b4 x1.toNatClampNeg) s1))
theorem ym_X12_programme (cx : rd_Cx) (w : rd_W) (a0 : Nat) (x1 : Int32) (ha0 : rd_ok w a0 12) (S : rd_S) : rd_Y cx G_X12_programme (fun r => rd_P cx G_X12_programme.2.2.2.2.2 0 w (rd_rI w r)) (F_X12_programme w a0 x1 S) 0 (rd_as 0 [.inr (some a0), .inl x1]) [] w S 0 0 := by
  unfold F_X12_programme
  refine ry_aload_n dX12_programme_0 rfl ?_
  refine ry_iconst (v := 0) dX12_programme_1 (by decide) ?_
  refine ry_puti dX12_programme_2 ha0 fl_RX12_1 rfl rfl rfl ?_
  refine ry_letS (fun s1 => ?_)
  refine ry_iload_n dX12_programme_5 rfl ?_
  refine ry_if_lt 24 dX12_programme_6 (by decide) (fun c2 => ?_) (fun c2 => ?_)
  · exact ry_to (yb_X12_programme_24 cx w s1) trivial
  · refine ry_iload_n dX12_programme_9 rfl ?_
    refine ry_bipush (v := 10) dX12_programme_10 (by decide) ?_
    refine ry_icmp_ge 24 dX12_programme_12 (by decide) (fun c3 => ?_) (fun c3 => ?_)
    · exact ry_to (yb_X12_programme_24 cx w s1) trivial
    · refine ry_aload_n dX12_programme_15 rfl ?_
      refine ry_getr dX12_programme_16 ha0 fl_RX12_127 rfl (fun b4 hb4 => ?_)
      refine ry_iload_n dX12_programme_19 rfl ?_
      refine ry_iald dX12_programme_20 hb4 ?_
      refine ry_goto 25 dX12_programme_21 (by decide) ?_
      exact ry_to (yb_X12_programme_25 cx w (gI s1 b4 x1.toNatClampNeg) s1) trivial
theorem cm_X12_programme (l : Launch) (cx : rd_Cx) (w : rd_W) (a0 : Nat) (x1 : Int32) (ha0 : rd_ok w a0 12) (S : rd_S) (r : Int32 × rd_S) (h : F_X12_programme w a0 x1 S = some r) : rd_M l cx yX12_programme G_X12_programme 0 [.inr (some a0), .inl x1] w S (rd_rI w r) :=
  rd_enter (plainFor_of_name (by decide +kernel)) rfl (fun h => by cases h) (Nat.le_of_ble_eq_true rfl) (ym_X12_programme cx w a0 x1 ha0 S r h)
abbrev G_X11_reports : rd_G := (RX11, cX11_reports, 2, (some .int), false, { frames := 0, cells := 0, slots := 0, locals := 0 })
theorem yf_X11_reports : rd_YL yX11_reports G_X11_reports 1 := ⟨rd_mem 772 (by decide +kernel) rfl, rd_mem 62 (by decide +kernel) rfl, by decide +kernel, by decide +kernel, by decide +kernel⟩
theorem mi_X11_reports : Cond.instanceMethod yX11_reports ∈ rd_gw := rd_mem 770 (by decide +kernel) rfl
theorem ms_X11_reports : Cond.selects (MethodName.cls yX11_reports) yX11_reports yX11_reports ∈ rd_gw := rd_mem 771 (by decide +kernel) rfl
theorem dX11_reports_0 : decode cX11_reports 0 = .ok (.iload_n 1, 1) := by decide +kernel
theorem dX11_reports_1 : decode cX11_reports 1 = .ok (.tableswitch 105 0 5 #[39, 50, 61, 72, 83, 94], 39) := by decide +kernel
theorem dX11_reports_40 : decode cX11_reports 40 = .ok (.aload_n 0, 1) := by decide +kernel
theorem dX11_reports_41 : decode cX11_reports 41 = .ok (.getfield 26, 3) := by decide +kernel
theorem dX11_reports_44 : decode cX11_reports 44 = .ok (.getfield 78, 3) := by decide +kernel
theorem dX11_reports_47 : decode cX11_reports 47 = .ok (.getfield 82, 3) := by decide +kernel
theorem dX11_reports_50 : decode cX11_reports 50 = .ok (.ireturn, 1) := by decide +kernel
theorem dX11_reports_51 : decode cX11_reports 51 = .ok (.aload_n 0, 1) := by decide +kernel
theorem dX11_reports_52 : decode cX11_reports 52 = .ok (.getfield 26, 3) := by decide +kernel
theorem dX11_reports_55 : decode cX11_reports 55 = .ok (.getfield 87, 3) := by decide +kernel
theorem dX11_reports_58 : decode cX11_reports 58 = .ok (.getfield 82, 3) := by decide +kernel
theorem dX11_reports_61 : decode cX11_reports 61 = .ok (.ireturn, 1) := by decide +kernel
theorem dX11_reports_62 : decode cX11_reports 62 = .ok (.aload_n 0, 1) := by decide +kernel
theorem dX11_reports_63 : decode cX11_reports 63 = .ok (.getfield 26, 3) := by decide +kernel
theorem dX11_reports_66 : decode cX11_reports 66 = .ok (.getfield 90, 3) := by decide +kernel
theorem dX11_reports_69 : decode cX11_reports 69 = .ok (.getfield 82, 3) := by decide +kernel
theorem dX11_reports_72 : decode cX11_reports 72 = .ok (.ireturn, 1) := by decide +kernel
theorem dX11_reports_73 : decode cX11_reports 73 = .ok (.aload_n 0, 1) := by decide +kernel
theorem dX11_reports_74 : decode cX11_reports 74 = .ok (.getfield 26, 3) := by decide +kernel
theorem dX11_reports_77 : decode cX11_reports 77 = .ok (.getfield 93, 3) := by decide +kernel
theorem dX11_reports_80 : decode cX11_reports 80 = .ok (.getfield 97, 3) := by decide +kernel
theorem dX11_reports_83 : decode cX11_reports 83 = .ok (.ireturn, 1) := by decide +kernel
theorem dX11_reports_84 : decode cX11_reports 84 = .ok (.aload_n 0, 1) := by decide +kernel
theorem dX11_reports_85 : decode cX11_reports 85 = .ok (.getfield 26, 3) := by decide +kernel
theorem dX11_reports_88 : decode cX11_reports 88 = .ok (.getfield 100, 3) := by decide +kernel
theorem dX11_reports_91 : decode cX11_reports 91 = .ok (.getfield 104, 3) := by decide +kernel
theorem dX11_reports_94 : decode cX11_reports 94 = .ok (.ireturn, 1) := by decide +kernel
theorem dX11_reports_95 : decode cX11_reports 95 = .ok (.aload_n 0, 1) := by decide +kernel
theorem dX11_reports_96 : decode cX11_reports 96 = .ok (.getfield 26, 3) := by decide +kernel
theorem dX11_reports_99 : decode cX11_reports 99 = .ok (.getfield 107, 3) := by decide +kernel
theorem dX11_reports_102 : decode cX11_reports 102 = .ok (.getfield 111, 3) := by decide +kernel
theorem dX11_reports_105 : decode cX11_reports 105 = .ok (.ireturn, 1) := by decide +kernel
theorem dX11_reports_106 : decode cX11_reports 106 = .ok (.iconst (-1), 1) := by decide +kernel
theorem dX11_reports_107 : decode cX11_reports 107 = .ok (.ireturn, 1) := by decide +kernel
def F_X11_reports (w : rd_W) (a0 : Nat) (x1 : Int32) (S : rd_S) : Option (Int32 × rd_S) :=
  if x1 = 0 then
  (rd_c (gR S a0 2) fun b2 =>
  rd_c (gR S b2 1) fun b3 =>
  some (gI S b3 7, S))
  else
  if x1 = 1 then
  (rd_c (gR S a0 2) fun b5 =>
  rd_c (gR S b5 2) fun b6 =>
  some (gI S b6 7, S))
  else
  if x1 = 2 then
  (rd_c (gR S a0 2) fun b8 =>
  rd_c (gR S b8 3) fun b9 =>
  some (gI S b9 7, S))
  else
  if x1 = 3 then
  (rd_c (gR S a0 2) fun b11 =>
  rd_c (gR S b11 4) fun b12 =>
  some (gI S b12 7, S))
  else
  if x1 = 4 then
  (rd_c (gR S a0 2) fun b14 =>
  rd_c (gR S b14 5) fun b15 =>
  some (gI S b15 4, S))
  else
  if x1 = 5 then
  (rd_c (gR S a0 2) fun b17 =>
  rd_c (gR S b17 8) fun b18 =>
  some (gI S b18 1, S))
  else
  (some ((-1), S))
theorem ym_X11_reports (cx : rd_Cx) (w : rd_W) (a0 : Nat) (x1 : Int32) (ha0 : rd_ok w a0 11) (S : rd_S) : rd_Y cx G_X11_reports (fun r => rd_P cx G_X11_reports.2.2.2.2.2 0 w (rd_rI w r)) (F_X11_reports w a0 x1 S) 0 (rd_as 0 [.inr (some a0), .inl x1]) [] w S 0 0 := by
  unfold F_X11_reports
  refine ry_iload_n dX11_reports_0 rfl ?_
  refine ry_split _ (fun c1 => ?_) (fun c1 => ?_)
  · refine ry_tsIn 40 0 c1 dX11_reports_1 (by decide) (by decide) rfl (by decide) ?_
    refine ry_aload_n dX11_reports_40 rfl ?_
    refine ry_getr dX11_reports_41 ha0 fl_RX11_26 rfl (fun b2 hb2 => ?_)
    refine ry_getr dX11_reports_44 hb2 fl_RX11_78 rfl (fun b3 hb3 => ?_)
    refine ry_geti dX11_reports_47 hb3 fl_RX11_82 rfl ?_
    exact ry_iret dX11_reports_50 rfl (Nat.le_of_ble_eq_true rfl) (Nat.le_of_ble_eq_true rfl)
  refine ry_split _ (fun c4 => ?_) (fun c4 => ?_)
  · refine ry_tsIn 51 1 c4 dX11_reports_1 (by decide) (by decide) rfl (by decide) ?_
    refine ry_aload_n dX11_reports_51 rfl ?_
    refine ry_getr dX11_reports_52 ha0 fl_RX11_26 rfl (fun b5 hb5 => ?_)
    refine ry_getr dX11_reports_55 hb5 fl_RX11_87 rfl (fun b6 hb6 => ?_)
    refine ry_geti dX11_reports_58 hb6 fl_RX11_82 rfl ?_
    exact ry_iret dX11_reports_61 rfl (Nat.le_of_ble_eq_true rfl) (Nat.le_of_ble_eq_true rfl)
  refine ry_split _ (fun c7 => ?_) (fun c7 => ?_)
  · refine ry_tsIn 62 2 c7 dX11_reports_1 (by decide) (by decide) rfl (by decide) ?_
    refine ry_aload_n dX11_reports_62 rfl ?_
    refine ry_getr dX11_reports_63 ha0 fl_RX11_26 rfl (fun b8 hb8 => ?_)
    refine ry_getr dX11_reports_66 hb8 fl_RX11_90 rfl (fun b9 hb9 => ?_)
    refine ry_geti dX11_reports_69 hb9 fl_RX11_82 rfl ?_
    exact ry_iret dX11_reports_72 rfl (Nat.le_of_ble_eq_true rfl) (Nat.le_of_ble_eq_true rfl)
  refine ry_split _ (fun c10 => ?_) (fun c10 => ?_)
  · refine ry_tsIn 73 3 c10 dX11_reports_1 (by decide) (by decide) rfl (by decide) ?_
    refine ry_aload_n dX11_reports_73 rfl ?_
    refine ry_getr dX11_reports_74 ha0 fl_RX11_26 rfl (fun b11 hb11 => ?_)
    refine ry_getr dX11_reports_77 hb11 fl_RX11_93 rfl (fun b12 hb12 => ?_)
    refine ry_geti dX11_reports_80 hb12 fl_RX11_97 rfl ?_
    exact ry_iret dX11_reports_83 rfl (Nat.le_of_ble_eq_true rfl) (Nat.le_of_ble_eq_true rfl)
  refine ry_split _ (fun c13 => ?_) (fun c13 => ?_)
  · refine ry_tsIn 84 4 c13 dX11_reports_1 (by decide) (by decide) rfl (by decide) ?_
    refine ry_aload_n dX11_reports_84 rfl ?_
    refine ry_getr dX11_reports_85 ha0 fl_RX11_26 rfl (fun b14 hb14 => ?_)
    refine ry_getr dX11_reports_88 hb14 fl_RX11_100 rfl (fun b15 hb15 => ?_)
    refine ry_geti dX11_reports_91 hb15 fl_RX11_104 rfl ?_
    exact ry_iret dX11_reports_94 rfl (Nat.le_of_ble_eq_true rfl) (Nat.le_of_ble_eq_true rfl)
  refine ry_split _ (fun c16 => ?_) (fun c16 => ?_)
  · refine ry_tsIn 95 5 c16 dX11_reports_1 (by decide) (by decide) rfl (by decide) ?_
    refine ry_aload_n dX11_reports_95 rfl ?_
    refine ry_getr dX11_reports_96 ha0 fl_RX11_26 rfl (fun b17 hb17 => ?_)
    refine ry_getr dX11_reports_99 hb17 fl_RX11_107 rfl (fun b18 hb18 => ?_)
    refine ry_geti dX11_reports_102 hb18 fl_RX11_111 rfl ?_
    exact ry_iret dX11_reports_105 rfl (Nat.le_of_ble_eq_true rfl) (Nat.le_of_ble_eq_true rfl)
  refine ry_tsD 106 [(0, 0), (1, 1), (2, 2), (3, 3), (4, 4), (5, 5)] 6 dX11_reports_1 (by decide) (by decide +kernel) (by decide +kernel) ⟨c1, c4, c7, c10, c13, c16, trivial⟩ (by decide) ?_
  refine ry_iconst (v := (-1)) dX11_reports_106 (by decide) ?_
  exact ry_iret dX11_reports_107 rfl (Nat.le_of_ble_eq_true rfl) (Nat.le_of_ble_eq_true rfl)
theorem cm_X11_reports (l : Launch) (cx : rd_Cx) (w : rd_W) (a0 : Nat) (x1 : Int32) (ha0 : rd_ok w a0 11) (S : rd_S) (r : Int32 × rd_S) (h : F_X11_reports w a0 x1 S = some r) : rd_M l cx yX11_reports G_X11_reports 0 [.inr (some a0), .inl x1] w S (rd_rI w r) :=
  rd_enter (plainFor_of_name (by decide +kernel)) rfl (fun h => by cases h) (Nat.le_of_ble_eq_true rfl) (ym_X11_reports cx w a0 x1 ha0 S r h)
abbrev G_X12_reports : rd_G := (RX12, cX12_reports, 2, (some .int), false, { frames := 0, cells := 0, slots := 0, locals := 0 })
theorem yf_X12_reports : rd_YL yX12_reports G_X12_reports 1 := ⟨rd_mem 1183 (by decide +kernel) rfl, rd_mem 75 (by decide +kernel) rfl, by decide +kernel, by decide +kernel, by decide +kernel⟩
theorem mi_X12_reports : Cond.instanceMethod yX12_reports ∈ rd_gw := rd_mem 1181 (by decide +kernel) rfl
theorem ms_X12_reports : Cond.selects (MethodName.cls yX12_reports) yX12_reports yX12_reports ∈ rd_gw := rd_mem 1182 (by decide +kernel) rfl
theorem dX12_reports_0 : decode cX12_reports 0 = .ok (.aload_n 0, 1) := by decide +kernel
theorem dX12_reports_1 : decode cX12_reports 1 = .ok (.iconst 0, 1) := by decide +kernel
theorem dX12_reports_2 : decode cX12_reports 2 = .ok (.putfield 1, 3) := by decide +kernel
theorem dX12_reports_5 : decode cX12_reports 5 = .ok (.iload_n 1, 1) := by decide +kernel
theorem dX12_reports_6 : decode cX12_reports 6 = .ok (.ifCond .lt 18, 3) := by decide +kernel
theorem dX12_reports_9 : decode cX12_reports 9 = .ok (.iload_n 1, 1) := by decide +kernel
theorem dX12_reports_10 : decode cX12_reports 10 = .ok (.bipush 6, 2) := by decide +kernel
theorem dX12_reports_12 : decode cX12_reports 12 = .ok (.if_icmp .ge 12, 3) := by decide +kernel
theorem dX12_reports_15 : decode cX12_reports 15 = .ok (.aload_n 0, 1) := by decide +kernel
theorem dX12_reports_16 : decode cX12_reports 16 = .ok (.getfield 190, 3) := by decide +kernel
theorem dX12_reports_19 : decode cX12_reports 19 = .ok (.iload_n 1, 1) := by decide +kernel
theorem dX12_reports_20 : decode cX12_reports 20 = .ok (.iaload, 1) := by decide +kernel
theorem dX12_reports_21 : decode cX12_reports 21 = .ok (.goto 4, 3) := by decide +kernel
theorem dX12_reports_24 : decode cX12_reports 24 = .ok (.iconst (-1), 1) := by decide +kernel
theorem dX12_reports_25 : decode cX12_reports 25 = .ok (.ireturn, 1) := by decide +kernel
def B_X12_reports_25 (w : rd_W) (t0 : Int32) (S : rd_S) : Option (Int32 × rd_S) :=
  some (t0, S)
theorem yb_X12_reports_25 (cx : rd_Cx) (w : rd_W) (t0 : Int32) (S : rd_S) : rd_Y cx G_X12_reports (fun r => rd_P cx G_X12_reports.2.2.2.2.2 0 w (rd_rI w r)) (B_X12_reports_25 w t0 S) 25 [] [.inl t0] w S 0 0 := by
  unfold B_X12_reports_25
  exact ry_iret dX12_reports_25 rfl (Nat.le_of_ble_eq_true rfl) (Nat.le_of_ble_eq_true rfl)
def B_X12_reports_24 (w : rd_W) (S : rd_S) : Option (Int32 × rd_S) :=
  B_X12_reports_25 w (-1) S
theorem yb_X12_reports_24 (cx : rd_Cx) (w : rd_W) (S : rd_S) : rd_Y cx G_X12_reports (fun r => rd_P cx G_X12_reports.2.2.2.2.2 0 w (rd_rI w r)) (B_X12_reports_24 w S) 24 [] [] w S 0 0 := by
  unfold B_X12_reports_24
  refine ry_iconst (v := (-1)) dX12_reports_24 (by decide) ?_
  exact ry_to (yb_X12_reports_25 cx w (-1) S) trivial
def F_X12_reports (w : rd_W) (a0 : Nat) (x1 : Int32) (S : rd_S) : Option (Int32 × rd_S) :=
  rd_let (pI S a0 0 0) fun s1 =>
  if x1 < 0 then
  (B_X12_reports_24 w s1)
  else
  (if 6 ≤ x1 then
  (B_X12_reports_24 w s1)
  else
  (rd_c (gR s1 a0 26) fun b4 =>
  rd_i x1 (w.2.2 b4) <|
  B_X12_reports_25 w (gI s1 b4 x1.toNatClampNeg) s1))
theorem ym_X12_reports (cx : rd_Cx) (w : rd_W) (a0 : Nat) (x1 : Int32) (ha0 : rd_ok w a0 12) (S : rd_S) : rd_Y cx G_X12_reports (fun r => rd_P cx G_X12_reports.2.2.2.2.2 0 w (rd_rI w r)) (F_X12_reports w a0 x1 S) 0 (rd_as 0 [.inr (some a0), .inl x1]) [] w S 0 0 := by
  unfold F_X12_reports
  refine ry_aload_n dX12_reports_0 rfl ?_
  refine ry_iconst (v := 0) dX12_reports_1 (by decide) ?_
  refine ry_puti dX12_reports_2 ha0 fl_RX12_1 rfl rfl rfl ?_
  refine ry_letS (fun s1 => ?_)
  refine ry_iload_n dX12_reports_5 rfl ?_
  refine ry_if_lt 24 dX12_reports_6 (by decide) (fun c2 => ?_) (fun c2 => ?_)
  · exact ry_to (yb_X12_reports_24 cx w s1) trivial
  · refine ry_iload_n dX12_reports_9 rfl ?_
    refine ry_bipush (v := 6) dX12_reports_10 (by decide) ?_
    refine ry_icmp_ge 24 dX12_reports_12 (by decide) (fun c3 => ?_) (fun c3 => ?_)
    · exact ry_to (yb_X12_reports_24 cx w s1) trivial
    · refine ry_aload_n dX12_reports_15 rfl ?_
      refine ry_getr dX12_reports_16 ha0 fl_RX12_190 rfl (fun b4 hb4 => ?_)
      refine ry_iload_n dX12_reports_19 rfl ?_
      refine ry_iald dX12_reports_20 hb4 ?_
      refine ry_goto 25 dX12_reports_21 (by decide) ?_
      exact ry_to (yb_X12_reports_25 cx w (gI s1 b4 x1.toNatClampNeg) s1) trivial
theorem cm_X12_reports (l : Launch) (cx : rd_Cx) (w : rd_W) (a0 : Nat) (x1 : Int32) (ha0 : rd_ok w a0 12) (S : rd_S) (r : Int32 × rd_S) (h : F_X12_reports w a0 x1 S = some r) : rd_M l cx yX12_reports G_X12_reports 0 [.inr (some a0), .inl x1] w S (rd_rI w r) :=
  rd_enter (plainFor_of_name (by decide +kernel)) rfl (fun h => by cases h) (Nat.le_of_ble_eq_true rfl) (ym_X12_reports cx w a0 x1 ha0 S r h)
abbrev G_X1_byteAt : rd_G := (RX1, cX1_byteAt, 2, (some .int), false, { frames := 1, cells := 0, slots := 0, locals := 21 })
theorem yf_X1_byteAt : rd_YL yX1_byteAt G_X1_byteAt 1 := ⟨rd_mem 780 (by decide +kernel) rfl, rd_mem 68 (by decide +kernel) rfl, by decide +kernel, by decide +kernel, by decide +kernel⟩
theorem mi_X1_byteAt : Cond.instanceMethod yX1_byteAt ∈ rd_gw := rd_mem 778 (by decide +kernel) rfl
theorem ms_X1_byteAt : Cond.selects (MethodName.cls yX1_byteAt) yX1_byteAt yX1_byteAt ∈ rd_gw := rd_mem 779 (by decide +kernel) rfl
theorem dX1_byteAt_0 : decode cX1_byteAt 0 = .ok (.iload_n 1, 1) := by decide +kernel
theorem dX1_byteAt_1 : decode cX1_byteAt 1 = .ok (.aload_n 0, 1) := by decide +kernel
theorem dX1_byteAt_2 : decode cX1_byteAt 2 = .ok (.getfield 31, 3) := by decide +kernel
theorem dX1_byteAt_5 : decode cX1_byteAt 5 = .ok (.if_icmp .ge 14, 3) := by decide +kernel
theorem dX1_byteAt_8 : decode cX1_byteAt 8 = .ok (.aload_n 0, 1) := by decide +kernel
theorem dX1_byteAt_9 : decode cX1_byteAt 9 = .ok (.getfield 22, 3) := by decide +kernel
theorem dX1_byteAt_12 : decode cX1_byteAt 12 = .ok (.iload_n 1, 1) := by decide +kernel
theorem dX1_byteAt_13 : decode cX1_byteAt 13 = .ok (.invokestatic 57, 3) := by decide +kernel
theorem dX1_byteAt_16 : decode cX1_byteAt 16 = .ok (.goto 4, 3) := by decide +kernel
theorem dX1_byteAt_19 : decode cX1_byteAt 19 = .ok (.iconst (-1), 1) := by decide +kernel
theorem dX1_byteAt_20 : decode cX1_byteAt 20 = .ok (.ireturn, 1) := by decide +kernel
def B_X1_byteAt_20 (w : rd_W) (t0 : Int32) (S : rd_S) : Option (Int32 × rd_S) :=
  some (t0, S)
theorem yb_X1_byteAt_20 (cx : rd_Cx) (w : rd_W) (t0 : Int32) (S : rd_S) : rd_Y cx G_X1_byteAt (fun r => rd_P cx G_X1_byteAt.2.2.2.2.2 0 w (rd_rI w r)) (B_X1_byteAt_20 w t0 S) 20 [] [.inl t0] w S 0 0 := by
  unfold B_X1_byteAt_20
  exact ry_iret dX1_byteAt_20 rfl (Nat.le_of_ble_eq_true rfl) (Nat.le_of_ble_eq_true rfl)
def F_X1_byteAt (w : rd_W) (a0 : Nat) (x1 : Int32) (S : rd_S) : Option (Int32 × rd_S) :=
  if (gI S a0 6) ≤ x1 then
  (B_X1_byteAt_20 w (-1) S)
  else
  (rd_c (gR S a0 3) fun b2 =>
  rd_b (F_X11_at w b2 x1 S) fun v4 s3 =>
  B_X1_byteAt_20 w v4 s3)
theorem ym_X1_byteAt (cx : rd_Cx) (w : rd_W) (a0 : Nat) (x1 : Int32) (ha0 : rd_ok w a0 1) (S : rd_S) : rd_Y cx G_X1_byteAt (fun r => rd_P cx G_X1_byteAt.2.2.2.2.2 0 w (rd_rI w r)) (F_X1_byteAt w a0 x1 S) 0 (rd_as 0 [.inr (some a0), .inl x1]) [] w S 0 0 := by
  unfold F_X1_byteAt
  refine ry_iload_n dX1_byteAt_0 rfl ?_
  refine ry_aload_n dX1_byteAt_1 rfl ?_
  refine ry_geti dX1_byteAt_2 ha0 fl_RX1_31 rfl ?_
  refine ry_icmp_ge 19 dX1_byteAt_5 (by decide) (fun c1 => ?_) (fun c1 => ?_)
  · refine ry_iconst (v := (-1)) dX1_byteAt_19 (by decide) ?_
    exact ry_to (yb_X1_byteAt_20 cx w (-1) S) trivial
  · refine ry_aload_n dX1_byteAt_8 rfl ?_
    refine ry_getr dX1_byteAt_9 ha0 fl_RX1_22 rfl (fun b2 hb2 => ?_)
    refine ry_iload_n dX1_byteAt_12 rfl ?_
    refine ry_callI (fun l r9 h9 => cm_X11_at l cx w b2 x1 hb2 S r9 h9) (rd_runSN (vs := [.inr (some b2), .inl x1]) dX1_byteAt_13 yf_X11_at mt_X11_at mn_RX1_57 ⟨Nat.le_of_ble_eq_true rfl, Nat.le_of_ble_eq_true rfl⟩ (Nat.le_of_ble_eq_true rfl) rfl) rfl rfl (Nat.le_of_ble_eq_true rfl) (Nat.le_of_ble_eq_true rfl) (fun v4 s3 => ?_)
    refine ry_goto 20 dX1_byteAt_16 (by decide) ?_
    exact ry_to (yb_X1_byteAt_20 cx w v4 s3) trivial
theorem cm_X1_byteAt (l : Launch) (cx : rd_Cx) (w : rd_W) (a0 : Nat) (x1 : Int32) (ha0 : rd_ok w a0 1) (S : rd_S) (r : Int32 × rd_S) (h : F_X1_byteAt w a0 x1 S = some r) : rd_M l cx yX1_byteAt G_X1_byteAt 0 [.inr (some a0), .inl x1] w S (rd_rI w r) :=
  rd_enter (plainFor_of_name (by decide +kernel)) rfl (fun h => by cases h) (Nat.le_of_ble_eq_true rfl) (ym_X1_byteAt cx w a0 x1 ha0 S r h)
abbrev G_X9_byteOf : rd_G := (RX9, cX9_byteOf, 5, (some .int), false, { frames := 2, cells := 0, slots := 0, locals := 42 })
theorem yf_X9_byteOf : rd_YL yX9_byteOf G_X9_byteOf 3 := ⟨rd_mem 784 (by decide +kernel) rfl, rd_mem 74 (by decide +kernel) rfl, by decide +kernel, by decide +kernel, by decide +kernel⟩
theorem mi_X9_byteOf : Cond.instanceMethod yX9_byteOf ∈ rd_gw := rd_mem 782 (by decide +kernel) rfl
theorem ms_X9_byteOf : Cond.selects (MethodName.cls yX9_byteOf) yX9_byteOf yX9_byteOf ∈ rd_gw := rd_mem 783 (by decide +kernel) rfl
theorem dX9_byteOf_0 : decode cX9_byteOf 0 = .ok (.aload_n 0, 1) := by decide +kernel
theorem dX9_byteOf_1 : decode cX9_byteOf 1 = .ok (.getfield 11, 3) := by decide +kernel
theorem dX9_byteOf_4 : decode cX9_byteOf 4 = .ok (.iload_n 1, 1) := by decide +kernel
theorem dX9_byteOf_5 : decode cX9_byteOf 5 = .ok (.invokestatic 29, 3) := by decide +kernel
theorem dX9_byteOf_8 : decode cX9_byteOf 8 = .ok (.istore 4, 2) := by decide +kernel
theorem dX9_byteOf_10 : decode cX9_byteOf 10 = .ok (.iload 4, 2) := by decide +kernel
theorem dX9_byteOf_12 : decode cX9_byteOf 12 = .ok (.iconst (-1), 1) := by decide +kernel
theorem dX9_byteOf_13 : decode cX9_byteOf 13 = .ok (.if_icmp .eq 26, 3) := by decide +kernel
theorem dX9_byteOf_16 : decode cX9_byteOf 16 = .ok (.iload 4, 2) := by decide +kernel
theorem dX9_byteOf_18 : decode cX9_byteOf 18 = .ok (.ifCond .eq 21, 3) := by decide +kernel
theorem dX9_byteOf_21 : decode cX9_byteOf 21 = .ok (.iload_n 2, 1) := by decide +kernel
theorem dX9_byteOf_22 : decode cX9_byteOf 22 = .ok (.ifCond .lt 17, 3) := by decide +kernel
theorem dX9_byteOf_25 : decode cX9_byteOf 25 = .ok (.iload_n 2, 1) := by decide +kernel
theorem dX9_byteOf_26 : decode cX9_byteOf 26 = .ok (.aload_n 0, 1) := by decide +kernel
theorem dX9_byteOf_27 : decode cX9_byteOf 27 = .ok (.getfield 11, 3) := by decide +kernel
theorem dX9_byteOf_30 : decode cX9_byteOf 30 = .ok (.iload_n 1, 1) := by decide +kernel
theorem dX9_byteOf_31 : decode cX9_byteOf 31 = .ok (.iconst 2, 1) := by decide +kernel
theorem dX9_byteOf_32 : decode cX9_byteOf 32 = .ok (.iadd, 1) := by decide +kernel
theorem dX9_byteOf_33 : decode cX9_byteOf 33 = .ok (.invokestatic 29, 3) := by decide +kernel
theorem dX9_byteOf_36 : decode cX9_byteOf 36 = .ok (.if_icmp .le 5, 3) := by decide +kernel
theorem dX9_byteOf_39 : decode cX9_byteOf 39 = .ok (.iconst (-1), 1) := by decide +kernel
theorem dX9_byteOf_40 : decode cX9_byteOf 40 = .ok (.ireturn, 1) := by decide +kernel
theorem dX9_byteOf_41 : decode cX9_byteOf 41 = .ok (.aload_n 3, 1) := by decide +kernel
theorem dX9_byteOf_42 : decode cX9_byteOf 42 = .ok (.aload_n 0, 1) := by decide +kernel
theorem dX9_byteOf_43 : decode cX9_byteOf 43 = .ok (.getfield 11, 3) := by decide +kernel
theorem dX9_byteOf_46 : decode cX9_byteOf 46 = .ok (.iload_n 1, 1) := by decide +kernel
theorem dX9_byteOf_47 : decode cX9_byteOf 47 = .ok (.iconst 1, 1) := by decide +kernel
theorem dX9_byteOf_48 : decode cX9_byteOf 48 = .ok (.iadd, 1) := by decide +kernel
theorem dX9_byteOf_49 : decode cX9_byteOf 49 = .ok (.invokestatic 29, 3) := by decide +kernel
theorem dX9_byteOf_52 : decode cX9_byteOf 52 = .ok (.iload_n 2, 1) := by decide +kernel
theorem dX9_byteOf_53 : decode cX9_byteOf 53 = .ok (.iadd, 1) := by decide +kernel
theorem dX9_byteOf_54 : decode cX9_byteOf 54 = .ok (.invokevirtual 33, 3) := by decide +kernel
theorem dX9_byteOf_57 : decode cX9_byteOf 57 = .ok (.ireturn, 1) := by decide +kernel
def B_X9_byteOf_39 (w : rd_W) (S : rd_S) : Option (Int32 × rd_S) :=
  some ((-1), S)
theorem yb_X9_byteOf_39 (cx : rd_Cx) (w : rd_W) (S : rd_S) : rd_Y cx G_X9_byteOf (fun r => rd_P cx G_X9_byteOf.2.2.2.2.2 0 w (rd_rI w r)) (B_X9_byteOf_39 w S) 39 [] [] w S 0 0 := by
  unfold B_X9_byteOf_39
  refine ry_iconst (v := (-1)) dX9_byteOf_39 (by decide) ?_
  exact ry_iret dX9_byteOf_40 rfl (Nat.le_of_ble_eq_true rfl) (Nat.le_of_ble_eq_true rfl)
def F_X9_byteOf (w : rd_W) (a0 : Nat) (x1 : Int32) (x2 : Int32) (a3 : Nat) (S : rd_S) : Option (Int32 × rd_S) :=
  rd_c (gR S a0 0) fun b1 =>
  rd_b (F_X11_at w b1 x1 S) fun v3 s2 =>
  if v3 = (-1) then
  (B_X9_byteOf_39 w s2)
  else
  (if v3 = 0 then
  (B_X9_byteOf_39 w s2)
  else
  (if x2 < 0 then
  (B_X9_byteOf_39 w s2)
  else
  (rd_c (gR s2 a0 0) fun b7 =>
  rd_b (F_X11_at w b7 (x1 + 2) s2) fun v9 s8 =>
  if x2 ≤ v9 then
  (rd_c (gR s8 a0 0) fun b11 =>
  rd_b (F_X11_at w b11 (x1 + 1) s8) fun v13 s12 =>
  rd_b (F_X1_byteAt w a3 (v13 + x2) s12) fun v15 s14 =>
  some (v15, s14))
  else
  (B_X9_byteOf_39 w s8))))
theorem ym_X9_byteOf (cx : rd_Cx) (w : rd_W) (a0 : Nat) (x1 : Int32) (x2 : Int32) (a3 : Nat) (ha0 : rd_ok w a0 9) (ha3 : rd_ok w a3 1) (S : rd_S) : rd_Y cx G_X9_byteOf (fun r => rd_P cx G_X9_byteOf.2.2.2.2.2 0 w (rd_rI w r)) (F_X9_byteOf w a0 x1 x2 a3 S) 0 (rd_as 0 [.inr (some a0), .inl x1, .inl x2, .inr (some a3)]) [] w S 0 0 := by
  unfold F_X9_byteOf
  refine ry_aload_n dX9_byteOf_0 rfl ?_
  refine ry_getr dX9_byteOf_1 ha0 fl_RX9_11 rfl (fun b1 hb1 => ?_)
  refine ry_iload_n dX9_byteOf_4 rfl ?_
  refine ry_callI (fun l r9 h9 => cm_X11_at l cx w b1 x1 hb1 S r9 h9) (rd_runSN (vs := [.inr (some b1), .inl x1]) dX9_byteOf_5 yf_X11_at mt_X11_at mn_RX9_29 ⟨Nat.le_of_ble_eq_true rfl, Nat.le_of_ble_eq_true rfl⟩ (Nat.le_of_ble_eq_true rfl) rfl) rfl rfl (Nat.le_of_ble_eq_true rfl) (Nat.le_of_ble_eq_true rfl) (fun v3 s2 => ?_)
  refine ry_istore dX9_byteOf_8 (by decide) ?_
  refine ry_iload dX9_byteOf_10 rfl ?_
  refine ry_iconst (v := (-1)) dX9_byteOf_12 (by decide) ?_
  refine ry_icmp_eq 39 dX9_byteOf_13 (by decide) (fun c4 => ?_) (fun c4 => ?_)
  · exact ry_to (yb_X9_byteOf_39 cx w s2) trivial
  · refine ry_iload dX9_byteOf_16 rfl ?_
    refine ry_if_eq 39 dX9_byteOf_18 (by decide) (fun c5 => ?_) (fun c5 => ?_)
    · exact ry_to (yb_X9_byteOf_39 cx w s2) trivial
    · refine ry_iload_n dX9_byteOf_21 rfl ?_
      refine ry_if_lt 39 dX9_byteOf_22 (by decide) (fun c6 => ?_) (fun c6 => ?_)
      · exact ry_to (yb_X9_byteOf_39 cx w s2) trivial
      · refine ry_iload_n dX9_byteOf_25 rfl ?_
        refine ry_aload_n dX9_byteOf_26 rfl ?_
        refine ry_getr dX9_byteOf_27 ha0 fl_RX9_11 rfl (fun b7 hb7 => ?_)
        refine ry_iload_n dX9_byteOf_30 rfl ?_
        refine ry_iconst (v := 2) dX9_byteOf_31 (by decide) ?_
        refine ry_iadd dX9_byteOf_32 ?_
        refine ry_callI (fun l r9 h9 => cm_X11_at l cx w b7 (x1 + 2) hb7 s2 r9 h9) (rd_runSN (vs := [.inr (some b7), .inl (x1 + 2)]) dX9_byteOf_33 yf_X11_at mt_X11_at mn_RX9_29 ⟨Nat.le_of_ble_eq_true rfl, Nat.le_of_ble_eq_true rfl⟩ (Nat.le_of_ble_eq_true rfl) rfl) rfl rfl (Nat.le_of_ble_eq_true rfl) (Nat.le_of_ble_eq_true rfl) (fun v9 s8 => ?_)
        refine ry_icmp_le 41 dX9_byteOf_36 (by decide) (fun c10 => ?_) (fun c10 => ?_)
        · refine ry_aload_n dX9_byteOf_41 rfl ?_
          refine ry_aload_n dX9_byteOf_42 rfl ?_
          refine ry_getr dX9_byteOf_43 ha0 fl_RX9_11 rfl (fun b11 hb11 => ?_)
          refine ry_iload_n dX9_byteOf_46 rfl ?_
          refine ry_iconst (v := 1) dX9_byteOf_47 (by decide) ?_
          refine ry_iadd dX9_byteOf_48 ?_
          refine ry_callI (fun l r9 h9 => cm_X11_at l cx w b11 (x1 + 1) hb11 s8 r9 h9) (rd_runSN (vs := [.inr (some b11), .inl (x1 + 1)]) dX9_byteOf_49 yf_X11_at mt_X11_at mn_RX9_29 ⟨Nat.le_of_ble_eq_true rfl, Nat.le_of_ble_eq_true rfl⟩ (Nat.le_of_ble_eq_true rfl) rfl) rfl rfl (Nat.le_of_ble_eq_true rfl) (Nat.le_of_ble_eq_true rfl) (fun v13 s12 => ?_)
          refine ry_iload_n dX9_byteOf_52 rfl ?_
          refine ry_iadd dX9_byteOf_53 ?_
          refine ry_callI (fun l r9 h9 => cm_X1_byteAt l cx w a3 (v13 + x2) ha3 s12 r9 h9) (rd_runV (vs := [.inl (v13 + x2)]) dX9_byteOf_54 ha3 rfl rfl yf_X1_byteAt mi_X1_byteAt ms_X1_byteAt ml_RX9_33 ⟨Nat.le_of_ble_eq_true rfl, Nat.le_of_ble_eq_true rfl⟩ (Nat.le_of_ble_eq_true rfl) rfl) rfl rfl (Nat.le_of_ble_eq_true rfl) (Nat.le_of_ble_eq_true rfl) (fun v15 s14 => ?_)
          exact ry_iret dX9_byteOf_57 rfl (Nat.le_of_ble_eq_true rfl) (Nat.le_of_ble_eq_true rfl)
        · exact ry_to (yb_X9_byteOf_39 cx w s8) trivial
theorem cm_X9_byteOf (l : Launch) (cx : rd_Cx) (w : rd_W) (a0 : Nat) (x1 : Int32) (x2 : Int32) (a3 : Nat) (ha0 : rd_ok w a0 9) (ha3 : rd_ok w a3 1) (S : rd_S) (r : Int32 × rd_S) (h : F_X9_byteOf w a0 x1 x2 a3 S = some r) : rd_M l cx yX9_byteOf G_X9_byteOf 0 [.inr (some a0), .inl x1, .inl x2, .inr (some a3)] w S (rd_rI w r) :=
  rd_enter (plainFor_of_name (by decide +kernel)) rfl (fun h => by cases h) (Nat.le_of_ble_eq_true rfl) (ym_X9_byteOf cx w a0 x1 x2 a3 ha0 ha3 S r h)
abbrev G_X11_letter : rd_G := (RX11, cX11_letter, 3, (some .int), false, { frames := 3, cells := 0, slots := 0, locals := 66 })
theorem yf_X11_letter : rd_YL yX11_letter G_X11_letter 2 := ⟨rd_mem 776 (by decide +kernel) rfl, rd_mem 62 (by decide +kernel) rfl, by decide +kernel, by decide +kernel, by decide +kernel⟩
theorem mi_X11_letter : Cond.instanceMethod yX11_letter ∈ rd_gw := rd_mem 774 (by decide +kernel) rfl
theorem ms_X11_letter : Cond.selects (MethodName.cls yX11_letter) yX11_letter yX11_letter ∈ rd_gw := rd_mem 775 (by decide +kernel) rfl
theorem dX11_letter_0 : decode cX11_letter 0 = .ok (.iload_n 1, 1) := by decide +kernel
theorem dX11_letter_1 : decode cX11_letter 1 = .ok (.tableswitch 111 0 4 #[35, 47, 59, 71, 91], 35) := by decide +kernel
theorem dX11_letter_36 : decode cX11_letter 36 = .ok (.aload_n 0, 1) := by decide +kernel
theorem dX11_letter_37 : decode cX11_letter 37 = .ok (.getfield 26, 3) := by decide +kernel
theorem dX11_letter_40 : decode cX11_letter 40 = .ok (.getfield 78, 3) := by decide +kernel
theorem dX11_letter_43 : decode cX11_letter 43 = .ok (.iload_n 2, 1) := by decide +kernel
theorem dX11_letter_44 : decode cX11_letter 44 = .ok (.invokevirtual 114, 3) := by decide +kernel
theorem dX11_letter_47 : decode cX11_letter 47 = .ok (.ireturn, 1) := by decide +kernel
theorem dX11_letter_48 : decode cX11_letter 48 = .ok (.aload_n 0, 1) := by decide +kernel
theorem dX11_letter_49 : decode cX11_letter 49 = .ok (.getfield 26, 3) := by decide +kernel
theorem dX11_letter_52 : decode cX11_letter 52 = .ok (.getfield 87, 3) := by decide +kernel
theorem dX11_letter_55 : decode cX11_letter 55 = .ok (.iload_n 2, 1) := by decide +kernel
theorem dX11_letter_56 : decode cX11_letter 56 = .ok (.invokevirtual 114, 3) := by decide +kernel
theorem dX11_letter_59 : decode cX11_letter 59 = .ok (.ireturn, 1) := by decide +kernel
theorem dX11_letter_60 : decode cX11_letter 60 = .ok (.aload_n 0, 1) := by decide +kernel
theorem dX11_letter_61 : decode cX11_letter 61 = .ok (.getfield 26, 3) := by decide +kernel
theorem dX11_letter_64 : decode cX11_letter 64 = .ok (.getfield 90, 3) := by decide +kernel
theorem dX11_letter_67 : decode cX11_letter 67 = .ok (.iload_n 2, 1) := by decide +kernel
theorem dX11_letter_68 : decode cX11_letter 68 = .ok (.invokevirtual 114, 3) := by decide +kernel
theorem dX11_letter_71 : decode cX11_letter 71 = .ok (.ireturn, 1) := by decide +kernel
theorem dX11_letter_72 : decode cX11_letter 72 = .ok (.aload_n 0, 1) := by decide +kernel
theorem dX11_letter_73 : decode cX11_letter 73 = .ok (.getfield 26, 3) := by decide +kernel
theorem dX11_letter_76 : decode cX11_letter 76 = .ok (.getfield 107, 3) := by decide +kernel
theorem dX11_letter_79 : decode cX11_letter 79 = .ok (.iconst 2, 1) := by decide +kernel
theorem dX11_letter_80 : decode cX11_letter 80 = .ok (.iload_n 2, 1) := by decide +kernel
theorem dX11_letter_81 : decode cX11_letter 81 = .ok (.aload_n 0, 1) := by decide +kernel
theorem dX11_letter_82 : decode cX11_letter 82 = .ok (.getfield 26, 3) := by decide +kernel
theorem dX11_letter_85 : decode cX11_letter 85 = .ok (.getfield 87, 3) := by decide +kernel
theorem dX11_letter_88 : decode cX11_letter 88 = .ok (.invokevirtual 117, 3) := by decide +kernel
theorem dX11_letter_91 : decode cX11_letter 91 = .ok (.ireturn, 1) := by decide +kernel
theorem dX11_letter_92 : decode cX11_letter 92 = .ok (.aload_n 0, 1) := by decide +kernel
theorem dX11_letter_93 : decode cX11_letter 93 = .ok (.getfield 26, 3) := by decide +kernel
theorem dX11_letter_96 : decode cX11_letter 96 = .ok (.getfield 107, 3) := by decide +kernel
theorem dX11_letter_99 : decode cX11_letter 99 = .ok (.iconst 5, 1) := by decide +kernel
theorem dX11_letter_100 : decode cX11_letter 100 = .ok (.iload_n 2, 1) := by decide +kernel
theorem dX11_letter_101 : decode cX11_letter 101 = .ok (.aload_n 0, 1) := by decide +kernel
theorem dX11_letter_102 : decode cX11_letter 102 = .ok (.getfield 26, 3) := by decide +kernel
theorem dX11_letter_105 : decode cX11_letter 105 = .ok (.getfield 87, 3) := by decide +kernel
theorem dX11_letter_108 : decode cX11_letter 108 = .ok (.invokevirtual 117, 3) := by decide +kernel
theorem dX11_letter_111 : decode cX11_letter 111 = .ok (.ireturn, 1) := by decide +kernel
theorem dX11_letter_112 : decode cX11_letter 112 = .ok (.iconst (-1), 1) := by decide +kernel
theorem dX11_letter_113 : decode cX11_letter 113 = .ok (.ireturn, 1) := by decide +kernel
def F_X11_letter (w : rd_W) (a0 : Nat) (x1 : Int32) (x2 : Int32) (S : rd_S) : Option (Int32 × rd_S) :=
  if x1 = 0 then
  (rd_c (gR S a0 2) fun b2 =>
  rd_c (gR S b2 1) fun b3 =>
  rd_b (F_X1_byteAt w b3 x2 S) fun v5 s4 =>
  some (v5, s4))
  else
  if x1 = 1 then
  (rd_c (gR S a0 2) fun b7 =>
  rd_c (gR S b7 2) fun b8 =>
  rd_b (F_X1_byteAt w b8 x2 S) fun v10 s9 =>
  some (v10, s9))
  else
  if x1 = 2 then
  (rd_c (gR S a0 2) fun b12 =>
  rd_c (gR S b12 3) fun b13 =>
  rd_b (F_X1_byteAt w b13 x2 S) fun v15 s14 =>
  some (v15, s14))
  else
  if x1 = 3 then
  (rd_c (gR S a0 2) fun b17 =>
  rd_c (gR S b17 8) fun b18 =>
  rd_c (gR S a0 2) fun b19 =>
  rd_c (gR S b19 2) fun b20 =>
  rd_b (F_X9_byteOf w b18 2 x2 b20 S) fun v22 s21 =>
  some (v22, s21))
  else
  if x1 = 4 then
  (rd_c (gR S a0 2) fun b24 =>
  rd_c (gR S b24 8) fun b25 =>
  rd_c (gR S a0 2) fun b26 =>
  rd_c (gR S b26 2) fun b27 =>
  rd_b (F_X9_byteOf w b25 5 x2 b27 S) fun v29 s28 =>
  some (v29, s28))
  else
  (some ((-1), S))
theorem ym_X11_letter (cx : rd_Cx) (w : rd_W) (a0 : Nat) (x1 : Int32) (x2 : Int32) (ha0 : rd_ok w a0 11) (S : rd_S) : rd_Y cx G_X11_letter (fun r => rd_P cx G_X11_letter.2.2.2.2.2 0 w (rd_rI w r)) (F_X11_letter w a0 x1 x2 S) 0 (rd_as 0 [.inr (some a0), .inl x1, .inl x2]) [] w S 0 0 := by
  unfold F_X11_letter
  refine ry_iload_n dX11_letter_0 rfl ?_
  refine ry_split _ (fun c1 => ?_) (fun c1 => ?_)
  · refine ry_tsIn 36 0 c1 dX11_letter_1 (by decide) (by decide) rfl (by decide) ?_
    refine ry_aload_n dX11_letter_36 rfl ?_
    refine ry_getr dX11_letter_37 ha0 fl_RX11_26 rfl (fun b2 hb2 => ?_)
    refine ry_getr dX11_letter_40 hb2 fl_RX11_78 rfl (fun b3 hb3 => ?_)
    refine ry_iload_n dX11_letter_43 rfl ?_
    refine ry_callI (fun l r9 h9 => cm_X1_byteAt l cx w b3 x2 hb3 S r9 h9) (rd_runV (vs := [.inl x2]) dX11_letter_44 hb3 rfl rfl yf_X1_byteAt mi_X1_byteAt ms_X1_byteAt ml_RX11_114 ⟨Nat.le_of_ble_eq_true rfl, Nat.le_of_ble_eq_true rfl⟩ (Nat.le_of_ble_eq_true rfl) rfl) rfl rfl (Nat.le_of_ble_eq_true rfl) (Nat.le_of_ble_eq_true rfl) (fun v5 s4 => ?_)
    exact ry_iret dX11_letter_47 rfl (Nat.le_of_ble_eq_true rfl) (Nat.le_of_ble_eq_true rfl)
  refine ry_split _ (fun c6 => ?_) (fun c6 => ?_)
  · refine ry_tsIn 48 1 c6 dX11_letter_1 (by decide) (by decide) rfl (by decide) ?_
    refine ry_aload_n dX11_letter_48 rfl ?_
    refine ry_getr dX11_letter_49 ha0 fl_RX11_26 rfl (fun b7 hb7 => ?_)
    refine ry_getr dX11_letter_52 hb7 fl_RX11_87 rfl (fun b8 hb8 => ?_)
    refine ry_iload_n dX11_letter_55 rfl ?_
    refine ry_callI (fun l r9 h9 => cm_X1_byteAt l cx w b8 x2 hb8 S r9 h9) (rd_runV (vs := [.inl x2]) dX11_letter_56 hb8 rfl rfl yf_X1_byteAt mi_X1_byteAt ms_X1_byteAt ml_RX11_114 ⟨Nat.le_of_ble_eq_true rfl, Nat.le_of_ble_eq_true rfl⟩ (Nat.le_of_ble_eq_true rfl) rfl) rfl rfl (Nat.le_of_ble_eq_true rfl) (Nat.le_of_ble_eq_true rfl) (fun v10 s9 => ?_)
    exact ry_iret dX11_letter_59 rfl (Nat.le_of_ble_eq_true rfl) (Nat.le_of_ble_eq_true rfl)
  refine ry_split _ (fun c11 => ?_) (fun c11 => ?_)
  · refine ry_tsIn 60 2 c11 dX11_letter_1 (by decide) (by decide) rfl (by decide) ?_
    refine ry_aload_n dX11_letter_60 rfl ?_
    refine ry_getr dX11_letter_61 ha0 fl_RX11_26 rfl (fun b12 hb12 => ?_)
    refine ry_getr dX11_letter_64 hb12 fl_RX11_90 rfl (fun b13 hb13 => ?_)
    refine ry_iload_n dX11_letter_67 rfl ?_
    refine ry_callI (fun l r9 h9 => cm_X1_byteAt l cx w b13 x2 hb13 S r9 h9) (rd_runV (vs := [.inl x2]) dX11_letter_68 hb13 rfl rfl yf_X1_byteAt mi_X1_byteAt ms_X1_byteAt ml_RX11_114 ⟨Nat.le_of_ble_eq_true rfl, Nat.le_of_ble_eq_true rfl⟩ (Nat.le_of_ble_eq_true rfl) rfl) rfl rfl (Nat.le_of_ble_eq_true rfl) (Nat.le_of_ble_eq_true rfl) (fun v15 s14 => ?_)
    exact ry_iret dX11_letter_71 rfl (Nat.le_of_ble_eq_true rfl) (Nat.le_of_ble_eq_true rfl)
  refine ry_split _ (fun c16 => ?_) (fun c16 => ?_)
  · refine ry_tsIn 72 3 c16 dX11_letter_1 (by decide) (by decide) rfl (by decide) ?_
    refine ry_aload_n dX11_letter_72 rfl ?_
    refine ry_getr dX11_letter_73 ha0 fl_RX11_26 rfl (fun b17 hb17 => ?_)
    refine ry_getr dX11_letter_76 hb17 fl_RX11_107 rfl (fun b18 hb18 => ?_)
    refine ry_iconst (v := 2) dX11_letter_79 (by decide) ?_
    refine ry_iload_n dX11_letter_80 rfl ?_
    refine ry_aload_n dX11_letter_81 rfl ?_
    refine ry_getr dX11_letter_82 ha0 fl_RX11_26 rfl (fun b19 hb19 => ?_)
    refine ry_getr dX11_letter_85 hb19 fl_RX11_87 rfl (fun b20 hb20 => ?_)
    refine ry_callI (fun l r9 h9 => cm_X9_byteOf l cx w b18 2 x2 b20 hb18 hb20 S r9 h9) (rd_runV (vs := [.inl 2, .inl x2, .inr (some b20)]) dX11_letter_88 hb18 rfl rfl yf_X9_byteOf mi_X9_byteOf ms_X9_byteOf ml_RX11_117 ⟨Nat.le_of_ble_eq_true rfl, Nat.le_of_ble_eq_true rfl⟩ (Nat.le_of_ble_eq_true rfl) rfl) rfl rfl (Nat.le_of_ble_eq_true rfl) (Nat.le_of_ble_eq_true rfl) (fun v22 s21 => ?_)
    exact ry_iret dX11_letter_91 rfl (Nat.le_of_ble_eq_true rfl) (Nat.le_of_ble_eq_true rfl)
  refine ry_split _ (fun c23 => ?_) (fun c23 => ?_)
  · refine ry_tsIn 92 4 c23 dX11_letter_1 (by decide) (by decide) rfl (by decide) ?_
    refine ry_aload_n dX11_letter_92 rfl ?_
    refine ry_getr dX11_letter_93 ha0 fl_RX11_26 rfl (fun b24 hb24 => ?_)
    refine ry_getr dX11_letter_96 hb24 fl_RX11_107 rfl (fun b25 hb25 => ?_)
    refine ry_iconst (v := 5) dX11_letter_99 (by decide) ?_
    refine ry_iload_n dX11_letter_100 rfl ?_
    refine ry_aload_n dX11_letter_101 rfl ?_
    refine ry_getr dX11_letter_102 ha0 fl_RX11_26 rfl (fun b26 hb26 => ?_)
    refine ry_getr dX11_letter_105 hb26 fl_RX11_87 rfl (fun b27 hb27 => ?_)
    refine ry_callI (fun l r9 h9 => cm_X9_byteOf l cx w b25 5 x2 b27 hb25 hb27 S r9 h9) (rd_runV (vs := [.inl 5, .inl x2, .inr (some b27)]) dX11_letter_108 hb25 rfl rfl yf_X9_byteOf mi_X9_byteOf ms_X9_byteOf ml_RX11_117 ⟨Nat.le_of_ble_eq_true rfl, Nat.le_of_ble_eq_true rfl⟩ (Nat.le_of_ble_eq_true rfl) rfl) rfl rfl (Nat.le_of_ble_eq_true rfl) (Nat.le_of_ble_eq_true rfl) (fun v29 s28 => ?_)
    exact ry_iret dX11_letter_111 rfl (Nat.le_of_ble_eq_true rfl) (Nat.le_of_ble_eq_true rfl)
  refine ry_tsD 112 [(0, 0), (1, 1), (2, 2), (3, 3), (4, 4)] 5 dX11_letter_1 (by decide) (by decide +kernel) (by decide +kernel) ⟨c1, c6, c11, c16, c23, trivial⟩ (by decide) ?_
  refine ry_iconst (v := (-1)) dX11_letter_112 (by decide) ?_
  exact ry_iret dX11_letter_113 rfl (Nat.le_of_ble_eq_true rfl) (Nat.le_of_ble_eq_true rfl)
theorem cm_X11_letter (l : Launch) (cx : rd_Cx) (w : rd_W) (a0 : Nat) (x1 : Int32) (x2 : Int32) (ha0 : rd_ok w a0 11) (S : rd_S) (r : Int32 × rd_S) (h : F_X11_letter w a0 x1 x2 S = some r) : rd_M l cx yX11_letter G_X11_letter 0 [.inr (some a0), .inl x1, .inl x2] w S (rd_rI w r) :=
  rd_enter (plainFor_of_name (by decide +kernel)) rfl (fun h => by cases h) (Nat.le_of_ble_eq_true rfl) (ym_X11_letter cx w a0 x1 x2 ha0 S r h)
abbrev G_X12_letter : rd_G := (RX12, cX12_letter, 4, (some .int), false, { frames := 0, cells := 0, slots := 0, locals := 0 })
theorem yf_X12_letter : rd_YL yX12_letter G_X12_letter 2 := ⟨rd_mem 1187 (by decide +kernel) rfl, rd_mem 75 (by decide +kernel) rfl, by decide +kernel, by decide +kernel, by decide +kernel⟩
theorem mi_X12_letter : Cond.instanceMethod yX12_letter ∈ rd_gw := rd_mem 1185 (by decide +kernel) rfl
theorem ms_X12_letter : Cond.selects (MethodName.cls yX12_letter) yX12_letter yX12_letter ∈ rd_gw := rd_mem 1186 (by decide +kernel) rfl
theorem dX12_letter_0 : decode cX12_letter 0 = .ok (.aload_n 0, 1) := by decide +kernel
theorem dX12_letter_1 : decode cX12_letter 1 = .ok (.iconst 0, 1) := by decide +kernel
theorem dX12_letter_2 : decode cX12_letter 2 = .ok (.putfield 1, 3) := by decide +kernel
theorem dX12_letter_5 : decode cX12_letter 5 = .ok (.iload_n 1, 1) := by decide +kernel
theorem dX12_letter_6 : decode cX12_letter 6 = .ok (.ifCond .lt 12, 3) := by decide +kernel
theorem dX12_letter_9 : decode cX12_letter 9 = .ok (.iload_n 1, 1) := by decide +kernel
theorem dX12_letter_10 : decode cX12_letter 10 = .ok (.iconst 4, 1) := by decide +kernel
theorem dX12_letter_11 : decode cX12_letter 11 = .ok (.if_icmp .gt 7, 3) := by decide +kernel
theorem dX12_letter_14 : decode cX12_letter 14 = .ok (.iload_n 2, 1) := by decide +kernel
theorem dX12_letter_15 : decode cX12_letter 15 = .ok (.ifCond .ge 5, 3) := by decide +kernel
theorem dX12_letter_18 : decode cX12_letter 18 = .ok (.iconst (-1), 1) := by decide +kernel
theorem dX12_letter_19 : decode cX12_letter 19 = .ok (.ireturn, 1) := by decide +kernel
theorem dX12_letter_20 : decode cX12_letter 20 = .ok (.iload_n 1, 1) := by decide +kernel
theorem dX12_letter_21 : decode cX12_letter 21 = .ok (.iconst 3, 1) := by decide +kernel
theorem dX12_letter_22 : decode cX12_letter 22 = .ok (.if_icmp .ge 29, 3) := by decide +kernel
theorem dX12_letter_25 : decode cX12_letter 25 = .ok (.iload_n 2, 1) := by decide +kernel
theorem dX12_letter_26 : decode cX12_letter 26 = .ok (.aload_n 0, 1) := by decide +kernel
theorem dX12_letter_27 : decode cX12_letter 27 = .ok (.getfield 187, 3) := by decide +kernel
theorem dX12_letter_30 : decode cX12_letter 30 = .ok (.iload_n 1, 1) := by decide +kernel
theorem dX12_letter_31 : decode cX12_letter 31 = .ok (.iaload, 1) := by decide +kernel
theorem dX12_letter_32 : decode cX12_letter 32 = .ok (.if_icmp .ge 17, 3) := by decide +kernel
theorem dX12_letter_35 : decode cX12_letter 35 = .ok (.aload_n 0, 1) := by decide +kernel
theorem dX12_letter_36 : decode cX12_letter 36 = .ok (.getfield 184, 3) := by decide +kernel
theorem dX12_letter_39 : decode cX12_letter 39 = .ok (.iload_n 1, 1) := by decide +kernel
theorem dX12_letter_40 : decode cX12_letter 40 = .ok (.bipush 64, 2) := by decide +kernel
theorem dX12_letter_42 : decode cX12_letter 42 = .ok (.imul, 1) := by decide +kernel
theorem dX12_letter_43 : decode cX12_letter 43 = .ok (.iload_n 2, 1) := by decide +kernel
theorem dX12_letter_44 : decode cX12_letter 44 = .ok (.iadd, 1) := by decide +kernel
theorem dX12_letter_45 : decode cX12_letter 45 = .ok (.iaload, 1) := by decide +kernel
theorem dX12_letter_46 : decode cX12_letter 46 = .ok (.goto 4, 3) := by decide +kernel
theorem dX12_letter_49 : decode cX12_letter 49 = .ok (.iconst (-1), 1) := by decide +kernel
theorem dX12_letter_50 : decode cX12_letter 50 = .ok (.ireturn, 1) := by decide +kernel
theorem dX12_letter_51 : decode cX12_letter 51 = .ok (.iconst 2, 1) := by decide +kernel
theorem dX12_letter_52 : decode cX12_letter 52 = .ok (.iconst 3, 1) := by decide +kernel
theorem dX12_letter_53 : decode cX12_letter 53 = .ok (.iload_n 1, 1) := by decide +kernel
theorem dX12_letter_54 : decode cX12_letter 54 = .ok (.iconst 3, 1) := by decide +kernel
theorem dX12_letter_55 : decode cX12_letter 55 = .ok (.isub, 1) := by decide +kernel
theorem dX12_letter_56 : decode cX12_letter 56 = .ok (.imul, 1) := by decide +kernel
theorem dX12_letter_57 : decode cX12_letter 57 = .ok (.iadd, 1) := by decide +kernel
theorem dX12_letter_58 : decode cX12_letter 58 = .ok (.istore_n 3, 1) := by decide +kernel
theorem dX12_letter_59 : decode cX12_letter 59 = .ok (.aload_n 0, 1) := by decide +kernel
theorem dX12_letter_60 : decode cX12_letter 60 = .ok (.getfield 245, 3) := by decide +kernel
theorem dX12_letter_63 : decode cX12_letter 63 = .ok (.ifCond .eq 43, 3) := by decide +kernel
theorem dX12_letter_66 : decode cX12_letter 66 = .ok (.aload_n 0, 1) := by decide +kernel
theorem dX12_letter_67 : decode cX12_letter 67 = .ok (.getfield 242, 3) := by decide +kernel
theorem dX12_letter_70 : decode cX12_letter 70 = .ok (.iload_n 3, 1) := by decide +kernel
theorem dX12_letter_71 : decode cX12_letter 71 = .ok (.iaload, 1) := by decide +kernel
theorem dX12_letter_72 : decode cX12_letter 72 = .ok (.ifCond .eq 34, 3) := by decide +kernel
theorem dX12_letter_75 : decode cX12_letter 75 = .ok (.iload_n 2, 1) := by decide +kernel
theorem dX12_letter_76 : decode cX12_letter 76 = .ok (.aload_n 0, 1) := by decide +kernel
theorem dX12_letter_77 : decode cX12_letter 77 = .ok (.getfield 242, 3) := by decide +kernel
theorem dX12_letter_80 : decode cX12_letter 80 = .ok (.iload_n 3, 1) := by decide +kernel
theorem dX12_letter_81 : decode cX12_letter 81 = .ok (.iconst 2, 1) := by decide +kernel
theorem dX12_letter_82 : decode cX12_letter 82 = .ok (.iadd, 1) := by decide +kernel
theorem dX12_letter_83 : decode cX12_letter 83 = .ok (.iaload, 1) := by decide +kernel
theorem dX12_letter_84 : decode cX12_letter 84 = .ok (.if_icmp .gt 22, 3) := by decide +kernel
theorem dX12_letter_87 : decode cX12_letter 87 = .ok (.aload_n 0, 1) := by decide +kernel
theorem dX12_letter_88 : decode cX12_letter 88 = .ok (.getfield 242, 3) := by decide +kernel
theorem dX12_letter_91 : decode cX12_letter 91 = .ok (.iload_n 3, 1) := by decide +kernel
theorem dX12_letter_92 : decode cX12_letter 92 = .ok (.iconst 1, 1) := by decide +kernel
theorem dX12_letter_93 : decode cX12_letter 93 = .ok (.iadd, 1) := by decide +kernel
theorem dX12_letter_94 : decode cX12_letter 94 = .ok (.iaload, 1) := by decide +kernel
theorem dX12_letter_95 : decode cX12_letter 95 = .ok (.iload_n 2, 1) := by decide +kernel
theorem dX12_letter_96 : decode cX12_letter 96 = .ok (.iadd, 1) := by decide +kernel
theorem dX12_letter_97 : decode cX12_letter 97 = .ok (.aload_n 0, 1) := by decide +kernel
theorem dX12_letter_98 : decode cX12_letter 98 = .ok (.getfield 187, 3) := by decide +kernel
theorem dX12_letter_101 : decode cX12_letter 101 = .ok (.iconst 1, 1) := by decide +kernel
theorem dX12_letter_102 : decode cX12_letter 102 = .ok (.iaload, 1) := by decide +kernel
theorem dX12_letter_103 : decode cX12_letter 103 = .ok (.if_icmp .lt 5, 3) := by decide +kernel
theorem dX12_letter_106 : decode cX12_letter 106 = .ok (.iconst (-1), 1) := by decide +kernel
theorem dX12_letter_107 : decode cX12_letter 107 = .ok (.ireturn, 1) := by decide +kernel
theorem dX12_letter_108 : decode cX12_letter 108 = .ok (.aload_n 0, 1) := by decide +kernel
theorem dX12_letter_109 : decode cX12_letter 109 = .ok (.getfield 184, 3) := by decide +kernel
theorem dX12_letter_112 : decode cX12_letter 112 = .ok (.bipush 64, 2) := by decide +kernel
theorem dX12_letter_114 : decode cX12_letter 114 = .ok (.aload_n 0, 1) := by decide +kernel
theorem dX12_letter_115 : decode cX12_letter 115 = .ok (.getfield 242, 3) := by decide +kernel
theorem dX12_letter_118 : decode cX12_letter 118 = .ok (.iload_n 3, 1) := by decide +kernel
theorem dX12_letter_119 : decode cX12_letter 119 = .ok (.iconst 1, 1) := by decide +kernel
theorem dX12_letter_120 : decode cX12_letter 120 = .ok (.iadd, 1) := by decide +kernel
theorem dX12_letter_121 : decode cX12_letter 121 = .ok (.iaload, 1) := by decide +kernel
theorem dX12_letter_122 : decode cX12_letter 122 = .ok (.iadd, 1) := by decide +kernel
theorem dX12_letter_123 : decode cX12_letter 123 = .ok (.iload_n 2, 1) := by decide +kernel
theorem dX12_letter_124 : decode cX12_letter 124 = .ok (.iadd, 1) := by decide +kernel
theorem dX12_letter_125 : decode cX12_letter 125 = .ok (.iaload, 1) := by decide +kernel
theorem dX12_letter_126 : decode cX12_letter 126 = .ok (.ireturn, 1) := by decide +kernel
def B_X12_letter_18 (w : rd_W) (S : rd_S) : Option (Int32 × rd_S) :=
  some ((-1), S)
theorem yb_X12_letter_18 (cx : rd_Cx) (w : rd_W) (S : rd_S) : rd_Y cx G_X12_letter (fun r => rd_P cx G_X12_letter.2.2.2.2.2 0 w (rd_rI w r)) (B_X12_letter_18 w S) 18 [] [] w S 0 0 := by
  unfold B_X12_letter_18
  refine ry_iconst (v := (-1)) dX12_letter_18 (by decide) ?_
  exact ry_iret dX12_letter_19 rfl (Nat.le_of_ble_eq_true rfl) (Nat.le_of_ble_eq_true rfl)
def B_X12_letter_106 (w : rd_W) (S : rd_S) : Option (Int32 × rd_S) :=
  some ((-1), S)
theorem yb_X12_letter_106 (cx : rd_Cx) (w : rd_W) (S : rd_S) : rd_Y cx G_X12_letter (fun r => rd_P cx G_X12_letter.2.2.2.2.2 0 w (rd_rI w r)) (B_X12_letter_106 w S) 106 [] [] w S 0 0 := by
  unfold B_X12_letter_106
  refine ry_iconst (v := (-1)) dX12_letter_106 (by decide) ?_
  exact ry_iret dX12_letter_107 rfl (Nat.le_of_ble_eq_true rfl) (Nat.le_of_ble_eq_true rfl)
def B_X12_letter_50 (w : rd_W) (t0 : Int32) (S : rd_S) : Option (Int32 × rd_S) :=
  some (t0, S)
theorem yb_X12_letter_50 (cx : rd_Cx) (w : rd_W) (t0 : Int32) (S : rd_S) : rd_Y cx G_X12_letter (fun r => rd_P cx G_X12_letter.2.2.2.2.2 0 w (rd_rI w r)) (B_X12_letter_50 w t0 S) 50 [] [.inl t0] w S 0 0 := by
  unfold B_X12_letter_50
  exact ry_iret dX12_letter_50 rfl (Nat.le_of_ble_eq_true rfl) (Nat.le_of_ble_eq_true rfl)
def F_X12_letter (w : rd_W) (a0 : Nat) (x1 : Int32) (x2 : Int32) (S : rd_S) : Option (Int32 × rd_S) :=
  rd_let (pI S a0 0 0) fun s1 =>
  if x1 < 0 then
  (B_X12_letter_18 w s1)
  else
  (if 4 < x1 then
  (B_X12_letter_18 w s1)
  else
  (if 0 ≤ x2 then
  (if 3 ≤ x1 then
  (rd_let (2 + (3 * (x1 - 3))) fun v6 =>
  if (gI s1 a0 45) = 0 then
  (B_X12_letter_106 w s1)
  else
  (rd_c (gR s1 a0 44) fun b8 =>
  rd_i v6 (w.2.2 b8) <|
  if (gI s1 b8 v6.toNatClampNeg) = 0 then
  (B_X12_letter_106 w s1)
  else
  (rd_c (gR s1 a0 44) fun b10 =>
  rd_let (v6 + 2) fun v11 =>
  rd_i v11 (w.2.2 b10) <|
  if (gI s1 b10 v11.toNatClampNeg) < x2 then
  (B_X12_letter_106 w s1)
  else
  (rd_c (gR s1 a0 44) fun b13 =>
  rd_let (v6 + 1) fun v14 =>
  rd_i v14 (w.2.2 b13) <|
  rd_c (gR s1 a0 30) fun b15 =>
  rd_i 1 (w.2.2 b15) <|
  if ((gI s1 b13 v14.toNatClampNeg) + x2) < (gI s1 b15 (1 : Int32).toNatClampNeg) then
  (rd_c (gR s1 a0 29) fun b17 =>
  rd_c (gR s1 a0 44) fun b18 =>
  rd_let (v6 + 1) fun v19 =>
  rd_i v19 (w.2.2 b18) <|
  rd_let ((64 + (gI s1 b18 v19.toNatClampNeg)) + x2) fun v20 =>
  rd_i v20 (w.2.2 b17) <|
  some (gI s1 b17 v20.toNatClampNeg, s1))
  else
  (B_X12_letter_106 w s1)))))
  else
  (rd_c (gR s1 a0 30) fun b21 =>
  rd_i x1 (w.2.2 b21) <|
  if (gI s1 b21 x1.toNatClampNeg) ≤ x2 then
  (B_X12_letter_50 w (-1) s1)
  else
  (rd_c (gR s1 a0 29) fun b23 =>
  rd_let ((x1 * 64) + x2) fun v24 =>
  rd_i v24 (w.2.2 b23) <|
  B_X12_letter_50 w (gI s1 b23 v24.toNatClampNeg) s1)))
  else
  (B_X12_letter_18 w s1)))
theorem ym_X12_letter (cx : rd_Cx) (w : rd_W) (a0 : Nat) (x1 : Int32) (x2 : Int32) (ha0 : rd_ok w a0 12) (S : rd_S) : rd_Y cx G_X12_letter (fun r => rd_P cx G_X12_letter.2.2.2.2.2 0 w (rd_rI w r)) (F_X12_letter w a0 x1 x2 S) 0 (rd_as 0 [.inr (some a0), .inl x1, .inl x2]) [] w S 0 0 := by
  unfold F_X12_letter
  refine ry_aload_n dX12_letter_0 rfl ?_
  refine ry_iconst (v := 0) dX12_letter_1 (by decide) ?_
  refine ry_puti dX12_letter_2 ha0 fl_RX12_1 rfl rfl rfl ?_
  refine ry_letS (fun s1 => ?_)
  refine ry_iload_n dX12_letter_5 rfl ?_
  refine ry_if_lt 18 dX12_letter_6 (by decide) (fun c2 => ?_) (fun c2 => ?_)
  · exact ry_to (yb_X12_letter_18 cx w s1) trivial
  · refine ry_iload_n dX12_letter_9 rfl ?_
    refine ry_iconst (v := 4) dX12_letter_10 (by decide) ?_
    refine ry_icmp_gt 18 dX12_letter_11 (by decide) (fun c3 => ?_) (fun c3 => ?_)
    · exact ry_to (yb_X12_letter_18 cx w s1) trivial
    · refine ry_iload_n dX12_letter_14 rfl ?_
      refine ry_if_ge 20 dX12_letter_15 (by decide) (fun c4 => ?_) (fun c4 => ?_)
      · refine ry_iload_n dX12_letter_20 rfl ?_
        refine ry_iconst (v := 3) dX12_letter_21 (by decide) ?_
        refine ry_icmp_ge 51 dX12_letter_22 (by decide) (fun c5 => ?_) (fun c5 => ?_)
        · refine ry_iconst (v := 2) dX12_letter_51 (by decide) ?_
          refine ry_iconst (v := 3) dX12_letter_52 (by decide) ?_
          refine ry_iload_n dX12_letter_53 rfl ?_
          refine ry_iconst (v := 3) dX12_letter_54 (by decide) ?_
          refine ry_isub dX12_letter_55 ?_
          refine ry_imul dX12_letter_56 ?_
          refine ry_iadd dX12_letter_57 ?_
          refine ry_istore_n dX12_letter_58 (by decide) ?_
          refine ry_let (fun v6 => ?_)
          refine ry_aload_n dX12_letter_59 rfl ?_
          refine ry_geti dX12_letter_60 ha0 fl_RX12_245 rfl ?_
          refine ry_if_eq 106 dX12_letter_63 (by decide) (fun c7 => ?_) (fun c7 => ?_)
          · exact ry_to (yb_X12_letter_106 cx w s1) trivial
          · refine ry_aload_n dX12_letter_66 rfl ?_
            refine ry_getr dX12_letter_67 ha0 fl_RX12_242 rfl (fun b8 hb8 => ?_)
            refine ry_iload_n dX12_letter_70 rfl ?_
            refine ry_iald dX12_letter_71 hb8 ?_
            refine ry_if_eq 106 dX12_letter_72 (by decide) (fun c9 => ?_) (fun c9 => ?_)
            · exact ry_to (yb_X12_letter_106 cx w s1) trivial
            · refine ry_iload_n dX12_letter_75 rfl ?_
              refine ry_aload_n dX12_letter_76 rfl ?_
              refine ry_getr dX12_letter_77 ha0 fl_RX12_242 rfl (fun b10 hb10 => ?_)
              refine ry_iload_n dX12_letter_80 rfl ?_
              refine ry_iconst (v := 2) dX12_letter_81 (by decide) ?_
              refine ry_iadd dX12_letter_82 ?_
              refine ry_lets (fun v11 => ?_)
              refine ry_iald dX12_letter_83 hb10 ?_
              refine ry_icmp_gt 106 dX12_letter_84 (by decide) (fun c12 => ?_) (fun c12 => ?_)
              · exact ry_to (yb_X12_letter_106 cx w s1) trivial
              · refine ry_aload_n dX12_letter_87 rfl ?_
                refine ry_getr dX12_letter_88 ha0 fl_RX12_242 rfl (fun b13 hb13 => ?_)
                refine ry_iload_n dX12_letter_91 rfl ?_
                refine ry_iconst (v := 1) dX12_letter_92 (by decide) ?_
                refine ry_iadd dX12_letter_93 ?_
                refine ry_lets (fun v14 => ?_)
                refine ry_iald dX12_letter_94 hb13 ?_
                refine ry_iload_n dX12_letter_95 rfl ?_
                refine ry_iadd dX12_letter_96 ?_
                refine ry_aload_n dX12_letter_97 rfl ?_
                refine ry_getr dX12_letter_98 ha0 fl_RX12_187 rfl (fun b15 hb15 => ?_)
                refine ry_iconst (v := 1) dX12_letter_101 (by decide) ?_
                refine ry_iald dX12_letter_102 hb15 ?_
                refine ry_icmp_lt 108 dX12_letter_103 (by decide) (fun c16 => ?_) (fun c16 => ?_)
                · refine ry_aload_n dX12_letter_108 rfl ?_
                  refine ry_getr dX12_letter_109 ha0 fl_RX12_184 rfl (fun b17 hb17 => ?_)
                  refine ry_bipush (v := 64) dX12_letter_112 (by decide) ?_
                  refine ry_aload_n dX12_letter_114 rfl ?_
                  refine ry_getr dX12_letter_115 ha0 fl_RX12_242 rfl (fun b18 hb18 => ?_)
                  refine ry_iload_n dX12_letter_118 rfl ?_
                  refine ry_iconst (v := 1) dX12_letter_119 (by decide) ?_
                  refine ry_iadd dX12_letter_120 ?_
                  refine ry_lets (fun v19 => ?_)
                  refine ry_iald dX12_letter_121 hb18 ?_
                  refine ry_iadd dX12_letter_122 ?_
                  refine ry_iload_n dX12_letter_123 rfl ?_
                  refine ry_iadd dX12_letter_124 ?_
                  refine ry_lets (fun v20 => ?_)
                  refine ry_iald dX12_letter_125 hb17 ?_
                  exact ry_iret dX12_letter_126 rfl (Nat.le_of_ble_eq_true rfl) (Nat.le_of_ble_eq_true rfl)
                · exact ry_to (yb_X12_letter_106 cx w s1) trivial
        · refine ry_iload_n dX12_letter_25 rfl ?_
          refine ry_aload_n dX12_letter_26 rfl ?_
          refine ry_getr dX12_letter_27 ha0 fl_RX12_187 rfl (fun b21 hb21 => ?_)
          refine ry_iload_n dX12_letter_30 rfl ?_
          refine ry_iald dX12_letter_31 hb21 ?_
          refine ry_icmp_ge 49 dX12_letter_32 (by decide) (fun c22 => ?_) (fun c22 => ?_)
          · refine ry_iconst (v := (-1)) dX12_letter_49 (by decide) ?_
            exact ry_to (yb_X12_letter_50 cx w (-1) s1) trivial
          · refine ry_aload_n dX12_letter_35 rfl ?_
            refine ry_getr dX12_letter_36 ha0 fl_RX12_184 rfl (fun b23 hb23 => ?_)
            refine ry_iload_n dX12_letter_39 rfl ?_
            refine ry_bipush (v := 64) dX12_letter_40 (by decide) ?_
            refine ry_imul dX12_letter_42 ?_
            refine ry_iload_n dX12_letter_43 rfl ?_
            refine ry_iadd dX12_letter_44 ?_
            refine ry_lets (fun v24 => ?_)
            refine ry_iald dX12_letter_45 hb23 ?_
            refine ry_goto 50 dX12_letter_46 (by decide) ?_
            exact ry_to (yb_X12_letter_50 cx w (gI s1 b23 v24.toNatClampNeg) s1) trivial
      · exact ry_to (yb_X12_letter_18 cx w s1) trivial
theorem cm_X12_letter (l : Launch) (cx : rd_Cx) (w : rd_W) (a0 : Nat) (x1 : Int32) (x2 : Int32) (ha0 : rd_ok w a0 12) (S : rd_S) (r : Int32 × rd_S) (h : F_X12_letter w a0 x1 x2 S = some r) : rd_M l cx yX12_letter G_X12_letter 0 [.inr (some a0), .inl x1, .inl x2] w S (rd_rI w r) :=
  rd_enter (plainFor_of_name (by decide +kernel)) rfl (fun h => by cases h) (Nat.le_of_ble_eq_true rfl) (ym_X12_letter cx w a0 x1 x2 ha0 S r h)
abbrev G_X11_marks : rd_G := (RX11, cX11_marks, 2, (some .int), false, { frames := 0, cells := 0, slots := 0, locals := 0 })
theorem yf_X11_marks : rd_YL yX11_marks G_X11_marks 1 := ⟨rd_mem 790 (by decide +kernel) rfl, rd_mem 62 (by decide +kernel) rfl, by decide +kernel, by decide +kernel, by decide +kernel⟩
theorem mi_X11_marks : Cond.instanceMethod yX11_marks ∈ rd_gw := rd_mem 788 (by decide +kernel) rfl
theorem ms_X11_marks : Cond.selects (MethodName.cls yX11_marks) yX11_marks yX11_marks ∈ rd_gw := rd_mem 789 (by decide +kernel) rfl
theorem dX11_marks_0 : decode cX11_marks 0 = .ok (.iload_n 1, 1) := by decide +kernel
theorem dX11_marks_1 : decode cX11_marks 1 = .ok (.tableswitch 60 0 2 #[27, 38, 49], 27) := by decide +kernel
theorem dX11_marks_28 : decode cX11_marks 28 = .ok (.aload_n 0, 1) := by decide +kernel
theorem dX11_marks_29 : decode cX11_marks 29 = .ok (.getfield 26, 3) := by decide +kernel
theorem dX11_marks_32 : decode cX11_marks 32 = .ok (.getfield 78, 3) := by decide +kernel
theorem dX11_marks_35 : decode cX11_marks 35 = .ok (.getfield 121, 3) := by decide +kernel
theorem dX11_marks_38 : decode cX11_marks 38 = .ok (.ireturn, 1) := by decide +kernel
theorem dX11_marks_39 : decode cX11_marks 39 = .ok (.aload_n 0, 1) := by decide +kernel
theorem dX11_marks_40 : decode cX11_marks 40 = .ok (.getfield 26, 3) := by decide +kernel
theorem dX11_marks_43 : decode cX11_marks 43 = .ok (.getfield 87, 3) := by decide +kernel
theorem dX11_marks_46 : decode cX11_marks 46 = .ok (.getfield 121, 3) := by decide +kernel
theorem dX11_marks_49 : decode cX11_marks 49 = .ok (.ireturn, 1) := by decide +kernel
theorem dX11_marks_50 : decode cX11_marks 50 = .ok (.aload_n 0, 1) := by decide +kernel
theorem dX11_marks_51 : decode cX11_marks 51 = .ok (.getfield 26, 3) := by decide +kernel
theorem dX11_marks_54 : decode cX11_marks 54 = .ok (.getfield 90, 3) := by decide +kernel
theorem dX11_marks_57 : decode cX11_marks 57 = .ok (.getfield 121, 3) := by decide +kernel
theorem dX11_marks_60 : decode cX11_marks 60 = .ok (.ireturn, 1) := by decide +kernel
theorem dX11_marks_61 : decode cX11_marks 61 = .ok (.iconst (-1), 1) := by decide +kernel
theorem dX11_marks_62 : decode cX11_marks 62 = .ok (.ireturn, 1) := by decide +kernel
def F_X11_marks (w : rd_W) (a0 : Nat) (x1 : Int32) (S : rd_S) : Option (Int32 × rd_S) :=
  if x1 = 0 then
  (rd_c (gR S a0 2) fun b2 =>
  rd_c (gR S b2 1) fun b3 =>
  some (gI S b3 4, S))
  else
  if x1 = 1 then
  (rd_c (gR S a0 2) fun b5 =>
  rd_c (gR S b5 2) fun b6 =>
  some (gI S b6 4, S))
  else
  if x1 = 2 then
  (rd_c (gR S a0 2) fun b8 =>
  rd_c (gR S b8 3) fun b9 =>
  some (gI S b9 4, S))
  else
  (some ((-1), S))
theorem ym_X11_marks (cx : rd_Cx) (w : rd_W) (a0 : Nat) (x1 : Int32) (ha0 : rd_ok w a0 11) (S : rd_S) : rd_Y cx G_X11_marks (fun r => rd_P cx G_X11_marks.2.2.2.2.2 0 w (rd_rI w r)) (F_X11_marks w a0 x1 S) 0 (rd_as 0 [.inr (some a0), .inl x1]) [] w S 0 0 := by
  unfold F_X11_marks
  refine ry_iload_n dX11_marks_0 rfl ?_
  refine ry_split _ (fun c1 => ?_) (fun c1 => ?_)
  · refine ry_tsIn 28 0 c1 dX11_marks_1 (by decide) (by decide) rfl (by decide) ?_
    refine ry_aload_n dX11_marks_28 rfl ?_
    refine ry_getr dX11_marks_29 ha0 fl_RX11_26 rfl (fun b2 hb2 => ?_)
    refine ry_getr dX11_marks_32 hb2 fl_RX11_78 rfl (fun b3 hb3 => ?_)
    refine ry_geti dX11_marks_35 hb3 fl_RX11_121 rfl ?_
    exact ry_iret dX11_marks_38 rfl (Nat.le_of_ble_eq_true rfl) (Nat.le_of_ble_eq_true rfl)
  refine ry_split _ (fun c4 => ?_) (fun c4 => ?_)
  · refine ry_tsIn 39 1 c4 dX11_marks_1 (by decide) (by decide) rfl (by decide) ?_
    refine ry_aload_n dX11_marks_39 rfl ?_
    refine ry_getr dX11_marks_40 ha0 fl_RX11_26 rfl (fun b5 hb5 => ?_)
    refine ry_getr dX11_marks_43 hb5 fl_RX11_87 rfl (fun b6 hb6 => ?_)
    refine ry_geti dX11_marks_46 hb6 fl_RX11_121 rfl ?_
    exact ry_iret dX11_marks_49 rfl (Nat.le_of_ble_eq_true rfl) (Nat.le_of_ble_eq_true rfl)
  refine ry_split _ (fun c7 => ?_) (fun c7 => ?_)
  · refine ry_tsIn 50 2 c7 dX11_marks_1 (by decide) (by decide) rfl (by decide) ?_
    refine ry_aload_n dX11_marks_50 rfl ?_
    refine ry_getr dX11_marks_51 ha0 fl_RX11_26 rfl (fun b8 hb8 => ?_)
    refine ry_getr dX11_marks_54 hb8 fl_RX11_90 rfl (fun b9 hb9 => ?_)
    refine ry_geti dX11_marks_57 hb9 fl_RX11_121 rfl ?_
    exact ry_iret dX11_marks_60 rfl (Nat.le_of_ble_eq_true rfl) (Nat.le_of_ble_eq_true rfl)
  refine ry_tsD 61 [(0, 0), (1, 1), (2, 2)] 3 dX11_marks_1 (by decide) (by decide +kernel) (by decide +kernel) ⟨c1, c4, c7, trivial⟩ (by decide) ?_
  refine ry_iconst (v := (-1)) dX11_marks_61 (by decide) ?_
  exact ry_iret dX11_marks_62 rfl (Nat.le_of_ble_eq_true rfl) (Nat.le_of_ble_eq_true rfl)
theorem cm_X11_marks (l : Launch) (cx : rd_Cx) (w : rd_W) (a0 : Nat) (x1 : Int32) (ha0 : rd_ok w a0 11) (S : rd_S) (r : Int32 × rd_S) (h : F_X11_marks w a0 x1 S = some r) : rd_M l cx yX11_marks G_X11_marks 0 [.inr (some a0), .inl x1] w S (rd_rI w r) :=
  rd_enter (plainFor_of_name (by decide +kernel)) rfl (fun h => by cases h) (Nat.le_of_ble_eq_true rfl) (ym_X11_marks cx w a0 x1 ha0 S r h)
abbrev G_X12_marks : rd_G := (RX12, cX12_marks, 2, (some .int), false, { frames := 0, cells := 0, slots := 0, locals := 0 })
theorem yf_X12_marks : rd_YL yX12_marks G_X12_marks 1 := ⟨rd_mem 1191 (by decide +kernel) rfl, rd_mem 75 (by decide +kernel) rfl, by decide +kernel, by decide +kernel, by decide +kernel⟩
theorem mi_X12_marks : Cond.instanceMethod yX12_marks ∈ rd_gw := rd_mem 1189 (by decide +kernel) rfl
theorem ms_X12_marks : Cond.selects (MethodName.cls yX12_marks) yX12_marks yX12_marks ∈ rd_gw := rd_mem 1190 (by decide +kernel) rfl
theorem dX12_marks_0 : decode cX12_marks 0 = .ok (.aload_n 0, 1) := by decide +kernel
theorem dX12_marks_1 : decode cX12_marks 1 = .ok (.iconst 0, 1) := by decide +kernel
theorem dX12_marks_2 : decode cX12_marks 2 = .ok (.putfield 1, 3) := by decide +kernel
theorem dX12_marks_5 : decode cX12_marks 5 = .ok (.iload_n 1, 1) := by decide +kernel
theorem dX12_marks_6 : decode cX12_marks 6 = .ok (.ifCond .lt 17, 3) := by decide +kernel
theorem dX12_marks_9 : decode cX12_marks 9 = .ok (.iload_n 1, 1) := by decide +kernel
theorem dX12_marks_10 : decode cX12_marks 10 = .ok (.iconst 3, 1) := by decide +kernel
theorem dX12_marks_11 : decode cX12_marks 11 = .ok (.if_icmp .ge 12, 3) := by decide +kernel
theorem dX12_marks_14 : decode cX12_marks 14 = .ok (.aload_n 0, 1) := by decide +kernel
theorem dX12_marks_15 : decode cX12_marks 15 = .ok (.getfield 178, 3) := by decide +kernel
theorem dX12_marks_18 : decode cX12_marks 18 = .ok (.iload_n 1, 1) := by decide +kernel
theorem dX12_marks_19 : decode cX12_marks 19 = .ok (.iaload, 1) := by decide +kernel
theorem dX12_marks_20 : decode cX12_marks 20 = .ok (.goto 4, 3) := by decide +kernel
theorem dX12_marks_23 : decode cX12_marks 23 = .ok (.iconst (-1), 1) := by decide +kernel
theorem dX12_marks_24 : decode cX12_marks 24 = .ok (.ireturn, 1) := by decide +kernel
def B_X12_marks_24 (w : rd_W) (t0 : Int32) (S : rd_S) : Option (Int32 × rd_S) :=
  some (t0, S)
theorem yb_X12_marks_24 (cx : rd_Cx) (w : rd_W) (t0 : Int32) (S : rd_S) : rd_Y cx G_X12_marks (fun r => rd_P cx G_X12_marks.2.2.2.2.2 0 w (rd_rI w r)) (B_X12_marks_24 w t0 S) 24 [] [.inl t0] w S 0 0 := by
  unfold B_X12_marks_24
  exact ry_iret dX12_marks_24 rfl (Nat.le_of_ble_eq_true rfl) (Nat.le_of_ble_eq_true rfl)
def B_X12_marks_23 (w : rd_W) (S : rd_S) : Option (Int32 × rd_S) :=
  B_X12_marks_24 w (-1) S
theorem yb_X12_marks_23 (cx : rd_Cx) (w : rd_W) (S : rd_S) : rd_Y cx G_X12_marks (fun r => rd_P cx G_X12_marks.2.2.2.2.2 0 w (rd_rI w r)) (B_X12_marks_23 w S) 23 [] [] w S 0 0 := by
  unfold B_X12_marks_23
  refine ry_iconst (v := (-1)) dX12_marks_23 (by decide) ?_
  exact ry_to (yb_X12_marks_24 cx w (-1) S) trivial
def F_X12_marks (w : rd_W) (a0 : Nat) (x1 : Int32) (S : rd_S) : Option (Int32 × rd_S) :=
  rd_let (pI S a0 0 0) fun s1 =>
  if x1 < 0 then
  (B_X12_marks_23 w s1)
  else
  (if 3 ≤ x1 then
  (B_X12_marks_23 w s1)
  else
  (rd_c (gR s1 a0 28) fun b4 =>
  rd_i x1 (w.2.2 b4) <|
  B_X12_marks_24 w (gI s1 b4 x1.toNatClampNeg) s1))
theorem ym_X12_marks (cx : rd_Cx) (w : rd_W) (a0 : Nat) (x1 : Int32) (ha0 : rd_ok w a0 12) (S : rd_S) : rd_Y cx G_X12_marks (fun r => rd_P cx G_X12_marks.2.2.2.2.2 0 w (rd_rI w r)) (F_X12_marks w a0 x1 S) 0 (rd_as 0 [.inr (some a0), .inl x1]) [] w S 0 0 := by
  unfold F_X12_marks
  refine ry_aload_n dX12_marks_0 rfl ?_
  refine ry_iconst (v := 0) dX12_marks_1 (by decide) ?_
  refine ry_puti dX12_marks_2 ha0 fl_RX12_1 rfl rfl rfl ?_
  refine ry_letS (fun s1 => ?_)
  refine ry_iload_n dX12_marks_5 rfl ?_
  refine ry_if_lt 23 dX12_marks_6 (by decide) (fun c2 => ?_) (fun c2 => ?_)
  · exact ry_to (yb_X12_marks_23 cx w s1) trivial
  · refine ry_iload_n dX12_marks_9 rfl ?_
    refine ry_iconst (v := 3) dX12_marks_10 (by decide) ?_
    refine ry_icmp_ge 23 dX12_marks_11 (by decide) (fun c3 => ?_) (fun c3 => ?_)
    · exact ry_to (yb_X12_marks_23 cx w s1) trivial
    · refine ry_aload_n dX12_marks_14 rfl ?_
      refine ry_getr dX12_marks_15 ha0 fl_RX12_178 rfl (fun b4 hb4 => ?_)
      refine ry_iload_n dX12_marks_18 rfl ?_
      refine ry_iald dX12_marks_19 hb4 ?_
      refine ry_goto 24 dX12_marks_20 (by decide) ?_
      exact ry_to (yb_X12_marks_24 cx w (gI s1 b4 x1.toNatClampNeg) s1) trivial
theorem cm_X12_marks (l : Launch) (cx : rd_Cx) (w : rd_W) (a0 : Nat) (x1 : Int32) (ha0 : rd_ok w a0 12) (S : rd_S) (r : Int32 × rd_S) (h : F_X12_marks w a0 x1 S = some r) : rd_M l cx yX12_marks G_X12_marks 0 [.inr (some a0), .inl x1] w S (rd_rI w r) :=
  rd_enter (plainFor_of_name (by decide +kernel)) rfl (fun h => by cases h) (Nat.le_of_ble_eq_true rfl) (ym_X12_marks cx w a0 x1 ha0 S r h)
abbrev G_X2_entry : rd_G := (RX2, cX2_entry, 2, (some .int), false, { frames := 1, cells := 0, slots := 0, locals := 21 })
theorem yf_X2_entry : rd_YL yX2_entry G_X2_entry 1 := ⟨rd_mem 798 (by decide +kernel) rfl, rd_mem 69 (by decide +kernel) rfl, by decide +kernel, by decide +kernel, by decide +kernel⟩
theorem mi_X2_entry : Cond.instanceMethod yX2_entry ∈ rd_gw := rd_mem 796 (by decide +kernel) rfl
theorem ms_X2_entry : Cond.selects (MethodName.cls yX2_entry) yX2_entry yX2_entry ∈ rd_gw := rd_mem 797 (by decide +kernel) rfl
theorem dX2_entry_0 : decode cX2_entry 0 = .ok (.iload_n 1, 1) := by decide +kernel
theorem dX2_entry_1 : decode cX2_entry 1 = .ok (.aload_n 0, 1) := by decide +kernel
theorem dX2_entry_2 : decode cX2_entry 2 = .ok (.getfield 25, 3) := by decide +kernel
theorem dX2_entry_5 : decode cX2_entry 5 = .ok (.if_icmp .ge 14, 3) := by decide +kernel
theorem dX2_entry_8 : decode cX2_entry 8 = .ok (.aload_n 0, 1) := by decide +kernel
theorem dX2_entry_9 : decode cX2_entry 9 = .ok (.getfield 15, 3) := by decide +kernel
theorem dX2_entry_12 : decode cX2_entry 12 = .ok (.iload_n 1, 1) := by decide +kernel
theorem dX2_entry_13 : decode cX2_entry 13 = .ok (.invokestatic 62, 3) := by decide +kernel
theorem dX2_entry_16 : decode cX2_entry 16 = .ok (.goto 4, 3) := by decide +kernel
theorem dX2_entry_19 : decode cX2_entry 19 = .ok (.iconst (-1), 1) := by decide +kernel
theorem dX2_entry_20 : decode cX2_entry 20 = .ok (.ireturn, 1) := by decide +kernel
def B_X2_entry_20 (w : rd_W) (t0 : Int32) (S : rd_S) : Option (Int32 × rd_S) :=
  some (t0, S)
theorem yb_X2_entry_20 (cx : rd_Cx) (w : rd_W) (t0 : Int32) (S : rd_S) : rd_Y cx G_X2_entry (fun r => rd_P cx G_X2_entry.2.2.2.2.2 0 w (rd_rI w r)) (B_X2_entry_20 w t0 S) 20 [] [.inl t0] w S 0 0 := by
  unfold B_X2_entry_20
  exact ry_iret dX2_entry_20 rfl (Nat.le_of_ble_eq_true rfl) (Nat.le_of_ble_eq_true rfl)
def F_X2_entry (w : rd_W) (a0 : Nat) (x1 : Int32) (S : rd_S) : Option (Int32 × rd_S) :=
  if (gI S a0 6) ≤ x1 then
  (B_X2_entry_20 w (-1) S)
  else
  (rd_c (gR S a0 1) fun b2 =>
  rd_b (F_X11_at w b2 x1 S) fun v4 s3 =>
  B_X2_entry_20 w v4 s3)
theorem ym_X2_entry (cx : rd_Cx) (w : rd_W) (a0 : Nat) (x1 : Int32) (ha0 : rd_ok w a0 2) (S : rd_S) : rd_Y cx G_X2_entry (fun r => rd_P cx G_X2_entry.2.2.2.2.2 0 w (rd_rI w r)) (F_X2_entry w a0 x1 S) 0 (rd_as 0 [.inr (some a0), .inl x1]) [] w S 0 0 := by
  unfold F_X2_entry
  refine ry_iload_n dX2_entry_0 rfl ?_
  refine ry_aload_n dX2_entry_1 rfl ?_
  refine ry_geti dX2_entry_2 ha0 fl_RX2_25 rfl ?_
  refine ry_icmp_ge 19 dX2_entry_5 (by decide) (fun c1 => ?_) (fun c1 => ?_)
  · refine ry_iconst (v := (-1)) dX2_entry_19 (by decide) ?_
    exact ry_to (yb_X2_entry_20 cx w (-1) S) trivial
  · refine ry_aload_n dX2_entry_8 rfl ?_
    refine ry_getr dX2_entry_9 ha0 fl_RX2_15 rfl (fun b2 hb2 => ?_)
    refine ry_iload_n dX2_entry_12 rfl ?_
    refine ry_callI (fun l r9 h9 => cm_X11_at l cx w b2 x1 hb2 S r9 h9) (rd_runSN (vs := [.inr (some b2), .inl x1]) dX2_entry_13 yf_X11_at mt_X11_at mn_RX2_62 ⟨Nat.le_of_ble_eq_true rfl, Nat.le_of_ble_eq_true rfl⟩ (Nat.le_of_ble_eq_true rfl) rfl) rfl rfl (Nat.le_of_ble_eq_true rfl) (Nat.le_of_ble_eq_true rfl) (fun v4 s3 => ?_)
    refine ry_goto 20 dX2_entry_16 (by decide) ?_
    exact ry_to (yb_X2_entry_20 cx w v4 s3) trivial
theorem cm_X2_entry (l : Launch) (cx : rd_Cx) (w : rd_W) (a0 : Nat) (x1 : Int32) (ha0 : rd_ok w a0 2) (S : rd_S) (r : Int32 × rd_S) (h : F_X2_entry w a0 x1 S = some r) : rd_M l cx yX2_entry G_X2_entry 0 [.inr (some a0), .inl x1] w S (rd_rI w r) :=
  rd_enter (plainFor_of_name (by decide +kernel)) rfl (fun h => by cases h) (Nat.le_of_ble_eq_true rfl) (ym_X2_entry cx w a0 x1 ha0 S r h)
abbrev G_X11_frequency : rd_G := (RX11, cX11_frequency, 2, (some .int), false, { frames := 2, cells := 0, slots := 0, locals := 42 })
theorem yf_X11_frequency : rd_YL yX11_frequency G_X11_frequency 1 := ⟨rd_mem 794 (by decide +kernel) rfl, rd_mem 62 (by decide +kernel) rfl, by decide +kernel, by decide +kernel, by decide +kernel⟩
theorem mi_X11_frequency : Cond.instanceMethod yX11_frequency ∈ rd_gw := rd_mem 792 (by decide +kernel) rfl
theorem ms_X11_frequency : Cond.selects (MethodName.cls yX11_frequency) yX11_frequency yX11_frequency ∈ rd_gw := rd_mem 793 (by decide +kernel) rfl
theorem dX11_frequency_0 : decode cX11_frequency 0 = .ok (.aload_n 0, 1) := by decide +kernel
theorem dX11_frequency_1 : decode cX11_frequency 1 = .ok (.getfield 26, 3) := by decide +kernel
theorem dX11_frequency_4 : decode cX11_frequency 4 = .ok (.getfield 93, 3) := by decide +kernel
theorem dX11_frequency_7 : decode cX11_frequency 7 = .ok (.iload_n 1, 1) := by decide +kernel
theorem dX11_frequency_8 : decode cX11_frequency 8 = .ok (.invokevirtual 124, 3) := by decide +kernel
theorem dX11_frequency_11 : decode cX11_frequency 11 = .ok (.ireturn, 1) := by decide +kernel
def F_X11_frequency (w : rd_W) (a0 : Nat) (x1 : Int32) (S : rd_S) : Option (Int32 × rd_S) :=
  rd_c (gR S a0 2) fun b1 =>
  rd_c (gR S b1 4) fun b2 =>
  rd_b (F_X2_entry w b2 x1 S) fun v4 s3 =>
  some (v4, s3)
theorem ym_X11_frequency (cx : rd_Cx) (w : rd_W) (a0 : Nat) (x1 : Int32) (ha0 : rd_ok w a0 11) (S : rd_S) : rd_Y cx G_X11_frequency (fun r => rd_P cx G_X11_frequency.2.2.2.2.2 0 w (rd_rI w r)) (F_X11_frequency w a0 x1 S) 0 (rd_as 0 [.inr (some a0), .inl x1]) [] w S 0 0 := by
  unfold F_X11_frequency
  refine ry_aload_n dX11_frequency_0 rfl ?_
  refine ry_getr dX11_frequency_1 ha0 fl_RX11_26 rfl (fun b1 hb1 => ?_)
  refine ry_getr dX11_frequency_4 hb1 fl_RX11_93 rfl (fun b2 hb2 => ?_)
  refine ry_iload_n dX11_frequency_7 rfl ?_
  refine ry_callI (fun l r9 h9 => cm_X2_entry l cx w b2 x1 hb2 S r9 h9) (rd_runV (vs := [.inl x1]) dX11_frequency_8 hb2 rfl rfl yf_X2_entry mi_X2_entry ms_X2_entry ml_RX11_124 ⟨Nat.le_of_ble_eq_true rfl, Nat.le_of_ble_eq_true rfl⟩ (Nat.le_of_ble_eq_true rfl) rfl) rfl rfl (Nat.le_of_ble_eq_true rfl) (Nat.le_of_ble_eq_true rfl) (fun v4 s3 => ?_)
  exact ry_iret dX11_frequency_11 rfl (Nat.le_of_ble_eq_true rfl) (Nat.le_of_ble_eq_true rfl)
theorem cm_X11_frequency (l : Launch) (cx : rd_Cx) (w : rd_W) (a0 : Nat) (x1 : Int32) (ha0 : rd_ok w a0 11) (S : rd_S) (r : Int32 × rd_S) (h : F_X11_frequency w a0 x1 S = some r) : rd_M l cx yX11_frequency G_X11_frequency 0 [.inr (some a0), .inl x1] w S (rd_rI w r) :=
  rd_enter (plainFor_of_name (by decide +kernel)) rfl (fun h => by cases h) (Nat.le_of_ble_eq_true rfl) (ym_X11_frequency cx w a0 x1 ha0 S r h)
abbrev G_X12_frequency : rd_G := (RX12, cX12_frequency, 2, (some .int), false, { frames := 0, cells := 0, slots := 0, locals := 0 })
theorem yf_X12_frequency : rd_YL yX12_frequency G_X12_frequency 1 := ⟨rd_mem 1195 (by decide +kernel) rfl, rd_mem 75 (by decide +kernel) rfl, by decide +kernel, by decide +kernel, by decide +kernel⟩
theorem mi_X12_frequency : Cond.instanceMethod yX12_frequency ∈ rd_gw := rd_mem 1193 (by decide +kernel) rfl
theorem ms_X12_frequency : Cond.selects (MethodName.cls yX12_frequency) yX12_frequency yX12_frequency ∈ rd_gw := rd_mem 1194 (by decide +kernel) rfl
theorem dX12_frequency_0 : decode cX12_frequency 0 = .ok (.aload_n 0, 1) := by decide +kernel
theorem dX12_frequency_1 : decode cX12_frequency 1 = .ok (.iconst 0, 1) := by decide +kernel
theorem dX12_frequency_2 : decode cX12_frequency 2 = .ok (.putfield 1, 3) := by decide +kernel
theorem dX12_frequency_5 : decode cX12_frequency 5 = .ok (.iload_n 1, 1) := by decide +kernel
theorem dX12_frequency_6 : decode cX12_frequency 6 = .ok (.ifCond .lt 20, 3) := by decide +kernel
theorem dX12_frequency_9 : decode cX12_frequency 9 = .ok (.iload_n 1, 1) := by decide +kernel
theorem dX12_frequency_10 : decode cX12_frequency 10 = .ok (.aload_n 0, 1) := by decide +kernel
theorem dX12_frequency_11 : decode cX12_frequency 11 = .ok (.getfield 227, 3) := by decide +kernel
theorem dX12_frequency_14 : decode cX12_frequency 14 = .ok (.if_icmp .ge 12, 3) := by decide +kernel
theorem dX12_frequency_17 : decode cX12_frequency 17 = .ok (.aload_n 0, 1) := by decide +kernel
theorem dX12_frequency_18 : decode cX12_frequency 18 = .ok (.getfield 224, 3) := by decide +kernel
theorem dX12_frequency_21 : decode cX12_frequency 21 = .ok (.iload_n 1, 1) := by decide +kernel
theorem dX12_frequency_22 : decode cX12_frequency 22 = .ok (.iaload, 1) := by decide +kernel
theorem dX12_frequency_23 : decode cX12_frequency 23 = .ok (.goto 4, 3) := by decide +kernel
theorem dX12_frequency_26 : decode cX12_frequency 26 = .ok (.iconst (-1), 1) := by decide +kernel
theorem dX12_frequency_27 : decode cX12_frequency 27 = .ok (.ireturn, 1) := by decide +kernel
def B_X12_frequency_27 (w : rd_W) (t0 : Int32) (S : rd_S) : Option (Int32 × rd_S) :=
  some (t0, S)
theorem yb_X12_frequency_27 (cx : rd_Cx) (w : rd_W) (t0 : Int32) (S : rd_S) : rd_Y cx G_X12_frequency (fun r => rd_P cx G_X12_frequency.2.2.2.2.2 0 w (rd_rI w r)) (B_X12_frequency_27 w t0 S) 27 [] [.inl t0] w S 0 0 := by
  unfold B_X12_frequency_27
  exact ry_iret dX12_frequency_27 rfl (Nat.le_of_ble_eq_true rfl) (Nat.le_of_ble_eq_true rfl)
def B_X12_frequency_26 (w : rd_W) (S : rd_S) : Option (Int32 × rd_S) :=
  B_X12_frequency_27 w (-1) S
theorem yb_X12_frequency_26 (cx : rd_Cx) (w : rd_W) (S : rd_S) : rd_Y cx G_X12_frequency (fun r => rd_P cx G_X12_frequency.2.2.2.2.2 0 w (rd_rI w r)) (B_X12_frequency_26 w S) 26 [] [] w S 0 0 := by
  unfold B_X12_frequency_26
  refine ry_iconst (v := (-1)) dX12_frequency_26 (by decide) ?_
  exact ry_to (yb_X12_frequency_27 cx w (-1) S) trivial
def F_X12_frequency (w : rd_W) (a0 : Nat) (x1 : Int32) (S : rd_S) : Option (Int32 × rd_S) :=
  rd_let (pI S a0 0 0) fun s1 =>
  if x1 < 0 then
  (B_X12_frequency_26 w s1)
  else
  (if (gI s1 a0 35) ≤ x1 then
  (B_X12_frequency_26 w s1)
  else
  (rd_c (gR s1 a0 33) fun b4 =>
  rd_i x1 (w.2.2 b4) <|
  B_X12_frequency_27 w (gI s1 b4 x1.toNatClampNeg) s1))
theorem ym_X12_frequency (cx : rd_Cx) (w : rd_W) (a0 : Nat) (x1 : Int32) (ha0 : rd_ok w a0 12) (S : rd_S) : rd_Y cx G_X12_frequency (fun r => rd_P cx G_X12_frequency.2.2.2.2.2 0 w (rd_rI w r)) (F_X12_frequency w a0 x1 S) 0 (rd_as 0 [.inr (some a0), .inl x1]) [] w S 0 0 := by
  unfold F_X12_frequency
  refine ry_aload_n dX12_frequency_0 rfl ?_
  refine ry_iconst (v := 0) dX12_frequency_1 (by decide) ?_
  refine ry_puti dX12_frequency_2 ha0 fl_RX12_1 rfl rfl rfl ?_
  refine ry_letS (fun s1 => ?_)
  refine ry_iload_n dX12_frequency_5 rfl ?_
  refine ry_if_lt 26 dX12_frequency_6 (by decide) (fun c2 => ?_) (fun c2 => ?_)
  · exact ry_to (yb_X12_frequency_26 cx w s1) trivial
  · refine ry_iload_n dX12_frequency_9 rfl ?_
    refine ry_aload_n dX12_frequency_10 rfl ?_
    refine ry_geti dX12_frequency_11 ha0 fl_RX12_227 rfl ?_
    refine ry_icmp_ge 26 dX12_frequency_14 (by decide) (fun c3 => ?_) (fun c3 => ?_)
    · exact ry_to (yb_X12_frequency_26 cx w s1) trivial
    · refine ry_aload_n dX12_frequency_17 rfl ?_
      refine ry_getr dX12_frequency_18 ha0 fl_RX12_224 rfl (fun b4 hb4 => ?_)
      refine ry_iload_n dX12_frequency_21 rfl ?_
      refine ry_iald dX12_frequency_22 hb4 ?_
      refine ry_goto 27 dX12_frequency_23 (by decide) ?_
      exact ry_to (yb_X12_frequency_27 cx w (gI s1 b4 x1.toNatClampNeg) s1) trivial
theorem cm_X12_frequency (l : Launch) (cx : rd_Cx) (w : rd_W) (a0 : Nat) (x1 : Int32) (ha0 : rd_ok w a0 12) (S : rd_S) (r : Int32 × rd_S) (h : F_X12_frequency w a0 x1 S = some r) : rd_M l cx yX12_frequency G_X12_frequency 0 [.inr (some a0), .inl x1] w S (rd_rI w r) :=
  rd_enter (plainFor_of_name (by decide +kernel)) rfl (fun h => by cases h) (Nat.le_of_ble_eq_true rfl) (ym_X12_frequency cx w a0 x1 ha0 S r h)
