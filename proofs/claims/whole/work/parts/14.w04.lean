abbrev G_X8_takeOda : rd_G := (RX8, cX8_takeOda, 3, none, false, { frames := 3, cells := 0, slots := 0, locals := 84 })
theorem yf_X8_takeOda : rd_YL yX8_takeOda G_X8_takeOda 2 := ⟨rd_mem 670 (by decide +kernel) rfl, rd_mem 67 (by decide +kernel) rfl, by decide +kernel, by decide +kernel, by decide +kernel⟩
theorem mi_X8_takeOda : Cond.instanceMethod yX8_takeOda ∈ rd_gw := rd_mem 669 (by decide +kernel) rfl
theorem ms_X8_takeOda : Cond.selects (MethodName.cls yX8_takeOda) yX8_takeOda yX8_takeOda ∈ rd_gw := rd_mem 27 (by decide +kernel) rfl
theorem dX8_takeOda_0 : decode cX8_takeOda 0 = .ok (.aload_n 1, 1) := by decide +kernel
theorem dX8_takeOda_1 : decode cX8_takeOda 1 = .ok (.invokevirtual 145, 3) := by decide +kernel
theorem dX8_takeOda_4 : decode cX8_takeOda 4 = .ok (.ifCond .eq 26, 3) := by decide +kernel
theorem dX8_takeOda_7 : decode cX8_takeOda 7 = .ok (.aload_n 0, 1) := by decide +kernel
theorem dX8_takeOda_8 : decode cX8_takeOda 8 = .ok (.getfield 47, 3) := by decide +kernel
theorem dX8_takeOda_11 : decode cX8_takeOda 11 = .ok (.aload_n 1, 1) := by decide +kernel
theorem dX8_takeOda_12 : decode cX8_takeOda 12 = .ok (.iconst 3, 1) := by decide +kernel
theorem dX8_takeOda_13 : decode cX8_takeOda 13 = .ok (.invokevirtual 93, 3) := by decide +kernel
theorem dX8_takeOda_16 : decode cX8_takeOda 16 = .ok (.iload_n 2, 1) := by decide +kernel
theorem dX8_takeOda_17 : decode cX8_takeOda 17 = .ok (.iconst 0, 1) := by decide +kernel
theorem dX8_takeOda_18 : decode cX8_takeOda 18 = .ok (.iconst 5, 1) := by decide +kernel
theorem dX8_takeOda_19 : decode cX8_takeOda 19 = .ok (.invokestatic 97, 3) := by decide +kernel
theorem dX8_takeOda_22 : decode cX8_takeOda 22 = .ok (.aload_n 1, 1) := by decide +kernel
theorem dX8_takeOda_23 : decode cX8_takeOda 23 = .ok (.iconst 2, 1) := by decide +kernel
theorem dX8_takeOda_24 : decode cX8_takeOda 24 = .ok (.invokevirtual 93, 3) := by decide +kernel
theorem dX8_takeOda_27 : decode cX8_takeOda 27 = .ok (.invokevirtual 162, 3) := by decide +kernel
theorem dX8_takeOda_30 : decode cX8_takeOda 30 = .ok (.return_, 1) := by decide +kernel
def B_X8_takeOda_30 (w : rd_W) (S : rd_S) : Option (rd_S) :=
  some S
theorem yb_X8_takeOda_30 (cx : rd_Cx) (w : rd_W) (S : rd_S) : rd_Y cx G_X8_takeOda (fun r => rd_P cx G_X8_takeOda.2.2.2.2.2 0 w (rd_rV w r)) (B_X8_takeOda_30 w S) 30 [] [] w S 0 0 := by
  unfold B_X8_takeOda_30
  exact ry_vret dX8_takeOda_30 rfl (Nat.le_of_ble_eq_true rfl) (Nat.le_of_ble_eq_true rfl)
def F_X8_takeOda (w : rd_W) (a0 : Nat) (a1 : Nat) (x2 : Int32) (S : rd_S) : Option (rd_S) :=
  rd_b (F_X3_knowsCAndD w a1 S) fun v2 s1 =>
  if v2 = 0 then
  (B_X8_takeOda_30 w s1)
  else
  (rd_c (gR s1 a0 6) fun b4 =>
  rd_b (F_X3_what w a1 3 s1) fun v6 s5 =>
  rd_b (F_X11_field w x2 0 5 s5) fun v8 s7 =>
  rd_b (F_X3_what w a1 2 s7) fun v10 s9 =>
  rd_c (F_X4_take w b4 v6 v8 v10 s9) fun s11 =>
  B_X8_takeOda_30 w s11)
theorem ym_X8_takeOda (cx : rd_Cx) (w : rd_W) (a0 : Nat) (a1 : Nat) (x2 : Int32) (ha0 : rd_ok w a0 8) (ha1 : rd_ok w a1 3) (S : rd_S) : rd_Y cx G_X8_takeOda (fun r => rd_P cx G_X8_takeOda.2.2.2.2.2 0 w (rd_rV w r)) (F_X8_takeOda w a0 a1 x2 S) 0 (rd_as 0 [.inr (some a0), .inr (some a1), .inl x2]) [] w S 0 0 := by
  unfold F_X8_takeOda
  refine ry_aload_n dX8_takeOda_0 rfl ?_
  refine ry_callI (fun l r9 h9 => cm_X3_knowsCAndD l cx w a1 ha1 S r9 h9) (rd_runV (vs := []) dX8_takeOda_1 ha1 rfl rfl yf_X3_knowsCAndD mi_X3_knowsCAndD ms_X3_knowsCAndD ml_RX8_145 ⟨Nat.le_of_ble_eq_true rfl, Nat.le_of_ble_eq_true rfl⟩ (Nat.le_of_ble_eq_true rfl) rfl) rfl rfl (Nat.le_of_ble_eq_true rfl) (Nat.le_of_ble_eq_true rfl) (fun v2 s1 => ?_)
  refine ry_if_eq 30 dX8_takeOda_4 (by decide) (fun c3 => ?_) (fun c3 => ?_)
  · exact ry_to (yb_X8_takeOda_30 cx w s1) trivial
  · refine ry_aload_n dX8_takeOda_7 rfl ?_
    refine ry_getr dX8_takeOda_8 ha0 fl_RX8_47 rfl (fun b4 hb4 => ?_)
    refine ry_aload_n dX8_takeOda_11 rfl ?_
    refine ry_iconst (v := 3) dX8_takeOda_12 (by decide) ?_
    refine ry_callI (fun l r9 h9 => cm_X3_what l cx w a1 3 ha1 s1 r9 h9) (rd_runV (vs := [.inl 3]) dX8_takeOda_13 ha1 rfl rfl yf_X3_what mi_X3_what ms_X3_what ml_RX8_93 ⟨Nat.le_of_ble_eq_true rfl, Nat.le_of_ble_eq_true rfl⟩ (Nat.le_of_ble_eq_true rfl) rfl) rfl rfl (Nat.le_of_ble_eq_true rfl) (Nat.le_of_ble_eq_true rfl) (fun v6 s5 => ?_)
    refine ry_iload_n dX8_takeOda_16 rfl ?_
    refine ry_iconst (v := 0) dX8_takeOda_17 (by decide) ?_
    refine ry_iconst (v := 5) dX8_takeOda_18 (by decide) ?_
    refine ry_callI (fun l r9 h9 => cm_X11_field l cx w x2 0 5 s5 r9 h9) (rd_runSN (vs := [.inl x2, .inl 0, .inl 5]) dX8_takeOda_19 yf_X11_field mt_X11_field mn_RX8_97 ⟨Nat.le_of_ble_eq_true rfl, Nat.le_of_ble_eq_true rfl⟩ (Nat.le_of_ble_eq_true rfl) rfl) rfl rfl (Nat.le_of_ble_eq_true rfl) (Nat.le_of_ble_eq_true rfl) (fun v8 s7 => ?_)
    refine ry_aload_n dX8_takeOda_22 rfl ?_
    refine ry_iconst (v := 2) dX8_takeOda_23 (by decide) ?_
    refine ry_callI (fun l r9 h9 => cm_X3_what l cx w a1 2 ha1 s7 r9 h9) (rd_runV (vs := [.inl 2]) dX8_takeOda_24 ha1 rfl rfl yf_X3_what mi_X3_what ms_X3_what ml_RX8_93 ⟨Nat.le_of_ble_eq_true rfl, Nat.le_of_ble_eq_true rfl⟩ (Nat.le_of_ble_eq_true rfl) rfl) rfl rfl (Nat.le_of_ble_eq_true rfl) (Nat.le_of_ble_eq_true rfl) (fun v10 s9 => ?_)
    refine ry_callv (fun l r9 h9 => cm_X4_take l cx w b4 v6 v8 v10 hb4 s9 r9 h9) (rd_runV (vs := [.inl v6, .inl v8, .inl v10]) dX8_takeOda_27 hb4 rfl rfl yf_X4_take mi_X4_take ms_X4_take ml_RX8_162 ⟨Nat.le_of_ble_eq_true rfl, Nat.le_of_ble_eq_true rfl⟩ (Nat.le_of_ble_eq_true rfl) rfl) rfl rfl (Nat.le_of_ble_eq_true rfl) (Nat.le_of_ble_eq_true rfl) (fun s11 => ?_)
    exact ry_to (yb_X8_takeOda_30 cx w s11) trivial
theorem cm_X8_takeOda (l : Launch) (cx : rd_Cx) (w : rd_W) (a0 : Nat) (a1 : Nat) (x2 : Int32) (ha0 : rd_ok w a0 8) (ha1 : rd_ok w a1 3) (S : rd_S) (r : rd_S) (h : F_X8_takeOda w a0 a1 x2 S = some r) : rd_M l cx yX8_takeOda G_X8_takeOda 0 [.inr (some a0), .inr (some a1), .inl x2] w S (rd_rV w r) :=
  rd_enter (plainFor_of_name (by decide +kernel)) rfl (fun h => by cases h) (Nat.le_of_ble_eq_true rfl) (ym_X8_takeOda cx w a0 a1 x2 ha0 ha1 S r h)
abbrev G_X0_take : rd_G := (RX0, cX0_take, 7, none, false, { frames := 1, cells := 0, slots := 0, locals := 22 })
theorem yf_X0_take : rd_YL yX0_take G_X0_take 3 := ⟨rd_mem 687 (by decide +kernel) rfl, rd_mem 70 (by decide +kernel) rfl, by decide +kernel, by decide +kernel, by decide +kernel⟩
theorem mi_X0_take : Cond.instanceMethod yX0_take ∈ rd_gw := rd_mem 685 (by decide +kernel) rfl
theorem ms_X0_take : Cond.selects (MethodName.cls yX0_take) yX0_take yX0_take ∈ rd_gw := rd_mem 686 (by decide +kernel) rfl
theorem dX0_take_0 : decode cX0_take 0 = .ok (.iload_n 2, 1) := by decide +kernel
theorem dX0_take_1 : decode cX0_take 1 = .ok (.iconst 0, 1) := by decide +kernel
theorem dX0_take_2 : decode cX0_take 2 = .ok (.iconst 1, 1) := by decide +kernel
theorem dX0_take_3 : decode cX0_take 3 = .ok (.invokestatic 15, 3) := by decide +kernel
theorem dX0_take_6 : decode cX0_take 6 = .ok (.iconst 4, 1) := by decide +kernel
theorem dX0_take_7 : decode cX0_take 7 = .ok (.ishl, 1) := by decide +kernel
theorem dX0_take_8 : decode cX0_take 8 = .ok (.iload_n 3, 1) := by decide +kernel
theorem dX0_take_9 : decode cX0_take 9 = .ok (.bipush 12, 2) := by decide +kernel
theorem dX0_take_11 : decode cX0_take 11 = .ok (.iconst 4, 1) := by decide +kernel
theorem dX0_take_12 : decode cX0_take 12 = .ok (.invokestatic 15, 3) := by decide +kernel
theorem dX0_take_15 : decode cX0_take 15 = .ok (.ior, 1) := by decide +kernel
theorem dX0_take_16 : decode cX0_take 16 = .ok (.istore 4, 2) := by decide +kernel
theorem dX0_take_18 : decode cX0_take 18 = .ok (.iload_n 3, 1) := by decide +kernel
theorem dX0_take_19 : decode cX0_take 19 = .ok (.bipush 6, 2) := by decide +kernel
theorem dX0_take_21 : decode cX0_take 21 = .ok (.bipush 6, 2) := by decide +kernel
theorem dX0_take_23 : decode cX0_take 23 = .ok (.invokestatic 15, 3) := by decide +kernel
theorem dX0_take_26 : decode cX0_take 26 = .ok (.istore 5, 2) := by decide +kernel
theorem dX0_take_28 : decode cX0_take 28 = .ok (.iload_n 3, 1) := by decide +kernel
theorem dX0_take_29 : decode cX0_take 29 = .ok (.iconst 0, 1) := by decide +kernel
theorem dX0_take_30 : decode cX0_take 30 = .ok (.iconst 5, 1) := by decide +kernel
theorem dX0_take_31 : decode cX0_take 31 = .ok (.invokestatic 15, 3) := by decide +kernel
theorem dX0_take_34 : decode cX0_take 34 = .ok (.istore 6, 2) := by decide +kernel
theorem dX0_take_36 : decode cX0_take 36 = .ok (.iload 4, 2) := by decide +kernel
theorem dX0_take_38 : decode cX0_take 38 = .ok (.bipush 23, 2) := by decide +kernel
theorem dX0_take_40 : decode cX0_take 40 = .ok (.if_icmp .gt 17, 3) := by decide +kernel
theorem dX0_take_43 : decode cX0_take 43 = .ok (.iload 5, 2) := by decide +kernel
theorem dX0_take_45 : decode cX0_take 45 = .ok (.bipush 59, 2) := by decide +kernel
theorem dX0_take_47 : decode cX0_take 47 = .ok (.if_icmp .gt 10, 3) := by decide +kernel
theorem dX0_take_50 : decode cX0_take 50 = .ok (.iload 6, 2) := by decide +kernel
theorem dX0_take_52 : decode cX0_take 52 = .ok (.bipush 28, 2) := by decide +kernel
theorem dX0_take_54 : decode cX0_take 54 = .ok (.if_icmp .le 4, 3) := by decide +kernel
theorem dX0_take_57 : decode cX0_take 57 = .ok (.return_, 1) := by decide +kernel
theorem dX0_take_58 : decode cX0_take 58 = .ok (.aload_n 0, 1) := by decide +kernel
theorem dX0_take_59 : decode cX0_take 59 = .ok (.iload_n 1, 1) := by decide +kernel
theorem dX0_take_60 : decode cX0_take 60 = .ok (.iconst 0, 1) := by decide +kernel
theorem dX0_take_61 : decode cX0_take 61 = .ok (.iconst 2, 1) := by decide +kernel
theorem dX0_take_62 : decode cX0_take 62 = .ok (.invokestatic 15, 3) := by decide +kernel
theorem dX0_take_65 : decode cX0_take 65 = .ok (.bipush 15, 2) := by decide +kernel
theorem dX0_take_67 : decode cX0_take 67 = .ok (.ishl, 1) := by decide +kernel
theorem dX0_take_68 : decode cX0_take 68 = .ok (.iload_n 2, 1) := by decide +kernel
theorem dX0_take_69 : decode cX0_take 69 = .ok (.iconst 1, 1) := by decide +kernel
theorem dX0_take_70 : decode cX0_take 70 = .ok (.bipush 15, 2) := by decide +kernel
theorem dX0_take_72 : decode cX0_take 72 = .ok (.invokestatic 15, 3) := by decide +kernel
theorem dX0_take_75 : decode cX0_take 75 = .ok (.ior, 1) := by decide +kernel
theorem dX0_take_76 : decode cX0_take 76 = .ok (.putfield 19, 3) := by decide +kernel
theorem dX0_take_79 : decode cX0_take 79 = .ok (.aload_n 0, 1) := by decide +kernel
theorem dX0_take_80 : decode cX0_take 80 = .ok (.iload 4, 2) := by decide +kernel
theorem dX0_take_82 : decode cX0_take 82 = .ok (.putfield 22, 3) := by decide +kernel
theorem dX0_take_85 : decode cX0_take 85 = .ok (.aload_n 0, 1) := by decide +kernel
theorem dX0_take_86 : decode cX0_take 86 = .ok (.iload 5, 2) := by decide +kernel
theorem dX0_take_88 : decode cX0_take 88 = .ok (.putfield 25, 3) := by decide +kernel
theorem dX0_take_91 : decode cX0_take 91 = .ok (.aload_n 0, 1) := by decide +kernel
theorem dX0_take_92 : decode cX0_take 92 = .ok (.iload_n 3, 1) := by decide +kernel
theorem dX0_take_93 : decode cX0_take 93 = .ok (.iconst 5, 1) := by decide +kernel
theorem dX0_take_94 : decode cX0_take 94 = .ok (.iconst 1, 1) := by decide +kernel
theorem dX0_take_95 : decode cX0_take 95 = .ok (.invokestatic 15, 3) := by decide +kernel
theorem dX0_take_98 : decode cX0_take 98 = .ok (.iconst 1, 1) := by decide +kernel
theorem dX0_take_99 : decode cX0_take 99 = .ok (.if_icmp .ne 9, 3) := by decide +kernel
theorem dX0_take_102 : decode cX0_take 102 = .ok (.iload 6, 2) := by decide +kernel
theorem dX0_take_104 : decode cX0_take 104 = .ok (.ineg, 1) := by decide +kernel
theorem dX0_take_105 : decode cX0_take 105 = .ok (.goto 5, 3) := by decide +kernel
theorem dX0_take_108 : decode cX0_take 108 = .ok (.iload 6, 2) := by decide +kernel
theorem dX0_take_110 : decode cX0_take 110 = .ok (.putfield 28, 3) := by decide +kernel
theorem dX0_take_113 : decode cX0_take 113 = .ok (.aload_n 0, 1) := by decide +kernel
theorem dX0_take_114 : decode cX0_take 114 = .ok (.dup, 1) := by decide +kernel
theorem dX0_take_115 : decode cX0_take 115 = .ok (.getfield 9, 3) := by decide +kernel
theorem dX0_take_118 : decode cX0_take 118 = .ok (.iconst 1, 1) := by decide +kernel
theorem dX0_take_119 : decode cX0_take 119 = .ok (.iadd, 1) := by decide +kernel
theorem dX0_take_120 : decode cX0_take 120 = .ok (.putfield 9, 3) := by decide +kernel
theorem dX0_take_123 : decode cX0_take 123 = .ok (.return_, 1) := by decide +kernel
def B_X0_take_57 (w : rd_W) (S : rd_S) : Option (rd_S) :=
  some S
theorem yb_X0_take_57 (cx : rd_Cx) (w : rd_W) (S : rd_S) : rd_Y cx G_X0_take (fun r => rd_P cx G_X0_take.2.2.2.2.2 0 w (rd_rV w r)) (B_X0_take_57 w S) 57 [] [] w S 0 0 := by
  unfold B_X0_take_57
  exact ry_vret dX0_take_57 rfl (Nat.le_of_ble_eq_true rfl) (Nat.le_of_ble_eq_true rfl)
def B_X0_take_110 (w : rd_W) (a0 : Nat) (t0 : Int32) (e1 : Nat) (S : rd_S) : Option (rd_S) :=
  rd_let (pI S e1 3 t0) fun s23 =>
  rd_let (pI s23 a0 4 ((gI s23 a0 4) + 1)) fun s24 =>
  some s24
theorem yb_X0_take_110 (cx : rd_Cx) (w : rd_W) (a0 : Nat) (t0 : Int32) (e1 : Nat) (ha0 : rd_ok w a0 0) (he1 : rd_ok w e1 0) (S : rd_S) : rd_Y cx G_X0_take (fun r => rd_P cx G_X0_take.2.2.2.2.2 0 w (rd_rV w r)) (B_X0_take_110 w a0 t0 e1 S) 110 [(0, .inr (some a0))] [.inl t0, .inr (some e1)] w S 0 0 := by
  unfold B_X0_take_110
  refine ry_puti dX0_take_110 he1 fl_RX0_28 rfl rfl rfl ?_
  refine ry_letS (fun s23 => ?_)
  refine ry_aload_n dX0_take_113 rfl ?_
  refine ry_dup dX0_take_114 ?_
  refine ry_geti dX0_take_115 ha0 fl_RX0_9 rfl ?_
  refine ry_iconst (v := 1) dX0_take_118 (by decide) ?_
  refine ry_iadd dX0_take_119 ?_
  refine ry_puti dX0_take_120 ha0 fl_RX0_9 rfl rfl rfl ?_
  refine ry_letS (fun s24 => ?_)
  exact ry_vret dX0_take_123 rfl (Nat.le_of_ble_eq_true rfl) (Nat.le_of_ble_eq_true rfl)
def F_X0_take (w : rd_W) (a0 : Nat) (x1 : Int32) (x2 : Int32) (x3 : Int32) (S : rd_S) : Option (rd_S) :=
  rd_b (F_X11_field w x2 0 1 S) fun v2 s1 =>
  rd_b (F_X11_field w x3 12 4 s1) fun v4 s3 =>
  rd_let ((rd_shl v2 4) ||| v4) fun v5 =>
  rd_b (F_X11_field w x3 6 6 s3) fun v7 s6 =>
  rd_b (F_X11_field w x3 0 5 s6) fun v9 s8 =>
  if 23 < v5 then
  (B_X0_take_57 w s8)
  else
  (if 59 < v7 then
  (B_X0_take_57 w s8)
  else
  (if v9 ≤ 28 then
  (rd_b (F_X11_field w x1 0 2 s8) fun v14 s13 =>
  rd_b (F_X11_field w x2 1 15 s13) fun v16 s15 =>
  rd_let (pI s15 a0 0 ((rd_shl v14 15) ||| v16)) fun s17 =>
  rd_let (pI s17 a0 1 v5) fun s18 =>
  rd_let (pI s18 a0 2 v7) fun s19 =>
  rd_b (F_X11_field w x3 5 1 s19) fun v21 s20 =>
  if v21 = 1 then
  (B_X0_take_110 w a0 (-v9) a0 s20)
  else
  (B_X0_take_110 w a0 v9 a0 s20))
  else
  (B_X0_take_57 w s8)))
theorem ym_X0_take (cx : rd_Cx) (w : rd_W) (a0 : Nat) (x1 : Int32) (x2 : Int32) (x3 : Int32) (ha0 : rd_ok w a0 0) (S : rd_S) : rd_Y cx G_X0_take (fun r => rd_P cx G_X0_take.2.2.2.2.2 0 w (rd_rV w r)) (F_X0_take w a0 x1 x2 x3 S) 0 (rd_as 0 [.inr (some a0), .inl x1, .inl x2, .inl x3]) [] w S 0 0 := by
  unfold F_X0_take
  refine ry_iload_n dX0_take_0 rfl ?_
  refine ry_iconst (v := 0) dX0_take_1 (by decide) ?_
  refine ry_iconst (v := 1) dX0_take_2 (by decide) ?_
  refine ry_callI (fun l r9 h9 => cm_X11_field l cx w x2 0 1 S r9 h9) (rd_runSN (vs := [.inl x2, .inl 0, .inl 1]) dX0_take_3 yf_X11_field mt_X11_field mn_RX0_15 ⟨Nat.le_of_ble_eq_true rfl, Nat.le_of_ble_eq_true rfl⟩ (Nat.le_of_ble_eq_true rfl) rfl) rfl rfl (Nat.le_of_ble_eq_true rfl) (Nat.le_of_ble_eq_true rfl) (fun v2 s1 => ?_)
  refine ry_iconst (v := 4) dX0_take_6 (by decide) ?_
  refine ry_ishl dX0_take_7 ?_
  refine ry_iload_n dX0_take_8 rfl ?_
  refine ry_bipush (v := 12) dX0_take_9 (by decide) ?_
  refine ry_iconst (v := 4) dX0_take_11 (by decide) ?_
  refine ry_callI (fun l r9 h9 => cm_X11_field l cx w x3 12 4 s1 r9 h9) (rd_runSN (vs := [.inl x3, .inl 12, .inl 4]) dX0_take_12 yf_X11_field mt_X11_field mn_RX0_15 ⟨Nat.le_of_ble_eq_true rfl, Nat.le_of_ble_eq_true rfl⟩ (Nat.le_of_ble_eq_true rfl) rfl) rfl rfl (Nat.le_of_ble_eq_true rfl) (Nat.le_of_ble_eq_true rfl) (fun v4 s3 => ?_)
  refine ry_ior dX0_take_15 ?_
  refine ry_istore dX0_take_16 (by decide) ?_
  refine ry_let (fun v5 => ?_)
  refine ry_iload_n dX0_take_18 rfl ?_
  refine ry_bipush (v := 6) dX0_take_19 (by decide) ?_
  refine ry_bipush (v := 6) dX0_take_21 (by decide) ?_
  refine ry_callI (fun l r9 h9 => cm_X11_field l cx w x3 6 6 s3 r9 h9) (rd_runSN (vs := [.inl x3, .inl 6, .inl 6]) dX0_take_23 yf_X11_field mt_X11_field mn_RX0_15 ⟨Nat.le_of_ble_eq_true rfl, Nat.le_of_ble_eq_true rfl⟩ (Nat.le_of_ble_eq_true rfl) rfl) rfl rfl (Nat.le_of_ble_eq_true rfl) (Nat.le_of_ble_eq_true rfl) (fun v7 s6 => ?_)
  refine ry_istore dX0_take_26 (by decide) ?_
  refine ry_iload_n dX0_take_28 rfl ?_
  refine ry_iconst (v := 0) dX0_take_29 (by decide) ?_
  refine ry_iconst (v := 5) dX0_take_30 (by decide) ?_
  refine ry_callI (fun l r9 h9 => cm_X11_field l cx w x3 0 5 s6 r9 h9) (rd_runSN (vs := [.inl x3, .inl 0, .inl 5]) dX0_take_31 yf_X11_field mt_X11_field mn_RX0_15 ⟨Nat.le_of_ble_eq_true rfl, Nat.le_of_ble_eq_true rfl⟩ (Nat.le_of_ble_eq_true rfl) rfl) rfl rfl (Nat.le_of_ble_eq_true rfl) (Nat.le_of_ble_eq_true rfl) (fun v9 s8 => ?_)
  refine ry_istore dX0_take_34 (by decide) ?_
  refine ry_iload dX0_take_36 rfl ?_
  refine ry_bipush (v := 23) dX0_take_38 (by decide) ?_
  refine ry_icmp_gt 57 dX0_take_40 (by decide) (fun c10 => ?_) (fun c10 => ?_)
  · exact ry_to (yb_X0_take_57 cx w s8) trivial
  · refine ry_iload dX0_take_43 rfl ?_
    refine ry_bipush (v := 59) dX0_take_45 (by decide) ?_
    refine ry_icmp_gt 57 dX0_take_47 (by decide) (fun c11 => ?_) (fun c11 => ?_)
    · exact ry_to (yb_X0_take_57 cx w s8) trivial
    · refine ry_iload dX0_take_50 rfl ?_
      refine ry_bipush (v := 28) dX0_take_52 (by decide) ?_
      refine ry_icmp_le 58 dX0_take_54 (by decide) (fun c12 => ?_) (fun c12 => ?_)
      · refine ry_aload_n dX0_take_58 rfl ?_
        refine ry_iload_n dX0_take_59 rfl ?_
        refine ry_iconst (v := 0) dX0_take_60 (by decide) ?_
        refine ry_iconst (v := 2) dX0_take_61 (by decide) ?_
        refine ry_callI (fun l r9 h9 => cm_X11_field l cx w x1 0 2 s8 r9 h9) (rd_runSN (vs := [.inl x1, .inl 0, .inl 2]) dX0_take_62 yf_X11_field mt_X11_field mn_RX0_15 ⟨Nat.le_of_ble_eq_true rfl, Nat.le_of_ble_eq_true rfl⟩ (Nat.le_of_ble_eq_true rfl) rfl) rfl rfl (Nat.le_of_ble_eq_true rfl) (Nat.le_of_ble_eq_true rfl) (fun v14 s13 => ?_)
        refine ry_bipush (v := 15) dX0_take_65 (by decide) ?_
        refine ry_ishl dX0_take_67 ?_
        refine ry_iload_n dX0_take_68 rfl ?_
        refine ry_iconst (v := 1) dX0_take_69 (by decide) ?_
        refine ry_bipush (v := 15) dX0_take_70 (by decide) ?_
        refine ry_callI (fun l r9 h9 => cm_X11_field l cx w x2 1 15 s13 r9 h9) (rd_runSN (vs := [.inl x2, .inl 1, .inl 15]) dX0_take_72 yf_X11_field mt_X11_field mn_RX0_15 ⟨Nat.le_of_ble_eq_true rfl, Nat.le_of_ble_eq_true rfl⟩ (Nat.le_of_ble_eq_true rfl) rfl) rfl rfl (Nat.le_of_ble_eq_true rfl) (Nat.le_of_ble_eq_true rfl) (fun v16 s15 => ?_)
        refine ry_ior dX0_take_75 ?_
        refine ry_puti dX0_take_76 ha0 fl_RX0_19 rfl rfl rfl ?_
        refine ry_letS (fun s17 => ?_)
        refine ry_aload_n dX0_take_79 rfl ?_
        refine ry_iload dX0_take_80 rfl ?_
        refine ry_puti dX0_take_82 ha0 fl_RX0_22 rfl rfl rfl ?_
        refine ry_letS (fun s18 => ?_)
        refine ry_aload_n dX0_take_85 rfl ?_
        refine ry_iload dX0_take_86 rfl ?_
        refine ry_puti dX0_take_88 ha0 fl_RX0_25 rfl rfl rfl ?_
        refine ry_letS (fun s19 => ?_)
        refine ry_aload_n dX0_take_91 rfl ?_
        refine ry_iload_n dX0_take_92 rfl ?_
        refine ry_iconst (v := 5) dX0_take_93 (by decide) ?_
        refine ry_iconst (v := 1) dX0_take_94 (by decide) ?_
        refine ry_callI (fun l r9 h9 => cm_X11_field l cx w x3 5 1 s19 r9 h9) (rd_runSN (vs := [.inl x3, .inl 5, .inl 1]) dX0_take_95 yf_X11_field mt_X11_field mn_RX0_15 ⟨Nat.le_of_ble_eq_true rfl, Nat.le_of_ble_eq_true rfl⟩ (Nat.le_of_ble_eq_true rfl) rfl) rfl rfl (Nat.le_of_ble_eq_true rfl) (Nat.le_of_ble_eq_true rfl) (fun v21 s20 => ?_)
        refine ry_iconst (v := 1) dX0_take_98 (by decide) ?_
        refine ry_icmp_ne 108 dX0_take_99 (by decide) (fun c22 => ?_) (fun c22 => ?_)
        · refine ry_iload dX0_take_102 rfl ?_
          refine ry_ineg dX0_take_104 ?_
          refine ry_goto 110 dX0_take_105 (by decide) ?_
          exact ry_to (yb_X0_take_110 cx w a0 (-v9) a0 ha0 ha0 s20) ⟨rfl, trivial⟩
        · refine ry_iload dX0_take_108 rfl ?_
          exact ry_to (yb_X0_take_110 cx w a0 v9 a0 ha0 ha0 s20) ⟨rfl, trivial⟩
      · exact ry_to (yb_X0_take_57 cx w s8) trivial
theorem cm_X0_take (l : Launch) (cx : rd_Cx) (w : rd_W) (a0 : Nat) (x1 : Int32) (x2 : Int32) (x3 : Int32) (ha0 : rd_ok w a0 0) (S : rd_S) (r : rd_S) (h : F_X0_take w a0 x1 x2 x3 S = some r) : rd_M l cx yX0_take G_X0_take 0 [.inr (some a0), .inl x1, .inl x2, .inl x3] w S (rd_rV w r) :=
  rd_enter (plainFor_of_name (by decide +kernel)) rfl (fun h => by cases h) (Nat.le_of_ble_eq_true rfl) (ym_X0_take cx w a0 x1 x2 x3 ha0 S r h)
abbrev G_X8_takeTime : rd_G := (RX8, cX8_takeTime, 3, none, false, { frames := 2, cells := 0, slots := 0, locals := 48 })
theorem yf_X8_takeTime : rd_YL yX8_takeTime G_X8_takeTime 2 := ⟨rd_mem 683 (by decide +kernel) rfl, rd_mem 67 (by decide +kernel) rfl, by decide +kernel, by decide +kernel, by decide +kernel⟩
theorem mi_X8_takeTime : Cond.instanceMethod yX8_takeTime ∈ rd_gw := rd_mem 682 (by decide +kernel) rfl
theorem ms_X8_takeTime : Cond.selects (MethodName.cls yX8_takeTime) yX8_takeTime yX8_takeTime ∈ rd_gw := rd_mem 29 (by decide +kernel) rfl
theorem dX8_takeTime_0 : decode cX8_takeTime 0 = .ok (.aload_n 1, 1) := by decide +kernel
theorem dX8_takeTime_1 : decode cX8_takeTime 1 = .ok (.invokevirtual 145, 3) := by decide +kernel
theorem dX8_takeTime_4 : decode cX8_takeTime 4 = .ok (.ifCond .eq 21, 3) := by decide +kernel
theorem dX8_takeTime_7 : decode cX8_takeTime 7 = .ok (.aload_n 0, 1) := by decide +kernel
theorem dX8_takeTime_8 : decode cX8_takeTime 8 = .ok (.getfield 40, 3) := by decide +kernel
theorem dX8_takeTime_11 : decode cX8_takeTime 11 = .ok (.iload_n 2, 1) := by decide +kernel
theorem dX8_takeTime_12 : decode cX8_takeTime 12 = .ok (.aload_n 1, 1) := by decide +kernel
theorem dX8_takeTime_13 : decode cX8_takeTime 13 = .ok (.iconst 2, 1) := by decide +kernel
theorem dX8_takeTime_14 : decode cX8_takeTime 14 = .ok (.invokevirtual 93, 3) := by decide +kernel
theorem dX8_takeTime_17 : decode cX8_takeTime 17 = .ok (.aload_n 1, 1) := by decide +kernel
theorem dX8_takeTime_18 : decode cX8_takeTime 18 = .ok (.iconst 3, 1) := by decide +kernel
theorem dX8_takeTime_19 : decode cX8_takeTime 19 = .ok (.invokevirtual 93, 3) := by decide +kernel
theorem dX8_takeTime_22 : decode cX8_takeTime 22 = .ok (.invokevirtual 163, 3) := by decide +kernel
theorem dX8_takeTime_25 : decode cX8_takeTime 25 = .ok (.return_, 1) := by decide +kernel
def B_X8_takeTime_25 (w : rd_W) (S : rd_S) : Option (rd_S) :=
  some S
theorem yb_X8_takeTime_25 (cx : rd_Cx) (w : rd_W) (S : rd_S) : rd_Y cx G_X8_takeTime (fun r => rd_P cx G_X8_takeTime.2.2.2.2.2 0 w (rd_rV w r)) (B_X8_takeTime_25 w S) 25 [] [] w S 0 0 := by
  unfold B_X8_takeTime_25
  exact ry_vret dX8_takeTime_25 rfl (Nat.le_of_ble_eq_true rfl) (Nat.le_of_ble_eq_true rfl)
def F_X8_takeTime (w : rd_W) (a0 : Nat) (a1 : Nat) (x2 : Int32) (S : rd_S) : Option (rd_S) :=
  rd_b (F_X3_knowsCAndD w a1 S) fun v2 s1 =>
  if v2 = 0 then
  (B_X8_takeTime_25 w s1)
  else
  (rd_c (gR s1 a0 5) fun b4 =>
  rd_b (F_X3_what w a1 2 s1) fun v6 s5 =>
  rd_b (F_X3_what w a1 3 s5) fun v8 s7 =>
  rd_c (F_X0_take w b4 x2 v6 v8 s7) fun s9 =>
  B_X8_takeTime_25 w s9)
theorem ym_X8_takeTime (cx : rd_Cx) (w : rd_W) (a0 : Nat) (a1 : Nat) (x2 : Int32) (ha0 : rd_ok w a0 8) (ha1 : rd_ok w a1 3) (S : rd_S) : rd_Y cx G_X8_takeTime (fun r => rd_P cx G_X8_takeTime.2.2.2.2.2 0 w (rd_rV w r)) (F_X8_takeTime w a0 a1 x2 S) 0 (rd_as 0 [.inr (some a0), .inr (some a1), .inl x2]) [] w S 0 0 := by
  unfold F_X8_takeTime
  refine ry_aload_n dX8_takeTime_0 rfl ?_
  refine ry_callI (fun l r9 h9 => cm_X3_knowsCAndD l cx w a1 ha1 S r9 h9) (rd_runV (vs := []) dX8_takeTime_1 ha1 rfl rfl yf_X3_knowsCAndD mi_X3_knowsCAndD ms_X3_knowsCAndD ml_RX8_145 ⟨Nat.le_of_ble_eq_true rfl, Nat.le_of_ble_eq_true rfl⟩ (Nat.le_of_ble_eq_true rfl) rfl) rfl rfl (Nat.le_of_ble_eq_true rfl) (Nat.le_of_ble_eq_true rfl) (fun v2 s1 => ?_)
  refine ry_if_eq 25 dX8_takeTime_4 (by decide) (fun c3 => ?_) (fun c3 => ?_)
  · exact ry_to (yb_X8_takeTime_25 cx w s1) trivial
  · refine ry_aload_n dX8_takeTime_7 rfl ?_
    refine ry_getr dX8_takeTime_8 ha0 fl_RX8_40 rfl (fun b4 hb4 => ?_)
    refine ry_iload_n dX8_takeTime_11 rfl ?_
    refine ry_aload_n dX8_takeTime_12 rfl ?_
    refine ry_iconst (v := 2) dX8_takeTime_13 (by decide) ?_
    refine ry_callI (fun l r9 h9 => cm_X3_what l cx w a1 2 ha1 s1 r9 h9) (rd_runV (vs := [.inl 2]) dX8_takeTime_14 ha1 rfl rfl yf_X3_what mi_X3_what ms_X3_what ml_RX8_93 ⟨Nat.le_of_ble_eq_true rfl, Nat.le_of_ble_eq_true rfl⟩ (Nat.le_of_ble_eq_true rfl) rfl) rfl rfl (Nat.le_of_ble_eq_true rfl) (Nat.le_of_ble_eq_true rfl) (fun v6 s5 => ?_)
    refine ry_aload_n dX8_takeTime_17 rfl ?_
    refine ry_iconst (v := 3) dX8_takeTime_18 (by decide) ?_
    refine ry_callI (fun l r9 h9 => cm_X3_what l cx w a1 3 ha1 s5 r9 h9) (rd_runV (vs := [.inl 3]) dX8_takeTime_19 ha1 rfl rfl yf_X3_what mi_X3_what ms_X3_what ml_RX8_93 ⟨Nat.le_of_ble_eq_true rfl, Nat.le_of_ble_eq_true rfl⟩ (Nat.le_of_ble_eq_true rfl) rfl) rfl rfl (Nat.le_of_ble_eq_true rfl) (Nat.le_of_ble_eq_true rfl) (fun v8 s7 => ?_)
    refine ry_callv (fun l r9 h9 => cm_X0_take l cx w b4 x2 v6 v8 hb4 s7 r9 h9) (rd_runV (vs := [.inl x2, .inl v6, .inl v8]) dX8_takeTime_22 hb4 rfl rfl yf_X0_take mi_X0_take ms_X0_take ml_RX8_163 ⟨Nat.le_of_ble_eq_true rfl, Nat.le_of_ble_eq_true rfl⟩ (Nat.le_of_ble_eq_true rfl) rfl) rfl rfl (Nat.le_of_ble_eq_true rfl) (Nat.le_of_ble_eq_true rfl) (fun s9 => ?_)
    exact ry_to (yb_X8_takeTime_25 cx w s9) trivial
theorem cm_X8_takeTime (l : Launch) (cx : rd_Cx) (w : rd_W) (a0 : Nat) (a1 : Nat) (x2 : Int32) (ha0 : rd_ok w a0 8) (ha1 : rd_ok w a1 3) (S : rd_S) (r : rd_S) (h : F_X8_takeTime w a0 a1 x2 S = some r) : rd_M l cx yX8_takeTime G_X8_takeTime 0 [.inr (some a0), .inr (some a1), .inl x2] w S (rd_rV w r) :=
  rd_enter (plainFor_of_name (by decide +kernel)) rfl (fun h => by cases h) (Nat.le_of_ble_eq_true rfl) (ym_X8_takeTime cx w a0 a1 x2 ha0 ha1 S r h)
abbrev G_X8_takeKind : rd_G := (RX8, cX8_takeKind, 3, none, false, { frames := 3, cells := 0, slots := 0, locals := 86 })
theorem yf_X8_takeKind : rd_YL yX8_takeKind G_X8_takeKind 2 := ⟨rd_mem 692 (by decide +kernel) rfl, rd_mem 67 (by decide +kernel) rfl, by decide +kernel, by decide +kernel, by decide +kernel⟩
theorem mi_X8_takeKind : Cond.instanceMethod yX8_takeKind ∈ rd_gw := rd_mem 691 (by decide +kernel) rfl
theorem ms_X8_takeKind : Cond.selects (MethodName.cls yX8_takeKind) yX8_takeKind yX8_takeKind ∈ rd_gw := rd_mem 30 (by decide +kernel) rfl
theorem dX8_takeKind_0 : decode cX8_takeKind 0 = .ok (.aload_n 1, 1) := by decide +kernel
theorem dX8_takeKind_1 : decode cX8_takeKind 1 = .ok (.invokevirtual 145, 3) := by decide +kernel
theorem dX8_takeKind_4 : decode cX8_takeKind 4 = .ok (.ifCond .eq 34, 3) := by decide +kernel
theorem dX8_takeKind_7 : decode cX8_takeKind 7 = .ok (.aload_n 0, 1) := by decide +kernel
theorem dX8_takeKind_8 : decode cX8_takeKind 8 = .ok (.getfield 27, 3) := by decide +kernel
theorem dX8_takeKind_11 : decode cX8_takeKind 11 = .ok (.iload_n 2, 1) := by decide +kernel
theorem dX8_takeKind_12 : decode cX8_takeKind 12 = .ok (.iconst 4, 1) := by decide +kernel
theorem dX8_takeKind_13 : decode cX8_takeKind 13 = .ok (.iconst 1, 1) := by decide +kernel
theorem dX8_takeKind_14 : decode cX8_takeKind 14 = .ok (.invokestatic 97, 3) := by decide +kernel
theorem dX8_takeKind_17 : decode cX8_takeKind 17 = .ok (.invokevirtual 155, 3) := by decide +kernel
theorem dX8_takeKind_20 : decode cX8_takeKind 20 = .ok (.aload_n 0, 1) := by decide +kernel
theorem dX8_takeKind_21 : decode cX8_takeKind 21 = .ok (.getfield 27, 3) := by decide +kernel
theorem dX8_takeKind_24 : decode cX8_takeKind 24 = .ok (.iload_n 2, 1) := by decide +kernel
theorem dX8_takeKind_25 : decode cX8_takeKind 25 = .ok (.iconst 0, 1) := by decide +kernel
theorem dX8_takeKind_26 : decode cX8_takeKind 26 = .ok (.iconst 1, 1) := by decide +kernel
theorem dX8_takeKind_27 : decode cX8_takeKind 27 = .ok (.invokestatic 97, 3) := by decide +kernel
theorem dX8_takeKind_30 : decode cX8_takeKind 30 = .ok (.iconst 4, 1) := by decide +kernel
theorem dX8_takeKind_31 : decode cX8_takeKind 31 = .ok (.aload_n 1, 1) := by decide +kernel
theorem dX8_takeKind_32 : decode cX8_takeKind 32 = .ok (.invokestatic 158, 3) := by decide +kernel
theorem dX8_takeKind_35 : decode cX8_takeKind 35 = .ok (.invokevirtual 149, 3) := by decide +kernel
theorem dX8_takeKind_38 : decode cX8_takeKind 38 = .ok (.return_, 1) := by decide +kernel
def B_X8_takeKind_38 (w : rd_W) (S : rd_S) : Option (rd_S) :=
  some S
theorem yb_X8_takeKind_38 (cx : rd_Cx) (w : rd_W) (S : rd_S) : rd_Y cx G_X8_takeKind (fun r => rd_P cx G_X8_takeKind.2.2.2.2.2 0 w (rd_rV w r)) (B_X8_takeKind_38 w S) 38 [] [] w S 0 0 := by
  unfold B_X8_takeKind_38
  exact ry_vret dX8_takeKind_38 rfl (Nat.le_of_ble_eq_true rfl) (Nat.le_of_ble_eq_true rfl)
def F_X8_takeKind (w : rd_W) (a0 : Nat) (a1 : Nat) (x2 : Int32) (S : rd_S) : Option (rd_S) :=
  rd_b (F_X3_knowsCAndD w a1 S) fun v2 s1 =>
  if v2 = 0 then
  (B_X8_takeKind_38 w s1)
  else
  (rd_c (gR s1 a0 3) fun b4 =>
  rd_b (F_X11_field w x2 4 1 s1) fun v6 s5 =>
  rd_c (F_X1_turn w b4 v6 s5) fun s7 =>
  rd_c (gR s7 a0 3) fun b8 =>
  rd_b (F_X11_field w x2 0 1 s7) fun v10 s9 =>
  rd_b (F_X8_joined w a1 s9) fun v12 s11 =>
  rd_c (F_X1_take w b8 v10 4 v12 s11) fun s13 =>
  B_X8_takeKind_38 w s13)
theorem ym_X8_takeKind (cx : rd_Cx) (w : rd_W) (a0 : Nat) (a1 : Nat) (x2 : Int32) (ha0 : rd_ok w a0 8) (ha1 : rd_ok w a1 3) (S : rd_S) : rd_Y cx G_X8_takeKind (fun r => rd_P cx G_X8_takeKind.2.2.2.2.2 0 w (rd_rV w r)) (F_X8_takeKind w a0 a1 x2 S) 0 (rd_as 0 [.inr (some a0), .inr (some a1), .inl x2]) [] w S 0 0 := by
  unfold F_X8_takeKind
  refine ry_aload_n dX8_takeKind_0 rfl ?_
  refine ry_callI (fun l r9 h9 => cm_X3_knowsCAndD l cx w a1 ha1 S r9 h9) (rd_runV (vs := []) dX8_takeKind_1 ha1 rfl rfl yf_X3_knowsCAndD mi_X3_knowsCAndD ms_X3_knowsCAndD ml_RX8_145 ⟨Nat.le_of_ble_eq_true rfl, Nat.le_of_ble_eq_true rfl⟩ (Nat.le_of_ble_eq_true rfl) rfl) rfl rfl (Nat.le_of_ble_eq_true rfl) (Nat.le_of_ble_eq_true rfl) (fun v2 s1 => ?_)
  refine ry_if_eq 38 dX8_takeKind_4 (by decide) (fun c3 => ?_) (fun c3 => ?_)
  · exact ry_to (yb_X8_takeKind_38 cx w s1) trivial
  · refine ry_aload_n dX8_takeKind_7 rfl ?_
    refine ry_getr dX8_takeKind_8 ha0 fl_RX8_27 rfl (fun b4 hb4 => ?_)
    refine ry_iload_n dX8_takeKind_11 rfl ?_
    refine ry_iconst (v := 4) dX8_takeKind_12 (by decide) ?_
    refine ry_iconst (v := 1) dX8_takeKind_13 (by decide) ?_
    refine ry_callI (fun l r9 h9 => cm_X11_field l cx w x2 4 1 s1 r9 h9) (rd_runSN (vs := [.inl x2, .inl 4, .inl 1]) dX8_takeKind_14 yf_X11_field mt_X11_field mn_RX8_97 ⟨Nat.le_of_ble_eq_true rfl, Nat.le_of_ble_eq_true rfl⟩ (Nat.le_of_ble_eq_true rfl) rfl) rfl rfl (Nat.le_of_ble_eq_true rfl) (Nat.le_of_ble_eq_true rfl) (fun v6 s5 => ?_)
    refine ry_callv (fun l r9 h9 => cm_X1_turn l cx w b4 v6 hb4 s5 r9 h9) (rd_runV (vs := [.inl v6]) dX8_takeKind_17 hb4 rfl rfl yf_X1_turn mi_X1_turn ms_X1_turn ml_RX8_155 ⟨Nat.le_of_ble_eq_true rfl, Nat.le_of_ble_eq_true rfl⟩ (Nat.le_of_ble_eq_true rfl) rfl) rfl rfl (Nat.le_of_ble_eq_true rfl) (Nat.le_of_ble_eq_true rfl) (fun s7 => ?_)
    refine ry_aload_n dX8_takeKind_20 rfl ?_
    refine ry_getr dX8_takeKind_21 ha0 fl_RX8_27 rfl (fun b8 hb8 => ?_)
    refine ry_iload_n dX8_takeKind_24 rfl ?_
    refine ry_iconst (v := 0) dX8_takeKind_25 (by decide) ?_
    refine ry_iconst (v := 1) dX8_takeKind_26 (by decide) ?_
    refine ry_callI (fun l r9 h9 => cm_X11_field l cx w x2 0 1 s7 r9 h9) (rd_runSN (vs := [.inl x2, .inl 0, .inl 1]) dX8_takeKind_27 yf_X11_field mt_X11_field mn_RX8_97 ⟨Nat.le_of_ble_eq_true rfl, Nat.le_of_ble_eq_true rfl⟩ (Nat.le_of_ble_eq_true rfl) rfl) rfl rfl (Nat.le_of_ble_eq_true rfl) (Nat.le_of_ble_eq_true rfl) (fun v10 s9 => ?_)
    refine ry_iconst (v := 4) dX8_takeKind_30 (by decide) ?_
    refine ry_aload_n dX8_takeKind_31 rfl ?_
    refine ry_callI (fun l r9 h9 => cm_X8_joined l cx w a1 ha1 s9 r9 h9) (rd_runS (vs := [.inr (some a1)]) dX8_takeKind_32 yf_X8_joined mt_X8_joined ml_RX8_158 ⟨Nat.le_of_ble_eq_true rfl, Nat.le_of_ble_eq_true rfl⟩ (Nat.le_of_ble_eq_true rfl) rfl) rfl rfl (Nat.le_of_ble_eq_true rfl) (Nat.le_of_ble_eq_true rfl) (fun v12 s11 => ?_)
    refine ry_callv (fun l r9 h9 => cm_X1_take l cx w b8 v10 4 v12 hb8 s11 r9 h9) (rd_runV (vs := [.inl v10, .inl 4, .inl v12]) dX8_takeKind_35 hb8 rfl rfl yf_X1_take mi_X1_take ms_X1_take ml_RX8_149 ⟨Nat.le_of_ble_eq_true rfl, Nat.le_of_ble_eq_true rfl⟩ (Nat.le_of_ble_eq_true rfl) rfl) rfl rfl (Nat.le_of_ble_eq_true rfl) (Nat.le_of_ble_eq_true rfl) (fun s13 => ?_)
    exact ry_to (yb_X8_takeKind_38 cx w s13) trivial
theorem cm_X8_takeKind (l : Launch) (cx : rd_Cx) (w : rd_W) (a0 : Nat) (a1 : Nat) (x2 : Int32) (ha0 : rd_ok w a0 8) (ha1 : rd_ok w a1 3) (S : rd_S) (r : rd_S) (h : F_X8_takeKind w a0 a1 x2 S = some r) : rd_M l cx yX8_takeKind G_X8_takeKind 0 [.inr (some a0), .inr (some a1), .inl x2] w S (rd_rV w r) :=
  rd_enter (plainFor_of_name (by decide +kernel)) rfl (fun h => by cases h) (Nat.le_of_ble_eq_true rfl) (ym_X8_takeKind cx w a0 a1 x2 ha0 ha1 S r h)
abbrev G_X6_get : rd_G := (RX6, cX6_get, 2, (some (.object "RdsDesk$Other")), false, { frames := 0, cells := 0, slots := 0, locals := 0 })
theorem yf_X6_get : rd_YL yX6_get G_X6_get 1 := ⟨rd_mem 704 (by decide +kernel) rfl, rd_mem 72 (by decide +kernel) rfl, by decide +kernel, by decide +kernel, by decide +kernel⟩
theorem mi_X6_get : Cond.instanceMethod yX6_get ∈ rd_gw := rd_mem 702 (by decide +kernel) rfl
theorem ms_X6_get : Cond.selects (MethodName.cls yX6_get) yX6_get yX6_get ∈ rd_gw := rd_mem 703 (by decide +kernel) rfl
theorem dX6_get_0 : decode cX6_get 0 = .ok (.iload_n 1, 1) := by decide +kernel
theorem dX6_get_1 : decode cX6_get 1 = .ok (.ifCond .lt 17, 3) := by decide +kernel
theorem dX6_get_4 : decode cX6_get 4 = .ok (.iload_n 1, 1) := by decide +kernel
theorem dX6_get_5 : decode cX6_get 5 = .ok (.aload_n 0, 1) := by decide +kernel
theorem dX6_get_6 : decode cX6_get 6 = .ok (.getfield 16, 3) := by decide +kernel
theorem dX6_get_9 : decode cX6_get 9 = .ok (.if_icmp .ge 9, 3) := by decide +kernel
theorem dX6_get_12 : decode cX6_get 12 = .ok (.iload_n 1, 1) := by decide +kernel
theorem dX6_get_13 : decode cX6_get 13 = .ok (.bipush 8, 2) := by decide +kernel
theorem dX6_get_15 : decode cX6_get 15 = .ok (.if_icmp .lt 7, 3) := by decide +kernel
theorem dX6_get_18 : decode cX6_get 18 = .ok (.aconst_null, 1) := by decide +kernel
theorem dX6_get_19 : decode cX6_get 19 = .ok (.goto 9, 3) := by decide +kernel
theorem dX6_get_22 : decode cX6_get 22 = .ok (.aload_n 0, 1) := by decide +kernel
theorem dX6_get_23 : decode cX6_get 23 = .ok (.getfield 11, 3) := by decide +kernel
theorem dX6_get_26 : decode cX6_get 26 = .ok (.iload_n 1, 1) := by decide +kernel
theorem dX6_get_27 : decode cX6_get 27 = .ok (.aaload, 1) := by decide +kernel
theorem dX6_get_28 : decode cX6_get 28 = .ok (.areturn, 1) := by decide +kernel
def B_X6_get_28 (w : rd_W) (qq0 : Option Nat) (S : rd_S) : Option (Option Nat × rd_S) :=
  some (qq0, S)
theorem yb_X6_get_28 (cx : rd_Cx) (w : rd_W) (qq0 : Option Nat) (hqq0 : ∀ b, qq0 = some b → rd_ok w b 5) (S : rd_S) : rd_Y cx G_X6_get (fun r => rd_P cx G_X6_get.2.2.2.2.2 5 w (rd_rR w r)) (B_X6_get_28 w qq0 S) 28 [] [.inr qq0] w S 0 0 := by
  unfold B_X6_get_28
  exact ry_aret dX6_get_28 rfl hqq0 (Nat.le_of_ble_eq_true rfl) (Nat.le_of_ble_eq_true rfl)
def B_X6_get_18 (w : rd_W) (S : rd_S) : Option (Option Nat × rd_S) :=
  B_X6_get_28 w none S
theorem yb_X6_get_18 (cx : rd_Cx) (w : rd_W) (S : rd_S) : rd_Y cx G_X6_get (fun r => rd_P cx G_X6_get.2.2.2.2.2 5 w (rd_rR w r)) (B_X6_get_18 w S) 18 [] [] w S 0 0 := by
  unfold B_X6_get_18
  refine ry_null dX6_get_18 ?_
  refine ry_goto 28 dX6_get_19 (by decide) ?_
  exact ry_to (yb_X6_get_28 cx w none (fun b hb => by cases hb) S) trivial
def F_X6_get (w : rd_W) (a0 : Nat) (x1 : Int32) (S : rd_S) : Option (Option Nat × rd_S) :=
  if x1 < 0 then
  (B_X6_get_18 w S)
  else
  (if (gI S a0 1) ≤ x1 then
  (B_X6_get_18 w S)
  else
  (if x1 < 8 then
  (rd_c (gR S a0 0) fun b4 =>
  rd_i x1 (w.2.2 b4) <| rd_c (gR S b4 x1.toNatClampNeg) fun b5 =>
  B_X6_get_28 w (some b5) S)
  else
  (B_X6_get_18 w S)))
theorem ym_X6_get (cx : rd_Cx) (w : rd_W) (a0 : Nat) (x1 : Int32) (ha0 : rd_ok w a0 6) (S : rd_S) : rd_Y cx G_X6_get (fun r => rd_P cx G_X6_get.2.2.2.2.2 5 w (rd_rR w r)) (F_X6_get w a0 x1 S) 0 (rd_as 0 [.inr (some a0), .inl x1]) [] w S 0 0 := by
  unfold F_X6_get
  refine ry_iload_n dX6_get_0 rfl ?_
  refine ry_if_lt 18 dX6_get_1 (by decide) (fun c1 => ?_) (fun c1 => ?_)
  · exact ry_to (yb_X6_get_18 cx w S) trivial
  · refine ry_iload_n dX6_get_4 rfl ?_
    refine ry_aload_n dX6_get_5 rfl ?_
    refine ry_geti dX6_get_6 ha0 fl_RX6_16 rfl ?_
    refine ry_icmp_ge 18 dX6_get_9 (by decide) (fun c2 => ?_) (fun c2 => ?_)
    · exact ry_to (yb_X6_get_18 cx w S) trivial
    · refine ry_iload_n dX6_get_12 rfl ?_
      refine ry_bipush (v := 8) dX6_get_13 (by decide) ?_
      refine ry_icmp_lt 22 dX6_get_15 (by decide) (fun c3 => ?_) (fun c3 => ?_)
      · refine ry_aload_n dX6_get_22 rfl ?_
        refine ry_getr dX6_get_23 ha0 fl_RX6_11 rfl (fun b4 hb4 => ?_)
        refine ry_iload_n dX6_get_26 rfl ?_
        refine ry_aald dX6_get_27 hb4 (fun b5 hb5 => ?_)
        exact ry_to (yb_X6_get_28 cx w (some b5) (fun b hb => by cases hb; exact hb5) S) trivial
      · exact ry_to (yb_X6_get_18 cx w S) trivial
theorem cm_X6_get (l : Launch) (cx : rd_Cx) (w : rd_W) (a0 : Nat) (x1 : Int32) (ha0 : rd_ok w a0 6) (S : rd_S) (r : Option Nat × rd_S) (h : F_X6_get w a0 x1 S = some r) : rd_M l cx yX6_get G_X6_get 5 [.inr (some a0), .inl x1] w S (rd_rR w r) :=
  rd_enter (plainFor_of_name (by decide +kernel)) rfl (fun h => by cases h) (Nat.le_of_ble_eq_true rfl) (ym_X6_get cx w a0 x1 ha0 S r h)
abbrev G_X5_tell : rd_G := (RX5, cX5_tell, 2, (some .int), false, { frames := 1, cells := 0, slots := 0, locals := 21 })
theorem yf_X5_tell : rd_YL yX5_tell G_X5_tell 1 := ⟨rd_mem 708 (by decide +kernel) rfl, rd_mem 73 (by decide +kernel) rfl, by decide +kernel, by decide +kernel, by decide +kernel⟩
theorem mi_X5_tell : Cond.instanceMethod yX5_tell ∈ rd_gw := rd_mem 706 (by decide +kernel) rfl
theorem ms_X5_tell : Cond.selects (MethodName.cls yX5_tell) yX5_tell yX5_tell ∈ rd_gw := rd_mem 707 (by decide +kernel) rfl
theorem dX5_tell_0 : decode cX5_tell 0 = .ok (.iload_n 1, 1) := by decide +kernel
theorem dX5_tell_1 : decode cX5_tell 1 = .ok (.bipush 11, 2) := by decide +kernel
theorem dX5_tell_3 : decode cX5_tell 3 = .ok (.if_icmp .ne 13, 3) := by decide +kernel
theorem dX5_tell_6 : decode cX5_tell 6 = .ok (.aload_n 0, 1) := by decide +kernel
theorem dX5_tell_7 : decode cX5_tell 7 = .ok (.getfield 20, 3) := by decide +kernel
theorem dX5_tell_10 : decode cX5_tell 10 = .ok (.getfield 40, 3) := by decide +kernel
theorem dX5_tell_13 : decode cX5_tell 13 = .ok (.goto 11, 3) := by decide +kernel
theorem dX5_tell_16 : decode cX5_tell 16 = .ok (.aload_n 0, 1) := by decide +kernel
theorem dX5_tell_17 : decode cX5_tell 17 = .ok (.getfield 11, 3) := by decide +kernel
theorem dX5_tell_20 : decode cX5_tell 20 = .ok (.iload_n 1, 1) := by decide +kernel
theorem dX5_tell_21 : decode cX5_tell 21 = .ok (.invokestatic 44, 3) := by decide +kernel
theorem dX5_tell_24 : decode cX5_tell 24 = .ok (.ireturn, 1) := by decide +kernel
def B_X5_tell_24 (w : rd_W) (t0 : Int32) (S : rd_S) : Option (Int32 × rd_S) :=
  some (t0, S)
theorem yb_X5_tell_24 (cx : rd_Cx) (w : rd_W) (t0 : Int32) (S : rd_S) : rd_Y cx G_X5_tell (fun r => rd_P cx G_X5_tell.2.2.2.2.2 0 w (rd_rI w r)) (B_X5_tell_24 w t0 S) 24 [] [.inl t0] w S 0 0 := by
  unfold B_X5_tell_24
  exact ry_iret dX5_tell_24 rfl (Nat.le_of_ble_eq_true rfl) (Nat.le_of_ble_eq_true rfl)
def F_X5_tell (w : rd_W) (a0 : Nat) (x1 : Int32) (S : rd_S) : Option (Int32 × rd_S) :=
  if x1 = 11 then
  (rd_c (gR S a0 1) fun b2 =>
  B_X5_tell_24 w (gI S b2 7) S)
  else
  (rd_c (gR S a0 0) fun b3 =>
  rd_b (F_X11_at w b3 x1 S) fun v5 s4 =>
  B_X5_tell_24 w v5 s4)
theorem ym_X5_tell (cx : rd_Cx) (w : rd_W) (a0 : Nat) (x1 : Int32) (ha0 : rd_ok w a0 5) (S : rd_S) : rd_Y cx G_X5_tell (fun r => rd_P cx G_X5_tell.2.2.2.2.2 0 w (rd_rI w r)) (F_X5_tell w a0 x1 S) 0 (rd_as 0 [.inr (some a0), .inl x1]) [] w S 0 0 := by
  unfold F_X5_tell
  refine ry_iload_n dX5_tell_0 rfl ?_
  refine ry_bipush (v := 11) dX5_tell_1 (by decide) ?_
  refine ry_icmp_ne 16 dX5_tell_3 (by decide) (fun c1 => ?_) (fun c1 => ?_)
  · refine ry_aload_n dX5_tell_6 rfl ?_
    refine ry_getr dX5_tell_7 ha0 fl_RX5_20 rfl (fun b2 hb2 => ?_)
    refine ry_geti dX5_tell_10 hb2 fl_RX5_40 rfl ?_
    refine ry_goto 24 dX5_tell_13 (by decide) ?_
    exact ry_to (yb_X5_tell_24 cx w (gI S b2 7) S) trivial
  · refine ry_aload_n dX5_tell_16 rfl ?_
    refine ry_getr dX5_tell_17 ha0 fl_RX5_11 rfl (fun b3 hb3 => ?_)
    refine ry_iload_n dX5_tell_20 rfl ?_
    refine ry_callI (fun l r9 h9 => cm_X11_at l cx w b3 x1 hb3 S r9 h9) (rd_runSN (vs := [.inr (some b3), .inl x1]) dX5_tell_21 yf_X11_at mt_X11_at mn_RX5_44 ⟨Nat.le_of_ble_eq_true rfl, Nat.le_of_ble_eq_true rfl⟩ (Nat.le_of_ble_eq_true rfl) rfl) rfl rfl (Nat.le_of_ble_eq_true rfl) (Nat.le_of_ble_eq_true rfl) (fun v5 s4 => ?_)
    exact ry_to (yb_X5_tell_24 cx w v5 s4) trivial
theorem cm_X5_tell (l : Launch) (cx : rd_Cx) (w : rd_W) (a0 : Nat) (x1 : Int32) (ha0 : rd_ok w a0 5) (S : rd_S) (r : Int32 × rd_S) (h : F_X5_tell w a0 x1 S = some r) : rd_M l cx yX5_tell G_X5_tell 0 [.inr (some a0), .inl x1] w S (rd_rI w r) :=
  rd_enter (plainFor_of_name (by decide +kernel)) rfl (fun h => by cases h) (Nat.le_of_ble_eq_true rfl) (ym_X5_tell cx w a0 x1 ha0 S r h)
abbrev G_X6_append : rd_G := (RX6, cX6_append, 3, (some (.object "RdsDesk$Other")), false, { frames := 1, cells := 0, slots := 0, locals := 21 })
theorem yf_X6_append : rd_YL yX6_append G_X6_append 0 := ⟨rd_mem 713 (by decide +kernel) rfl, rd_mem 72 (by decide +kernel) rfl, by decide +kernel, by decide +kernel, by decide +kernel⟩
theorem mi_X6_append : Cond.instanceMethod yX6_append ∈ rd_gw := rd_mem 712 (by decide +kernel) rfl
theorem ms_X6_append : Cond.selects (MethodName.cls yX6_append) yX6_append yX6_append ∈ rd_gw := rd_mem 32 (by decide +kernel) rfl
theorem dX6_append_0 : decode cX6_append 0 = .ok (.aload_n 0, 1) := by decide +kernel
theorem dX6_append_1 : decode cX6_append 1 = .ok (.getfield 16, 3) := by decide +kernel
theorem dX6_append_4 : decode cX6_append 4 = .ok (.bipush 8, 2) := by decide +kernel
theorem dX6_append_6 : decode cX6_append 6 = .ok (.if_icmp .ge 24, 3) := by decide +kernel
theorem dX6_append_9 : decode cX6_append 9 = .ok (.aload_n 0, 1) := by decide +kernel
theorem dX6_append_10 : decode cX6_append 10 = .ok (.dup, 1) := by decide +kernel
theorem dX6_append_11 : decode cX6_append 11 = .ok (.getfield 16, 3) := by decide +kernel
theorem dX6_append_14 : decode cX6_append 14 = .ok (.iconst 1, 1) := by decide +kernel
theorem dX6_append_15 : decode cX6_append 15 = .ok (.iadd, 1) := by decide +kernel
theorem dX6_append_16 : decode cX6_append 16 = .ok (.putfield 16, 3) := by decide +kernel
theorem dX6_append_19 : decode cX6_append 19 = .ok (.aload_n 0, 1) := by decide +kernel
theorem dX6_append_20 : decode cX6_append 20 = .ok (.aload_n 0, 1) := by decide +kernel
theorem dX6_append_21 : decode cX6_append 21 = .ok (.getfield 16, 3) := by decide +kernel
theorem dX6_append_24 : decode cX6_append 24 = .ok (.iconst 1, 1) := by decide +kernel
theorem dX6_append_25 : decode cX6_append 25 = .ok (.isub, 1) := by decide +kernel
theorem dX6_append_26 : decode cX6_append 26 = .ok (.invokevirtual 20, 3) := by decide +kernel
theorem dX6_append_29 : decode cX6_append 29 = .ok (.areturn, 1) := by decide +kernel
theorem dX6_append_30 : decode cX6_append 30 = .ok (.aload_n 0, 1) := by decide +kernel
theorem dX6_append_31 : decode cX6_append 31 = .ok (.getfield 11, 3) := by decide +kernel
theorem dX6_append_34 : decode cX6_append 34 = .ok (.iconst 0, 1) := by decide +kernel
theorem dX6_append_35 : decode cX6_append 35 = .ok (.aaload, 1) := by decide +kernel
theorem dX6_append_36 : decode cX6_append 36 = .ok (.astore_n 1, 1) := by decide +kernel
theorem dX6_append_37 : decode cX6_append 37 = .ok (.iconst 1, 1) := by decide +kernel
theorem dX6_append_38 : decode cX6_append 38 = .ok (.istore_n 2, 1) := by decide +kernel
theorem dX6_append_39 : decode cX6_append 39 = .ok (.iload_n 2, 1) := by decide +kernel
theorem dX6_append_40 : decode cX6_append 40 = .ok (.bipush 8, 2) := by decide +kernel
theorem dX6_append_42 : decode cX6_append 42 = .ok (.if_icmp .ge 23, 3) := by decide +kernel
theorem dX6_append_45 : decode cX6_append 45 = .ok (.aload_n 0, 1) := by decide +kernel
theorem dX6_append_46 : decode cX6_append 46 = .ok (.getfield 11, 3) := by decide +kernel
theorem dX6_append_49 : decode cX6_append 49 = .ok (.iload_n 2, 1) := by decide +kernel
theorem dX6_append_50 : decode cX6_append 50 = .ok (.iconst 1, 1) := by decide +kernel
theorem dX6_append_51 : decode cX6_append 51 = .ok (.isub, 1) := by decide +kernel
theorem dX6_append_52 : decode cX6_append 52 = .ok (.aload_n 0, 1) := by decide +kernel
theorem dX6_append_53 : decode cX6_append 53 = .ok (.getfield 11, 3) := by decide +kernel
theorem dX6_append_56 : decode cX6_append 56 = .ok (.iload_n 2, 1) := by decide +kernel
theorem dX6_append_57 : decode cX6_append 57 = .ok (.aaload, 1) := by decide +kernel
theorem dX6_append_58 : decode cX6_append 58 = .ok (.aastore, 1) := by decide +kernel
theorem dX6_append_59 : decode cX6_append 59 = .ok (.iinc 2 1, 3) := by decide +kernel
theorem dX6_append_62 : decode cX6_append 62 = .ok (.goto (-23), 3) := by decide +kernel
theorem dX6_append_65 : decode cX6_append 65 = .ok (.aload_n 0, 1) := by decide +kernel
theorem dX6_append_66 : decode cX6_append 66 = .ok (.getfield 11, 3) := by decide +kernel
theorem dX6_append_69 : decode cX6_append 69 = .ok (.bipush 7, 2) := by decide +kernel
theorem dX6_append_71 : decode cX6_append 71 = .ok (.aload_n 1, 1) := by decide +kernel
theorem dX6_append_72 : decode cX6_append 72 = .ok (.aastore, 1) := by decide +kernel
theorem dX6_append_73 : decode cX6_append 73 = .ok (.aload_n 1, 1) := by decide +kernel
theorem dX6_append_74 : decode cX6_append 74 = .ok (.areturn, 1) := by decide +kernel
def B_X6_append_39 (w : rd_W) (k39 : Nat → Nat → Int32 → rd_S → Option (Option Nat × rd_S)) (a0 : Nat) (a1 : Nat) (x2 : Int32) (S : rd_S) : Option (Option Nat × rd_S) :=
  if 8 ≤ x2 then
  (rd_c (gR S a0 0) fun b5 =>
  rd_i 7 (w.2.2 b5) <|
  rd_let (pR S b5 (7 : Int32).toNatClampNeg (some a1)) fun s6 =>
  some (some a1, s6))
  else
  (rd_c (gR S a0 0) fun b7 =>
  rd_c (gR S a0 0) fun b8 =>
  rd_i x2 (w.2.2 b8) <| rd_c (gR S b8 x2.toNatClampNeg) fun b9 =>
  rd_i (x2 - 1) (w.2.2 b7) <|
  rd_let (pR S b7 (x2 - 1).toNatClampNeg (some b9)) fun s10 =>
  rd_let (x2 + 1) fun v11 =>
  k39 a0 a1 v11 s10)
theorem yb_X6_append_39 (cx : rd_Cx) (w : rd_W) {k39 : Nat → Nat → Int32 → rd_S → Option (Option Nat × rd_S)} (hk39 : ∀ (a0 : Nat) (a1 : Nat) (x2 : Int32) (ha0 : rd_ok w a0 6) (ha1 : rd_ok w a1 5) (S : rd_S), rd_Y cx G_X6_append (fun r => rd_P cx G_X6_append.2.2.2.2.2 5 w (rd_rR w r)) (k39 a0 a1 x2 S) 39 [(0, .inr (some a0)), (1, .inr (some a1)), (2, .inl x2)] [] w S 0 0) (a0 : Nat) (a1 : Nat) (x2 : Int32) (ha0 : rd_ok w a0 6) (ha1 : rd_ok w a1 5) (S : rd_S) : rd_Y cx G_X6_append (fun r => rd_P cx G_X6_append.2.2.2.2.2 5 w (rd_rR w r)) (B_X6_append_39 w k39 a0 a1 x2 S) 39 [(0, .inr (some a0)), (1, .inr (some a1)), (2, .inl x2)] [] w S 0 0 := by
  unfold B_X6_append_39
  refine ry_iload_n dX6_append_39 rfl ?_
  refine ry_bipush (v := 8) dX6_append_40 (by decide) ?_
  refine ry_icmp_ge 65 dX6_append_42 (by decide) (fun c4 => ?_) (fun c4 => ?_)
  · refine ry_aload_n dX6_append_65 rfl ?_
    refine ry_getr dX6_append_66 ha0 fl_RX6_11 rfl (fun b5 hb5 => ?_)
    refine ry_bipush (v := 7) dX6_append_69 (by decide) ?_
    refine ry_aload_n dX6_append_71 rfl ?_
    refine ry_aast dX6_append_72 hb5 ha1 ?_
    refine ry_letS (fun s6 => ?_)
    refine ry_aload_n dX6_append_73 rfl ?_
    exact ry_aret dX6_append_74 rfl (fun b hb => by cases hb; exact ha1) (Nat.le_of_ble_eq_true rfl) (Nat.le_of_ble_eq_true rfl)
  · refine ry_aload_n dX6_append_45 rfl ?_
    refine ry_getr dX6_append_46 ha0 fl_RX6_11 rfl (fun b7 hb7 => ?_)
    refine ry_iload_n dX6_append_49 rfl ?_
    refine ry_iconst (v := 1) dX6_append_50 (by decide) ?_
    refine ry_isub dX6_append_51 ?_
    refine ry_aload_n dX6_append_52 rfl ?_
    refine ry_getr dX6_append_53 ha0 fl_RX6_11 rfl (fun b8 hb8 => ?_)
    refine ry_iload_n dX6_append_56 rfl ?_
    refine ry_aald dX6_append_57 hb8 (fun b9 hb9 => ?_)
    refine ry_aast dX6_append_58 hb7 hb9 ?_
    refine ry_letS (fun s10 => ?_)
    refine ry_iinc (v := 1) dX6_append_59 rfl (by decide) (by decide) ?_
    refine ry_let (fun v11 => ?_)
    refine ry_goto 39 dX6_append_62 (by decide) ?_
    exact ry_to (hk39 a0 a1 v11 ha0 ha1 s10) ⟨rfl, rfl, rfl, trivial⟩
def F_X6_append_39 (w : rd_W) (n : Nat) : Nat → Nat → Int32 → rd_S → Option (Option Nat × rd_S) :=
  Nat.rec (motive := fun _ => Nat → Nat → Int32 → rd_S → Option (Option Nat × rd_S)) (fun _ _ _ _ => none) (fun _ ih => B_X6_append_39 w ih) n
theorem yl_X6_append_39 (cx : rd_Cx) (w : rd_W) : ∀ (n : Nat) (a0 : Nat) (a1 : Nat) (x2 : Int32) (ha0 : rd_ok w a0 6) (ha1 : rd_ok w a1 5) (S : rd_S), rd_Y cx G_X6_append (fun r => rd_P cx G_X6_append.2.2.2.2.2 5 w (rd_rR w r)) (F_X6_append_39 w n a0 a1 x2 S) 39 [(0, .inr (some a0)), (1, .inr (some a1)), (2, .inl x2)] [] w S 0 0 := by
  intro n
  induction n with
  | zero => intro a0 a1 x2 ha0 ha1 S; exact ry_none
  | succ n ih => intro a0 a1 x2 ha0 ha1 S; exact yb_X6_append_39 cx w ih a0 a1 x2 ha0 ha1 S
def F_X6_append (w : rd_W) (a0 : Nat) (S : rd_S) : Option (Option Nat × rd_S) :=
  if 8 ≤ (gI S a0 1) then
  (rd_c (gR S a0 0) fun b2 =>
  rd_i 0 (w.2.2 b2) <| rd_c (gR S b2 (0 : Int32).toNatClampNeg) fun b3 =>
  F_X6_append_39 w rd_big a0 b3 1 S)
  else
  (rd_let (pI S a0 1 ((gI S a0 1) + 1)) fun s12 =>
  rd_b (F_X6_get w a0 ((gI s12 a0 1) - 1) s12) fun o14 s13 =>
  some (o14, s13))
theorem ym_X6_append (cx : rd_Cx) (w : rd_W) (a0 : Nat) (ha0 : rd_ok w a0 6) (S : rd_S) : rd_Y cx G_X6_append (fun r => rd_P cx G_X6_append.2.2.2.2.2 5 w (rd_rR w r)) (F_X6_append w a0 S) 0 (rd_as 0 [.inr (some a0)]) [] w S 0 0 := by
  unfold F_X6_append
  refine ry_aload_n dX6_append_0 rfl ?_
  refine ry_geti dX6_append_1 ha0 fl_RX6_16 rfl ?_
  refine ry_bipush (v := 8) dX6_append_4 (by decide) ?_
  refine ry_icmp_ge 30 dX6_append_6 (by decide) (fun c1 => ?_) (fun c1 => ?_)
  · refine ry_aload_n dX6_append_30 rfl ?_
    refine ry_getr dX6_append_31 ha0 fl_RX6_11 rfl (fun b2 hb2 => ?_)
    refine ry_iconst (v := 0) dX6_append_34 (by decide) ?_
    refine ry_aald dX6_append_35 hb2 (fun b3 hb3 => ?_)
    refine ry_astore_n dX6_append_36 (by decide) ?_
    refine ry_iconst (v := 1) dX6_append_37 (by decide) ?_
    refine ry_istore_n dX6_append_38 (by decide) ?_
    exact ry_to (yl_X6_append_39 cx w rd_big a0 b3 1 ha0 hb3 S) ⟨rfl, rfl, rfl, trivial⟩
  · refine ry_aload_n dX6_append_9 rfl ?_
    refine ry_dup dX6_append_10 ?_
    refine ry_geti dX6_append_11 ha0 fl_RX6_16 rfl ?_
    refine ry_iconst (v := 1) dX6_append_14 (by decide) ?_
    refine ry_iadd dX6_append_15 ?_
    refine ry_puti dX6_append_16 ha0 fl_RX6_16 rfl rfl rfl ?_
    refine ry_letS (fun s12 => ?_)
    refine ry_aload_n dX6_append_19 rfl ?_
    refine ry_aload_n dX6_append_20 rfl ?_
    refine ry_geti dX6_append_21 ha0 fl_RX6_16 rfl ?_
    refine ry_iconst (v := 1) dX6_append_24 (by decide) ?_
    refine ry_isub dX6_append_25 ?_
    refine ry_callR (fun l r9 h9 => cm_X6_get l cx w a0 ((gI s12 a0 1) - 1) ha0 s12 r9 h9) (rd_runV (vs := [.inl ((gI s12 a0 1) - 1)]) dX6_append_26 ha0 rfl rfl yf_X6_get mi_X6_get ms_X6_get ml_RX6_20 ⟨Nat.le_of_ble_eq_true rfl, Nat.le_of_ble_eq_true rfl⟩ (Nat.le_of_ble_eq_true rfl) rfl) rfl rfl (Nat.le_of_ble_eq_true rfl) (Nat.le_of_ble_eq_true rfl) (fun o14 s13 ho14 => ?_)
    exact ry_aret dX6_append_29 rfl ho14 (Nat.le_of_ble_eq_true rfl) (Nat.le_of_ble_eq_true rfl)
theorem cm_X6_append (l : Launch) (cx : rd_Cx) (w : rd_W) (a0 : Nat) (ha0 : rd_ok w a0 6) (S : rd_S) (r : Option Nat × rd_S) (h : F_X6_append w a0 S = some r) : rd_M l cx yX6_append G_X6_append 5 [.inr (some a0)] w S (rd_rR w r) :=
  rd_enter (plainFor_of_name (by decide +kernel)) rfl (fun h => by cases h) (Nat.le_of_ble_eq_true rfl) (ym_X6_append cx w a0 ha0 S r h)
abbrev G_X5_begin : rd_G := (RX5, cX5_begin, 2, none, false, { frames := 1, cells := 0, slots := 0, locals := 23 })
theorem yf_X5_begin : rd_YL yX5_begin G_X5_begin 1 := ⟨rd_mem 717 (by decide +kernel) rfl, rd_mem 73 (by decide +kernel) rfl, by decide +kernel, by decide +kernel, by decide +kernel⟩
theorem mi_X5_begin : Cond.instanceMethod yX5_begin ∈ rd_gw := rd_mem 715 (by decide +kernel) rfl
theorem ms_X5_begin : Cond.selects (MethodName.cls yX5_begin) yX5_begin yX5_begin ∈ rd_gw := rd_mem 716 (by decide +kernel) rfl
theorem dX5_begin_0 : decode cX5_begin 0 = .ok (.aload_n 0, 1) := by decide +kernel
theorem dX5_begin_1 : decode cX5_begin 1 = .ok (.getfield 11, 3) := by decide +kernel
theorem dX5_begin_4 : decode cX5_begin 4 = .ok (.iconst (-1), 1) := by decide +kernel
theorem dX5_begin_5 : decode cX5_begin 5 = .ok (.invokestatic 24, 3) := by decide +kernel
theorem dX5_begin_8 : decode cX5_begin 8 = .ok (.aload_n 0, 1) := by decide +kernel
theorem dX5_begin_9 : decode cX5_begin 9 = .ok (.getfield 11, 3) := by decide +kernel
theorem dX5_begin_12 : decode cX5_begin 12 = .ok (.iconst 0, 1) := by decide +kernel
theorem dX5_begin_13 : decode cX5_begin 13 = .ok (.iload_n 1, 1) := by decide +kernel
theorem dX5_begin_14 : decode cX5_begin 14 = .ok (.iastore, 1) := by decide +kernel
theorem dX5_begin_15 : decode cX5_begin 15 = .ok (.aload_n 0, 1) := by decide +kernel
theorem dX5_begin_16 : decode cX5_begin 16 = .ok (.getfield 20, 3) := by decide +kernel
theorem dX5_begin_19 : decode cX5_begin 19 = .ok (.invokevirtual 30, 3) := by decide +kernel
theorem dX5_begin_22 : decode cX5_begin 22 = .ok (.return_, 1) := by decide +kernel
def F_X5_begin (w : rd_W) (a0 : Nat) (x1 : Int32) (S : rd_S) : Option (rd_S) :=
  rd_c (gR S a0 0) fun b1 =>
  rd_c (F_J7_fill_53178 w b1 (-1) S) fun s2 =>
  rd_c (gR s2 a0 0) fun b3 =>
  rd_i 0 (w.2.2 b3) <|
  rd_let (pI s2 b3 (0 : Int32).toNatClampNeg x1) fun s4 =>
  rd_c (gR s4 a0 1) fun b5 =>
  rd_c (F_X1_clear w b5 s4) fun s6 =>
  some s6
theorem ym_X5_begin (cx : rd_Cx) (w : rd_W) (a0 : Nat) (x1 : Int32) (ha0 : rd_ok w a0 5) (S : rd_S) : rd_Y cx G_X5_begin (fun r => rd_P cx G_X5_begin.2.2.2.2.2 0 w (rd_rV w r)) (F_X5_begin w a0 x1 S) 0 (rd_as 0 [.inr (some a0), .inl x1]) [] w S 0 0 := by
  unfold F_X5_begin
  refine ry_aload_n dX5_begin_0 rfl ?_
  refine ry_getr dX5_begin_1 ha0 fl_RX5_11 rfl (fun b1 hb1 => ?_)
  refine ry_iconst (v := (-1)) dX5_begin_4 (by decide) ?_
  refine ry_callv (fun l r9 h9 => cm_J7_fill_53178 l cx w b1 (-1) hb1 S r9 h9) (rd_runS (vs := [.inr (some b1), .inl (-1)]) dX5_begin_5 yf_J7_fill_53178 mt_J7_fill_53178 ml_RX5_24 ⟨Nat.le_of_ble_eq_true rfl, Nat.le_of_ble_eq_true rfl⟩ (Nat.le_of_ble_eq_true rfl) rfl) rfl rfl (Nat.le_of_ble_eq_true rfl) (Nat.le_of_ble_eq_true rfl) (fun s2 => ?_)
  refine ry_aload_n dX5_begin_8 rfl ?_
  refine ry_getr dX5_begin_9 ha0 fl_RX5_11 rfl (fun b3 hb3 => ?_)
  refine ry_iconst (v := 0) dX5_begin_12 (by decide) ?_
  refine ry_iload_n dX5_begin_13 rfl ?_
  refine ry_iast dX5_begin_14 hb3 ?_
  refine ry_letS (fun s4 => ?_)
  refine ry_aload_n dX5_begin_15 rfl ?_
  refine ry_getr dX5_begin_16 ha0 fl_RX5_20 rfl (fun b5 hb5 => ?_)
  refine ry_callv (fun l r9 h9 => cm_X1_clear l cx w b5 hb5 s4 r9 h9) (rd_runV (vs := []) dX5_begin_19 hb5 rfl rfl yf_X1_clear mi_X1_clear ms_X1_clear ml_RX5_30 ⟨Nat.le_of_ble_eq_true rfl, Nat.le_of_ble_eq_true rfl⟩ (Nat.le_of_ble_eq_true rfl) rfl) rfl rfl (Nat.le_of_ble_eq_true rfl) (Nat.le_of_ble_eq_true rfl) (fun s6 => ?_)
  exact ry_vret dX5_begin_22 rfl (Nat.le_of_ble_eq_true rfl) (Nat.le_of_ble_eq_true rfl)
theorem cm_X5_begin (l : Launch) (cx : rd_Cx) (w : rd_W) (a0 : Nat) (x1 : Int32) (ha0 : rd_ok w a0 5) (S : rd_S) (r : rd_S) (h : F_X5_begin w a0 x1 S = some r) : rd_M l cx yX5_begin G_X5_begin 0 [.inr (some a0), .inl x1] w S (rd_rV w r) :=
  rd_enter (plainFor_of_name (by decide +kernel)) rfl (fun h => by cases h) (Nat.le_of_ble_eq_true rfl) (ym_X5_begin cx w a0 x1 ha0 S r h)
abbrev G_X6_find : rd_G := (RX6, cX6_find, 4, (some (.object "RdsDesk$Other")), false, { frames := 2, cells := 0, slots := 0, locals := 44 })
theorem yf_X6_find : rd_YL yX6_find G_X6_find 1 := ⟨rd_mem 700 (by decide +kernel) rfl, rd_mem 72 (by decide +kernel) rfl, by decide +kernel, by decide +kernel, by decide +kernel⟩
theorem mi_X6_find : Cond.instanceMethod yX6_find ∈ rd_gw := rd_mem 698 (by decide +kernel) rfl
theorem ms_X6_find : Cond.selects (MethodName.cls yX6_find) yX6_find yX6_find ∈ rd_gw := rd_mem 699 (by decide +kernel) rfl
theorem dX6_find_0 : decode cX6_find 0 = .ok (.iconst 0, 1) := by decide +kernel
theorem dX6_find_1 : decode cX6_find 1 = .ok (.istore_n 2, 1) := by decide +kernel
theorem dX6_find_2 : decode cX6_find 2 = .ok (.iload_n 2, 1) := by decide +kernel
theorem dX6_find_3 : decode cX6_find 3 = .ok (.aload_n 0, 1) := by decide +kernel
theorem dX6_find_4 : decode cX6_find 4 = .ok (.getfield 16, 3) := by decide +kernel
theorem dX6_find_7 : decode cX6_find 7 = .ok (.if_icmp .ge 30, 3) := by decide +kernel
theorem dX6_find_10 : decode cX6_find 10 = .ok (.aload_n 0, 1) := by decide +kernel
theorem dX6_find_11 : decode cX6_find 11 = .ok (.iload_n 2, 1) := by decide +kernel
theorem dX6_find_12 : decode cX6_find 12 = .ok (.invokevirtual 20, 3) := by decide +kernel
theorem dX6_find_15 : decode cX6_find 15 = .ok (.astore_n 3, 1) := by decide +kernel
theorem dX6_find_16 : decode cX6_find 16 = .ok (.aload_n 3, 1) := by decide +kernel
theorem dX6_find_17 : decode cX6_find 17 = .ok (.ifnull 14, 3) := by decide +kernel
theorem dX6_find_20 : decode cX6_find 20 = .ok (.aload_n 3, 1) := by decide +kernel
theorem dX6_find_21 : decode cX6_find 21 = .ok (.iconst 0, 1) := by decide +kernel
theorem dX6_find_22 : decode cX6_find 22 = .ok (.invokevirtual 24, 3) := by decide +kernel
theorem dX6_find_25 : decode cX6_find 25 = .ok (.iload_n 1, 1) := by decide +kernel
theorem dX6_find_26 : decode cX6_find 26 = .ok (.if_icmp .ne 5, 3) := by decide +kernel
theorem dX6_find_29 : decode cX6_find 29 = .ok (.aload_n 3, 1) := by decide +kernel
theorem dX6_find_30 : decode cX6_find 30 = .ok (.areturn, 1) := by decide +kernel
theorem dX6_find_31 : decode cX6_find 31 = .ok (.iinc 2 1, 3) := by decide +kernel
theorem dX6_find_34 : decode cX6_find 34 = .ok (.goto (-32), 3) := by decide +kernel
theorem dX6_find_37 : decode cX6_find 37 = .ok (.aload_n 0, 1) := by decide +kernel
theorem dX6_find_38 : decode cX6_find 38 = .ok (.invokevirtual 28, 3) := by decide +kernel
theorem dX6_find_41 : decode cX6_find 41 = .ok (.astore_n 2, 1) := by decide +kernel
theorem dX6_find_42 : decode cX6_find 42 = .ok (.aload_n 2, 1) := by decide +kernel
theorem dX6_find_43 : decode cX6_find 43 = .ok (.ifnull 8, 3) := by decide +kernel
theorem dX6_find_46 : decode cX6_find 46 = .ok (.aload_n 2, 1) := by decide +kernel
theorem dX6_find_47 : decode cX6_find 47 = .ok (.iload_n 1, 1) := by decide +kernel
theorem dX6_find_48 : decode cX6_find 48 = .ok (.invokevirtual 32, 3) := by decide +kernel
theorem dX6_find_51 : decode cX6_find 51 = .ok (.aload_n 2, 1) := by decide +kernel
theorem dX6_find_52 : decode cX6_find 52 = .ok (.areturn, 1) := by decide +kernel
def B_X6_find_51 (w : rd_W) (oo2 : Option Nat) (S : rd_S) : Option (Option Nat × rd_S) :=
  some (oo2, S)
theorem yb_X6_find_51 (cx : rd_Cx) (w : rd_W) (oo2 : Option Nat) (hoo2 : ∀ b, oo2 = some b → rd_ok w b 5) (S : rd_S) : rd_Y cx G_X6_find (fun r => rd_P cx G_X6_find.2.2.2.2.2 5 w (rd_rR w r)) (B_X6_find_51 w oo2 S) 51 [(2, .inr oo2)] [] w S 0 0 := by
  unfold B_X6_find_51
  refine ry_aload_n dX6_find_51 rfl ?_
  exact ry_aret dX6_find_52 rfl hoo2 (Nat.le_of_ble_eq_true rfl) (Nat.le_of_ble_eq_true rfl)
def B_X6_find_31 (w : rd_W) (k2 : Nat → Int32 → Int32 → rd_S → Option (Option Nat × rd_S)) (a0 : Nat) (x1 : Int32) (x2 : Int32) (S : rd_S) : Option (Option Nat × rd_S) :=
  rd_let (x2 + 1) fun v11 =>
  k2 a0 x1 v11 S
theorem yb_X6_find_31 (cx : rd_Cx) (w : rd_W) {k2 : Nat → Int32 → Int32 → rd_S → Option (Option Nat × rd_S)} (hk2 : ∀ (a0 : Nat) (x1 : Int32) (x2 : Int32) (ha0 : rd_ok w a0 6) (S : rd_S), rd_Y cx G_X6_find (fun r => rd_P cx G_X6_find.2.2.2.2.2 5 w (rd_rR w r)) (k2 a0 x1 x2 S) 2 [(0, .inr (some a0)), (1, .inl x1), (2, .inl x2)] [] w S 0 0) (a0 : Nat) (x1 : Int32) (x2 : Int32) (ha0 : rd_ok w a0 6) (S : rd_S) : rd_Y cx G_X6_find (fun r => rd_P cx G_X6_find.2.2.2.2.2 5 w (rd_rR w r)) (B_X6_find_31 w k2 a0 x1 x2 S) 31 [(0, .inr (some a0)), (1, .inl x1), (2, .inl x2)] [] w S 0 0 := by
  unfold B_X6_find_31
  refine ry_iinc (v := 1) dX6_find_31 rfl (by decide) (by decide) ?_
  refine ry_let (fun v11 => ?_)
  refine ry_goto 2 dX6_find_34 (by decide) ?_
  exact ry_to (hk2 a0 x1 v11 ha0 S) ⟨rfl, rfl, rfl, trivial⟩
def B_X6_find_2 (w : rd_W) (k2 : Nat → Int32 → Int32 → rd_S → Option (Option Nat × rd_S)) (a0 : Nat) (x1 : Int32) (x2 : Int32) (S : rd_S) : Option (Option Nat × rd_S) :=
  if (gI S a0 1) ≤ x2 then
  (rd_b (F_X6_append w a0 S) fun o3 s2 =>
  rd_m o3
  (B_X6_find_51 w none s2)
  (fun b4 =>
  rd_c (F_X5_begin w b4 x1 s2) fun s6 =>
  B_X6_find_51 w (some b4) s6))
  else
  (rd_b (F_X6_get w a0 x2 S) fun o8 s7 =>
  rd_m o8
  (B_X6_find_31 w k2 a0 x1 x2 s7)
  (fun b9 =>
  rd_b (F_X5_tell w b9 0 s7) fun v13 s12 =>
  if v13 = x1 then
  (some (some b9, s12))
  else
  (B_X6_find_31 w k2 a0 x1 x2 s12)))
theorem yb_X6_find_2 (cx : rd_Cx) (w : rd_W) {k2 : Nat → Int32 → Int32 → rd_S → Option (Option Nat × rd_S)} (hk2 : ∀ (a0 : Nat) (x1 : Int32) (x2 : Int32) (ha0 : rd_ok w a0 6) (S : rd_S), rd_Y cx G_X6_find (fun r => rd_P cx G_X6_find.2.2.2.2.2 5 w (rd_rR w r)) (k2 a0 x1 x2 S) 2 [(0, .inr (some a0)), (1, .inl x1), (2, .inl x2)] [] w S 0 0) (a0 : Nat) (x1 : Int32) (x2 : Int32) (ha0 : rd_ok w a0 6) (S : rd_S) : rd_Y cx G_X6_find (fun r => rd_P cx G_X6_find.2.2.2.2.2 5 w (rd_rR w r)) (B_X6_find_2 w k2 a0 x1 x2 S) 2 [(0, .inr (some a0)), (1, .inl x1), (2, .inl x2)] [] w S 0 0 := by
  unfold B_X6_find_2
  refine ry_iload_n dX6_find_2 rfl ?_
  refine ry_aload_n dX6_find_3 rfl ?_
  refine ry_geti dX6_find_4 ha0 fl_RX6_16 rfl ?_
  refine ry_icmp_ge 37 dX6_find_7 (by decide) (fun c1 => ?_) (fun c1 => ?_)
  · refine ry_aload_n dX6_find_37 rfl ?_
    refine ry_callR (fun l r9 h9 => cm_X6_append l cx w a0 ha0 S r9 h9) (rd_runV (vs := []) dX6_find_38 ha0 rfl rfl yf_X6_append mi_X6_append ms_X6_append ml_RX6_28 ⟨Nat.le_of_ble_eq_true rfl, Nat.le_of_ble_eq_true rfl⟩ (Nat.le_of_ble_eq_true rfl) rfl) rfl rfl (Nat.le_of_ble_eq_true rfl) (Nat.le_of_ble_eq_true rfl) (fun o3 s2 ho3 => ?_)
    refine ry_astore_n dX6_find_41 (by decide) ?_
    refine ry_aload_n dX6_find_42 rfl ?_
    refine ry_ifnull 51 dX6_find_43 (by decide) (fun hb5 => ?_) (fun b4 hb5 => ?_)
    · subst hb5
      exact ry_to (yb_X6_find_51 cx w none (fun b hb => by cases hb) s2) ⟨rfl, trivial⟩
    · subst hb5
      refine ry_aload_n dX6_find_46 rfl ?_
      refine ry_iload_n dX6_find_47 rfl ?_
      refine ry_callv (fun l r9 h9 => cm_X5_begin l cx w b4 x1 (ho3 b4 rfl) s2 r9 h9) (rd_runV (vs := [.inl x1]) dX6_find_48 (ho3 b4 rfl) rfl rfl yf_X5_begin mi_X5_begin ms_X5_begin ml_RX6_32 ⟨Nat.le_of_ble_eq_true rfl, Nat.le_of_ble_eq_true rfl⟩ (Nat.le_of_ble_eq_true rfl) rfl) rfl rfl (Nat.le_of_ble_eq_true rfl) (Nat.le_of_ble_eq_true rfl) (fun s6 => ?_)
      exact ry_to (yb_X6_find_51 cx w (some b4) (fun b hb => by cases hb; exact (ho3 b4 rfl)) s6) ⟨rfl, trivial⟩
  · refine ry_aload_n dX6_find_10 rfl ?_
    refine ry_iload_n dX6_find_11 rfl ?_
    refine ry_callR (fun l r9 h9 => cm_X6_get l cx w a0 x2 ha0 S r9 h9) (rd_runV (vs := [.inl x2]) dX6_find_12 ha0 rfl rfl yf_X6_get mi_X6_get ms_X6_get ml_RX6_20 ⟨Nat.le_of_ble_eq_true rfl, Nat.le_of_ble_eq_true rfl⟩ (Nat.le_of_ble_eq_true rfl) rfl) rfl rfl (Nat.le_of_ble_eq_true rfl) (Nat.le_of_ble_eq_true rfl) (fun o8 s7 ho8 => ?_)
    refine ry_astore_n dX6_find_15 (by decide) ?_
    refine ry_aload_n dX6_find_16 rfl ?_
    refine ry_ifnull 31 dX6_find_17 (by decide) (fun hb10 => ?_) (fun b9 hb10 => ?_)
    · subst hb10
      exact ry_to (yb_X6_find_31 cx w (k2 := k2) hk2 a0 x1 x2 ha0 s7) ⟨rfl, rfl, rfl, trivial⟩
    · subst hb10
      refine ry_aload_n dX6_find_20 rfl ?_
      refine ry_iconst (v := 0) dX6_find_21 (by decide) ?_
      refine ry_callI (fun l r9 h9 => cm_X5_tell l cx w b9 0 (ho8 b9 rfl) s7 r9 h9) (rd_runV (vs := [.inl 0]) dX6_find_22 (ho8 b9 rfl) rfl rfl yf_X5_tell mi_X5_tell ms_X5_tell ml_RX6_24 ⟨Nat.le_of_ble_eq_true rfl, Nat.le_of_ble_eq_true rfl⟩ (Nat.le_of_ble_eq_true rfl) rfl) rfl rfl (Nat.le_of_ble_eq_true rfl) (Nat.le_of_ble_eq_true rfl) (fun v13 s12 => ?_)
      refine ry_iload_n dX6_find_25 rfl ?_
      refine ry_icmp_ne 31 dX6_find_26 (by decide) (fun c14 => ?_) (fun c14 => ?_)
      · refine ry_aload_n dX6_find_29 rfl ?_
        exact ry_aret dX6_find_30 rfl (fun b hb => by cases hb; exact (ho8 b9 rfl)) (Nat.le_of_ble_eq_true rfl) (Nat.le_of_ble_eq_true rfl)
      · exact ry_to (yb_X6_find_31 cx w (k2 := k2) hk2 a0 x1 x2 ha0 s12) ⟨rfl, rfl, rfl, trivial⟩
def F_X6_find_2 (w : rd_W) (n : Nat) : Nat → Int32 → Int32 → rd_S → Option (Option Nat × rd_S) :=
  Nat.rec (motive := fun _ => Nat → Int32 → Int32 → rd_S → Option (Option Nat × rd_S)) (fun _ _ _ _ => none) (fun _ ih => B_X6_find_2 w ih) n
theorem yl_X6_find_2 (cx : rd_Cx) (w : rd_W) : ∀ (n : Nat) (a0 : Nat) (x1 : Int32) (x2 : Int32) (ha0 : rd_ok w a0 6) (S : rd_S), rd_Y cx G_X6_find (fun r => rd_P cx G_X6_find.2.2.2.2.2 5 w (rd_rR w r)) (F_X6_find_2 w n a0 x1 x2 S) 2 [(0, .inr (some a0)), (1, .inl x1), (2, .inl x2)] [] w S 0 0 := by
  intro n
  induction n with
  | zero => intro a0 x1 x2 ha0 S; exact ry_none
  | succ n ih => intro a0 x1 x2 ha0 S; exact yb_X6_find_2 cx w ih a0 x1 x2 ha0 S
def F_X6_find (w : rd_W) (a0 : Nat) (x1 : Int32) (S : rd_S) : Option (Option Nat × rd_S) :=
  F_X6_find_2 w rd_big a0 x1 0 S
theorem ym_X6_find (cx : rd_Cx) (w : rd_W) (a0 : Nat) (x1 : Int32) (ha0 : rd_ok w a0 6) (S : rd_S) : rd_Y cx G_X6_find (fun r => rd_P cx G_X6_find.2.2.2.2.2 5 w (rd_rR w r)) (F_X6_find w a0 x1 S) 0 (rd_as 0 [.inr (some a0), .inl x1]) [] w S 0 0 := by
  unfold F_X6_find
  refine ry_iconst (v := 0) dX6_find_0 (by decide) ?_
  refine ry_istore_n dX6_find_1 (by decide) ?_
  exact ry_to (yl_X6_find_2 cx w rd_big a0 x1 0 ha0 S) ⟨rfl, rfl, rfl, trivial⟩
theorem cm_X6_find (l : Launch) (cx : rd_Cx) (w : rd_W) (a0 : Nat) (x1 : Int32) (ha0 : rd_ok w a0 6) (S : rd_S) (r : Option Nat × rd_S) (h : F_X6_find w a0 x1 S = some r) : rd_M l cx yX6_find G_X6_find 5 [.inr (some a0), .inl x1] w S (rd_rR w r) :=
  rd_enter (plainFor_of_name (by decide +kernel)) rfl (fun h => by cases h) (Nat.le_of_ble_eq_true rfl) (ym_X6_find cx w a0 x1 ha0 S r h)
abbrev G_X5_takeVariant : rd_G := (RX5, cX5_takeVariant, 3, none, false, { frames := 3, cells := 0, slots := 0, locals := 86 })
theorem yf_X5_takeVariant : rd_YL yX5_takeVariant G_X5_takeVariant 2 := ⟨rd_mem 723 (by decide +kernel) rfl, rd_mem 73 (by decide +kernel) rfl, by decide +kernel, by decide +kernel, by decide +kernel⟩
theorem mi_X5_takeVariant : Cond.instanceMethod yX5_takeVariant ∈ rd_gw := rd_mem 721 (by decide +kernel) rfl
theorem ms_X5_takeVariant : Cond.selects (MethodName.cls yX5_takeVariant) yX5_takeVariant yX5_takeVariant ∈ rd_gw := rd_mem 722 (by decide +kernel) rfl
theorem dX5_takeVariant_0 : decode cX5_takeVariant 0 = .ok (.iload_n 1, 1) := by decide +kernel
theorem dX5_takeVariant_1 : decode cX5_takeVariant 1 = .ok (.tableswitch 162 0 14 #[75, 75, 75, 75, 88, 99, 99, 99, 99, 162, 162, 162, 114, 124, 152], 75) := by decide +kernel
theorem dX5_takeVariant_76 : decode cX5_takeVariant 76 = .ok (.aload_n 0, 1) := by decide +kernel
theorem dX5_takeVariant_77 : decode cX5_takeVariant 77 = .ok (.getfield 20, 3) := by decide +kernel
theorem dX5_takeVariant_80 : decode cX5_takeVariant 80 = .ok (.iload_n 1, 1) := by decide +kernel
theorem dX5_takeVariant_81 : decode cX5_takeVariant 81 = .ok (.iconst 2, 1) := by decide +kernel
theorem dX5_takeVariant_82 : decode cX5_takeVariant 82 = .ok (.iload_n 2, 1) := by decide +kernel
theorem dX5_takeVariant_83 : decode cX5_takeVariant 83 = .ok (.invokevirtual 33, 3) := by decide +kernel
theorem dX5_takeVariant_86 : decode cX5_takeVariant 86 = .ok (.goto 77, 3) := by decide +kernel
theorem dX5_takeVariant_89 : decode cX5_takeVariant 89 = .ok (.aload_n 0, 1) := by decide +kernel
theorem dX5_takeVariant_90 : decode cX5_takeVariant 90 = .ok (.getfield 11, 3) := by decide +kernel
theorem dX5_takeVariant_93 : decode cX5_takeVariant 93 = .ok (.bipush 6, 2) := by decide +kernel
theorem dX5_takeVariant_95 : decode cX5_takeVariant 95 = .ok (.iload_n 2, 1) := by decide +kernel
theorem dX5_takeVariant_96 : decode cX5_takeVariant 96 = .ok (.iastore, 1) := by decide +kernel
theorem dX5_takeVariant_97 : decode cX5_takeVariant 97 = .ok (.goto 66, 3) := by decide +kernel
theorem dX5_takeVariant_100 : decode cX5_takeVariant 100 = .ok (.aload_n 0, 1) := by decide +kernel
theorem dX5_takeVariant_101 : decode cX5_takeVariant 101 = .ok (.getfield 11, 3) := by decide +kernel
theorem dX5_takeVariant_104 : decode cX5_takeVariant 104 = .ok (.bipush 7, 2) := by decide +kernel
theorem dX5_takeVariant_106 : decode cX5_takeVariant 106 = .ok (.iload_n 1, 1) := by decide +kernel
theorem dX5_takeVariant_107 : decode cX5_takeVariant 107 = .ok (.iadd, 1) := by decide +kernel
theorem dX5_takeVariant_108 : decode cX5_takeVariant 108 = .ok (.iconst 5, 1) := by decide +kernel
theorem dX5_takeVariant_109 : decode cX5_takeVariant 109 = .ok (.isub, 1) := by decide +kernel
theorem dX5_takeVariant_110 : decode cX5_takeVariant 110 = .ok (.iload_n 2, 1) := by decide +kernel
theorem dX5_takeVariant_111 : decode cX5_takeVariant 111 = .ok (.iastore, 1) := by decide +kernel
theorem dX5_takeVariant_112 : decode cX5_takeVariant 112 = .ok (.goto 51, 3) := by decide +kernel
theorem dX5_takeVariant_115 : decode cX5_takeVariant 115 = .ok (.aload_n 0, 1) := by decide +kernel
theorem dX5_takeVariant_116 : decode cX5_takeVariant 116 = .ok (.getfield 11, 3) := by decide +kernel
theorem dX5_takeVariant_119 : decode cX5_takeVariant 119 = .ok (.iconst 5, 1) := by decide +kernel
theorem dX5_takeVariant_120 : decode cX5_takeVariant 120 = .ok (.iload_n 2, 1) := by decide +kernel
theorem dX5_takeVariant_121 : decode cX5_takeVariant 121 = .ok (.iastore, 1) := by decide +kernel
theorem dX5_takeVariant_122 : decode cX5_takeVariant 122 = .ok (.goto 41, 3) := by decide +kernel
theorem dX5_takeVariant_125 : decode cX5_takeVariant 125 = .ok (.aload_n 0, 1) := by decide +kernel
theorem dX5_takeVariant_126 : decode cX5_takeVariant 126 = .ok (.getfield 11, 3) := by decide +kernel
theorem dX5_takeVariant_129 : decode cX5_takeVariant 129 = .ok (.iconst 2, 1) := by decide +kernel
theorem dX5_takeVariant_130 : decode cX5_takeVariant 130 = .ok (.iload_n 2, 1) := by decide +kernel
theorem dX5_takeVariant_131 : decode cX5_takeVariant 131 = .ok (.bipush 11, 2) := by decide +kernel
theorem dX5_takeVariant_133 : decode cX5_takeVariant 133 = .ok (.iconst 5, 1) := by decide +kernel
theorem dX5_takeVariant_134 : decode cX5_takeVariant 134 = .ok (.invokestatic 36, 3) := by decide +kernel
theorem dX5_takeVariant_137 : decode cX5_takeVariant 137 = .ok (.iastore, 1) := by decide +kernel
theorem dX5_takeVariant_138 : decode cX5_takeVariant 138 = .ok (.aload_n 0, 1) := by decide +kernel
theorem dX5_takeVariant_139 : decode cX5_takeVariant 139 = .ok (.getfield 11, 3) := by decide +kernel
theorem dX5_takeVariant_142 : decode cX5_takeVariant 142 = .ok (.iconst 3, 1) := by decide +kernel
theorem dX5_takeVariant_143 : decode cX5_takeVariant 143 = .ok (.iload_n 2, 1) := by decide +kernel
theorem dX5_takeVariant_144 : decode cX5_takeVariant 144 = .ok (.iconst 0, 1) := by decide +kernel
theorem dX5_takeVariant_145 : decode cX5_takeVariant 145 = .ok (.iconst 1, 1) := by decide +kernel
theorem dX5_takeVariant_146 : decode cX5_takeVariant 146 = .ok (.invokestatic 36, 3) := by decide +kernel
theorem dX5_takeVariant_149 : decode cX5_takeVariant 149 = .ok (.iastore, 1) := by decide +kernel
theorem dX5_takeVariant_150 : decode cX5_takeVariant 150 = .ok (.goto 13, 3) := by decide +kernel
theorem dX5_takeVariant_153 : decode cX5_takeVariant 153 = .ok (.aload_n 0, 1) := by decide +kernel
theorem dX5_takeVariant_154 : decode cX5_takeVariant 154 = .ok (.getfield 11, 3) := by decide +kernel
theorem dX5_takeVariant_157 : decode cX5_takeVariant 157 = .ok (.iconst 4, 1) := by decide +kernel
theorem dX5_takeVariant_158 : decode cX5_takeVariant 158 = .ok (.iload_n 2, 1) := by decide +kernel
theorem dX5_takeVariant_159 : decode cX5_takeVariant 159 = .ok (.iastore, 1) := by decide +kernel
theorem dX5_takeVariant_160 : decode cX5_takeVariant 160 = .ok (.goto 3, 3) := by decide +kernel
theorem dX5_takeVariant_163 : decode cX5_takeVariant 163 = .ok (.return_, 1) := by decide +kernel
def B_X5_takeVariant_163 (w : rd_W) (S : rd_S) : Option (rd_S) :=
  some S
theorem yb_X5_takeVariant_163 (cx : rd_Cx) (w : rd_W) (S : rd_S) : rd_Y cx G_X5_takeVariant (fun r => rd_P cx G_X5_takeVariant.2.2.2.2.2 0 w (rd_rV w r)) (B_X5_takeVariant_163 w S) 163 [] [] w S 0 0 := by
  unfold B_X5_takeVariant_163
  exact ry_vret dX5_takeVariant_163 rfl (Nat.le_of_ble_eq_true rfl) (Nat.le_of_ble_eq_true rfl)
def B_X5_takeVariant_76 (w : rd_W) (a0 : Nat) (x1 : Int32) (x2 : Int32) (S : rd_S) : Option (rd_S) :=
  rd_c (gR S a0 1) fun b2 =>
  rd_c (F_X1_take w b2 x1 2 x2 S) fun s3 =>
  B_X5_takeVariant_163 w s3
theorem yb_X5_takeVariant_76 (cx : rd_Cx) (w : rd_W) (a0 : Nat) (x1 : Int32) (x2 : Int32) (ha0 : rd_ok w a0 5) (S : rd_S) : rd_Y cx G_X5_takeVariant (fun r => rd_P cx G_X5_takeVariant.2.2.2.2.2 0 w (rd_rV w r)) (B_X5_takeVariant_76 w a0 x1 x2 S) 76 [(0, .inr (some a0)), (1, .inl x1), (2, .inl x2)] [] w S 0 0 := by
  unfold B_X5_takeVariant_76
  refine ry_aload_n dX5_takeVariant_76 rfl ?_
  refine ry_getr dX5_takeVariant_77 ha0 fl_RX5_20 rfl (fun b2 hb2 => ?_)
  refine ry_iload_n dX5_takeVariant_80 rfl ?_
  refine ry_iconst (v := 2) dX5_takeVariant_81 (by decide) ?_
  refine ry_iload_n dX5_takeVariant_82 rfl ?_
  refine ry_callv (fun l r9 h9 => cm_X1_take l cx w b2 x1 2 x2 hb2 S r9 h9) (rd_runV (vs := [.inl x1, .inl 2, .inl x2]) dX5_takeVariant_83 hb2 rfl rfl yf_X1_take mi_X1_take ms_X1_take ml_RX5_33 ⟨Nat.le_of_ble_eq_true rfl, Nat.le_of_ble_eq_true rfl⟩ (Nat.le_of_ble_eq_true rfl) rfl) rfl rfl (Nat.le_of_ble_eq_true rfl) (Nat.le_of_ble_eq_true rfl) (fun s3 => ?_)
  refine ry_goto 163 dX5_takeVariant_86 (by decide) ?_
  exact ry_to (yb_X5_takeVariant_163 cx w s3) trivial
def B_X5_takeVariant_100 (w : rd_W) (a0 : Nat) (x1 : Int32) (x2 : Int32) (S : rd_S) : Option (rd_S) :=
  rd_c (gR S a0 0) fun b11 =>
  rd_i ((7 + x1) - 5) (w.2.2 b11) <|
  rd_let (pI S b11 ((7 + x1) - 5).toNatClampNeg x2) fun s12 =>
  B_X5_takeVariant_163 w s12
theorem yb_X5_takeVariant_100 (cx : rd_Cx) (w : rd_W) (a0 : Nat) (x1 : Int32) (x2 : Int32) (ha0 : rd_ok w a0 5) (S : rd_S) : rd_Y cx G_X5_takeVariant (fun r => rd_P cx G_X5_takeVariant.2.2.2.2.2 0 w (rd_rV w r)) (B_X5_takeVariant_100 w a0 x1 x2 S) 100 [(0, .inr (some a0)), (1, .inl x1), (2, .inl x2)] [] w S 0 0 := by
  unfold B_X5_takeVariant_100
  refine ry_aload_n dX5_takeVariant_100 rfl ?_
  refine ry_getr dX5_takeVariant_101 ha0 fl_RX5_11 rfl (fun b11 hb11 => ?_)
  refine ry_bipush (v := 7) dX5_takeVariant_104 (by decide) ?_
  refine ry_iload_n dX5_takeVariant_106 rfl ?_
  refine ry_iadd dX5_takeVariant_107 ?_
  refine ry_iconst (v := 5) dX5_takeVariant_108 (by decide) ?_
  refine ry_isub dX5_takeVariant_109 ?_
  refine ry_iload_n dX5_takeVariant_110 rfl ?_
  refine ry_iast dX5_takeVariant_111 hb11 ?_
  refine ry_letS (fun s12 => ?_)
  refine ry_goto 163 dX5_takeVariant_112 (by decide) ?_
  exact ry_to (yb_X5_takeVariant_163 cx w s12) trivial
def F_X5_takeVariant (w : rd_W) (a0 : Nat) (x1 : Int32) (x2 : Int32) (S : rd_S) : Option (rd_S) :=
  if x1 = 0 then
  (B_X5_takeVariant_76 w a0 x1 x2 S)
  else
  if x1 = 1 then
  (B_X5_takeVariant_76 w a0 x1 x2 S)
  else
  if x1 = 2 then
  (B_X5_takeVariant_76 w a0 x1 x2 S)
  else
  if x1 = 3 then
  (B_X5_takeVariant_76 w a0 x1 x2 S)
  else
  if x1 = 4 then
  (rd_c (gR S a0 0) fun b8 =>
  rd_i 6 (w.2.2 b8) <|
  rd_let (pI S b8 (6 : Int32).toNatClampNeg x2) fun s9 =>
  B_X5_takeVariant_163 w s9)
  else
  if x1 = 5 then
  (B_X5_takeVariant_100 w a0 x1 x2 S)
  else
  if x1 = 6 then
  (B_X5_takeVariant_100 w a0 x1 x2 S)
  else
  if x1 = 7 then
  (B_X5_takeVariant_100 w a0 x1 x2 S)
  else
  if x1 = 8 then
  (B_X5_takeVariant_100 w a0 x1 x2 S)
  else
  if x1 = 12 then
  (rd_c (gR S a0 0) fun b17 =>
  rd_i 5 (w.2.2 b17) <|
  rd_let (pI S b17 (5 : Int32).toNatClampNeg x2) fun s18 =>
  B_X5_takeVariant_163 w s18)
  else
  if x1 = 13 then
  (rd_c (gR S a0 0) fun b20 =>
  rd_b (F_X11_field w x2 11 5 S) fun v22 s21 =>
  rd_i 2 (w.2.2 b20) <|
  rd_let (pI s21 b20 (2 : Int32).toNatClampNeg v22) fun s23 =>
  rd_c (gR s23 a0 0) fun b24 =>
  rd_b (F_X11_field w x2 0 1 s23) fun v26 s25 =>
  rd_i 3 (w.2.2 b24) <|
  rd_let (pI s25 b24 (3 : Int32).toNatClampNeg v26) fun s27 =>
  B_X5_takeVariant_163 w s27)
  else
  if x1 = 14 then
  (rd_c (gR S a0 0) fun b29 =>
  rd_i 4 (w.2.2 b29) <|
  rd_let (pI S b29 (4 : Int32).toNatClampNeg x2) fun s30 =>
  B_X5_takeVariant_163 w s30)
  else
  (B_X5_takeVariant_163 w S)
theorem ym_X5_takeVariant (cx : rd_Cx) (w : rd_W) (a0 : Nat) (x1 : Int32) (x2 : Int32) (ha0 : rd_ok w a0 5) (S : rd_S) : rd_Y cx G_X5_takeVariant (fun r => rd_P cx G_X5_takeVariant.2.2.2.2.2 0 w (rd_rV w r)) (F_X5_takeVariant w a0 x1 x2 S) 0 (rd_as 0 [.inr (some a0), .inl x1, .inl x2]) [] w S 0 0 := by
  unfold F_X5_takeVariant
  refine ry_iload_n dX5_takeVariant_0 rfl ?_
  refine ry_split _ (fun c1 => ?_) (fun c1 => ?_)
  · refine ry_tsIn 76 0 c1 dX5_takeVariant_1 (by decide) (by decide) rfl (by decide) ?_
    exact ry_to (yb_X5_takeVariant_76 cx w a0 x1 x2 ha0 S) ⟨rfl, rfl, rfl, trivial⟩
  refine ry_split _ (fun c4 => ?_) (fun c4 => ?_)
  · refine ry_tsIn 76 1 c4 dX5_takeVariant_1 (by decide) (by decide) rfl (by decide) ?_
    exact ry_to (yb_X5_takeVariant_76 cx w a0 x1 x2 ha0 S) ⟨rfl, rfl, rfl, trivial⟩
  refine ry_split _ (fun c5 => ?_) (fun c5 => ?_)
  · refine ry_tsIn 76 2 c5 dX5_takeVariant_1 (by decide) (by decide) rfl (by decide) ?_
    exact ry_to (yb_X5_takeVariant_76 cx w a0 x1 x2 ha0 S) ⟨rfl, rfl, rfl, trivial⟩
  refine ry_split _ (fun c6 => ?_) (fun c6 => ?_)
  · refine ry_tsIn 76 3 c6 dX5_takeVariant_1 (by decide) (by decide) rfl (by decide) ?_
    exact ry_to (yb_X5_takeVariant_76 cx w a0 x1 x2 ha0 S) ⟨rfl, rfl, rfl, trivial⟩
  refine ry_split _ (fun c7 => ?_) (fun c7 => ?_)
  · refine ry_tsIn 89 4 c7 dX5_takeVariant_1 (by decide) (by decide) rfl (by decide) ?_
    refine ry_aload_n dX5_takeVariant_89 rfl ?_
    refine ry_getr dX5_takeVariant_90 ha0 fl_RX5_11 rfl (fun b8 hb8 => ?_)
    refine ry_bipush (v := 6) dX5_takeVariant_93 (by decide) ?_
    refine ry_iload_n dX5_takeVariant_95 rfl ?_
    refine ry_iast dX5_takeVariant_96 hb8 ?_
    refine ry_letS (fun s9 => ?_)
    refine ry_goto 163 dX5_takeVariant_97 (by decide) ?_
    exact ry_to (yb_X5_takeVariant_163 cx w s9) trivial
  refine ry_split _ (fun c10 => ?_) (fun c10 => ?_)
  · refine ry_tsIn 100 5 c10 dX5_takeVariant_1 (by decide) (by decide) rfl (by decide) ?_
    exact ry_to (yb_X5_takeVariant_100 cx w a0 x1 x2 ha0 S) ⟨rfl, rfl, rfl, trivial⟩
  refine ry_split _ (fun c13 => ?_) (fun c13 => ?_)
  · refine ry_tsIn 100 6 c13 dX5_takeVariant_1 (by decide) (by decide) rfl (by decide) ?_
    exact ry_to (yb_X5_takeVariant_100 cx w a0 x1 x2 ha0 S) ⟨rfl, rfl, rfl, trivial⟩
  refine ry_split _ (fun c14 => ?_) (fun c14 => ?_)
  · refine ry_tsIn 100 7 c14 dX5_takeVariant_1 (by decide) (by decide) rfl (by decide) ?_
    exact ry_to (yb_X5_takeVariant_100 cx w a0 x1 x2 ha0 S) ⟨rfl, rfl, rfl, trivial⟩
  refine ry_split _ (fun c15 => ?_) (fun c15 => ?_)
  · refine ry_tsIn 100 8 c15 dX5_takeVariant_1 (by decide) (by decide) rfl (by decide) ?_
    exact ry_to (yb_X5_takeVariant_100 cx w a0 x1 x2 ha0 S) ⟨rfl, rfl, rfl, trivial⟩
  refine ry_split _ (fun c16 => ?_) (fun c16 => ?_)
  · refine ry_tsIn 115 12 c16 dX5_takeVariant_1 (by decide) (by decide) rfl (by decide) ?_
    refine ry_aload_n dX5_takeVariant_115 rfl ?_
    refine ry_getr dX5_takeVariant_116 ha0 fl_RX5_11 rfl (fun b17 hb17 => ?_)
    refine ry_iconst (v := 5) dX5_takeVariant_119 (by decide) ?_
    refine ry_iload_n dX5_takeVariant_120 rfl ?_
    refine ry_iast dX5_takeVariant_121 hb17 ?_
    refine ry_letS (fun s18 => ?_)
    refine ry_goto 163 dX5_takeVariant_122 (by decide) ?_
    exact ry_to (yb_X5_takeVariant_163 cx w s18) trivial
  refine ry_split _ (fun c19 => ?_) (fun c19 => ?_)
  · refine ry_tsIn 125 13 c19 dX5_takeVariant_1 (by decide) (by decide) rfl (by decide) ?_
    refine ry_aload_n dX5_takeVariant_125 rfl ?_
    refine ry_getr dX5_takeVariant_126 ha0 fl_RX5_11 rfl (fun b20 hb20 => ?_)
    refine ry_iconst (v := 2) dX5_takeVariant_129 (by decide) ?_
    refine ry_iload_n dX5_takeVariant_130 rfl ?_
    refine ry_bipush (v := 11) dX5_takeVariant_131 (by decide) ?_
    refine ry_iconst (v := 5) dX5_takeVariant_133 (by decide) ?_
    refine ry_callI (fun l r9 h9 => cm_X11_field l cx w x2 11 5 S r9 h9) (rd_runSN (vs := [.inl x2, .inl 11, .inl 5]) dX5_takeVariant_134 yf_X11_field mt_X11_field mn_RX5_36 ⟨Nat.le_of_ble_eq_true rfl, Nat.le_of_ble_eq_true rfl⟩ (Nat.le_of_ble_eq_true rfl) rfl) rfl rfl (Nat.le_of_ble_eq_true rfl) (Nat.le_of_ble_eq_true rfl) (fun v22 s21 => ?_)
    refine ry_iast dX5_takeVariant_137 hb20 ?_
    refine ry_letS (fun s23 => ?_)
    refine ry_aload_n dX5_takeVariant_138 rfl ?_
    refine ry_getr dX5_takeVariant_139 ha0 fl_RX5_11 rfl (fun b24 hb24 => ?_)
    refine ry_iconst (v := 3) dX5_takeVariant_142 (by decide) ?_
    refine ry_iload_n dX5_takeVariant_143 rfl ?_
    refine ry_iconst (v := 0) dX5_takeVariant_144 (by decide) ?_
    refine ry_iconst (v := 1) dX5_takeVariant_145 (by decide) ?_
    refine ry_callI (fun l r9 h9 => cm_X11_field l cx w x2 0 1 s23 r9 h9) (rd_runSN (vs := [.inl x2, .inl 0, .inl 1]) dX5_takeVariant_146 yf_X11_field mt_X11_field mn_RX5_36 ⟨Nat.le_of_ble_eq_true rfl, Nat.le_of_ble_eq_true rfl⟩ (Nat.le_of_ble_eq_true rfl) rfl) rfl rfl (Nat.le_of_ble_eq_true rfl) (Nat.le_of_ble_eq_true rfl) (fun v26 s25 => ?_)
    refine ry_iast dX5_takeVariant_149 hb24 ?_
    refine ry_letS (fun s27 => ?_)
    refine ry_goto 163 dX5_takeVariant_150 (by decide) ?_
    exact ry_to (yb_X5_takeVariant_163 cx w s27) trivial
  refine ry_split _ (fun c28 => ?_) (fun c28 => ?_)
  · refine ry_tsIn 153 14 c28 dX5_takeVariant_1 (by decide) (by decide) rfl (by decide) ?_
    refine ry_aload_n dX5_takeVariant_153 rfl ?_
    refine ry_getr dX5_takeVariant_154 ha0 fl_RX5_11 rfl (fun b29 hb29 => ?_)
    refine ry_iconst (v := 4) dX5_takeVariant_157 (by decide) ?_
    refine ry_iload_n dX5_takeVariant_158 rfl ?_
    refine ry_iast dX5_takeVariant_159 hb29 ?_
    refine ry_letS (fun s30 => ?_)
    refine ry_goto 163 dX5_takeVariant_160 (by decide) ?_
    exact ry_to (yb_X5_takeVariant_163 cx w s30) trivial
  refine ry_tsD 163 [(0, 0), (1, 1), (2, 2), (3, 3), (4, 4), (5, 5), (6, 6), (7, 7), (8, 8), (12, 12), (13, 13), (14, 14)] 15 dX5_takeVariant_1 (by decide) (by decide +kernel) (by decide +kernel) ⟨c1, c4, c5, c6, c7, c10, c13, c14, c15, c16, c19, c28, trivial⟩ (by decide) ?_
  exact ry_to (yb_X5_takeVariant_163 cx w S) trivial
theorem cm_X5_takeVariant (l : Launch) (cx : rd_Cx) (w : rd_W) (a0 : Nat) (x1 : Int32) (x2 : Int32) (ha0 : rd_ok w a0 5) (S : rd_S) (r : rd_S) (h : F_X5_takeVariant w a0 x1 x2 S = some r) : rd_M l cx yX5_takeVariant G_X5_takeVariant 0 [.inr (some a0), .inl x1, .inl x2] w S (rd_rV w r) :=
  rd_enter (plainFor_of_name (by decide +kernel)) rfl (fun h => by cases h) (Nat.le_of_ble_eq_true rfl) (ym_X5_takeVariant cx w a0 x1 x2 ha0 S r h)
abbrev G_X8_takeOther : rd_G := (RX8, cX8_takeOther, 5, none, false, { frames := 4, cells := 0, slots := 0, locals := 108 })
theorem yf_X8_takeOther : rd_YL yX8_takeOther G_X8_takeOther 3 := ⟨rd_mem 696 (by decide +kernel) rfl, rd_mem 67 (by decide +kernel) rfl, by decide +kernel, by decide +kernel, by decide +kernel⟩
theorem mi_X8_takeOther : Cond.instanceMethod yX8_takeOther ∈ rd_gw := rd_mem 695 (by decide +kernel) rfl
theorem ms_X8_takeOther : Cond.selects (MethodName.cls yX8_takeOther) yX8_takeOther yX8_takeOther ∈ rd_gw := rd_mem 31 (by decide +kernel) rfl
theorem dX8_takeOther_0 : decode cX8_takeOther 0 = .ok (.aload_n 1, 1) := by decide +kernel
theorem dX8_takeOther_1 : decode cX8_takeOther 1 = .ok (.iconst 3, 1) := by decide +kernel
theorem dX8_takeOther_2 : decode cX8_takeOther 2 = .ok (.invokevirtual 89, 3) := by decide +kernel
theorem dX8_takeOther_5 : decode cX8_takeOther 5 = .ok (.ifCond .ne 4, 3) := by decide +kernel
theorem dX8_takeOther_8 : decode cX8_takeOther 8 = .ok (.return_, 1) := by decide +kernel
theorem dX8_takeOther_9 : decode cX8_takeOther 9 = .ok (.aload_n 0, 1) := by decide +kernel
theorem dX8_takeOther_10 : decode cX8_takeOther 10 = .ok (.getfield 54, 3) := by decide +kernel
theorem dX8_takeOther_13 : decode cX8_takeOther 13 = .ok (.aload_n 1, 1) := by decide +kernel
theorem dX8_takeOther_14 : decode cX8_takeOther 14 = .ok (.iconst 3, 1) := by decide +kernel
theorem dX8_takeOther_15 : decode cX8_takeOther 15 = .ok (.invokevirtual 93, 3) := by decide +kernel
theorem dX8_takeOther_18 : decode cX8_takeOther 18 = .ok (.invokevirtual 164, 3) := by decide +kernel
theorem dX8_takeOther_21 : decode cX8_takeOther 21 = .ok (.astore 4, 2) := by decide +kernel
theorem dX8_takeOther_23 : decode cX8_takeOther 23 = .ok (.aload 4, 2) := by decide +kernel
theorem dX8_takeOther_25 : decode cX8_takeOther 25 = .ok (.ifnonnull 4, 3) := by decide +kernel
theorem dX8_takeOther_28 : decode cX8_takeOther 28 = .ok (.return_, 1) := by decide +kernel
theorem dX8_takeOther_29 : decode cX8_takeOther 29 = .ok (.aload 4, 2) := by decide +kernel
theorem dX8_takeOther_31 : decode cX8_takeOther 31 = .ok (.getfield 168, 3) := by decide +kernel
theorem dX8_takeOther_34 : decode cX8_takeOther 34 = .ok (.iconst 1, 1) := by decide +kernel
theorem dX8_takeOther_35 : decode cX8_takeOther 35 = .ok (.iload_n 2, 1) := by decide +kernel
theorem dX8_takeOther_36 : decode cX8_takeOther 36 = .ok (.iconst 4, 1) := by decide +kernel
theorem dX8_takeOther_37 : decode cX8_takeOther 37 = .ok (.iconst 1, 1) := by decide +kernel
theorem dX8_takeOther_38 : decode cX8_takeOther 38 = .ok (.invokestatic 97, 3) := by decide +kernel
theorem dX8_takeOther_41 : decode cX8_takeOther 41 = .ok (.iastore, 1) := by decide +kernel
theorem dX8_takeOther_42 : decode cX8_takeOther 42 = .ok (.iload_n 3, 1) := by decide +kernel
theorem dX8_takeOther_43 : decode cX8_takeOther 43 = .ok (.ifCond .ne 19, 3) := by decide +kernel
theorem dX8_takeOther_46 : decode cX8_takeOther 46 = .ok (.aload 4, 2) := by decide +kernel
theorem dX8_takeOther_48 : decode cX8_takeOther 48 = .ok (.getfield 168, 3) := by decide +kernel
theorem dX8_takeOther_51 : decode cX8_takeOther 51 = .ok (.iconst 3, 1) := by decide +kernel
theorem dX8_takeOther_52 : decode cX8_takeOther 52 = .ok (.iload_n 2, 1) := by decide +kernel
theorem dX8_takeOther_53 : decode cX8_takeOther 53 = .ok (.iconst 3, 1) := by decide +kernel
theorem dX8_takeOther_54 : decode cX8_takeOther 54 = .ok (.iconst 1, 1) := by decide +kernel
theorem dX8_takeOther_55 : decode cX8_takeOther 55 = .ok (.invokestatic 97, 3) := by decide +kernel
theorem dX8_takeOther_58 : decode cX8_takeOther 58 = .ok (.iastore, 1) := by decide +kernel
theorem dX8_takeOther_59 : decode cX8_takeOther 59 = .ok (.goto 27, 3) := by decide +kernel
theorem dX8_takeOther_62 : decode cX8_takeOther 62 = .ok (.aload_n 1, 1) := by decide +kernel
theorem dX8_takeOther_63 : decode cX8_takeOther 63 = .ok (.iconst 2, 1) := by decide +kernel
theorem dX8_takeOther_64 : decode cX8_takeOther 64 = .ok (.invokevirtual 89, 3) := by decide +kernel
theorem dX8_takeOther_67 : decode cX8_takeOther 67 = .ok (.ifCond .eq 19, 3) := by decide +kernel
theorem dX8_takeOther_70 : decode cX8_takeOther 70 = .ok (.aload 4, 2) := by decide +kernel
theorem dX8_takeOther_72 : decode cX8_takeOther 72 = .ok (.iload_n 2, 1) := by decide +kernel
theorem dX8_takeOther_73 : decode cX8_takeOther 73 = .ok (.iconst 0, 1) := by decide +kernel
theorem dX8_takeOther_74 : decode cX8_takeOther 74 = .ok (.iconst 4, 1) := by decide +kernel
theorem dX8_takeOther_75 : decode cX8_takeOther 75 = .ok (.invokestatic 97, 3) := by decide +kernel
theorem dX8_takeOther_78 : decode cX8_takeOther 78 = .ok (.aload_n 1, 1) := by decide +kernel
theorem dX8_takeOther_79 : decode cX8_takeOther 79 = .ok (.iconst 2, 1) := by decide +kernel
theorem dX8_takeOther_80 : decode cX8_takeOther 80 = .ok (.invokevirtual 93, 3) := by decide +kernel
theorem dX8_takeOther_83 : decode cX8_takeOther 83 = .ok (.invokevirtual 171, 3) := by decide +kernel
theorem dX8_takeOther_86 : decode cX8_takeOther 86 = .ok (.return_, 1) := by decide +kernel
def B_X8_takeOther_86 (w : rd_W) (S : rd_S) : Option (rd_S) :=
  some S
theorem yb_X8_takeOther_86 (cx : rd_Cx) (w : rd_W) (S : rd_S) : rd_Y cx G_X8_takeOther (fun r => rd_P cx G_X8_takeOther.2.2.2.2.2 0 w (rd_rV w r)) (B_X8_takeOther_86 w S) 86 [] [] w S 0 0 := by
  unfold B_X8_takeOther_86
  exact ry_vret dX8_takeOther_86 rfl (Nat.le_of_ble_eq_true rfl) (Nat.le_of_ble_eq_true rfl)
def F_X8_takeOther (w : rd_W) (a0 : Nat) (a1 : Nat) (x2 : Int32) (x3 : Int32) (S : rd_S) : Option (rd_S) :=
  rd_b (F_X3_knows w a1 3 S) fun v2 s1 =>
  if v2 = 0 then
  (some s1)
  else
  (rd_c (gR s1 a0 7) fun b4 =>
  rd_b (F_X3_what w a1 3 s1) fun v6 s5 =>
  rd_b (F_X6_find w b4 v6 s5) fun o8 s7 =>
  rd_m o8
  (some s7)
  (fun b9 =>
  rd_c (gR s7 b9 0) fun b11 =>
  rd_b (F_X11_field w x2 4 1 s7) fun v13 s12 =>
  rd_i 1 (w.2.2 b11) <|
  rd_let (pI s12 b11 (1 : Int32).toNatClampNeg v13) fun s14 =>
  if x3 = 0 then
  (rd_c (gR s14 b9 0) fun b16 =>
  rd_b (F_X11_field w x2 3 1 s14) fun v18 s17 =>
  rd_i 3 (w.2.2 b16) <|
  rd_let (pI s17 b16 (3 : Int32).toNatClampNeg v18) fun s19 =>
  B_X8_takeOther_86 w s19)
  else
  (rd_b (F_X3_knows w a1 2 s14) fun v21 s20 =>
  if v21 = 0 then
  (B_X8_takeOther_86 w s20)
  else
  (rd_b (F_X11_field w x2 0 4 s20) fun v24 s23 =>
  rd_b (F_X3_what w a1 2 s23) fun v26 s25 =>
  rd_c (F_X5_takeVariant w b9 v24 v26 s25) fun s27 =>
  B_X8_takeOther_86 w s27))))
theorem ym_X8_takeOther (cx : rd_Cx) (w : rd_W) (a0 : Nat) (a1 : Nat) (x2 : Int32) (x3 : Int32) (ha0 : rd_ok w a0 8) (ha1 : rd_ok w a1 3) (S : rd_S) : rd_Y cx G_X8_takeOther (fun r => rd_P cx G_X8_takeOther.2.2.2.2.2 0 w (rd_rV w r)) (F_X8_takeOther w a0 a1 x2 x3 S) 0 (rd_as 0 [.inr (some a0), .inr (some a1), .inl x2, .inl x3]) [] w S 0 0 := by
  unfold F_X8_takeOther
  refine ry_aload_n dX8_takeOther_0 rfl ?_
  refine ry_iconst (v := 3) dX8_takeOther_1 (by decide) ?_
  refine ry_callI (fun l r9 h9 => cm_X3_knows l cx w a1 3 ha1 S r9 h9) (rd_runV (vs := [.inl 3]) dX8_takeOther_2 ha1 rfl rfl yf_X3_knows mi_X3_knows ms_X3_knows ml_RX8_89 ⟨Nat.le_of_ble_eq_true rfl, Nat.le_of_ble_eq_true rfl⟩ (Nat.le_of_ble_eq_true rfl) rfl) rfl rfl (Nat.le_of_ble_eq_true rfl) (Nat.le_of_ble_eq_true rfl) (fun v2 s1 => ?_)
  refine ry_if_ne 9 dX8_takeOther_5 (by decide) (fun c3 => ?_) (fun c3 => ?_)
  · exact ry_vret dX8_takeOther_8 rfl (Nat.le_of_ble_eq_true rfl) (Nat.le_of_ble_eq_true rfl)
  · refine ry_aload_n dX8_takeOther_9 rfl ?_
    refine ry_getr dX8_takeOther_10 ha0 fl_RX8_54 rfl (fun b4 hb4 => ?_)
    refine ry_aload_n dX8_takeOther_13 rfl ?_
    refine ry_iconst (v := 3) dX8_takeOther_14 (by decide) ?_
    refine ry_callI (fun l r9 h9 => cm_X3_what l cx w a1 3 ha1 s1 r9 h9) (rd_runV (vs := [.inl 3]) dX8_takeOther_15 ha1 rfl rfl yf_X3_what mi_X3_what ms_X3_what ml_RX8_93 ⟨Nat.le_of_ble_eq_true rfl, Nat.le_of_ble_eq_true rfl⟩ (Nat.le_of_ble_eq_true rfl) rfl) rfl rfl (Nat.le_of_ble_eq_true rfl) (Nat.le_of_ble_eq_true rfl) (fun v6 s5 => ?_)
    refine ry_callR (fun l r9 h9 => cm_X6_find l cx w b4 v6 hb4 s5 r9 h9) (rd_runV (vs := [.inl v6]) dX8_takeOther_18 hb4 rfl rfl yf_X6_find mi_X6_find ms_X6_find ml_RX8_164 ⟨Nat.le_of_ble_eq_true rfl, Nat.le_of_ble_eq_true rfl⟩ (Nat.le_of_ble_eq_true rfl) rfl) rfl rfl (Nat.le_of_ble_eq_true rfl) (Nat.le_of_ble_eq_true rfl) (fun o8 s7 ho8 => ?_)
    refine ry_astore dX8_takeOther_21 (by decide) ?_
    refine ry_aload dX8_takeOther_23 rfl ?_
    refine ry_ifnonnull 29 dX8_takeOther_25 (by decide) (fun hb10 => ?_) (fun b9 hb10 => ?_)
    · subst hb10
      exact ry_vret dX8_takeOther_28 rfl (Nat.le_of_ble_eq_true rfl) (Nat.le_of_ble_eq_true rfl)
    · subst hb10
      refine ry_aload dX8_takeOther_29 rfl ?_
      refine ry_getr dX8_takeOther_31 (ho8 b9 rfl) fl_RX8_168 rfl (fun b11 hb11 => ?_)
      refine ry_iconst (v := 1) dX8_takeOther_34 (by decide) ?_
      refine ry_iload_n dX8_takeOther_35 rfl ?_
      refine ry_iconst (v := 4) dX8_takeOther_36 (by decide) ?_
      refine ry_iconst (v := 1) dX8_takeOther_37 (by decide) ?_
      refine ry_callI (fun l r9 h9 => cm_X11_field l cx w x2 4 1 s7 r9 h9) (rd_runSN (vs := [.inl x2, .inl 4, .inl 1]) dX8_takeOther_38 yf_X11_field mt_X11_field mn_RX8_97 ⟨Nat.le_of_ble_eq_true rfl, Nat.le_of_ble_eq_true rfl⟩ (Nat.le_of_ble_eq_true rfl) rfl) rfl rfl (Nat.le_of_ble_eq_true rfl) (Nat.le_of_ble_eq_true rfl) (fun v13 s12 => ?_)
      refine ry_iast dX8_takeOther_41 hb11 ?_
      refine ry_letS (fun s14 => ?_)
      refine ry_iload_n dX8_takeOther_42 rfl ?_
      refine ry_if_ne 62 dX8_takeOther_43 (by decide) (fun c15 => ?_) (fun c15 => ?_)
      · refine ry_aload dX8_takeOther_46 rfl ?_
        refine ry_getr dX8_takeOther_48 (ho8 b9 rfl) fl_RX8_168 rfl (fun b16 hb16 => ?_)
        refine ry_iconst (v := 3) dX8_takeOther_51 (by decide) ?_
        refine ry_iload_n dX8_takeOther_52 rfl ?_
        refine ry_iconst (v := 3) dX8_takeOther_53 (by decide) ?_
        refine ry_iconst (v := 1) dX8_takeOther_54 (by decide) ?_
        refine ry_callI (fun l r9 h9 => cm_X11_field l cx w x2 3 1 s14 r9 h9) (rd_runSN (vs := [.inl x2, .inl 3, .inl 1]) dX8_takeOther_55 yf_X11_field mt_X11_field mn_RX8_97 ⟨Nat.le_of_ble_eq_true rfl, Nat.le_of_ble_eq_true rfl⟩ (Nat.le_of_ble_eq_true rfl) rfl) rfl rfl (Nat.le_of_ble_eq_true rfl) (Nat.le_of_ble_eq_true rfl) (fun v18 s17 => ?_)
        refine ry_iast dX8_takeOther_58 hb16 ?_
        refine ry_letS (fun s19 => ?_)
        refine ry_goto 86 dX8_takeOther_59 (by decide) ?_
        exact ry_to (yb_X8_takeOther_86 cx w s19) trivial
      · refine ry_aload_n dX8_takeOther_62 rfl ?_
        refine ry_iconst (v := 2) dX8_takeOther_63 (by decide) ?_
        refine ry_callI (fun l r9 h9 => cm_X3_knows l cx w a1 2 ha1 s14 r9 h9) (rd_runV (vs := [.inl 2]) dX8_takeOther_64 ha1 rfl rfl yf_X3_knows mi_X3_knows ms_X3_knows ml_RX8_89 ⟨Nat.le_of_ble_eq_true rfl, Nat.le_of_ble_eq_true rfl⟩ (Nat.le_of_ble_eq_true rfl) rfl) rfl rfl (Nat.le_of_ble_eq_true rfl) (Nat.le_of_ble_eq_true rfl) (fun v21 s20 => ?_)
        refine ry_if_eq 86 dX8_takeOther_67 (by decide) (fun c22 => ?_) (fun c22 => ?_)
        · exact ry_to (yb_X8_takeOther_86 cx w s20) trivial
        · refine ry_aload dX8_takeOther_70 rfl ?_
          refine ry_iload_n dX8_takeOther_72 rfl ?_
          refine ry_iconst (v := 0) dX8_takeOther_73 (by decide) ?_
          refine ry_iconst (v := 4) dX8_takeOther_74 (by decide) ?_
          refine ry_callI (fun l r9 h9 => cm_X11_field l cx w x2 0 4 s20 r9 h9) (rd_runSN (vs := [.inl x2, .inl 0, .inl 4]) dX8_takeOther_75 yf_X11_field mt_X11_field mn_RX8_97 ⟨Nat.le_of_ble_eq_true rfl, Nat.le_of_ble_eq_true rfl⟩ (Nat.le_of_ble_eq_true rfl) rfl) rfl rfl (Nat.le_of_ble_eq_true rfl) (Nat.le_of_ble_eq_true rfl) (fun v24 s23 => ?_)
          refine ry_aload_n dX8_takeOther_78 rfl ?_
          refine ry_iconst (v := 2) dX8_takeOther_79 (by decide) ?_
          refine ry_callI (fun l r9 h9 => cm_X3_what l cx w a1 2 ha1 s23 r9 h9) (rd_runV (vs := [.inl 2]) dX8_takeOther_80 ha1 rfl rfl yf_X3_what mi_X3_what ms_X3_what ml_RX8_93 ⟨Nat.le_of_ble_eq_true rfl, Nat.le_of_ble_eq_true rfl⟩ (Nat.le_of_ble_eq_true rfl) rfl) rfl rfl (Nat.le_of_ble_eq_true rfl) (Nat.le_of_ble_eq_true rfl) (fun v26 s25 => ?_)
          refine ry_callv (fun l r9 h9 => cm_X5_takeVariant l cx w b9 v24 v26 (ho8 b9 rfl) s25 r9 h9) (rd_runV (vs := [.inl v24, .inl v26]) dX8_takeOther_83 (ho8 b9 rfl) rfl rfl yf_X5_takeVariant mi_X5_takeVariant ms_X5_takeVariant ml_RX8_171 ⟨Nat.le_of_ble_eq_true rfl, Nat.le_of_ble_eq_true rfl⟩ (Nat.le_of_ble_eq_true rfl) rfl) rfl rfl (Nat.le_of_ble_eq_true rfl) (Nat.le_of_ble_eq_true rfl) (fun s27 => ?_)
          exact ry_to (yb_X8_takeOther_86 cx w s27) trivial
theorem cm_X8_takeOther (l : Launch) (cx : rd_Cx) (w : rd_W) (a0 : Nat) (a1 : Nat) (x2 : Int32) (x3 : Int32) (ha0 : rd_ok w a0 8) (ha1 : rd_ok w a1 3) (S : rd_S) (r : rd_S) (h : F_X8_takeOther w a0 a1 x2 x3 S = some r) : rd_M l cx yX8_takeOther G_X8_takeOther 0 [.inr (some a0), .inr (some a1), .inl x2, .inl x3] w S (rd_rV w r) :=
  rd_enter (plainFor_of_name (by decide +kernel)) rfl (fun h => by cases h) (Nat.le_of_ble_eq_true rfl) (ym_X8_takeOther cx w a0 a1 x2 x3 ha0 ha1 S r h)
