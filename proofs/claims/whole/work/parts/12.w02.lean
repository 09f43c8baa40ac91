abbrev G_X2_clear : rd_G := (RX2, cX2_clear, 1, none, false, { frames := 0, cells := 0, slots := 0, locals := 0 })
theorem yf_X2_clear : rd_YL yX2_clear G_X2_clear 0 := ⟨rd_mem 535 (by decide +kernel) rfl, rd_mem 69 (by decide +kernel) rfl, by decide +kernel, by decide +kernel, by decide +kernel⟩
theorem mi_X2_clear : Cond.instanceMethod yX2_clear ∈ rd_gw := rd_mem 533 (by decide +kernel) rfl
theorem ms_X2_clear : Cond.selects (MethodName.cls yX2_clear) yX2_clear yX2_clear ∈ rd_gw := rd_mem 534 (by decide +kernel) rfl
theorem dX2_clear_0 : decode cX2_clear 0 = .ok (.aload_n 0, 1) := by decide +kernel
theorem dX2_clear_1 : decode cX2_clear 1 = .ok (.iconst 0, 1) := by decide +kernel
theorem dX2_clear_2 : decode cX2_clear 2 = .ok (.putfield 18, 3) := by decide +kernel
theorem dX2_clear_5 : decode cX2_clear 5 = .ok (.aload_n 0, 1) := by decide +kernel
theorem dX2_clear_6 : decode cX2_clear 6 = .ok (.iconst 0, 1) := by decide +kernel
theorem dX2_clear_7 : decode cX2_clear 7 = .ok (.putfield 22, 3) := by decide +kernel
theorem dX2_clear_10 : decode cX2_clear 10 = .ok (.aload_n 0, 1) := by decide +kernel
theorem dX2_clear_11 : decode cX2_clear 11 = .ok (.iconst 0, 1) := by decide +kernel
theorem dX2_clear_12 : decode cX2_clear 12 = .ok (.putfield 25, 3) := by decide +kernel
theorem dX2_clear_15 : decode cX2_clear 15 = .ok (.aload_n 0, 1) := by decide +kernel
theorem dX2_clear_16 : decode cX2_clear 16 = .ok (.iconst 0, 1) := by decide +kernel
theorem dX2_clear_17 : decode cX2_clear 17 = .ok (.putfield 29, 3) := by decide +kernel
theorem dX2_clear_20 : decode cX2_clear 20 = .ok (.return_, 1) := by decide +kernel
def F_X2_clear (w : rd_W) (a0 : Nat) (S : rd_S) : Option (rd_S) :=
  rd_let (pI S a0 2 0) fun s1 =>
  rd_let (pI s1 a0 3 0) fun s2 =>
  rd_let (pI s2 a0 6 0) fun s3 =>
  rd_let (pI s3 a0 7 0) fun s4 =>
  some s4
theorem ym_X2_clear (cx : rd_Cx) (w : rd_W) (a0 : Nat) (ha0 : rd_ok w a0 2) (S : rd_S) : rd_Y cx G_X2_clear (fun r => rd_P cx G_X2_clear.2.2.2.2.2 0 w (rd_rV w r)) (F_X2_clear w a0 S) 0 (rd_as 0 [.inr (some a0)]) [] w S 0 0 := by
  unfold F_X2_clear
  refine ry_aload_n dX2_clear_0 rfl ?_
  refine ry_iconst (v := 0) dX2_clear_1 (by decide) ?_
  refine ry_putz dX2_clear_2 ha0 fl_RX2_18 rfl rfl rfl (by decide) ?_
  refine ry_letS (fun s1 => ?_)
  refine ry_aload_n dX2_clear_5 rfl ?_
  refine ry_iconst (v := 0) dX2_clear_6 (by decide) ?_
  refine ry_putz dX2_clear_7 ha0 fl_RX2_22 rfl rfl rfl (by decide) ?_
  refine ry_letS (fun s2 => ?_)
  refine ry_aload_n dX2_clear_10 rfl ?_
  refine ry_iconst (v := 0) dX2_clear_11 (by decide) ?_
  refine ry_puti dX2_clear_12 ha0 fl_RX2_25 rfl rfl rfl ?_
  refine ry_letS (fun s3 => ?_)
  refine ry_aload_n dX2_clear_15 rfl ?_
  refine ry_iconst (v := 0) dX2_clear_16 (by decide) ?_
  refine ry_puti dX2_clear_17 ha0 fl_RX2_29 rfl rfl rfl ?_
  refine ry_letS (fun s4 => ?_)
  exact ry_vret dX2_clear_20 rfl (Nat.le_of_ble_eq_true rfl) (Nat.le_of_ble_eq_true rfl)
theorem cm_X2_clear (l : Launch) (cx : rd_Cx) (w : rd_W) (a0 : Nat) (ha0 : rd_ok w a0 2) (S : rd_S) (r : rd_S) (h : F_X2_clear w a0 S = some r) : rd_M l cx yX2_clear G_X2_clear 0 [.inr (some a0)] w S (rd_rV w r) :=
  rd_enter (plainFor_of_name (by decide +kernel)) rfl (fun h => by cases h) (Nat.le_of_ble_eq_true rfl) (ym_X2_clear cx w a0 ha0 S r h)
abbrev G_X0_clear : rd_G := (RX0, cX0_clear, 1, none, false, { frames := 0, cells := 0, slots := 0, locals := 0 })
theorem yf_X0_clear : rd_YL yX0_clear G_X0_clear 0 := ⟨rd_mem 539 (by decide +kernel) rfl, rd_mem 70 (by decide +kernel) rfl, by decide +kernel, by decide +kernel, by decide +kernel⟩
theorem mi_X0_clear : Cond.instanceMethod yX0_clear ∈ rd_gw := rd_mem 537 (by decide +kernel) rfl
theorem ms_X0_clear : Cond.selects (MethodName.cls yX0_clear) yX0_clear yX0_clear ∈ rd_gw := rd_mem 538 (by decide +kernel) rfl
theorem dX0_clear_0 : decode cX0_clear 0 = .ok (.aload_n 0, 1) := by decide +kernel
theorem dX0_clear_1 : decode cX0_clear 1 = .ok (.iconst 0, 1) := by decide +kernel
theorem dX0_clear_2 : decode cX0_clear 2 = .ok (.putfield 9, 3) := by decide +kernel
theorem dX0_clear_5 : decode cX0_clear 5 = .ok (.return_, 1) := by decide +kernel
def F_X0_clear (w : rd_W) (a0 : Nat) (S : rd_S) : Option (rd_S) :=
  rd_let (pI S a0 4 0) fun s1 =>
  some s1
theorem ym_X0_clear (cx : rd_Cx) (w : rd_W) (a0 : Nat) (ha0 : rd_ok w a0 0) (S : rd_S) : rd_Y cx G_X0_clear (fun r => rd_P cx G_X0_clear.2.2.2.2.2 0 w (rd_rV w r)) (F_X0_clear w a0 S) 0 (rd_as 0 [.inr (some a0)]) [] w S 0 0 := by
  unfold F_X0_clear
  refine ry_aload_n dX0_clear_0 rfl ?_
  refine ry_iconst (v := 0) dX0_clear_1 (by decide) ?_
  refine ry_puti dX0_clear_2 ha0 fl_RX0_9 rfl rfl rfl ?_
  refine ry_letS (fun s1 => ?_)
  exact ry_vret dX0_clear_5 rfl (Nat.le_of_ble_eq_true rfl) (Nat.le_of_ble_eq_true rfl)
theorem cm_X0_clear (l : Launch) (cx : rd_Cx) (w : rd_W) (a0 : Nat) (ha0 : rd_ok w a0 0) (S : rd_S) (r : rd_S) (h : F_X0_clear w a0 S = some r) : rd_M l cx yX0_clear G_X0_clear 0 [.inr (some a0)] w S (rd_rV w r) :=
  rd_enter (plainFor_of_name (by decide +kernel)) rfl (fun h => by cases h) (Nat.le_of_ble_eq_true rfl) (ym_X0_clear cx w a0 ha0 S r h)
abbrev G_X4_clear : rd_G := (RX4, cX4_clear, 1, none, false, { frames := 0, cells := 0, slots := 0, locals := 0 })
theorem yf_X4_clear : rd_YL yX4_clear G_X4_clear 0 := ⟨rd_mem 543 (by decide +kernel) rfl, rd_mem 71 (by decide +kernel) rfl, by decide +kernel, by decide +kernel, by decide +kernel⟩
theorem mi_X4_clear : Cond.instanceMethod yX4_clear ∈ rd_gw := rd_mem 541 (by decide +kernel) rfl
theorem ms_X4_clear : Cond.selects (MethodName.cls yX4_clear) yX4_clear yX4_clear ∈ rd_gw := rd_mem 542 (by decide +kernel) rfl
theorem dX4_clear_0 : decode cX4_clear 0 = .ok (.aload_n 0, 1) := by decide +kernel
theorem dX4_clear_1 : decode cX4_clear 1 = .ok (.iconst 0, 1) := by decide +kernel
theorem dX4_clear_2 : decode cX4_clear 2 = .ok (.putfield 21, 3) := by decide +kernel
theorem dX4_clear_5 : decode cX4_clear 5 = .ok (.return_, 1) := by decide +kernel
def F_X4_clear (w : rd_W) (a0 : Nat) (S : rd_S) : Option (rd_S) :=
  rd_let (pI S a0 3 0) fun s1 =>
  some s1
theorem ym_X4_clear (cx : rd_Cx) (w : rd_W) (a0 : Nat) (ha0 : rd_ok w a0 4) (S : rd_S) : rd_Y cx G_X4_clear (fun r => rd_P cx G_X4_clear.2.2.2.2.2 0 w (rd_rV w r)) (F_X4_clear w a0 S) 0 (rd_as 0 [.inr (some a0)]) [] w S 0 0 := by
  unfold F_X4_clear
  refine ry_aload_n dX4_clear_0 rfl ?_
  refine ry_iconst (v := 0) dX4_clear_1 (by decide) ?_
  refine ry_puti dX4_clear_2 ha0 fl_RX4_21 rfl rfl rfl ?_
  refine ry_letS (fun s1 => ?_)
  exact ry_vret dX4_clear_5 rfl (Nat.le_of_ble_eq_true rfl) (Nat.le_of_ble_eq_true rfl)
theorem cm_X4_clear (l : Launch) (cx : rd_Cx) (w : rd_W) (a0 : Nat) (ha0 : rd_ok w a0 4) (S : rd_S) (r : rd_S) (h : F_X4_clear w a0 S = some r) : rd_M l cx yX4_clear G_X4_clear 0 [.inr (some a0)] w S (rd_rV w r) :=
  rd_enter (plainFor_of_name (by decide +kernel)) rfl (fun h => by cases h) (Nat.le_of_ble_eq_true rfl) (ym_X4_clear cx w a0 ha0 S r h)
abbrev G_X6_clear : rd_G := (RX6, cX6_clear, 1, none, false, { frames := 0, cells := 0, slots := 0, locals := 0 })
theorem yf_X6_clear : rd_YL yX6_clear G_X6_clear 0 := ⟨rd_mem 547 (by decide +kernel) rfl, rd_mem 72 (by decide +kernel) rfl, by decide +kernel, by decide +kernel, by decide +kernel⟩
theorem mi_X6_clear : Cond.instanceMethod yX6_clear ∈ rd_gw := rd_mem 545 (by decide +kernel) rfl
theorem ms_X6_clear : Cond.selects (MethodName.cls yX6_clear) yX6_clear yX6_clear ∈ rd_gw := rd_mem 546 (by decide +kernel) rfl
theorem dX6_clear_0 : decode cX6_clear 0 = .ok (.aload_n 0, 1) := by decide +kernel
theorem dX6_clear_1 : decode cX6_clear 1 = .ok (.iconst 0, 1) := by decide +kernel
theorem dX6_clear_2 : decode cX6_clear 2 = .ok (.putfield 16, 3) := by decide +kernel
theorem dX6_clear_5 : decode cX6_clear 5 = .ok (.return_, 1) := by decide +kernel
def F_X6_clear (w : rd_W) (a0 : Nat) (S : rd_S) : Option (rd_S) :=
  rd_let (pI S a0 1 0) fun s1 =>
  some s1
theorem ym_X6_clear (cx : rd_Cx) (w : rd_W) (a0 : Nat) (ha0 : rd_ok w a0 6) (S : rd_S) : rd_Y cx G_X6_clear (fun r => rd_P cx G_X6_clear.2.2.2.2.2 0 w (rd_rV w r)) (F_X6_clear w a0 S) 0 (rd_as 0 [.inr (some a0)]) [] w S 0 0 := by
  unfold F_X6_clear
  refine ry_aload_n dX6_clear_0 rfl ?_
  refine ry_iconst (v := 0) dX6_clear_1 (by decide) ?_
  refine ry_puti dX6_clear_2 ha0 fl_RX6_16 rfl rfl rfl ?_
  refine ry_letS (fun s1 => ?_)
  exact ry_vret dX6_clear_5 rfl (Nat.le_of_ble_eq_true rfl) (Nat.le_of_ble_eq_true rfl)
theorem cm_X6_clear (l : Launch) (cx : rd_Cx) (w : rd_W) (a0 : Nat) (ha0 : rd_ok w a0 6) (S : rd_S) (r : rd_S) (h : F_X6_clear w a0 S = some r) : rd_M l cx yX6_clear G_X6_clear 0 [.inr (some a0)] w S (rd_rV w r) :=
  rd_enter (plainFor_of_name (by decide +kernel)) rfl (fun h => by cases h) (Nat.le_of_ble_eq_true rfl) (ym_X6_clear cx w a0 ha0 S r h)
abbrev G_X9_clear : rd_G := (RX9, cX9_clear, 1, none, false, { frames := 1, cells := 0, slots := 0, locals := 23 })
theorem yf_X9_clear : rd_YL yX9_clear G_X9_clear 0 := ⟨rd_mem 551 (by decide +kernel) rfl, rd_mem 74 (by decide +kernel) rfl, by decide +kernel, by decide +kernel, by decide +kernel⟩
theorem mi_X9_clear : Cond.instanceMethod yX9_clear ∈ rd_gw := rd_mem 549 (by decide +kernel) rfl
theorem ms_X9_clear : Cond.selects (MethodName.cls yX9_clear) yX9_clear yX9_clear ∈ rd_gw := rd_mem 550 (by decide +kernel) rfl
theorem dX9_clear_0 : decode cX9_clear 0 = .ok (.aload_n 0, 1) := by decide +kernel
theorem dX9_clear_1 : decode cX9_clear 1 = .ok (.getfield 11, 3) := by decide +kernel
theorem dX9_clear_4 : decode cX9_clear 4 = .ok (.iconst (-1), 1) := by decide +kernel
theorem dX9_clear_5 : decode cX9_clear 5 = .ok (.invokestatic 15, 3) := by decide +kernel
theorem dX9_clear_8 : decode cX9_clear 8 = .ok (.aload_n 0, 1) := by decide +kernel
theorem dX9_clear_9 : decode cX9_clear 9 = .ok (.iconst 0, 1) := by decide +kernel
theorem dX9_clear_10 : decode cX9_clear 10 = .ok (.putfield 21, 3) := by decide +kernel
theorem dX9_clear_13 : decode cX9_clear 13 = .ok (.return_, 1) := by decide +kernel
def F_X9_clear (w : rd_W) (a0 : Nat) (S : rd_S) : Option (rd_S) :=
  rd_c (gR S a0 0) fun b1 =>
  rd_c (F_J7_fill_53178 w b1 (-1) S) fun s2 =>
  rd_let (pI s2 a0 1 0) fun s3 =>
  some s3
theorem ym_X9_clear (cx : rd_Cx) (w : rd_W) (a0 : Nat) (ha0 : rd_ok w a0 9) (S : rd_S) : rd_Y cx G_X9_clear (fun r => rd_P cx G_X9_clear.2.2.2.2.2 0 w (rd_rV w r)) (F_X9_clear w a0 S) 0 (rd_as 0 [.inr (some a0)]) [] w S 0 0 := by
  unfold F_X9_clear
  refine ry_aload_n dX9_clear_0 rfl ?_
  refine ry_getr dX9_clear_1 ha0 fl_RX9_11 rfl (fun b1 hb1 => ?_)
  refine ry_iconst (v := (-1)) dX9_clear_4 (by decide) ?_
  refine ry_callv (fun l r9 h9 => cm_J7_fill_53178 l cx w b1 (-1) hb1 S r9 h9) (rd_runS (vs := [.inr (some b1), .inl (-1)]) dX9_clear_5 yf_J7_fill_53178 mt_J7_fill_53178 ml_RX9_15 ⟨Nat.le_of_ble_eq_true rfl, Nat.le_of_ble_eq_true rfl⟩ (Nat.le_of_ble_eq_true rfl) rfl) rfl rfl (Nat.le_of_ble_eq_true rfl) (Nat.le_of_ble_eq_true rfl) (fun s2 => ?_)
  refine ry_aload_n dX9_clear_8 rfl ?_
  refine ry_iconst (v := 0) dX9_clear_9 (by decide) ?_
  refine ry_puti dX9_clear_10 ha0 fl_RX9_21 rfl rfl rfl ?_
  refine ry_letS (fun s3 => ?_)
  exact ry_vret dX9_clear_13 rfl (Nat.le_of_ble_eq_true rfl) (Nat.le_of_ble_eq_true rfl)
theorem cm_X9_clear (l : Launch) (cx : rd_Cx) (w : rd_W) (a0 : Nat) (ha0 : rd_ok w a0 9) (S : rd_S) (r : rd_S) (h : F_X9_clear w a0 S = some r) : rd_M l cx yX9_clear G_X9_clear 0 [.inr (some a0)] w S (rd_rV w r) :=
  rd_enter (plainFor_of_name (by decide +kernel)) rfl (fun h => by cases h) (Nat.le_of_ble_eq_true rfl) (ym_X9_clear cx w a0 ha0 S r h)
abbrev G_X8_clear : rd_G := (RX8, cX8_clear, 1, none, false, { frames := 2, cells := 0, slots := 0, locals := 43 })
theorem yf_X8_clear : rd_YL yX8_clear G_X8_clear 0 := ⟨rd_mem 527 (by decide +kernel) rfl, rd_mem 67 (by decide +kernel) rfl, by decide +kernel, by decide +kernel, by decide +kernel⟩
theorem mi_X8_clear : Cond.instanceMethod yX8_clear ∈ rd_gw := rd_mem 525 (by decide +kernel) rfl
theorem ms_X8_clear : Cond.selects (MethodName.cls yX8_clear) yX8_clear yX8_clear ∈ rd_gw := rd_mem 526 (by decide +kernel) rfl
theorem dX8_clear_0 : decode cX8_clear 0 = .ok (.aload_n 0, 1) := by decide +kernel
theorem dX8_clear_1 : decode cX8_clear 1 = .ok (.getfield 11, 3) := by decide +kernel
theorem dX8_clear_4 : decode cX8_clear 4 = .ok (.iconst (-1), 1) := by decide +kernel
theorem dX8_clear_5 : decode cX8_clear 5 = .ok (.invokestatic 65, 3) := by decide +kernel
theorem dX8_clear_8 : decode cX8_clear 8 = .ok (.aload_n 0, 1) := by decide +kernel
theorem dX8_clear_9 : decode cX8_clear 9 = .ok (.getfield 20, 3) := by decide +kernel
theorem dX8_clear_12 : decode cX8_clear 12 = .ok (.invokevirtual 71, 3) := by decide +kernel
theorem dX8_clear_15 : decode cX8_clear 15 = .ok (.aload_n 0, 1) := by decide +kernel
theorem dX8_clear_16 : decode cX8_clear 16 = .ok (.getfield 24, 3) := by decide +kernel
theorem dX8_clear_19 : decode cX8_clear 19 = .ok (.invokevirtual 71, 3) := by decide +kernel
theorem dX8_clear_22 : decode cX8_clear 22 = .ok (.aload_n 0, 1) := by decide +kernel
theorem dX8_clear_23 : decode cX8_clear 23 = .ok (.getfield 27, 3) := by decide +kernel
theorem dX8_clear_26 : decode cX8_clear 26 = .ok (.invokevirtual 71, 3) := by decide +kernel
theorem dX8_clear_29 : decode cX8_clear 29 = .ok (.aload_n 0, 1) := by decide +kernel
theorem dX8_clear_30 : decode cX8_clear 30 = .ok (.getfield 33, 3) := by decide +kernel
theorem dX8_clear_33 : decode cX8_clear 33 = .ok (.invokevirtual 74, 3) := by decide +kernel
theorem dX8_clear_36 : decode cX8_clear 36 = .ok (.aload_n 0, 1) := by decide +kernel
theorem dX8_clear_37 : decode cX8_clear 37 = .ok (.getfield 40, 3) := by decide +kernel
theorem dX8_clear_40 : decode cX8_clear 40 = .ok (.invokevirtual 75, 3) := by decide +kernel
theorem dX8_clear_43 : decode cX8_clear 43 = .ok (.aload_n 0, 1) := by decide +kernel
theorem dX8_clear_44 : decode cX8_clear 44 = .ok (.getfield 47, 3) := by decide +kernel
theorem dX8_clear_47 : decode cX8_clear 47 = .ok (.invokevirtual 76, 3) := by decide +kernel
theorem dX8_clear_50 : decode cX8_clear 50 = .ok (.aload_n 0, 1) := by decide +kernel
theorem dX8_clear_51 : decode cX8_clear 51 = .ok (.getfield 54, 3) := by decide +kernel
theorem dX8_clear_54 : decode cX8_clear 54 = .ok (.invokevirtual 77, 3) := by decide +kernel
theorem dX8_clear_57 : decode cX8_clear 57 = .ok (.aload_n 0, 1) := by decide +kernel
theorem dX8_clear_58 : decode cX8_clear 58 = .ok (.getfield 61, 3) := by decide +kernel
theorem dX8_clear_61 : decode cX8_clear 61 = .ok (.invokevirtual 78, 3) := by decide +kernel
theorem dX8_clear_64 : decode cX8_clear 64 = .ok (.return_, 1) := by decide +kernel
def F_X8_clear (w : rd_W) (a0 : Nat) (S : rd_S) : Option (rd_S) :=
  rd_c (gR S a0 0) fun b1 =>
  rd_c (F_J7_fill_53178 w b1 (-1) S) fun s2 =>
  rd_c (gR s2 a0 1) fun b3 =>
  rd_c (F_X1_clear w b3 s2) fun s4 =>
  rd_c (gR s4 a0 2) fun b5 =>
  rd_c (F_X1_clear w b5 s4) fun s6 =>
  rd_c (gR s6 a0 3) fun b7 =>
  rd_c (F_X1_clear w b7 s6) fun s8 =>
  rd_c (gR s8 a0 4) fun b9 =>
  rd_c (F_X2_clear w b9 s8) fun s10 =>
  rd_c (gR s10 a0 5) fun b11 =>
  rd_c (F_X0_clear w b11 s10) fun s12 =>
  rd_c (gR s12 a0 6) fun b13 =>
  rd_c (F_X4_clear w b13 s12) fun s14 =>
  rd_c (gR s14 a0 7) fun b15 =>
  rd_c (F_X6_clear w b15 s14) fun s16 =>
  rd_c (gR s16 a0 8) fun b17 =>
  rd_c (F_X9_clear w b17 s16) fun s18 =>
  some s18
theorem ym_X8_clear (cx : rd_Cx) (w : rd_W) (a0 : Nat) (ha0 : rd_ok w a0 8) (S : rd_S) : rd_Y cx G_X8_clear (fun r => rd_P cx G_X8_clear.2.2.2.2.2 0 w (rd_rV w r)) (F_X8_clear w a0 S) 0 (rd_as 0 [.inr (some a0)]) [] w S 0 0 := by
  unfold F_X8_clear
  refine ry_aload_n dX8_clear_0 rfl ?_
  refine ry_getr dX8_clear_1 ha0 fl_RX8_11 rfl (fun b1 hb1 => ?_)
  refine ry_iconst (v := (-1)) dX8_clear_4 (by decide) ?_
  refine ry_callv (fun l r9 h9 => cm_J7_fill_53178 l cx w b1 (-1) hb1 S r9 h9) (rd_runS (vs := [.inr (some b1), .inl (-1)]) dX8_clear_5 yf_J7_fill_53178 mt_J7_fill_53178 ml_RX8_65 ⟨Nat.le_of_ble_eq_true rfl, Nat.le_of_ble_eq_true rfl⟩ (Nat.le_of_ble_eq_true rfl) rfl) rfl rfl (Nat.le_of_ble_eq_true rfl) (Nat.le_of_ble_eq_true rfl) (fun s2 => ?_)
  refine ry_aload_n dX8_clear_8 rfl ?_
  refine ry_getr dX8_clear_9 ha0 fl_RX8_20 rfl (fun b3 hb3 => ?_)
  refine ry_callv (fun l r9 h9 => cm_X1_clear l cx w b3 hb3 s2 r9 h9) (rd_runV (vs := []) dX8_clear_12 hb3 rfl rfl yf_X1_clear mi_X1_clear ms_X1_clear ml_RX8_71 ⟨Nat.le_of_ble_eq_true rfl, Nat.le_of_ble_eq_true rfl⟩ (Nat.le_of_ble_eq_true rfl) rfl) rfl rfl (Nat.le_of_ble_eq_true rfl) (Nat.le_of_ble_eq_true rfl) (fun s4 => ?_)
  refine ry_aload_n dX8_clear_15 rfl ?_
  refine ry_getr dX8_clear_16 ha0 fl_RX8_24 rfl (fun b5 hb5 => ?_)
  refine ry_callv (fun l r9 h9 => cm_X1_clear l cx w b5 hb5 s4 r9 h9) (rd_runV (vs := []) dX8_clear_19 hb5 rfl rfl yf_X1_clear mi_X1_clear ms_X1_clear ml_RX8_71 ⟨Nat.le_of_ble_eq_true rfl, Nat.le_of_ble_eq_true rfl⟩ (Nat.le_of_ble_eq_true rfl) rfl) rfl rfl (Nat.le_of_ble_eq_true rfl) (Nat.le_of_ble_eq_true rfl) (fun s6 => ?_)
  refine ry_aload_n dX8_clear_22 rfl ?_
  refine ry_getr dX8_clear_23 ha0 fl_RX8_27 rfl (fun b7 hb7 => ?_)
  refine ry_callv (fun l r9 h9 => cm_X1_clear l cx w b7 hb7 s6 r9 h9) (rd_runV (vs := []) dX8_clear_26 hb7 rfl rfl yf_X1_clear mi_X1_clear ms_X1_clear ml_RX8_71 ⟨Nat.le_of_ble_eq_true rfl, Nat.le_of_ble_eq_true rfl⟩ (Nat.le_of_ble_eq_true rfl) rfl) rfl rfl (Nat.le_of_ble_eq_true rfl) (Nat.le_of_ble_eq_true rfl) (fun s8 => ?_)
  refine ry_aload_n dX8_clear_29 rfl ?_
  refine ry_getr dX8_clear_30 ha0 fl_RX8_33 rfl (fun b9 hb9 => ?_)
  refine ry_callv (fun l r9 h9 => cm_X2_clear l cx w b9 hb9 s8 r9 h9) (rd_runV (vs := []) dX8_clear_33 hb9 rfl rfl yf_X2_clear mi_X2_clear ms_X2_clear ml_RX8_74 ⟨Nat.le_of_ble_eq_true rfl, Nat.le_of_ble_eq_true rfl⟩ (Nat.le_of_ble_eq_true rfl) rfl) rfl rfl (Nat.le_of_ble_eq_true rfl) (Nat.le_of_ble_eq_true rfl) (fun s10 => ?_)
  refine ry_aload_n dX8_clear_36 rfl ?_
  refine ry_getr dX8_clear_37 ha0 fl_RX8_40 rfl (fun b11 hb11 => ?_)
  refine ry_callv (fun l r9 h9 => cm_X0_clear l cx w b11 hb11 s10 r9 h9) (rd_runV (vs := []) dX8_clear_40 hb11 rfl rfl yf_X0_clear mi_X0_clear ms_X0_clear ml_RX8_75 ⟨Nat.le_of_ble_eq_true rfl, Nat.le_of_ble_eq_true rfl⟩ (Nat.le_of_ble_eq_true rfl) rfl) rfl rfl (Nat.le_of_ble_eq_true rfl) (Nat.le_of_ble_eq_true rfl) (fun s12 => ?_)
  refine ry_aload_n dX8_clear_43 rfl ?_
  refine ry_getr dX8_clear_44 ha0 fl_RX8_47 rfl (fun b13 hb13 => ?_)
  refine ry_callv (fun l r9 h9 => cm_X4_clear l cx w b13 hb13 s12 r9 h9) (rd_runV (vs := []) dX8_clear_47 hb13 rfl rfl yf_X4_clear mi_X4_clear ms_X4_clear ml_RX8_76 ⟨Nat.le_of_ble_eq_true rfl, Nat.le_of_ble_eq_true rfl⟩ (Nat.le_of_ble_eq_true rfl) rfl) rfl rfl (Nat.le_of_ble_eq_true rfl) (Nat.le_of_ble_eq_true rfl) (fun s14 => ?_)
  refine ry_aload_n dX8_clear_50 rfl ?_
  refine ry_getr dX8_clear_51 ha0 fl_RX8_54 rfl (fun b15 hb15 => ?_)
  refine ry_callv (fun l r9 h9 => cm_X6_clear l cx w b15 hb15 s14 r9 h9) (rd_runV (vs := []) dX8_clear_54 hb15 rfl rfl yf_X6_clear mi_X6_clear ms_X6_clear ml_RX8_77 ⟨Nat.le_of_ble_eq_true rfl, Nat.le_of_ble_eq_true rfl⟩ (Nat.le_of_ble_eq_true rfl) rfl) rfl rfl (Nat.le_of_ble_eq_true rfl) (Nat.le_of_ble_eq_true rfl) (fun s16 => ?_)
  refine ry_aload_n dX8_clear_57 rfl ?_
  refine ry_getr dX8_clear_58 ha0 fl_RX8_61 rfl (fun b17 hb17 => ?_)
  refine ry_callv (fun l r9 h9 => cm_X9_clear l cx w b17 hb17 s16 r9 h9) (rd_runV (vs := []) dX8_clear_61 hb17 rfl rfl yf_X9_clear mi_X9_clear ms_X9_clear ml_RX8_78 ⟨Nat.le_of_ble_eq_true rfl, Nat.le_of_ble_eq_true rfl⟩ (Nat.le_of_ble_eq_true rfl) rfl) rfl rfl (Nat.le_of_ble_eq_true rfl) (Nat.le_of_ble_eq_true rfl) (fun s18 => ?_)
  exact ry_vret dX8_clear_64 rfl (Nat.le_of_ble_eq_true rfl) (Nat.le_of_ble_eq_true rfl)
theorem cm_X8_clear (l : Launch) (cx : rd_Cx) (w : rd_W) (a0 : Nat) (ha0 : rd_ok w a0 8) (S : rd_S) (r : rd_S) (h : F_X8_clear w a0 S = some r) : rd_M l cx yX8_clear G_X8_clear 0 [.inr (some a0)] w S (rd_rV w r) :=
  rd_enter (plainFor_of_name (by decide +kernel)) rfl (fun h => by cases h) (Nat.le_of_ble_eq_true rfl) (ym_X8_clear cx w a0 ha0 S r h)
abbrev G_X8_takeIdentity : rd_G := (RX8, cX8_takeIdentity, 2, none, false, { frames := 3, cells := 0, slots := 0, locals := 63 })
theorem yf_X8_takeIdentity : rd_YL yX8_takeIdentity G_X8_takeIdentity 1 := ⟨rd_mem 523 (by decide +kernel) rfl, rd_mem 67 (by decide +kernel) rfl, by decide +kernel, by decide +kernel, by decide +kernel⟩
theorem mi_X8_takeIdentity : Cond.instanceMethod yX8_takeIdentity ∈ rd_gw := rd_mem 522 (by decide +kernel) rfl
theorem ms_X8_takeIdentity : Cond.selects (MethodName.cls yX8_takeIdentity) yX8_takeIdentity yX8_takeIdentity ∈ rd_gw := rd_mem 10 (by decide +kernel) rfl
theorem dX8_takeIdentity_0 : decode cX8_takeIdentity 0 = .ok (.iload_n 1, 1) := by decide +kernel
theorem dX8_takeIdentity_1 : decode cX8_takeIdentity 1 = .ok (.iconst (-1), 1) := by decide +kernel
theorem dX8_takeIdentity_2 : decode cX8_takeIdentity 2 = .ok (.if_icmp .ne 4, 3) := by decide +kernel
theorem dX8_takeIdentity_5 : decode cX8_takeIdentity 5 = .ok (.return_, 1) := by decide +kernel
theorem dX8_takeIdentity_6 : decode cX8_takeIdentity 6 = .ok (.aload_n 0, 1) := by decide +kernel
theorem dX8_takeIdentity_7 : decode cX8_takeIdentity 7 = .ok (.getfield 11, 3) := by decide +kernel
theorem dX8_takeIdentity_10 : decode cX8_takeIdentity 10 = .ok (.iconst 0, 1) := by decide +kernel
theorem dX8_takeIdentity_11 : decode cX8_takeIdentity 11 = .ok (.iaload, 1) := by decide +kernel
theorem dX8_takeIdentity_12 : decode cX8_takeIdentity 12 = .ok (.iconst (-1), 1) := by decide +kernel
theorem dX8_takeIdentity_13 : decode cX8_takeIdentity 13 = .ok (.if_icmp .eq 17, 3) := by decide +kernel
theorem dX8_takeIdentity_16 : decode cX8_takeIdentity 16 = .ok (.aload_n 0, 1) := by decide +kernel
theorem dX8_takeIdentity_17 : decode cX8_takeIdentity 17 = .ok (.getfield 11, 3) := by decide +kernel
theorem dX8_takeIdentity_20 : decode cX8_takeIdentity 20 = .ok (.iconst 0, 1) := by decide +kernel
theorem dX8_takeIdentity_21 : decode cX8_takeIdentity 21 = .ok (.iaload, 1) := by decide +kernel
theorem dX8_takeIdentity_22 : decode cX8_takeIdentity 22 = .ok (.iload_n 1, 1) := by decide +kernel
theorem dX8_takeIdentity_23 : decode cX8_takeIdentity 23 = .ok (.if_icmp .eq 7, 3) := by decide +kernel
theorem dX8_takeIdentity_26 : decode cX8_takeIdentity 26 = .ok (.aload_n 0, 1) := by decide +kernel
theorem dX8_takeIdentity_27 : decode cX8_takeIdentity 27 = .ok (.invokevirtual 141, 3) := by decide +kernel
theorem dX8_takeIdentity_30 : decode cX8_takeIdentity 30 = .ok (.aload_n 0, 1) := by decide +kernel
theorem dX8_takeIdentity_31 : decode cX8_takeIdentity 31 = .ok (.getfield 11, 3) := by decide +kernel
theorem dX8_takeIdentity_34 : decode cX8_takeIdentity 34 = .ok (.iconst 0, 1) := by decide +kernel
theorem dX8_takeIdentity_35 : decode cX8_takeIdentity 35 = .ok (.iload_n 1, 1) := by decide +kernel
theorem dX8_takeIdentity_36 : decode cX8_takeIdentity 36 = .ok (.iastore, 1) := by decide +kernel
theorem dX8_takeIdentity_37 : decode cX8_takeIdentity 37 = .ok (.return_, 1) := by decide +kernel
def B_X8_takeIdentity_30 (w : rd_W) (a0 : Nat) (x1 : Int32) (S : rd_S) : Option (rd_S) :=
  rd_c (gR S a0 0) fun b4 =>
  rd_i 0 (w.2.2 b4) <|
  rd_let (pI S b4 (0 : Int32).toNatClampNeg x1) fun s5 =>
  some s5
theorem yb_X8_takeIdentity_30 (cx : rd_Cx) (w : rd_W) (a0 : Nat) (x1 : Int32) (ha0 : rd_ok w a0 8) (S : rd_S) : rd_Y cx G_X8_takeIdentity (fun r => rd_P cx G_X8_takeIdentity.2.2.2.2.2 0 w (rd_rV w r)) (B_X8_takeIdentity_30 w a0 x1 S) 30 [(0, .inr (some a0)), (1, .inl x1)] [] w S 0 0 := by
  unfold B_X8_takeIdentity_30
  refine ry_aload_n dX8_takeIdentity_30 rfl ?_
  refine ry_getr dX8_takeIdentity_31 ha0 fl_RX8_11 rfl (fun b4 hb4 => ?_)
  refine ry_iconst (v := 0) dX8_takeIdentity_34 (by decide) ?_
  refine ry_iload_n dX8_takeIdentity_35 rfl ?_
  refine ry_iast dX8_takeIdentity_36 hb4 ?_
  refine ry_letS (fun s5 => ?_)
  exact ry_vret dX8_takeIdentity_37 rfl (Nat.le_of_ble_eq_true rfl) (Nat.le_of_ble_eq_true rfl)
def F_X8_takeIdentity (w : rd_W) (a0 : Nat) (x1 : Int32) (S : rd_S) : Option (rd_S) :=
  if x1 = (-1) then
  (some S)
  else
  (rd_c (gR S a0 0) fun b2 =>
  rd_i 0 (w.2.2 b2) <|
  if (gI S b2 (0 : Int32).toNatClampNeg) = (-1) then
  (B_X8_takeIdentity_30 w a0 x1 S)
  else
  (rd_c (gR S a0 0) fun b6 =>
  rd_i 0 (w.2.2 b6) <|
  if (gI S b6 (0 : Int32).toNatClampNeg) = x1 then
  (B_X8_takeIdentity_30 w a0 x1 S)
  else
  (rd_c (F_X8_clear w a0 S) fun s8 =>
  B_X8_takeIdentity_30 w a0 x1 s8)))
theorem ym_X8_takeIdentity (cx : rd_Cx) (w : rd_W) (a0 : Nat) (x1 : Int32) (ha0 : rd_ok w a0 8) (S : rd_S) : rd_Y cx G_X8_takeIdentity (fun r => rd_P cx G_X8_takeIdentity.2.2.2.2.2 0 w (rd_rV w r)) (F_X8_takeIdentity w a0 x1 S) 0 (rd_as 0 [.inr (some a0), .inl x1]) [] w S 0 0 := by
  unfold F_X8_takeIdentity
  refine ry_iload_n dX8_takeIdentity_0 rfl ?_
  refine ry_iconst (v := (-1)) dX8_takeIdentity_1 (by decide) ?_
  refine ry_icmp_ne 6 dX8_takeIdentity_2 (by decide) (fun c1 => ?_) (fun c1 => ?_)
  · exact ry_vret dX8_takeIdentity_5 rfl (Nat.le_of_ble_eq_true rfl) (Nat.le_of_ble_eq_true rfl)
  · refine ry_aload_n dX8_takeIdentity_6 rfl ?_
    refine ry_getr dX8_takeIdentity_7 ha0 fl_RX8_11 rfl (fun b2 hb2 => ?_)
    refine ry_iconst (v := 0) dX8_takeIdentity_10 (by decide) ?_
    refine ry_iald dX8_takeIdentity_11 hb2 ?_
    refine ry_iconst (v := (-1)) dX8_takeIdentity_12 (by decide) ?_
    refine ry_icmp_eq 30 dX8_takeIdentity_13 (by decide) (fun c3 => ?_) (fun c3 => ?_)
    · exact ry_to (yb_X8_takeIdentity_30 cx w a0 x1 ha0 S) ⟨rfl, rfl, trivial⟩
    · refine ry_aload_n dX8_takeIdentity_16 rfl ?_
      refine ry_getr dX8_takeIdentity_17 ha0 fl_RX8_11 rfl (fun b6 hb6 => ?_)
      refine ry_iconst (v := 0) dX8_takeIdentity_20 (by decide) ?_
      refine ry_iald dX8_takeIdentity_21 hb6 ?_
      refine ry_iload_n dX8_takeIdentity_22 rfl ?_
      refine ry_icmp_eq 30 dX8_takeIdentity_23 (by decide) (fun c7 => ?_) (fun c7 => ?_)
      · exact ry_to (yb_X8_takeIdentity_30 cx w a0 x1 ha0 S) ⟨rfl, rfl, trivial⟩
      · refine ry_aload_n dX8_takeIdentity_26 rfl ?_
        refine ry_callv (fun l r9 h9 => cm_X8_clear l cx w a0 ha0 S r9 h9) (rd_runV (vs := []) dX8_takeIdentity_27 ha0 rfl rfl yf_X8_clear mi_X8_clear ms_X8_clear ml_RX8_141 ⟨Nat.le_of_ble_eq_true rfl, Nat.le_of_ble_eq_true rfl⟩ (Nat.le_of_ble_eq_true rfl) rfl) rfl rfl (Nat.le_of_ble_eq_true rfl) (Nat.le_of_ble_eq_true rfl) (fun s8 => ?_)
        exact ry_to (yb_X8_takeIdentity_30 cx w a0 x1 ha0 s8) ⟨rfl, rfl, trivial⟩
theorem cm_X8_takeIdentity (l : Launch) (cx : rd_Cx) (w : rd_W) (a0 : Nat) (x1 : Int32) (ha0 : rd_ok w a0 8) (S : rd_S) (r : rd_S) (h : F_X8_takeIdentity w a0 x1 S = some r) : rd_M l cx yX8_takeIdentity G_X8_takeIdentity 0 [.inr (some a0), .inl x1] w S (rd_rV w r) :=
  rd_enter (plainFor_of_name (by decide +kernel)) rfl (fun h => by cases h) (Nat.le_of_ble_eq_true rfl) (ym_X8_takeIdentity cx w a0 x1 ha0 S r h)
abbrev G_X11_field : rd_G := (RX11, cX11_field, 3, (some .int), false, { frames := 0, cells := 0, slots := 0, locals := 0 })
theorem yf_X11_field : rd_YL yX11_field G_X11_field 3 := ⟨rd_mem 556 (by decide +kernel) rfl, rd_mem 62 (by decide +kernel) rfl, by decide +kernel, by decide +kernel, by decide +kernel⟩
theorem mt_X11_field : Cond.static yX11_field ∈ rd_gw := rd_mem 555 (by decide +kernel) rfl
theorem dX11_field_0 : decode cX11_field 0 = .ok (.iload_n 0, 1) := by decide +kernel
theorem dX11_field_1 : decode cX11_field 1 = .ok (.iload_n 1, 1) := by decide +kernel
theorem dX11_field_2 : decode cX11_field 2 = .ok (.iushr, 1) := by decide +kernel
theorem dX11_field_3 : decode cX11_field 3 = .ok (.iconst 1, 1) := by decide +kernel
theorem dX11_field_4 : decode cX11_field 4 = .ok (.iload_n 2, 1) := by decide +kernel
theorem dX11_field_5 : decode cX11_field 5 = .ok (.ishl, 1) := by decide +kernel
theorem dX11_field_6 : decode cX11_field 6 = .ok (.iconst 1, 1) := by decide +kernel
theorem dX11_field_7 : decode cX11_field 7 = .ok (.isub, 1) := by decide +kernel
theorem dX11_field_8 : decode cX11_field 8 = .ok (.iand, 1) := by decide +kernel
theorem dX11_field_9 : decode cX11_field 9 = .ok (.ireturn, 1) := by decide +kernel
def F_X11_field (w : rd_W) (x0 : Int32) (x1 : Int32) (x2 : Int32) (S : rd_S) : Option (Int32 × rd_S) :=
  some ((rd_ush x0 x1) &&& ((rd_shl 1 x2) - 1), S)
theorem ym_X11_field (cx : rd_Cx) (w : rd_W) (x0 : Int32) (x1 : Int32) (x2 : Int32) (S : rd_S) : rd_Y cx G_X11_field (fun r => rd_P cx G_X11_field.2.2.2.2.2 0 w (rd_rI w r)) (F_X11_field w x0 x1 x2 S) 0 (rd_as 0 [.inl x0, .inl x1, .inl x2]) [] w S 0 0 := by
  unfold F_X11_field
  refine ry_iload_n dX11_field_0 rfl ?_
  refine ry_iload_n dX11_field_1 rfl ?_
  refine ry_iushr dX11_field_2 ?_
  refine ry_iconst (v := 1) dX11_field_3 (by decide) ?_
  refine ry_iload_n dX11_field_4 rfl ?_
  refine ry_ishl dX11_field_5 ?_
  refine ry_iconst (v := 1) dX11_field_6 (by decide) ?_
  refine ry_isub dX11_field_7 ?_
  refine ry_iand dX11_field_8 ?_
  exact ry_iret dX11_field_9 rfl (Nat.le_of_ble_eq_true rfl) (Nat.le_of_ble_eq_true rfl)
theorem cm_X11_field (l : Launch) (cx : rd_Cx) (w : rd_W) (x0 : Int32) (x1 : Int32) (x2 : Int32) (S : rd_S) (r : Int32 × rd_S) (h : F_X11_field w x0 x1 x2 S = some r) : rd_M l cx yX11_field G_X11_field 0 [.inl x0, .inl x1, .inl x2] w S (rd_rI w r) :=
  rd_enter (plainFor_of_name (by decide +kernel)) rfl (fun h => by cases h) (Nat.le_of_ble_eq_true rfl) (ym_X11_field cx w x0 x1 x2 S r h)
abbrev G_X3_typeAndVersion : rd_G := (RX3, cX3_typeAndVersion, 1, (some .int), false, { frames := 1, cells := 0, slots := 0, locals := 21 })
theorem yf_X3_typeAndVersion : rd_YL yX3_typeAndVersion G_X3_typeAndVersion 0 := ⟨rd_mem 564 (by decide +kernel) rfl, rd_mem 64 (by decide +kernel) rfl, by decide +kernel, by decide +kernel, by decide +kernel⟩
theorem mi_X3_typeAndVersion : Cond.instanceMethod yX3_typeAndVersion ∈ rd_gw := rd_mem 562 (by decide +kernel) rfl
theorem ms_X3_typeAndVersion : Cond.selects (MethodName.cls yX3_typeAndVersion) yX3_typeAndVersion yX3_typeAndVersion ∈ rd_gw := rd_mem 563 (by decide +kernel) rfl
theorem dX3_typeAndVersion_0 : decode cX3_typeAndVersion 0 = .ok (.aload_n 0, 1) := by decide +kernel
theorem dX3_typeAndVersion_1 : decode cX3_typeAndVersion 1 = .ok (.iconst 1, 1) := by decide +kernel
theorem dX3_typeAndVersion_2 : decode cX3_typeAndVersion 2 = .ok (.invokevirtual 56, 3) := by decide +kernel
theorem dX3_typeAndVersion_5 : decode cX3_typeAndVersion 5 = .ok (.ifCond .eq 14, 3) := by decide +kernel
theorem dX3_typeAndVersion_8 : decode cX3_typeAndVersion 8 = .ok (.aload_n 0, 1) := by decide +kernel
theorem dX3_typeAndVersion_9 : decode cX3_typeAndVersion 9 = .ok (.iconst 1, 1) := by decide +kernel
theorem dX3_typeAndVersion_10 : decode cX3_typeAndVersion 10 = .ok (.invokevirtual 60, 3) := by decide +kernel
theorem dX3_typeAndVersion_13 : decode cX3_typeAndVersion 13 = .ok (.bipush 11, 2) := by decide +kernel
theorem dX3_typeAndVersion_15 : decode cX3_typeAndVersion 15 = .ok (.iushr, 1) := by decide +kernel
theorem dX3_typeAndVersion_16 : decode cX3_typeAndVersion 16 = .ok (.goto 4, 3) := by decide +kernel
theorem dX3_typeAndVersion_19 : decode cX3_typeAndVersion 19 = .ok (.iconst (-1), 1) := by decide +kernel
theorem dX3_typeAndVersion_20 : decode cX3_typeAndVersion 20 = .ok (.ireturn, 1) := by decide +kernel
def B_X3_typeAndVersion_20 (w : rd_W) (t0 : Int32) (S : rd_S) : Option (Int32 × rd_S) :=
  some (t0, S)
theorem yb_X3_typeAndVersion_20 (cx : rd_Cx) (w : rd_W) (t0 : Int32) (S : rd_S) : rd_Y cx G_X3_typeAndVersion (fun r => rd_P cx G_X3_typeAndVersion.2.2.2.2.2 0 w (rd_rI w r)) (B_X3_typeAndVersion_20 w t0 S) 20 [] [.inl t0] w S 0 0 := by
  unfold B_X3_typeAndVersion_20
  exact ry_iret dX3_typeAndVersion_20 rfl (Nat.le_of_ble_eq_true rfl) (Nat.le_of_ble_eq_true rfl)
def F_X3_typeAndVersion (w : rd_W) (a0 : Nat) (S : rd_S) : Option (Int32 × rd_S) :=
  rd_b (F_X3_knows w a0 1 S) fun v2 s1 =>
  if v2 = 0 then
  (B_X3_typeAndVersion_20 w (-1) s1)
  else
  (rd_b (F_X3_what w a0 1 s1) fun v5 s4 =>
  B_X3_typeAndVersion_20 w (rd_ush v5 11) s4)
theorem ym_X3_typeAndVersion (cx : rd_Cx) (w : rd_W) (a0 : Nat) (ha0 : rd_ok w a0 3) (S : rd_S) : rd_Y cx G_X3_typeAndVersion (fun r => rd_P cx G_X3_typeAndVersion.2.2.2.2.2 0 w (rd_rI w r)) (F_X3_typeAndVersion w a0 S) 0 (rd_as 0 [.inr (some a0)]) [] w S 0 0 := by
  unfold F_X3_typeAndVersion
  refine ry_aload_n dX3_typeAndVersion_0 rfl ?_
  refine ry_iconst (v := 1) dX3_typeAndVersion_1 (by decide) ?_
  refine ry_callI (fun l r9 h9 => cm_X3_knows l cx w a0 1 ha0 S r9 h9) (rd_runV (vs := [.inl 1]) dX3_typeAndVersion_2 ha0 rfl rfl yf_X3_knows mi_X3_knows ms_X3_knows ml_RX3_56 ⟨Nat.le_of_ble_eq_true rfl, Nat.le_of_ble_eq_true rfl⟩ (Nat.le_of_ble_eq_true rfl) rfl) rfl rfl (Nat.le_of_ble_eq_true rfl) (Nat.le_of_ble_eq_true rfl) (fun v2 s1 => ?_)
  refine ry_if_eq 19 dX3_typeAndVersion_5 (by decide) (fun c3 => ?_) (fun c3 => ?_)
  · refine ry_iconst (v := (-1)) dX3_typeAndVersion_19 (by decide) ?_
    exact ry_to (yb_X3_typeAndVersion_20 cx w (-1) s1) trivial
  · refine ry_aload_n dX3_typeAndVersion_8 rfl ?_
    refine ry_iconst (v := 1) dX3_typeAndVersion_9 (by decide) ?_
    refine ry_callI (fun l r9 h9 => cm_X3_what l cx w a0 1 ha0 s1 r9 h9) (rd_runV (vs := [.inl 1]) dX3_typeAndVersion_10 ha0 rfl rfl yf_X3_what mi_X3_what ms_X3_what ml_RX3_60 ⟨Nat.le_of_ble_eq_true rfl, Nat.le_of_ble_eq_true rfl⟩ (Nat.le_of_ble_eq_true rfl) rfl) rfl rfl (Nat.le_of_ble_eq_true rfl) (Nat.le_of_ble_eq_true rfl) (fun v5 s4 => ?_)
    refine ry_bipush (v := 11) dX3_typeAndVersion_13 (by decide) ?_
    refine ry_iushr dX3_typeAndVersion_15 ?_
    refine ry_goto 20 dX3_typeAndVersion_16 (by decide) ?_
    exact ry_to (yb_X3_typeAndVersion_20 cx w (rd_ush v5 11) s4) trivial
theorem cm_X3_typeAndVersion (l : Launch) (cx : rd_Cx) (w : rd_W) (a0 : Nat) (ha0 : rd_ok w a0 3) (S : rd_S) (r : Int32 × rd_S) (h : F_X3_typeAndVersion w a0 S = some r) : rd_M l cx yX3_typeAndVersion G_X3_typeAndVersion 0 [.inr (some a0)] w S (rd_rI w r) :=
  rd_enter (plainFor_of_name (by decide +kernel)) rfl (fun h => by cases h) (Nat.le_of_ble_eq_true rfl) (ym_X3_typeAndVersion cx w a0 ha0 S r h)
abbrev G_X4_indexOf : rd_G := (RX4, cX4_indexOf, 3, (some .int), false, { frames := 0, cells := 0, slots := 0, locals := 0 })
theorem yf_X4_indexOf : rd_YL yX4_indexOf G_X4_indexOf 1 := ⟨rd_mem 572 (by decide +kernel) rfl, rd_mem 71 (by decide +kernel) rfl, by decide +kernel, by decide +kernel, by decide +kernel⟩
theorem mi_X4_indexOf : Cond.instanceMethod yX4_indexOf ∈ rd_gw := rd_mem 571 (by decide +kernel) rfl
theorem ms_X4_indexOf : Cond.selects (MethodName.cls yX4_indexOf) yX4_indexOf yX4_indexOf ∈ rd_gw := rd_mem 12 (by decide +kernel) rfl
theorem dX4_indexOf_0 : decode cX4_indexOf 0 = .ok (.iconst 0, 1) := by decide +kernel
theorem dX4_indexOf_1 : decode cX4_indexOf 1 = .ok (.istore_n 2, 1) := by decide +kernel
theorem dX4_indexOf_2 : decode cX4_indexOf 2 = .ok (.iload_n 2, 1) := by decide +kernel
theorem dX4_indexOf_3 : decode cX4_indexOf 3 = .ok (.bipush 8, 2) := by decide +kernel
theorem dX4_indexOf_5 : decode cX4_indexOf 5 = .ok (.if_icmp .ge 29, 3) := by decide +kernel
theorem dX4_indexOf_8 : decode cX4_indexOf 8 = .ok (.iload_n 2, 1) := by decide +kernel
theorem dX4_indexOf_9 : decode cX4_indexOf 9 = .ok (.aload_n 0, 1) := by decide +kernel
theorem dX4_indexOf_10 : decode cX4_indexOf 10 = .ok (.getfield 21, 3) := by decide +kernel
theorem dX4_indexOf_13 : decode cX4_indexOf 13 = .ok (.if_icmp .ge 21, 3) := by decide +kernel
theorem dX4_indexOf_16 : decode cX4_indexOf 16 = .ok (.aload_n 0, 1) := by decide +kernel
theorem dX4_indexOf_17 : decode cX4_indexOf 17 = .ok (.getfield 11, 3) := by decide +kernel
theorem dX4_indexOf_20 : decode cX4_indexOf 20 = .ok (.iload_n 2, 1) := by decide +kernel
theorem dX4_indexOf_21 : decode cX4_indexOf 21 = .ok (.iaload, 1) := by decide +kernel
theorem dX4_indexOf_22 : decode cX4_indexOf 22 = .ok (.iload_n 1, 1) := by decide +kernel
theorem dX4_indexOf_23 : decode cX4_indexOf 23 = .ok (.if_icmp .ne 5, 3) := by decide +kernel
theorem dX4_indexOf_26 : decode cX4_indexOf 26 = .ok (.iload_n 2, 1) := by decide +kernel
theorem dX4_indexOf_27 : decode cX4_indexOf 27 = .ok (.ireturn, 1) := by decide +kernel
theorem dX4_indexOf_28 : decode cX4_indexOf 28 = .ok (.iinc 2 1, 3) := by decide +kernel
theorem dX4_indexOf_31 : decode cX4_indexOf 31 = .ok (.goto (-29), 3) := by decide +kernel
theorem dX4_indexOf_34 : decode cX4_indexOf 34 = .ok (.iconst (-1), 1) := by decide +kernel
theorem dX4_indexOf_35 : decode cX4_indexOf 35 = .ok (.ireturn, 1) := by decide +kernel
def B_X4_indexOf_34 (w : rd_W) (S : rd_S) : Option (Int32 × rd_S) :=
  some ((-1), S)
theorem yb_X4_indexOf_34 (cx : rd_Cx) (w : rd_W) (S : rd_S) : rd_Y cx G_X4_indexOf (fun r => rd_P cx G_X4_indexOf.2.2.2.2.2 0 w (rd_rI w r)) (B_X4_indexOf_34 w S) 34 [] [] w S 0 0 := by
  unfold B_X4_indexOf_34
  refine ry_iconst (v := (-1)) dX4_indexOf_34 (by decide) ?_
  exact ry_iret dX4_indexOf_35 rfl (Nat.le_of_ble_eq_true rfl) (Nat.le_of_ble_eq_true rfl)
def B_X4_indexOf_2 (w : rd_W) (k2 : Nat → Int32 → Int32 → rd_S → Option (Int32 × rd_S)) (a0 : Nat) (x1 : Int32) (x2 : Int32) (S : rd_S) : Option (Int32 × rd_S) :=
  if 8 ≤ x2 then
  (B_X4_indexOf_34 w S)
  else
  (if (gI S a0 3) ≤ x2 then
  (B_X4_indexOf_34 w S)
  else
  (rd_c (gR S a0 0) fun b3 =>
  rd_i x2 (w.2.2 b3) <|
  if (gI S b3 x2.toNatClampNeg) = x1 then
  (some (x2, S))
  else
  (rd_let (x2 + 1) fun v5 =>
  k2 a0 x1 v5 S)))
theorem yb_X4_indexOf_2 (cx : rd_Cx) (w : rd_W) {k2 : Nat → Int32 → Int32 → rd_S → Option (Int32 × rd_S)} (hk2 : ∀ (a0 : Nat) (x1 : Int32) (x2 : Int32) (ha0 : rd_ok w a0 4) (S : rd_S), rd_Y cx G_X4_indexOf (fun r => rd_P cx G_X4_indexOf.2.2.2.2.2 0 w (rd_rI w r)) (k2 a0 x1 x2 S) 2 [(0, .inr (some a0)), (1, .inl x1), (2, .inl x2)] [] w S 0 0) (a0 : Nat) (x1 : Int32) (x2 : Int32) (ha0 : rd_ok w a0 4) (S : rd_S) : rd_Y cx G_X4_indexOf (fun r => rd_P cx G_X4_indexOf.2.2.2.2.2 0 w (rd_rI w r)) (B_X4_indexOf_2 w k2 a0 x1 x2 S) 2 [(0, .inr (some a0)), (1, .inl x1), (2, .inl x2)] [] w S 0 0 := by
  unfold B_X4_indexOf_2
  refine ry_iload_n dX4_indexOf_2 rfl ?_
  refine ry_bipush (v := 8) dX4_indexOf_3 (by decide) ?_
  refine ry_icmp_ge 34 dX4_indexOf_5 (by decide) (fun c1 => ?_) (fun c1 => ?_)
  · exact ry_to (yb_X4_indexOf_34 cx w S) trivial
  · refine ry_iload_n dX4_indexOf_8 rfl ?_
    refine ry_aload_n dX4_indexOf_9 rfl ?_
    refine ry_geti dX4_indexOf_10 ha0 fl_RX4_21 rfl ?_
    refine ry_icmp_ge 34 dX4_indexOf_13 (by decide) (fun c2 => ?_) (fun c2 => ?_)
    · exact ry_to (yb_X4_indexOf_34 cx w S) trivial
    · refine ry_aload_n dX4_indexOf_16 rfl ?_
      refine ry_getr dX4_indexOf_17 ha0 fl_RX4_11 rfl (fun b3 hb3 => ?_)
      refine ry_iload_n dX4_indexOf_20 rfl ?_
      refine ry_iald dX4_indexOf_21 hb3 ?_
      refine ry_iload_n dX4_indexOf_22 rfl ?_
      refine ry_icmp_ne 28 dX4_indexOf_23 (by decide) (fun c4 => ?_) (fun c4 => ?_)
      · refine ry_iload_n dX4_indexOf_26 rfl ?_
        exact ry_iret dX4_indexOf_27 rfl (Nat.le_of_ble_eq_true rfl) (Nat.le_of_ble_eq_true rfl)
      · refine ry_iinc (v := 1) dX4_indexOf_28 rfl (by decide) (by decide) ?_
        refine ry_let (fun v5 => ?_)
        refine ry_goto 2 dX4_indexOf_31 (by decide) ?_
        exact ry_to (hk2 a0 x1 v5 ha0 S) ⟨rfl, rfl, rfl, trivial⟩
def F_X4_indexOf_2 (w : rd_W) (n : Nat) : Nat → Int32 → Int32 → rd_S → Option (Int32 × rd_S) :=
  Nat.rec (motive := fun _ => Nat → Int32 → Int32 → rd_S → Option (Int32 × rd_S)) (fun _ _ _ _ => none) (fun _ ih => B_X4_indexOf_2 w ih) n
theorem yl_X4_indexOf_2 (cx : rd_Cx) (w : rd_W) : ∀ (n : Nat) (a0 : Nat) (x1 : Int32) (x2 : Int32) (ha0 : rd_ok w a0 4) (S : rd_S), rd_Y cx G_X4_indexOf (fun r => rd_P cx G_X4_indexOf.2.2.2.2.2 0 w (rd_rI w r)) (F_X4_indexOf_2 w n a0 x1 x2 S) 2 [(0, .inr (some a0)), (1, .inl x1), (2, .inl x2)] [] w S 0 0 := by
  intro n
  induction n with
  | zero => intro a0 x1 x2 ha0 S; exact ry_none
  | succ n ih => intro a0 x1 x2 ha0 S; exact yb_X4_indexOf_2 cx w ih a0 x1 x2 ha0 S
def F_X4_indexOf (w : rd_W) (a0 : Nat) (x1 : Int32) (S : rd_S) : Option (Int32 × rd_S) :=
  F_X4_indexOf_2 w rd_big a0 x1 0 S
theorem ym_X4_indexOf (cx : rd_Cx) (w : rd_W) (a0 : Nat) (x1 : Int32) (ha0 : rd_ok w a0 4) (S : rd_S) : rd_Y cx G_X4_indexOf (fun r => rd_P cx G_X4_indexOf.2.2.2.2.2 0 w (rd_rI w r)) (F_X4_indexOf w a0 x1 S) 0 (rd_as 0 [.inr (some a0), .inl x1]) [] w S 0 0 := by
  unfold F_X4_indexOf
  refine ry_iconst (v := 0) dX4_indexOf_0 (by decide) ?_
  refine ry_istore_n dX4_indexOf_1 (by decide) ?_
  exact ry_to (yl_X4_indexOf_2 cx w rd_big a0 x1 0 ha0 S) ⟨rfl, rfl, rfl, trivial⟩
theorem cm_X4_indexOf (l : Launch) (cx : rd_Cx) (w : rd_W) (a0 : Nat) (x1 : Int32) (ha0 : rd_ok w a0 4) (S : rd_S) (r : Int32 × rd_S) (h : F_X4_indexOf w a0 x1 S = some r) : rd_M l cx yX4_indexOf G_X4_indexOf 0 [.inr (some a0), .inl x1] w S (rd_rI w r) :=
  rd_enter (plainFor_of_name (by decide +kernel)) rfl (fun h => by cases h) (Nat.le_of_ble_eq_true rfl) (ym_X4_indexOf cx w a0 x1 ha0 S r h)
abbrev G_X4_typeOf : rd_G := (RX4, cX4_typeOf, 2, (some .int), false, { frames := 1, cells := 0, slots := 0, locals := 22 })
theorem yf_X4_typeOf : rd_YL yX4_typeOf G_X4_typeOf 1 := ⟨rd_mem 568 (by decide +kernel) rfl, rd_mem 71 (by decide +kernel) rfl, by decide +kernel, by decide +kernel, by decide +kernel⟩
theorem mi_X4_typeOf : Cond.instanceMethod yX4_typeOf ∈ rd_gw := rd_mem 566 (by decide +kernel) rfl
theorem ms_X4_typeOf : Cond.selects (MethodName.cls yX4_typeOf) yX4_typeOf yX4_typeOf ∈ rd_gw := rd_mem 567 (by decide +kernel) rfl
theorem dX4_typeOf_0 : decode cX4_typeOf 0 = .ok (.aload_n 0, 1) := by decide +kernel
theorem dX4_typeOf_1 : decode cX4_typeOf 1 = .ok (.getfield 15, 3) := by decide +kernel
theorem dX4_typeOf_4 : decode cX4_typeOf 4 = .ok (.aload_n 0, 1) := by decide +kernel
theorem dX4_typeOf_5 : decode cX4_typeOf 5 = .ok (.iload_n 1, 1) := by decide +kernel
theorem dX4_typeOf_6 : decode cX4_typeOf 6 = .ok (.invokevirtual 25, 3) := by decide +kernel
theorem dX4_typeOf_9 : decode cX4_typeOf 9 = .ok (.invokestatic 39, 3) := by decide +kernel
theorem dX4_typeOf_12 : decode cX4_typeOf 12 = .ok (.ireturn, 1) := by decide +kernel
def F_X4_typeOf (w : rd_W) (a0 : Nat) (x1 : Int32) (S : rd_S) : Option (Int32 × rd_S) :=
  rd_c (gR S a0 1) fun b1 =>
  rd_b (F_X4_indexOf w a0 x1 S) fun v3 s2 =>
  rd_b (F_X11_at w b1 v3 s2) fun v5 s4 =>
  some (v5, s4)
theorem ym_X4_typeOf (cx : rd_Cx) (w : rd_W) (a0 : Nat) (x1 : Int32) (ha0 : rd_ok w a0 4) (S : rd_S) : rd_Y cx G_X4_typeOf (fun r => rd_P cx G_X4_typeOf.2.2.2.2.2 0 w (rd_rI w r)) (F_X4_typeOf w a0 x1 S) 0 (rd_as 0 [.inr (some a0), .inl x1]) [] w S 0 0 := by
  unfold F_X4_typeOf
  refine ry_aload_n dX4_typeOf_0 rfl ?_
  refine ry_getr dX4_typeOf_1 ha0 fl_RX4_15 rfl (fun b1 hb1 => ?_)
  refine ry_aload_n dX4_typeOf_4 rfl ?_
  refine ry_iload_n dX4_typeOf_5 rfl ?_
  refine ry_callI (fun l r9 h9 => cm_X4_indexOf l cx w a0 x1 ha0 S r9 h9) (rd_runV (vs := [.inl x1]) dX4_typeOf_6 ha0 rfl rfl yf_X4_indexOf mi_X4_indexOf ms_X4_indexOf ml_RX4_25 ⟨Nat.le_of_ble_eq_true rfl, Nat.le_of_ble_eq_true rfl⟩ (Nat.le_of_ble_eq_true rfl) rfl) rfl rfl (Nat.le_of_ble_eq_true rfl) (Nat.le_of_ble_eq_true rfl) (fun v3 s2 => ?_)
  refine ry_callI (fun l r9 h9 => cm_X11_at l cx w b1 v3 hb1 s2 r9 h9) (rd_runSN (vs := [.inr (some b1), .inl v3]) dX4_typeOf_9 yf_X11_at mt_X11_at mn_RX4_39 ⟨Nat.le_of_ble_eq_true rfl, Nat.le_of_ble_eq_true rfl⟩ (Nat.le_of_ble_eq_true rfl) rfl) rfl rfl (Nat.le_of_ble_eq_true rfl) (Nat.le_of_ble_eq_true rfl) (fun v5 s4 => ?_)
  exact ry_iret dX4_typeOf_12 rfl (Nat.le_of_ble_eq_true rfl) (Nat.le_of_ble_eq_true rfl)
theorem cm_X4_typeOf (l : Launch) (cx : rd_Cx) (w : rd_W) (a0 : Nat) (x1 : Int32) (ha0 : rd_ok w a0 4) (S : rd_S) (r : Int32 × rd_S) (h : F_X4_typeOf w a0 x1 S = some r) : rd_M l cx yX4_typeOf G_X4_typeOf 0 [.inr (some a0), .inl x1] w S (rd_rI w r) :=
  rd_enter (plainFor_of_name (by decide +kernel)) rfl (fun h => by cases h) (Nat.le_of_ble_eq_true rfl) (ym_X4_typeOf cx w a0 x1 ha0 S r h)
abbrev G_X3_knowsCAndD : rd_G := (RX3, cX3_knowsCAndD, 1, (some .boolean), false, { frames := 1, cells := 0, slots := 0, locals := 21 })
theorem yf_X3_knowsCAndD : rd_YL yX3_knowsCAndD G_X3_knowsCAndD 0 := ⟨rd_mem 577 (by decide +kernel) rfl, rd_mem 64 (by decide +kernel) rfl, by decide +kernel, by decide +kernel, by decide +kernel⟩
theorem mi_X3_knowsCAndD : Cond.instanceMethod yX3_knowsCAndD ∈ rd_gw := rd_mem 575 (by decide +kernel) rfl
theorem ms_X3_knowsCAndD : Cond.selects (MethodName.cls yX3_knowsCAndD) yX3_knowsCAndD yX3_knowsCAndD ∈ rd_gw := rd_mem 576 (by decide +kernel) rfl
theorem dX3_knowsCAndD_0 : decode cX3_knowsCAndD 0 = .ok (.aload_n 0, 1) := by decide +kernel
theorem dX3_knowsCAndD_1 : decode cX3_knowsCAndD 1 = .ok (.iconst 2, 1) := by decide +kernel
theorem dX3_knowsCAndD_2 : decode cX3_knowsCAndD 2 = .ok (.invokevirtual 56, 3) := by decide +kernel
theorem dX3_knowsCAndD_5 : decode cX3_knowsCAndD 5 = .ok (.ifCond .eq 15, 3) := by decide +kernel
theorem dX3_knowsCAndD_8 : decode cX3_knowsCAndD 8 = .ok (.aload_n 0, 1) := by decide +kernel
theorem dX3_knowsCAndD_9 : decode cX3_knowsCAndD 9 = .ok (.iconst 3, 1) := by decide +kernel
theorem dX3_knowsCAndD_10 : decode cX3_knowsCAndD 10 = .ok (.invokevirtual 56, 3) := by decide +kernel
theorem dX3_knowsCAndD_13 : decode cX3_knowsCAndD 13 = .ok (.ifCond .eq 7, 3) := by decide +kernel
theorem dX3_knowsCAndD_16 : decode cX3_knowsCAndD 16 = .ok (.iconst 1, 1) := by decide +kernel
theorem dX3_knowsCAndD_17 : decode cX3_knowsCAndD 17 = .ok (.goto 4, 3) := by decide +kernel
theorem dX3_knowsCAndD_20 : decode cX3_knowsCAndD 20 = .ok (.iconst 0, 1) := by decide +kernel
theorem dX3_knowsCAndD_21 : decode cX3_knowsCAndD 21 = .ok (.ireturn, 1) := by decide +kernel
def B_X3_knowsCAndD_21 (w : rd_W) (t0 : Int32) (S : rd_S) : Option (Int32 × rd_S) :=
  rd_z t0 <|
  some (t0, S)
theorem yb_X3_knowsCAndD_21 (cx : rd_Cx) (w : rd_W) (t0 : Int32) (S : rd_S) : rd_Y cx G_X3_knowsCAndD (fun r => rd_P cx G_X3_knowsCAndD.2.2.2.2.2 0 w (rd_rI w r)) (B_X3_knowsCAndD_21 w t0 S) 21 [] [.inl t0] w S 0 0 := by
  unfold B_X3_knowsCAndD_21
  refine ry_zg (fun z4 => ?_)
  exact ry_zret dX3_knowsCAndD_21 rfl z4 (Nat.le_of_ble_eq_true rfl) (Nat.le_of_ble_eq_true rfl)
def B_X3_knowsCAndD_20 (w : rd_W) (S : rd_S) : Option (Int32 × rd_S) :=
  B_X3_knowsCAndD_21 w 0 S
theorem yb_X3_knowsCAndD_20 (cx : rd_Cx) (w : rd_W) (S : rd_S) : rd_Y cx G_X3_knowsCAndD (fun r => rd_P cx G_X3_knowsCAndD.2.2.2.2.2 0 w (rd_rI w r)) (B_X3_knowsCAndD_20 w S) 20 [] [] w S 0 0 := by
  unfold B_X3_knowsCAndD_20
  refine ry_iconst (v := 0) dX3_knowsCAndD_20 (by decide) ?_
  exact ry_to (yb_X3_knowsCAndD_21 cx w 0 S) trivial
def F_X3_knowsCAndD (w : rd_W) (a0 : Nat) (S : rd_S) : Option (Int32 × rd_S) :=
  rd_b (F_X3_knows w a0 2 S) fun v2 s1 =>
  if v2 = 0 then
  (B_X3_knowsCAndD_20 w s1)
  else
  (rd_b (F_X3_knows w a0 3 s1) fun v6 s5 =>
  if v6 = 0 then
  (B_X3_knowsCAndD_20 w s5)
  else
  (B_X3_knowsCAndD_21 w 1 s5))
theorem ym_X3_knowsCAndD (cx : rd_Cx) (w : rd_W) (a0 : Nat) (ha0 : rd_ok w a0 3) (S : rd_S) : rd_Y cx G_X3_knowsCAndD (fun r => rd_P cx G_X3_knowsCAndD.2.2.2.2.2 0 w (rd_rI w r)) (F_X3_knowsCAndD w a0 S) 0 (rd_as 0 [.inr (some a0)]) [] w S 0 0 := by
  unfold F_X3_knowsCAndD
  refine ry_aload_n dX3_knowsCAndD_0 rfl ?_
  refine ry_iconst (v := 2) dX3_knowsCAndD_1 (by decide) ?_
  refine ry_callI (fun l r9 h9 => cm_X3_knows l cx w a0 2 ha0 S r9 h9) (rd_runV (vs := [.inl 2]) dX3_knowsCAndD_2 ha0 rfl rfl yf_X3_knows mi_X3_knows ms_X3_knows ml_RX3_56 ⟨Nat.le_of_ble_eq_true rfl, Nat.le_of_ble_eq_true rfl⟩ (Nat.le_of_ble_eq_true rfl) rfl) rfl rfl (Nat.le_of_ble_eq_true rfl) (Nat.le_of_ble_eq_true rfl) (fun v2 s1 => ?_)
  refine ry_if_eq 20 dX3_knowsCAndD_5 (by decide) (fun c3 => ?_) (fun c3 => ?_)
  · exact ry_to (yb_X3_knowsCAndD_20 cx w s1) trivial
  · refine ry_aload_n dX3_knowsCAndD_8 rfl ?_
    refine ry_iconst (v := 3) dX3_knowsCAndD_9 (by decide) ?_
    refine ry_callI (fun l r9 h9 => cm_X3_knows l cx w a0 3 ha0 s1 r9 h9) (rd_runV (vs := [.inl 3]) dX3_knowsCAndD_10 ha0 rfl rfl yf_X3_knows mi_X3_knows ms_X3_knows ml_RX3_56 ⟨Nat.le_of_ble_eq_true rfl, Nat.le_of_ble_eq_true rfl⟩ (Nat.le_of_ble_eq_true rfl) rfl) rfl rfl (Nat.le_of_ble_eq_true rfl) (Nat.le_of_ble_eq_true rfl) (fun v6 s5 => ?_)
    refine ry_if_eq 20 dX3_knowsCAndD_13 (by decide) (fun c7 => ?_) (fun c7 => ?_)
    · exact ry_to (yb_X3_knowsCAndD_20 cx w s5) trivial
    · refine ry_iconst (v := 1) dX3_knowsCAndD_16 (by decide) ?_
      refine ry_goto 21 dX3_knowsCAndD_17 (by decide) ?_
      exact ry_to (yb_X3_knowsCAndD_21 cx w 1 s5) trivial
theorem cm_X3_knowsCAndD (l : Launch) (cx : rd_Cx) (w : rd_W) (a0 : Nat) (ha0 : rd_ok w a0 3) (S : rd_S) (r : Int32 × rd_S) (h : F_X3_knowsCAndD w a0 S = some r) : rd_M l cx yX3_knowsCAndD G_X3_knowsCAndD 0 [.inr (some a0)] w S (rd_rI w r) :=
  rd_enter (plainFor_of_name (by decide +kernel)) rfl (fun h => by cases h) (Nat.le_of_ble_eq_true rfl) (ym_X3_knowsCAndD cx w a0 ha0 S r h)
abbrev G_X8_bearsTags : rd_G := (RX8, cX8_bearsTags, 3, (some .boolean), false, { frames := 2, cells := 0, slots := 0, locals := 43 })
theorem yf_X8_bearsTags : rd_YL yX8_bearsTags G_X8_bearsTags 1 := ⟨rd_mem 560 (by decide +kernel) rfl, rd_mem 67 (by decide +kernel) rfl, by decide +kernel, by decide +kernel, by decide +kernel⟩
theorem mi_X8_bearsTags : Cond.instanceMethod yX8_bearsTags ∈ rd_gw := rd_mem 559 (by decide +kernel) rfl
theorem ms_X8_bearsTags : Cond.selects (MethodName.cls yX8_bearsTags) yX8_bearsTags yX8_bearsTags ∈ rd_gw := rd_mem 11 (by decide +kernel) rfl
theorem dX8_bearsTags_0 : decode cX8_bearsTags 0 = .ok (.aload_n 1, 1) := by decide +kernel
theorem dX8_bearsTags_1 : decode cX8_bearsTags 1 = .ok (.invokevirtual 108, 3) := by decide +kernel
theorem dX8_bearsTags_4 : decode cX8_bearsTags 4 = .ok (.istore_n 2, 1) := by decide +kernel
theorem dX8_bearsTags_5 : decode cX8_bearsTags 5 = .ok (.iload_n 2, 1) := by decide +kernel
theorem dX8_bearsTags_6 : decode cX8_bearsTags 6 = .ok (.iconst 1, 1) := by decide +kernel
theorem dX8_bearsTags_7 : decode cX8_bearsTags 7 = .ok (.iand, 1) := by decide +kernel
theorem dX8_bearsTags_8 : decode cX8_bearsTags 8 = .ok (.ifCond .ne 28, 3) := by decide +kernel
theorem dX8_bearsTags_11 : decode cX8_bearsTags 11 = .ok (.iload_n 2, 1) := by decide +kernel
theorem dX8_bearsTags_12 : decode cX8_bearsTags 12 = .ok (.aload_n 0, 1) := by decide +kernel
theorem dX8_bearsTags_13 : decode cX8_bearsTags 13 = .ok (.getfield 47, 3) := by decide +kernel
theorem dX8_bearsTags_16 : decode cX8_bearsTags 16 = .ok (.sipush 19415, 3) := by decide +kernel
theorem dX8_bearsTags_19 : decode cX8_bearsTags 19 = .ok (.invokevirtual 142, 3) := by decide +kernel
theorem dX8_bearsTags_22 : decode cX8_bearsTags 22 = .ok (.if_icmp .ne 14, 3) := by decide +kernel
theorem dX8_bearsTags_25 : decode cX8_bearsTags 25 = .ok (.aload_n 1, 1) := by decide +kernel
theorem dX8_bearsTags_26 : decode cX8_bearsTags 26 = .ok (.invokevirtual 145, 3) := by decide +kernel
theorem dX8_bearsTags_29 : decode cX8_bearsTags 29 = .ok (.ifCond .eq 7, 3) := by decide +kernel
theorem dX8_bearsTags_32 : decode cX8_bearsTags 32 = .ok (.iconst 1, 1) := by decide +kernel
theorem dX8_bearsTags_33 : decode cX8_bearsTags 33 = .ok (.goto 4, 3) := by decide +kernel
theorem dX8_bearsTags_36 : decode cX8_bearsTags 36 = .ok (.iconst 0, 1) := by decide +kernel
theorem dX8_bearsTags_37 : decode cX8_bearsTags 37 = .ok (.ireturn, 1) := by decide +kernel
def B_X8_bearsTags_37 (w : rd_W) (t0 : Int32) (S : rd_S) : Option (Int32 × rd_S) :=
  rd_z t0 <|
  some (t0, S)
theorem yb_X8_bearsTags_37 (cx : rd_Cx) (w : rd_W) (t0 : Int32) (S : rd_S) : rd_Y cx G_X8_bearsTags (fun r => rd_P cx G_X8_bearsTags.2.2.2.2.2 0 w (rd_rI w r)) (B_X8_bearsTags_37 w t0 S) 37 [] [.inl t0] w S 0 0 := by
  unfold B_X8_bearsTags_37
  refine ry_zg (fun z11 => ?_)
  exact ry_zret dX8_bearsTags_37 rfl z11 (Nat.le_of_ble_eq_true rfl) (Nat.le_of_ble_eq_true rfl)
def B_X8_bearsTags_36 (w : rd_W) (S : rd_S) : Option (Int32 × rd_S) :=
  B_X8_bearsTags_37 w 0 S
theorem yb_X8_bearsTags_36 (cx : rd_Cx) (w : rd_W) (S : rd_S) : rd_Y cx G_X8_bearsTags (fun r => rd_P cx G_X8_bearsTags.2.2.2.2.2 0 w (rd_rI w r)) (B_X8_bearsTags_36 w S) 36 [] [] w S 0 0 := by
  unfold B_X8_bearsTags_36
  refine ry_iconst (v := 0) dX8_bearsTags_36 (by decide) ?_
  exact ry_to (yb_X8_bearsTags_37 cx w 0 S) trivial
def F_X8_bearsTags (w : rd_W) (a0 : Nat) (a1 : Nat) (S : rd_S) : Option (Int32 × rd_S) :=
  rd_b (F_X3_typeAndVersion w a1 S) fun v2 s1 =>
  if (v2 &&& 1) = 0 then
  (rd_c (gR s1 a0 6) fun b4 =>
  rd_b (F_X4_typeOf w b4 19415 s1) fun v6 s5 =>
  if v2 = v6 then
  (rd_b (F_X3_knowsCAndD w a1 s5) fun v9 s8 =>
  if v9 = 0 then
  (B_X8_bearsTags_36 w s8)
  else
  (B_X8_bearsTags_37 w 1 s8))
  else
  (B_X8_bearsTags_36 w s5))
  else
  (B_X8_bearsTags_36 w s1)
theorem ym_X8_bearsTags (cx : rd_Cx) (w : rd_W) (a0 : Nat) (a1 : Nat) (ha0 : rd_ok w a0 8) (ha1 : rd_ok w a1 3) (S : rd_S) : rd_Y cx G_X8_bearsTags (fun r => rd_P cx G_X8_bearsTags.2.2.2.2.2 0 w (rd_rI w r)) (F_X8_bearsTags w a0 a1 S) 0 (rd_as 0 [.inr (some a0), .inr (some a1)]) [] w S 0 0 := by
  unfold F_X8_bearsTags
  refine ry_aload_n dX8_bearsTags_0 rfl ?_
  refine ry_callI (fun l r9 h9 => cm_X3_typeAndVersion l cx w a1 ha1 S r9 h9) (rd_runV (vs := []) dX8_bearsTags_1 ha1 rfl rfl yf_X3_typeAndVersion mi_X3_typeAndVersion ms_X3_typeAndVersion ml_RX8_108 ⟨Nat.le_of_ble_eq_true rfl, Nat.le_of_ble_eq_true rfl⟩ (Nat.le_of_ble_eq_true rfl) rfl) rfl rfl (Nat.le_of_ble_eq_true rfl) (Nat.le_of_ble_eq_true rfl) (fun v2 s1 => ?_)
  refine ry_istore_n dX8_bearsTags_4 (by decide) ?_
  refine ry_iload_n dX8_bearsTags_5 rfl ?_
  refine ry_iconst (v := 1) dX8_bearsTags_6 (by decide) ?_
  refine ry_iand dX8_bearsTags_7 ?_
  refine ry_if_ne 36 dX8_bearsTags_8 (by decide) (fun c3 => ?_) (fun c3 => ?_)
  · refine ry_iload_n dX8_bearsTags_11 rfl ?_
    refine ry_aload_n dX8_bearsTags_12 rfl ?_
    refine ry_getr dX8_bearsTags_13 ha0 fl_RX8_47 rfl (fun b4 hb4 => ?_)
    refine ry_sipush (v := 19415) dX8_bearsTags_16 (by decide) ?_
    refine ry_callI (fun l r9 h9 => cm_X4_typeOf l cx w b4 19415 hb4 s1 r9 h9) (rd_runV (vs := [.inl 19415]) dX8_bearsTags_19 hb4 rfl rfl yf_X4_typeOf mi_X4_typeOf ms_X4_typeOf ml_RX8_142 ⟨Nat.le_of_ble_eq_true rfl, Nat.le_of_ble_eq_true rfl⟩ (Nat.le_of_ble_eq_true rfl) rfl) rfl rfl (Nat.le_of_ble_eq_true rfl) (Nat.le_of_ble_eq_true rfl) (fun v6 s5 => ?_)
    refine ry_icmp_ne 36 dX8_bearsTags_22 (by decide) (fun c7 => ?_) (fun c7 => ?_)
    · refine ry_aload_n dX8_bearsTags_25 rfl ?_
      refine ry_callI (fun l r9 h9 => cm_X3_knowsCAndD l cx w a1 ha1 s5 r9 h9) (rd_runV (vs := []) dX8_bearsTags_26 ha1 rfl rfl yf_X3_knowsCAndD mi_X3_knowsCAndD ms_X3_knowsCAndD ml_RX8_145 ⟨Nat.le_of_ble_eq_true rfl, Nat.le_of_ble_eq_true rfl⟩ (Nat.le_of_ble_eq_true rfl) rfl) rfl rfl (Nat.le_of_ble_eq_true rfl) (Nat.le_of_ble_eq_true rfl) (fun v9 s8 => ?_)
      refine ry_if_eq 36 dX8_bearsTags_29 (by decide) (fun c10 => ?_) (fun c10 => ?_)
      · exact ry_to (yb_X8_bearsTags_36 cx w s8) trivial
      · refine ry_iconst (v := 1) dX8_bearsTags_32 (by decide) ?_
        refine ry_goto 37 dX8_bearsTags_33 (by decide) ?_
        exact ry_to (yb_X8_bearsTags_37 cx w 1 s8) trivial
    · exact ry_to (yb_X8_bearsTags_36 cx w s5) trivial
  · exact ry_to (yb_X8_bearsTags_36 cx w s1) trivial
theorem cm_X8_bearsTags (l : Launch) (cx : rd_Cx) (w : rd_W) (a0 : Nat) (a1 : Nat) (ha0 : rd_ok w a0 8) (ha1 : rd_ok w a1 3) (S : rd_S) (r : Int32 × rd_S) (h : F_X8_bearsTags w a0 a1 S = some r) : rd_M l cx yX8_bearsTags G_X8_bearsTags 0 [.inr (some a0), .inr (some a1)] w S (rd_rI w r) :=
  rd_enter (plainFor_of_name (by decide +kernel)) rfl (fun h => by cases h) (Nat.le_of_ble_eq_true rfl) (ym_X8_bearsTags cx w a0 a1 ha0 ha1 S r h)
abbrev G_X9_take : rd_G := (RX9, cX9_take, 4, none, false, { frames := 1, cells := 0, slots := 0, locals := 22 })
theorem yf_X9_take : rd_YL yX9_take G_X9_take 3 := ⟨rd_mem 581 (by decide +kernel) rfl, rd_mem 74 (by decide +kernel) rfl, by decide +kernel, by decide +kernel, by decide +kernel⟩
theorem mi_X9_take : Cond.instanceMethod yX9_take ∈ rd_gw := rd_mem 579 (by decide +kernel) rfl
theorem ms_X9_take : Cond.selects (MethodName.cls yX9_take) yX9_take yX9_take ∈ rd_gw := rd_mem 580 (by decide +kernel) rfl
theorem dX9_take_0 : decode cX9_take 0 = .ok (.aload_n 0, 1) := by decide +kernel
theorem dX9_take_1 : decode cX9_take 1 = .ok (.getfield 11, 3) := by decide +kernel
theorem dX9_take_4 : decode cX9_take 4 = .ok (.iconst 0, 1) := by decide +kernel
theorem dX9_take_5 : decode cX9_take 5 = .ok (.iload_n 1, 1) := by decide +kernel
theorem dX9_take_6 : decode cX9_take 6 = .ok (.iconst 4, 1) := by decide +kernel
theorem dX9_take_7 : decode cX9_take 7 = .ok (.iconst 1, 1) := by decide +kernel
theorem dX9_take_8 : decode cX9_take 8 = .ok (.invokestatic 25, 3) := by decide +kernel
theorem dX9_take_11 : decode cX9_take 11 = .ok (.iastore, 1) := by decide +kernel
theorem dX9_take_12 : decode cX9_take 12 = .ok (.aload_n 0, 1) := by decide +kernel
theorem dX9_take_13 : decode cX9_take 13 = .ok (.getfield 11, 3) := by decide +kernel
theorem dX9_take_16 : decode cX9_take 16 = .ok (.iconst 1, 1) := by decide +kernel
theorem dX9_take_17 : decode cX9_take 17 = .ok (.iload_n 1, 1) := by decide +kernel
theorem dX9_take_18 : decode cX9_take 18 = .ok (.iconst 3, 1) := by decide +kernel
theorem dX9_take_19 : decode cX9_take 19 = .ok (.iconst 1, 1) := by decide +kernel
theorem dX9_take_20 : decode cX9_take 20 = .ok (.invokestatic 25, 3) := by decide +kernel
theorem dX9_take_23 : decode cX9_take 23 = .ok (.iastore, 1) := by decide +kernel
theorem dX9_take_24 : decode cX9_take 24 = .ok (.aload_n 0, 1) := by decide +kernel
theorem dX9_take_25 : decode cX9_take 25 = .ok (.getfield 11, 3) := by decide +kernel
theorem dX9_take_28 : decode cX9_take 28 = .ok (.iconst 2, 1) := by decide +kernel
theorem dX9_take_29 : decode cX9_take 29 = .ok (.iload_n 1, 1) := by decide +kernel
theorem dX9_take_30 : decode cX9_take 30 = .ok (.iconst 0, 1) := by decide +kernel
theorem dX9_take_31 : decode cX9_take 31 = .ok (.iconst 3, 1) := by decide +kernel
theorem dX9_take_32 : decode cX9_take 32 = .ok (.invokestatic 25, 3) := by decide +kernel
theorem dX9_take_35 : decode cX9_take 35 = .ok (.iconst 3, 1) := by decide +kernel
theorem dX9_take_36 : decode cX9_take 36 = .ok (.ishl, 1) := by decide +kernel
theorem dX9_take_37 : decode cX9_take 37 = .ok (.iload_n 2, 1) := by decide +kernel
theorem dX9_take_38 : decode cX9_take 38 = .ok (.bipush 13, 2) := by decide +kernel
theorem dX9_take_40 : decode cX9_take 40 = .ok (.iconst 3, 1) := by decide +kernel
theorem dX9_take_41 : decode cX9_take 41 = .ok (.invokestatic 25, 3) := by decide +kernel
theorem dX9_take_44 : decode cX9_take 44 = .ok (.ior, 1) := by decide +kernel
theorem dX9_take_45 : decode cX9_take 45 = .ok (.iastore, 1) := by decide +kernel
theorem dX9_take_46 : decode cX9_take 46 = .ok (.aload_n 0, 1) := by decide +kernel
theorem dX9_take_47 : decode cX9_take 47 = .ok (.getfield 11, 3) := by decide +kernel
theorem dX9_take_50 : decode cX9_take 50 = .ok (.iconst 3, 1) := by decide +kernel
theorem dX9_take_51 : decode cX9_take 51 = .ok (.iload_n 2, 1) := by decide +kernel
theorem dX9_take_52 : decode cX9_take 52 = .ok (.bipush 7, 2) := by decide +kernel
theorem dX9_take_54 : decode cX9_take 54 = .ok (.bipush 6, 2) := by decide +kernel
theorem dX9_take_56 : decode cX9_take 56 = .ok (.invokestatic 25, 3) := by decide +kernel
theorem dX9_take_59 : decode cX9_take 59 = .ok (.iastore, 1) := by decide +kernel
theorem dX9_take_60 : decode cX9_take 60 = .ok (.aload_n 0, 1) := by decide +kernel
theorem dX9_take_61 : decode cX9_take 61 = .ok (.getfield 11, 3) := by decide +kernel
theorem dX9_take_64 : decode cX9_take 64 = .ok (.iconst 4, 1) := by decide +kernel
theorem dX9_take_65 : decode cX9_take 65 = .ok (.iload_n 2, 1) := by decide +kernel
theorem dX9_take_66 : decode cX9_take 66 = .ok (.iconst 1, 1) := by decide +kernel
theorem dX9_take_67 : decode cX9_take 67 = .ok (.bipush 6, 2) := by decide +kernel
theorem dX9_take_69 : decode cX9_take 69 = .ok (.invokestatic 25, 3) := by decide +kernel
theorem dX9_take_72 : decode cX9_take 72 = .ok (.iastore, 1) := by decide +kernel
theorem dX9_take_73 : decode cX9_take 73 = .ok (.aload_n 0, 1) := by decide +kernel
theorem dX9_take_74 : decode cX9_take 74 = .ok (.getfield 11, 3) := by decide +kernel
theorem dX9_take_77 : decode cX9_take 77 = .ok (.iconst 5, 1) := by decide +kernel
theorem dX9_take_78 : decode cX9_take 78 = .ok (.iload_n 2, 1) := by decide +kernel
theorem dX9_take_79 : decode cX9_take 79 = .ok (.iconst 0, 1) := by decide +kernel
theorem dX9_take_80 : decode cX9_take 80 = .ok (.iconst 1, 1) := by decide +kernel
theorem dX9_take_81 : decode cX9_take 81 = .ok (.invokestatic 25, 3) := by decide +kernel
theorem dX9_take_84 : decode cX9_take 84 = .ok (.iconst 5, 1) := by decide +kernel
theorem dX9_take_85 : decode cX9_take 85 = .ok (.ishl, 1) := by decide +kernel
theorem dX9_take_86 : decode cX9_take 86 = .ok (.iload_n 3, 1) := by decide +kernel
theorem dX9_take_87 : decode cX9_take 87 = .ok (.bipush 11, 2) := by decide +kernel
theorem dX9_take_89 : decode cX9_take 89 = .ok (.iconst 5, 1) := by decide +kernel
theorem dX9_take_90 : decode cX9_take 90 = .ok (.invokestatic 25, 3) := by decide +kernel
theorem dX9_take_93 : decode cX9_take 93 = .ok (.ior, 1) := by decide +kernel
theorem dX9_take_94 : decode cX9_take 94 = .ok (.iastore, 1) := by decide +kernel
theorem dX9_take_95 : decode cX9_take 95 = .ok (.aload_n 0, 1) := by decide +kernel
theorem dX9_take_96 : decode cX9_take 96 = .ok (.getfield 11, 3) := by decide +kernel
theorem dX9_take_99 : decode cX9_take 99 = .ok (.bipush 6, 2) := by decide +kernel
theorem dX9_take_101 : decode cX9_take 101 = .ok (.iload_n 3, 1) := by decide +kernel
theorem dX9_take_102 : decode cX9_take 102 = .ok (.iconst 5, 1) := by decide +kernel
theorem dX9_take_103 : decode cX9_take 103 = .ok (.bipush 6, 2) := by decide +kernel
theorem dX9_take_105 : decode cX9_take 105 = .ok (.invokestatic 25, 3) := by decide +kernel
theorem dX9_take_108 : decode cX9_take 108 = .ok (.iastore, 1) := by decide +kernel
theorem dX9_take_109 : decode cX9_take 109 = .ok (.aload_n 0, 1) := by decide +kernel
theorem dX9_take_110 : decode cX9_take 110 = .ok (.getfield 11, 3) := by decide +kernel
theorem dX9_take_113 : decode cX9_take 113 = .ok (.bipush 7, 2) := by decide +kernel
theorem dX9_take_115 : decode cX9_take 115 = .ok (.iload_n 3, 1) := by decide +kernel
theorem dX9_take_116 : decode cX9_take 116 = .ok (.iconst 0, 1) := by decide +kernel
theorem dX9_take_117 : decode cX9_take 117 = .ok (.iconst 5, 1) := by decide +kernel
theorem dX9_take_118 : decode cX9_take 118 = .ok (.invokestatic 25, 3) := by decide +kernel
theorem dX9_take_121 : decode cX9_take 121 = .ok (.iastore, 1) := by decide +kernel
theorem dX9_take_122 : decode cX9_take 122 = .ok (.aload_n 0, 1) := by decide +kernel
theorem dX9_take_123 : decode cX9_take 123 = .ok (.dup, 1) := by decide +kernel
theorem dX9_take_124 : decode cX9_take 124 = .ok (.getfield 21, 3) := by decide +kernel
theorem dX9_take_127 : decode cX9_take 127 = .ok (.iconst 1, 1) := by decide +kernel
theorem dX9_take_128 : decode cX9_take 128 = .ok (.iadd, 1) := by decide +kernel
theorem dX9_take_129 : decode cX9_take 129 = .ok (.putfield 21, 3) := by decide +kernel
theorem dX9_take_132 : decode cX9_take 132 = .ok (.return_, 1) := by decide +kernel
def F_X9_take (w : rd_W) (a0 : Nat) (x1 : Int32) (x2 : Int32) (x3 : Int32) (S : rd_S) : Option (rd_S) :=
  rd_c (gR S a0 0) fun b1 =>
  rd_b (F_X11_field w x1 4 1 S) fun v3 s2 =>
  rd_i 0 (w.2.2 b1) <|
  rd_let (pI s2 b1 (0 : Int32).toNatClampNeg v3) fun s4 =>
  rd_c (gR s4 a0 0) fun b5 =>
  rd_b (F_X11_field w x1 3 1 s4) fun v7 s6 =>
  rd_i 1 (w.2.2 b5) <|
  rd_let (pI s6 b5 (1 : Int32).toNatClampNeg v7) fun s8 =>
  rd_c (gR s8 a0 0) fun b9 =>
  rd_b (F_X11_field w x1 0 3 s8) fun v11 s10 =>
  rd_b (F_X11_field w x2 13 3 s10) fun v13 s12 =>
  rd_i 2 (w.2.2 b9) <|
  rd_let (pI s12 b9 (2 : Int32).toNatClampNeg ((rd_shl v11 3) ||| v13)) fun s14 =>
  rd_c (gR s14 a0 0) fun b15 =>
  rd_b (F_X11_field w x2 7 6 s14) fun v17 s16 =>
  rd_i 3 (w.2.2 b15) <|
  rd_let (pI s16 b15 (3 : Int32).toNatClampNeg v17) fun s18 =>
  rd_c (gR s18 a0 0) fun b19 =>
  rd_b (F_X11_field w x2 1 6 s18) fun v21 s20 =>
  rd_i 4 (w.2.2 b19) <|
  rd_let (pI s20 b19 (4 : Int32).toNatClampNeg v21) fun s22 =>
  rd_c (gR s22 a0 0) fun b23 =>
  rd_b (F_X11_field w x2 0 1 s22) fun v25 s24 =>
  rd_b (F_X11_field w x3 11 5 s24) fun v27 s26 =>
  rd_i 5 (w.2.2 b23) <|
  rd_let (pI s26 b23 (5 : Int32).toNatClampNeg ((rd_shl v25 5) ||| v27)) fun s28 =>
  rd_c (gR s28 a0 0) fun b29 =>
  rd_b (F_X11_field w x3 5 6 s28) fun v31 s30 =>
  rd_i 6 (w.2.2 b29) <|
  rd_let (pI s30 b29 (6 : Int32).toNatClampNeg v31) fun s32 =>
  rd_c (gR s32 a0 0) fun b33 =>
  rd_b (F_X11_field w x3 0 5 s32) fun v35 s34 =>
  rd_i 7 (w.2.2 b33) <|
  rd_let (pI s34 b33 (7 : Int32).toNatClampNeg v35) fun s36 =>
  rd_let (pI s36 a0 1 ((gI s36 a0 1) + 1)) fun s37 =>
  some s37
theorem ym_X9_take (cx : rd_Cx) (w : rd_W) (a0 : Nat) (x1 : Int32) (x2 : Int32) (x3 : Int32) (ha0 : rd_ok w a0 9) (S : rd_S) : rd_Y cx G_X9_take (fun r => rd_P cx G_X9_take.2.2.2.2.2 0 w (rd_rV w r)) (F_X9_take w a0 x1 x2 x3 S) 0 (rd_as 0 [.inr (some a0), .inl x1, .inl x2, .inl x3]) [] w S 0 0 := by
  unfold F_X9_take
  refine ry_aload_n dX9_take_0 rfl ?_
  refine ry_getr dX9_take_1 ha0 fl_RX9_11 rfl (fun b1 hb1 => ?_)
  refine ry_iconst (v := 0) dX9_take_4 (by decide) ?_
  refine ry_iload_n dX9_take_5 rfl ?_
  refine ry_iconst (v := 4) dX9_take_6 (by decide) ?_
  refine ry_iconst (v := 1) dX9_take_7 (by decide) ?_
  refine ry_callI (fun l r9 h9 => cm_X11_field l cx w x1 4 1 S r9 h9) (rd_runSN (vs := [.inl x1, .inl 4, .inl 1]) dX9_take_8 yf_X11_field mt_X11_field mn_RX9_25 ⟨Nat.le_of_ble_eq_true rfl, Nat.le_of_ble_eq_true rfl⟩ (Nat.le_of_ble_eq_true rfl) rfl) rfl rfl (Nat.le_of_ble_eq_true rfl) (Nat.le_of_ble_eq_true rfl) (fun v3 s2 => ?_)
  refine ry_iast dX9_take_11 hb1 ?_
  refine ry_letS (fun s4 => ?_)
  refine ry_aload_n dX9_take_12 rfl ?_
  refine ry_getr dX9_take_13 ha0 fl_RX9_11 rfl (fun b5 hb5 => ?_)
  refine ry_iconst (v := 1) dX9_take_16 (by decide) ?_
  refine ry_iload_n dX9_take_17 rfl ?_
  refine ry_iconst (v := 3) dX9_take_18 (by decide) ?_
  refine ry_iconst (v := 1) dX9_take_19 (by decide) ?_
  refine ry_callI (fun l r9 h9 => cm_X11_field l cx w x1 3 1 s4 r9 h9) (rd_runSN (vs := [.inl x1, .inl 3, .inl 1]) dX9_take_20 yf_X11_field mt_X11_field mn_RX9_25 ⟨Nat.le_of_ble_eq_true rfl, Nat.le_of_ble_eq_true rfl⟩ (Nat.le_of_ble_eq_true rfl) rfl) rfl rfl (Nat.le_of_ble_eq_true rfl) (Nat.le_of_ble_eq_true rfl) (fun v7 s6 => ?_)
  refine ry_iast dX9_take_23 hb5 ?_
  refine ry_letS (fun s8 => ?_)
  refine ry_aload_n dX9_take_24 rfl ?_
  refine ry_getr dX9_take_25 ha0 fl_RX9_11 rfl (fun b9 hb9 => ?_)
  refine ry_iconst (v := 2) dX9_take_28 (by decide) ?_
  refine ry_iload_n dX9_take_29 rfl ?_
  refine ry_iconst (v := 0) dX9_take_30 (by decide) ?_
  refine ry_iconst (v := 3) dX9_take_31 (by decide) ?_
  refine ry_callI (fun l r9 h9 => cm_X11_field l cx w x1 0 3 s8 r9 h9) (rd_runSN (vs := [.inl x1, .inl 0, .inl 3]) dX9_take_32 yf_X11_field mt_X11_field mn_RX9_25 ⟨Nat.le_of_ble_eq_true rfl, Nat.le_of_ble_eq_true rfl⟩ (Nat.le_of_ble_eq_true rfl) rfl) rfl rfl (Nat.le_of_ble_eq_true rfl) (Nat.le_of_ble_eq_true rfl) (fun v11 s10 => ?_)
  refine ry_iconst (v := 3) dX9_take_35 (by decide) ?_
  refine ry_ishl dX9_take_36 ?_
  refine ry_iload_n dX9_take_37 rfl ?_
  refine ry_bipush (v := 13) dX9_take_38 (by decide) ?_
  refine ry_iconst (v := 3) dX9_take_40 (by decide) ?_
  refine ry_callI (fun l r9 h9 => cm_X11_field l cx w x2 13 3 s10 r9 h9) (rd_runSN (vs := [.inl x2, .inl 13, .inl 3]) dX9_take_41 yf_X11_field mt_X11_field mn_RX9_25 ⟨Nat.le_of_ble_eq_true rfl, Nat.le_of_ble_eq_true rfl⟩ (Nat.le_of_ble_eq_true rfl) rfl) rfl rfl (Nat.le_of_ble_eq_true rfl) (Nat.le_of_ble_eq_true rfl) (fun v13 s12 => ?_)
  refine ry_ior dX9_take_44 ?_
  refine ry_iast dX9_take_45 hb9 ?_
  refine ry_letS (fun s14 => ?_)
  refine ry_aload_n dX9_take_46 rfl ?_
  refine ry_getr dX9_take_47 ha0 fl_RX9_11 rfl (fun b15 hb15 => ?_)
  refine ry_iconst (v := 3) dX9_take_50 (by decide) ?_
  refine ry_iload_n dX9_take_51 rfl ?_
  refine ry_bipush (v := 7) dX9_take_52 (by decide) ?_
  refine ry_bipush (v := 6) dX9_take_54 (by decide) ?_
  refine ry_callI (fun l r9 h9 => cm_X11_field l cx w x2 7 6 s14 r9 h9) (rd_runSN (vs := [.inl x2, .inl 7, .inl 6]) dX9_take_56 yf_X11_field mt_X11_field mn_RX9_25 ⟨Nat.le_of_ble_eq_true rfl, Nat.le_of_ble_eq_true rfl⟩ (Nat.le_of_ble_eq_true rfl) rfl) rfl rfl (Nat.le_of_ble_eq_true rfl) (Nat.le_of_ble_eq_true rfl) (fun v17 s16 => ?_)
  refine ry_iast dX9_take_59 hb15 ?_
  refine ry_letS (fun s18 => ?_)
  refine ry_aload_n dX9_take_60 rfl ?_
  refine ry_getr dX9_take_61 ha0 fl_RX9_11 rfl (fun b19 hb19 => ?_)
  refine ry_iconst (v := 4) dX9_take_64 (by decide) ?_
  refine ry_iload_n dX9_take_65 rfl ?_
  refine ry_iconst (v := 1) dX9_take_66 (by decide) ?_
  refine ry_bipush (v := 6) dX9_take_67 (by decide) ?_
  refine ry_callI (fun l r9 h9 => cm_X11_field l cx w x2 1 6 s18 r9 h9) (rd_runSN (vs := [.inl x2, .inl 1, .inl 6]) dX9_take_69 yf_X11_field mt_X11_field mn_RX9_25 ⟨Nat.le_of_ble_eq_true rfl, Nat.le_of_ble_eq_true rfl⟩ (Nat.le_of_ble_eq_true rfl) rfl) rfl rfl (Nat.le_of_ble_eq_true rfl) (Nat.le_of_ble_eq_true rfl) (fun v21 s20 => ?_)
  refine ry_iast dX9_take_72 hb19 ?_
  refine ry_letS (fun s22 => ?_)
  refine ry_aload_n dX9_take_73 rfl ?_
  refine ry_getr dX9_take_74 ha0 fl_RX9_11 rfl (fun b23 hb23 => ?_)
  refine ry_iconst (v := 5) dX9_take_77 (by decide) ?_
  refine ry_iload_n dX9_take_78 rfl ?_
  refine ry_iconst (v := 0) dX9_take_79 (by decide) ?_
  refine ry_iconst (v := 1) dX9_take_80 (by decide) ?_
  refine ry_callI (fun l r9 h9 => cm_X11_field l cx w x2 0 1 s22 r9 h9) (rd_runSN (vs := [.inl x2, .inl 0, .inl 1]) dX9_take_81 yf_X11_field mt_X11_field mn_RX9_25 ⟨Nat.le_of_ble_eq_true rfl, Nat.le_of_ble_eq_true rfl⟩ (Nat.le_of_ble_eq_true rfl) rfl) rfl rfl (Nat.le_of_ble_eq_true rfl) (Nat.le_of_ble_eq_true rfl) (fun v25 s24 => ?_)
  refine ry_iconst (v := 5) dX9_take_84 (by decide) ?_
  refine ry_ishl dX9_take_85 ?_
  refine ry_iload_n dX9_take_86 rfl ?_
  refine ry_bipush (v := 11) dX9_take_87 (by decide) ?_
  refine ry_iconst (v := 5) dX9_take_89 (by decide) ?_
  refine ry_callI (fun l r9 h9 => cm_X11_field l cx w x3 11 5 s24 r9 h9) (rd_runSN (vs := [.inl x3, .inl 11, .inl 5]) dX9_take_90 yf_X11_field mt_X11_field mn_RX9_25 ⟨Nat.le_of_ble_eq_true rfl, Nat.le_of_ble_eq_true rfl⟩ (Nat.le_of_ble_eq_true rfl) rfl) rfl rfl (Nat.le_of_ble_eq_true rfl) (Nat.le_of_ble_eq_true rfl) (fun v27 s26 => ?_)
  refine ry_ior dX9_take_93 ?_
  refine ry_iast dX9_take_94 hb23 ?_
  refine ry_letS (fun s28 => ?_)
  refine ry_aload_n dX9_take_95 rfl ?_
  refine ry_getr dX9_take_96 ha0 fl_RX9_11 rfl (fun b29 hb29 => ?_)
  refine ry_bipush (v := 6) dX9_take_99 (by decide) ?_
  refine ry_iload_n dX9_take_101 rfl ?_
  refine ry_iconst (v := 5) dX9_take_102 (by decide) ?_
  refine ry_bipush (v := 6) dX9_take_103 (by decide) ?_
  refine ry_callI (fun l r9 h9 => cm_X11_field l cx w x3 5 6 s28 r9 h9) (rd_runSN (vs := [.inl x3, .inl 5, .inl 6]) dX9_take_105 yf_X11_field mt_X11_field mn_RX9_25 ⟨Nat.le_of_ble_eq_true rfl, Nat.le_of_ble_eq_true rfl⟩ (Nat.le_of_ble_eq_true rfl) rfl) rfl rfl (Nat.le_of_ble_eq_true rfl) (Nat.le_of_ble_eq_true rfl) (fun v31 s30 => ?_)
  refine ry_iast dX9_take_108 hb29 ?_
  refine ry_letS (fun s32 => ?_)
  refine ry_aload_n dX9_take_109 rfl ?_
  refine ry_getr dX9_take_110 ha0 fl_RX9_11 rfl (fun b33 hb33 => ?_)
  refine ry_bipush (v := 7) dX9_take_113 (by decide) ?_
  refine ry_iload_n dX9_take_115 rfl ?_
  refine ry_iconst (v := 0) dX9_take_116 (by decide) ?_
  refine ry_iconst (v := 5) dX9_take_117 (by decide) ?_
  refine ry_callI (fun l r9 h9 => cm_X11_field l cx w x3 0 5 s32 r9 h9) (rd_runSN (vs := [.inl x3, .inl 0, .inl 5]) dX9_take_118 yf_X11_field mt_X11_field mn_RX9_25 ⟨Nat.le_of_ble_eq_true rfl, Nat.le_of_ble_eq_true rfl⟩ (Nat.le_of_ble_eq_true rfl) rfl) rfl rfl (Nat.le_of_ble_eq_true rfl) (Nat.le_of_ble_eq_true rfl) (fun v35 s34 => ?_)
  refine ry_iast dX9_take_121 hb33 ?_
  refine ry_letS (fun s36 => ?_)
  refine ry_aload_n dX9_take_122 rfl ?_
  refine ry_dup dX9_take_123 ?_
  refine ry_geti dX9_take_124 ha0 fl_RX9_21 rfl ?_
  refine ry_iconst (v := 1) dX9_take_127 (by decide) ?_
  refine ry_iadd dX9_take_128 ?_
  refine ry_puti dX9_take_129 ha0 fl_RX9_21 rfl rfl rfl ?_
  refine ry_letS (fun s37 => ?_)
  exact ry_vret dX9_take_132 rfl (Nat.le_of_ble_eq_true rfl) (Nat.le_of_ble_eq_true rfl)
theorem cm_X9_take (l : Launch) (cx : rd_Cx) (w : rd_W) (a0 : Nat) (x1 : Int32) (x2 : Int32) (x3 : Int32) (ha0 : rd_ok w a0 9) (S : rd_S) (r : rd_S) (h : F_X9_take w a0 x1 x2 x3 S = some r) : rd_M l cx yX9_take G_X9_take 0 [.inr (some a0), .inl x1, .inl x2, .inl x3] w S (rd_rV w r) :=
  rd_enter (plainFor_of_name (by decide +kernel)) rfl (fun h => by cases h) (Nat.le_of_ble_eq_true rfl) (ym_X9_take cx w a0 x1 x2 x3 ha0 S r h)
abbrev G_X8_takeSwitches : rd_G := (RX8, cX8_takeSwitches, 4, none, false, { frames := 1, cells := 0, slots := 0, locals := 22 })
theorem yf_X8_takeSwitches : rd_YL yX8_takeSwitches G_X8_takeSwitches 1 := ⟨rd_mem 590 (by decide +kernel) rfl, rd_mem 67 (by decide +kernel) rfl, by decide +kernel, by decide +kernel, by decide +kernel⟩
theorem mi_X8_takeSwitches : Cond.instanceMethod yX8_takeSwitches ∈ rd_gw := rd_mem 589 (by decide +kernel) rfl
theorem ms_X8_takeSwitches : Cond.selects (MethodName.cls yX8_takeSwitches) yX8_takeSwitches yX8_takeSwitches ∈ rd_gw := rd_mem 14 (by decide +kernel) rfl
theorem dX8_takeSwitches_0 : decode cX8_takeSwitches 0 = .ok (.aload_n 0, 1) := by decide +kernel
theorem dX8_takeSwitches_1 : decode cX8_takeSwitches 1 = .ok (.getfield 11, 3) := by decide +kernel
theorem dX8_takeSwitches_4 : decode cX8_takeSwitches 4 = .ok (.iconst 3, 1) := by decide +kernel
theorem dX8_takeSwitches_5 : decode cX8_takeSwitches 5 = .ok (.iload_n 1, 1) := by decide +kernel
theorem dX8_takeSwitches_6 : decode cX8_takeSwitches 6 = .ok (.iconst 4, 1) := by decide +kernel
theorem dX8_takeSwitches_7 : decode cX8_takeSwitches 7 = .ok (.iconst 1, 1) := by decide +kernel
theorem dX8_takeSwitches_8 : decode cX8_takeSwitches 8 = .ok (.invokestatic 97, 3) := by decide +kernel
theorem dX8_takeSwitches_11 : decode cX8_takeSwitches 11 = .ok (.iastore, 1) := by decide +kernel
theorem dX8_takeSwitches_12 : decode cX8_takeSwitches 12 = .ok (.aload_n 0, 1) := by decide +kernel
theorem dX8_takeSwitches_13 : decode cX8_takeSwitches 13 = .ok (.getfield 11, 3) := by decide +kernel
theorem dX8_takeSwitches_16 : decode cX8_takeSwitches 16 = .ok (.iconst 4, 1) := by decide +kernel
theorem dX8_takeSwitches_17 : decode cX8_takeSwitches 17 = .ok (.iload_n 1, 1) := by decide +kernel
theorem dX8_takeSwitches_18 : decode cX8_takeSwitches 18 = .ok (.iconst 3, 1) := by decide +kernel
theorem dX8_takeSwitches_19 : decode cX8_takeSwitches 19 = .ok (.iconst 1, 1) := by decide +kernel
theorem dX8_takeSwitches_20 : decode cX8_takeSwitches 20 = .ok (.invokestatic 97, 3) := by decide +kernel
theorem dX8_takeSwitches_23 : decode cX8_takeSwitches 23 = .ok (.iastore, 1) := by decide +kernel
theorem dX8_takeSwitches_24 : decode cX8_takeSwitches 24 = .ok (.iconst 3, 1) := by decide +kernel
theorem dX8_takeSwitches_25 : decode cX8_takeSwitches 25 = .ok (.iload_n 1, 1) := by decide +kernel
theorem dX8_takeSwitches_26 : decode cX8_takeSwitches 26 = .ok (.iconst 0, 1) := by decide +kernel
theorem dX8_takeSwitches_27 : decode cX8_takeSwitches 27 = .ok (.iconst 2, 1) := by decide +kernel
theorem dX8_takeSwitches_28 : decode cX8_takeSwitches 28 = .ok (.invokestatic 97, 3) := by decide +kernel
theorem dX8_takeSwitches_31 : decode cX8_takeSwitches 31 = .ok (.isub, 1) := by decide +kernel
theorem dX8_takeSwitches_32 : decode cX8_takeSwitches 32 = .ok (.istore_n 2, 1) := by decide +kernel
theorem dX8_takeSwitches_33 : decode cX8_takeSwitches 33 = .ok (.aload_n 0, 1) := by decide +kernel
theorem dX8_takeSwitches_34 : decode cX8_takeSwitches 34 = .ok (.getfield 11, 3) := by decide +kernel
theorem dX8_takeSwitches_37 : decode cX8_takeSwitches 37 = .ok (.iconst 5, 1) := by decide +kernel
theorem dX8_takeSwitches_38 : decode cX8_takeSwitches 38 = .ok (.iaload, 1) := by decide +kernel
theorem dX8_takeSwitches_39 : decode cX8_takeSwitches 39 = .ok (.iconst (-1), 1) := by decide +kernel
theorem dX8_takeSwitches_40 : decode cX8_takeSwitches 40 = .ok (.if_icmp .ne 7, 3) := by decide +kernel
theorem dX8_takeSwitches_43 : decode cX8_takeSwitches 43 = .ok (.iconst 0, 1) := by decide +kernel
theorem dX8_takeSwitches_44 : decode cX8_takeSwitches 44 = .ok (.goto 9, 3) := by decide +kernel
theorem dX8_takeSwitches_47 : decode cX8_takeSwitches 47 = .ok (.aload_n 0, 1) := by decide +kernel
theorem dX8_takeSwitches_48 : decode cX8_takeSwitches 48 = .ok (.getfield 11, 3) := by decide +kernel
theorem dX8_takeSwitches_51 : decode cX8_takeSwitches 51 = .ok (.iconst 5, 1) := by decide +kernel
theorem dX8_takeSwitches_52 : decode cX8_takeSwitches 52 = .ok (.iaload, 1) := by decide +kernel
theorem dX8_takeSwitches_53 : decode cX8_takeSwitches 53 = .ok (.istore_n 3, 1) := by decide +kernel
theorem dX8_takeSwitches_54 : decode cX8_takeSwitches 54 = .ok (.aload_n 0, 1) := by decide +kernel
theorem dX8_takeSwitches_55 : decode cX8_takeSwitches 55 = .ok (.getfield 11, 3) := by decide +kernel
theorem dX8_takeSwitches_58 : decode cX8_takeSwitches 58 = .ok (.iconst 5, 1) := by decide +kernel
theorem dX8_takeSwitches_59 : decode cX8_takeSwitches 59 = .ok (.iload_n 3, 1) := by decide +kernel
theorem dX8_takeSwitches_60 : decode cX8_takeSwitches 60 = .ok (.iconst 1, 1) := by decide +kernel
theorem dX8_takeSwitches_61 : decode cX8_takeSwitches 61 = .ok (.iload_n 2, 1) := by decide +kernel
theorem dX8_takeSwitches_62 : decode cX8_takeSwitches 62 = .ok (.ishl, 1) := by decide +kernel
theorem dX8_takeSwitches_63 : decode cX8_takeSwitches 63 = .ok (.iconst (-1), 1) := by decide +kernel
theorem dX8_takeSwitches_64 : decode cX8_takeSwitches 64 = .ok (.ixor, 1) := by decide +kernel
theorem dX8_takeSwitches_65 : decode cX8_takeSwitches 65 = .ok (.iand, 1) := by decide +kernel
theorem dX8_takeSwitches_66 : decode cX8_takeSwitches 66 = .ok (.iload_n 1, 1) := by decide +kernel
theorem dX8_takeSwitches_67 : decode cX8_takeSwitches 67 = .ok (.iconst 2, 1) := by decide +kernel
theorem dX8_takeSwitches_68 : decode cX8_takeSwitches 68 = .ok (.iconst 1, 1) := by decide +kernel
theorem dX8_takeSwitches_69 : decode cX8_takeSwitches 69 = .ok (.invokestatic 97, 3) := by decide +kernel
theorem dX8_takeSwitches_72 : decode cX8_takeSwitches 72 = .ok (.iload_n 2, 1) := by decide +kernel
theorem dX8_takeSwitches_73 : decode cX8_takeSwitches 73 = .ok (.ishl, 1) := by decide +kernel
theorem dX8_takeSwitches_74 : decode cX8_takeSwitches 74 = .ok (.ior, 1) := by decide +kernel
theorem dX8_takeSwitches_75 : decode cX8_takeSwitches 75 = .ok (.iastore, 1) := by decide +kernel
theorem dX8_takeSwitches_76 : decode cX8_takeSwitches 76 = .ok (.return_, 1) := by decide +kernel
def B_X8_takeSwitches_53 (w : rd_W) (a0 : Nat) (x1 : Int32) (x2 : Int32) (t0 : Int32) (S : rd_S) : Option (rd_S) :=
  rd_c (gR S a0 0) fun b14 =>
  rd_b (F_X11_field w x1 2 1 S) fun v16 s15 =>
  rd_i 5 (w.2.2 b14) <|
  rd_let (pI s15 b14 (5 : Int32).toNatClampNeg ((t0 &&& ((rd_shl 1 x2) ^^^ (-1))) ||| (rd_shl v16 x2))) fun s17 =>
  some s17
theorem yb_X8_takeSwitches_53 (cx : rd_Cx) (w : rd_W) (a0 : Nat) (x1 : Int32) (x2 : Int32) (t0 : Int32) (ha0 : rd_ok w a0 8) (S : rd_S) : rd_Y cx G_X8_takeSwitches (fun r => rd_P cx G_X8_takeSwitches.2.2.2.2.2 0 w (rd_rV w r)) (B_X8_takeSwitches_53 w a0 x1 x2 t0 S) 53 [(0, .inr (some a0)), (1, .inl x1), (2, .inl x2)] [.inl t0] w S 0 0 := by
  unfold B_X8_takeSwitches_53
  refine ry_istore_n dX8_takeSwitches_53 (by decide) ?_
  refine ry_aload_n dX8_takeSwitches_54 rfl ?_
  refine ry_getr dX8_takeSwitches_55 ha0 fl_RX8_11 rfl (fun b14 hb14 => ?_)
  refine ry_iconst (v := 5) dX8_takeSwitches_58 (by decide) ?_
  refine ry_iload_n dX8_takeSwitches_59 rfl ?_
  refine ry_iconst (v := 1) dX8_takeSwitches_60 (by decide) ?_
  refine ry_iload_n dX8_takeSwitches_61 rfl ?_
  refine ry_ishl dX8_takeSwitches_62 ?_
  refine ry_iconst (v := (-1)) dX8_takeSwitches_63 (by decide) ?_
  refine ry_ixor dX8_takeSwitches_64 ?_
  refine ry_iand dX8_takeSwitches_65 ?_
  refine ry_iload_n dX8_takeSwitches_66 rfl ?_
  refine ry_iconst (v := 2) dX8_takeSwitches_67 (by decide) ?_
  refine ry_iconst (v := 1) dX8_takeSwitches_68 (by decide) ?_
  refine ry_callI (fun l r9 h9 => cm_X11_field l cx w x1 2 1 S r9 h9) (rd_runSN (vs := [.inl x1, .inl 2, .inl 1]) dX8_takeSwitches_69 yf_X11_field mt_X11_field mn_RX8_97 ⟨Nat.le_of_ble_eq_true rfl, Nat.le_of_ble_eq_true rfl⟩ (Nat.le_of_ble_eq_true rfl) rfl) rfl rfl (Nat.le_of_ble_eq_true rfl) (Nat.le_of_ble_eq_true rfl) (fun v16 s15 => ?_)
  refine ry_iload_n dX8_takeSwitches_72 rfl ?_
  refine ry_ishl dX8_takeSwitches_73 ?_
  refine ry_ior dX8_takeSwitches_74 ?_
  refine ry_iast dX8_takeSwitches_75 hb14 ?_
  refine ry_letS (fun s17 => ?_)
  exact ry_vret dX8_takeSwitches_76 rfl (Nat.le_of_ble_eq_true rfl) (Nat.le_of_ble_eq_true rfl)
def F_X8_takeSwitches (w : rd_W) (a0 : Nat) (x1 : Int32) (S : rd_S) : Option (rd_S) :=
  rd_c (gR S a0 0) fun b1 =>
  rd_b (F_X11_field w x1 4 1 S) fun v3 s2 =>
  rd_i 3 (w.2.2 b1) <|
  rd_let (pI s2 b1 (3 : Int32).toNatClampNeg v3) fun s4 =>
  rd_c (gR s4 a0 0) fun b5 =>
  rd_b (F_X11_field w x1 3 1 s4) fun v7 s6 =>
  rd_i 4 (w.2.2 b5) <|
  rd_let (pI s6 b5 (4 : Int32).toNatClampNeg v7) fun s8 =>
  rd_b (F_X11_field w x1 0 2 s8) fun v10 s9 =>
  rd_let (3 - v10) fun v11 =>
  rd_c (gR s9 a0 0) fun b12 =>
  rd_i 5 (w.2.2 b12) <|
  if (gI s9 b12 (5 : Int32).toNatClampNeg) = (-1) then
  (B_X8_takeSwitches_53 w a0 x1 v11 0 s9)
  else
  (rd_c (gR s9 a0 0) fun b18 =>
  rd_i 5 (w.2.2 b18) <|
  B_X8_takeSwitches_53 w a0 x1 v11 (gI s9 b18 (5 : Int32).toNatClampNeg) s9)
theorem ym_X8_takeSwitches (cx : rd_Cx) (w : rd_W) (a0 : Nat) (x1 : Int32) (ha0 : rd_ok w a0 8) (S : rd_S) : rd_Y cx G_X8_takeSwitches (fun r => rd_P cx G_X8_takeSwitches.2.2.2.2.2 0 w (rd_rV w r)) (F_X8_takeSwitches w a0 x1 S) 0 (rd_as 0 [.inr (some a0), .inl x1]) [] w S 0 0 := by
  unfold F_X8_takeSwitches
  refine ry_aload_n dX8_takeSwitches_0 rfl ?_
  refine ry_getr dX8_takeSwitches_1 ha0 fl_RX8_11 rfl (fun b1 hb1 => ?_)
  refine ry_iconst (v := 3) dX8_takeSwitches_4 (by decide) ?_
  refine ry_iload_n dX8_takeSwitches_5 rfl ?_
  refine ry_iconst (v := 4) dX8_takeSwitches_6 (by decide) ?_
  refine ry_iconst (v := 1) dX8_takeSwitches_7 (by decide) ?_
  refine ry_callI (fun l r9 h9 => cm_X11_field l cx w x1 4 1 S r9 h9) (rd_runSN (vs := [.inl x1, .inl 4, .inl 1]) dX8_takeSwitches_8 yf_X11_field mt_X11_field mn_RX8_97 ⟨Nat.le_of_ble_eq_true rfl, Nat.le_of_ble_eq_true rfl⟩ (Nat.le_of_ble_eq_true rfl) rfl) rfl rfl (Nat.le_of_ble_eq_true rfl) (Nat.le_of_ble_eq_true rfl) (fun v3 s2 => ?_)
  refine ry_iast dX8_takeSwitches_11 hb1 ?_
  refine ry_letS (fun s4 => ?_)
  refine ry_aload_n dX8_takeSwitches_12 rfl ?_
  refine ry_getr dX8_takeSwitches_13 ha0 fl_RX8_11 rfl (fun b5 hb5 => ?_)
  refine ry_iconst (v := 4) dX8_takeSwitches_16 (by decide) ?_
  refine ry_iload_n dX8_takeSwitches_17 rfl ?_
  refine ry_iconst (v := 3) dX8_takeSwitches_18 (by decide) ?_
  refine ry_iconst (v := 1) dX8_takeSwitches_19 (by decide) ?_
  refine ry_callI (fun l r9 h9 => cm_X11_field l cx w x1 3 1 s4 r9 h9) (rd_runSN (vs := [.inl x1, .inl 3, .inl 1]) dX8_takeSwitches_20 yf_X11_field mt_X11_field mn_RX8_97 ⟨Nat.le_of_ble_eq_true rfl, Nat.le_of_ble_eq_true rfl⟩ (Nat.le_of_ble_eq_true rfl) rfl) rfl rfl (Nat.le_of_ble_eq_true rfl) (Nat.le_of_ble_eq_true rfl) (fun v7 s6 => ?_)
  refine ry_iast dX8_takeSwitches_23 hb5 ?_
  refine ry_letS (fun s8 => ?_)
  refine ry_iconst (v := 3) dX8_takeSwitches_24 (by decide) ?_
  refine ry_iload_n dX8_takeSwitches_25 rfl ?_
  refine ry_iconst (v := 0) dX8_takeSwitches_26 (by decide) ?_
  refine ry_iconst (v := 2) dX8_takeSwitches_27 (by decide) ?_
  refine ry_callI (fun l r9 h9 => cm_X11_field l cx w x1 0 2 s8 r9 h9) (rd_runSN (vs := [.inl x1, .inl 0, .inl 2]) dX8_takeSwitches_28 yf_X11_field mt_X11_field mn_RX8_97 ⟨Nat.le_of_ble_eq_true rfl, Nat.le_of_ble_eq_true rfl⟩ (Nat.le_of_ble_eq_true rfl) rfl) rfl rfl (Nat.le_of_ble_eq_true rfl) (Nat.le_of_ble_eq_true rfl) (fun v10 s9 => ?_)
  refine ry_isub dX8_takeSwitches_31 ?_
  refine ry_istore_n dX8_takeSwitches_32 (by decide) ?_
  refine ry_let (fun v11 => ?_)
  refine ry_aload_n dX8_takeSwitches_33 rfl ?_
  refine ry_getr dX8_takeSwitches_34 ha0 fl_RX8_11 rfl (fun b12 hb12 => ?_)
  refine ry_iconst (v := 5) dX8_takeSwitches_37 (by decide) ?_
  refine ry_iald dX8_takeSwitches_38 hb12 ?_
  refine ry_iconst (v := (-1)) dX8_takeSwitches_39 (by decide) ?_
  refine ry_icmp_ne 47 dX8_takeSwitches_40 (by decide) (fun c13 => ?_) (fun c13 => ?_)
  · refine ry_iconst (v := 0) dX8_takeSwitches_43 (by decide) ?_
    refine ry_goto 53 dX8_takeSwitches_44 (by decide) ?_
    exact ry_to (yb_X8_takeSwitches_53 cx w a0 x1 v11 0 ha0 s9) ⟨rfl, rfl, rfl, trivial⟩
  · refine ry_aload_n dX8_takeSwitches_47 rfl ?_
    refine ry_getr dX8_takeSwitches_48 ha0 fl_RX8_11 rfl (fun b18 hb18 => ?_)
    refine ry_iconst (v := 5) dX8_takeSwitches_51 (by decide) ?_
    refine ry_iald dX8_takeSwitches_52 hb18 ?_
    exact ry_to (yb_X8_takeSwitches_53 cx w a0 x1 v11 (gI s9 b18 (5 : Int32).toNatClampNeg) ha0 s9) ⟨rfl, rfl, rfl, trivial⟩
theorem cm_X8_takeSwitches (l : Launch) (cx : rd_Cx) (w : rd_W) (a0 : Nat) (x1 : Int32) (ha0 : rd_ok w a0 8) (S : rd_S) (r : rd_S) (h : F_X8_takeSwitches w a0 x1 S = some r) : rd_M l cx yX8_takeSwitches G_X8_takeSwitches 0 [.inr (some a0), .inl x1] w S (rd_rV w r) :=
  rd_enter (plainFor_of_name (by decide +kernel)) rfl (fun h => by cases h) (Nat.le_of_ble_eq_true rfl) (ym_X8_takeSwitches cx w a0 x1 ha0 S r h)
abbrev G_X1_isMarked : rd_G := (RX1, cX1_isMarked, 2, (some .boolean), false, { frames := 0, cells := 0, slots := 0, locals := 0 })
theorem yf_X1_isMarked : rd_YL yX1_isMarked G_X1_isMarked 1 := ⟨rd_mem 598 (by decide +kernel) rfl, rd_mem 68 (by decide +kernel) rfl, by decide +kernel, by decide +kernel, by decide +kernel⟩
theorem mi_X1_isMarked : Cond.instanceMethod yX1_isMarked ∈ rd_gw := rd_mem 597 (by decide +kernel) rfl
theorem ms_X1_isMarked : Cond.selects (MethodName.cls yX1_isMarked) yX1_isMarked yX1_isMarked ∈ rd_gw := rd_mem 15 (by decide +kernel) rfl
theorem dX1_isMarked_0 : decode cX1_isMarked 0 = .ok (.aload_n 0, 1) := by decide +kernel
theorem dX1_isMarked_1 : decode cX1_isMarked 1 = .ok (.getfield 28, 3) := by decide +kernel
theorem dX1_isMarked_4 : decode cX1_isMarked 4 = .ok (.iload_n 1, 1) := by decide +kernel
theorem dX1_isMarked_5 : decode cX1_isMarked 5 = .ok (.iushr, 1) := by decide +kernel
theorem dX1_isMarked_6 : decode cX1_isMarked 6 = .ok (.iconst 1, 1) := by decide +kernel
theorem dX1_isMarked_7 : decode cX1_isMarked 7 = .ok (.iand, 1) := by decide +kernel
theorem dX1_isMarked_8 : decode cX1_isMarked 8 = .ok (.iconst 1, 1) := by decide +kernel
theorem dX1_isMarked_9 : decode cX1_isMarked 9 = .ok (.if_icmp .ne 7, 3) := by decide +kernel
theorem dX1_isMarked_12 : decode cX1_isMarked 12 = .ok (.iconst 1, 1) := by decide +kernel
theorem dX1_isMarked_13 : decode cX1_isMarked 13 = .ok (.goto 4, 3) := by decide +kernel
theorem dX1_isMarked_16 : decode cX1_isMarked 16 = .ok (.iconst 0, 1) := by decide +kernel
theorem dX1_isMarked_17 : decode cX1_isMarked 17 = .ok (.ireturn, 1) := by decide +kernel
def B_X1_isMarked_17 (w : rd_W) (t0 : Int32) (S : rd_S) : Option (Int32 × rd_S) :=
  rd_z t0 <|
  some (t0, S)
theorem yb_X1_isMarked_17 (cx : rd_Cx) (w : rd_W) (t0 : Int32) (S : rd_S) : rd_Y cx G_X1_isMarked (fun r => rd_P cx G_X1_isMarked.2.2.2.2.2 0 w (rd_rI w r)) (B_X1_isMarked_17 w t0 S) 17 [] [.inl t0] w S 0 0 := by
  unfold B_X1_isMarked_17
  refine ry_zg (fun z2 => ?_)
  exact ry_zret dX1_isMarked_17 rfl z2 (Nat.le_of_ble_eq_true rfl) (Nat.le_of_ble_eq_true rfl)
def F_X1_isMarked (w : rd_W) (a0 : Nat) (x1 : Int32) (S : rd_S) : Option (Int32 × rd_S) :=
  if ((rd_ush (gI S a0 4) x1) &&& 1) = 1 then
  (B_X1_isMarked_17 w 1 S)
  else
  (B_X1_isMarked_17 w 0 S)
theorem ym_X1_isMarked (cx : rd_Cx) (w : rd_W) (a0 : Nat) (x1 : Int32) (ha0 : rd_ok w a0 1) (S : rd_S) : rd_Y cx G_X1_isMarked (fun r => rd_P cx G_X1_isMarked.2.2.2.2.2 0 w (rd_rI w r)) (F_X1_isMarked w a0 x1 S) 0 (rd_as 0 [.inr (some a0), .inl x1]) [] w S 0 0 := by
  unfold F_X1_isMarked
  refine ry_aload_n dX1_isMarked_0 rfl ?_
  refine ry_geti dX1_isMarked_1 ha0 fl_RX1_28 rfl ?_
  refine ry_iload_n dX1_isMarked_4 rfl ?_
  refine ry_iushr dX1_isMarked_5 ?_
  refine ry_iconst (v := 1) dX1_isMarked_6 (by decide) ?_
  refine ry_iand dX1_isMarked_7 ?_
  refine ry_iconst (v := 1) dX1_isMarked_8 (by decide) ?_
  refine ry_icmp_ne 16 dX1_isMarked_9 (by decide) (fun c1 => ?_) (fun c1 => ?_)
  · refine ry_iconst (v := 1) dX1_isMarked_12 (by decide) ?_
    refine ry_goto 17 dX1_isMarked_13 (by decide) ?_
    exact ry_to (yb_X1_isMarked_17 cx w 1 S) trivial
  · refine ry_iconst (v := 0) dX1_isMarked_16 (by decide) ?_
    exact ry_to (yb_X1_isMarked_17 cx w 0 S) trivial
theorem cm_X1_isMarked (l : Launch) (cx : rd_Cx) (w : rd_W) (a0 : Nat) (x1 : Int32) (ha0 : rd_ok w a0 1) (S : rd_S) (r : Int32 × rd_S) (h : F_X1_isMarked w a0 x1 S = some r) : rd_M l cx yX1_isMarked G_X1_isMarked 0 [.inr (some a0), .inl x1] w S (rd_rI w r) :=
  rd_enter (plainFor_of_name (by decide +kernel)) rfl (fun h => by cases h) (Nat.le_of_ble_eq_true rfl) (ym_X1_isMarked cx w a0 x1 ha0 S r h)
abbrev G_X1_unpacked : rd_G := (RX1, cX1_unpacked, 3, (some .int), false, { frames := 0, cells := 0, slots := 0, locals := 0 })
theorem yf_X1_unpacked : rd_YL yX1_unpacked G_X1_unpacked 3 := ⟨rd_mem 606 (by decide +kernel) rfl, rd_mem 68 (by decide +kernel) rfl, by decide +kernel, by decide +kernel, by decide +kernel⟩
theorem mt_X1_unpacked : Cond.static yX1_unpacked ∈ rd_gw := rd_mem 605 (by decide +kernel) rfl
theorem dX1_unpacked_0 : decode cX1_unpacked 0 = .ok (.iload_n 0, 1) := by decide +kernel
theorem dX1_unpacked_1 : decode cX1_unpacked 1 = .ok (.bipush 8, 2) := by decide +kernel
theorem dX1_unpacked_3 : decode cX1_unpacked 3 = .ok (.iload_n 1, 1) := by decide +kernel
theorem dX1_unpacked_4 : decode cX1_unpacked 4 = .ok (.iconst 1, 1) := by decide +kernel
theorem dX1_unpacked_5 : decode cX1_unpacked 5 = .ok (.isub, 1) := by decide +kernel
theorem dX1_unpacked_6 : decode cX1_unpacked 6 = .ok (.iload_n 2, 1) := by decide +kernel
theorem dX1_unpacked_7 : decode cX1_unpacked 7 = .ok (.isub, 1) := by decide +kernel
theorem dX1_unpacked_8 : decode cX1_unpacked 8 = .ok (.imul, 1) := by decide +kernel
theorem dX1_unpacked_9 : decode cX1_unpacked 9 = .ok (.iushr, 1) := by decide +kernel
theorem dX1_unpacked_10 : decode cX1_unpacked 10 = .ok (.sipush 255, 3) := by decide +kernel
theorem dX1_unpacked_13 : decode cX1_unpacked 13 = .ok (.iand, 1) := by decide +kernel
theorem dX1_unpacked_14 : decode cX1_unpacked 14 = .ok (.ireturn, 1) := by decide +kernel
def F_X1_unpacked (w : rd_W) (x0 : Int32) (x1 : Int32) (x2 : Int32) (S : rd_S) : Option (Int32 × rd_S) :=
  some ((rd_ush x0 (8 * ((x1 - 1) - x2))) &&& 255, S)
theorem ym_X1_unpacked (cx : rd_Cx) (w : rd_W) (x0 : Int32) (x1 : Int32) (x2 : Int32) (S : rd_S) : rd_Y cx G_X1_unpacked (fun r => rd_P cx G_X1_unpacked.2.2.2.2.2 0 w (rd_rI w r)) (F_X1_unpacked w x0 x1 x2 S) 0 (rd_as 0 [.inl x0, .inl x1, .inl x2]) [] w S 0 0 := by
  unfold F_X1_unpacked
  refine ry_iload_n dX1_unpacked_0 rfl ?_
  refine ry_bipush (v := 8) dX1_unpacked_1 (by decide) ?_
  refine ry_iload_n dX1_unpacked_3 rfl ?_
  refine ry_iconst (v := 1) dX1_unpacked_4 (by decide) ?_
  refine ry_isub dX1_unpacked_5 ?_
  refine ry_iload_n dX1_unpacked_6 rfl ?_
  refine ry_isub dX1_unpacked_7 ?_
  refine ry_imul dX1_unpacked_8 ?_
  refine ry_iushr dX1_unpacked_9 ?_
  refine ry_sipush (v := 255) dX1_unpacked_10 (by decide) ?_
  refine ry_iand dX1_unpacked_13 ?_
  exact ry_iret dX1_unpacked_14 rfl (Nat.le_of_ble_eq_true rfl) (Nat.le_of_ble_eq_true rfl)
theorem cm_X1_unpacked (l : Launch) (cx : rd_Cx) (w : rd_W) (x0 : Int32) (x1 : Int32) (x2 : Int32) (S : rd_S) (r : Int32 × rd_S) (h : F_X1_unpacked w x0 x1 x2 S = some r) : rd_M l cx yX1_unpacked G_X1_unpacked 0 [.inl x0, .inl x1, .inl x2] w S (rd_rI w r) :=
  rd_enter (plainFor_of_name (by decide +kernel)) rfl (fun h => by cases h) (Nat.le_of_ble_eq_true rfl) (ym_X1_unpacked cx w x0 x1 x2 S r h)
abbrev G_X1_holds : rd_G := (RX1, cX1_holds, 5, (some .boolean), false, { frames := 1, cells := 0, slots := 0, locals := 22 })
theorem yf_X1_holds : rd_YL yX1_holds G_X1_holds 3 := ⟨rd_mem 602 (by decide +kernel) rfl, rd_mem 68 (by decide +kernel) rfl, by decide +kernel, by decide +kernel, by decide +kernel⟩
theorem mi_X1_holds : Cond.instanceMethod yX1_holds ∈ rd_gw := rd_mem 601 (by decide +kernel) rfl
theorem ms_X1_holds : Cond.selects (MethodName.cls yX1_holds) yX1_holds yX1_holds ∈ rd_gw := rd_mem 16 (by decide +kernel) rfl
theorem dX1_holds_0 : decode cX1_holds 0 = .ok (.iconst 0, 1) := by decide +kernel
theorem dX1_holds_1 : decode cX1_holds 1 = .ok (.istore 4, 2) := by decide +kernel
theorem dX1_holds_3 : decode cX1_holds 3 = .ok (.iload 4, 2) := by decide +kernel
theorem dX1_holds_5 : decode cX1_holds 5 = .ok (.iload_n 2, 1) := by decide +kernel
theorem dX1_holds_6 : decode cX1_holds 6 = .ok (.if_icmp .ge 32, 3) := by decide +kernel
theorem dX1_holds_9 : decode cX1_holds 9 = .ok (.aload_n 0, 1) := by decide +kernel
theorem dX1_holds_10 : decode cX1_holds 10 = .ok (.getfield 18, 3) := by decide +kernel
theorem dX1_holds_13 : decode cX1_holds 13 = .ok (.iload_n 1, 1) := by decide +kernel
theorem dX1_holds_14 : decode cX1_holds 14 = .ok (.iload 4, 2) := by decide +kernel
theorem dX1_holds_16 : decode cX1_holds 16 = .ok (.iadd, 1) := by decide +kernel
theorem dX1_holds_17 : decode cX1_holds 17 = .ok (.invokestatic 57, 3) := by decide +kernel
theorem dX1_holds_20 : decode cX1_holds 20 = .ok (.iload_n 3, 1) := by decide +kernel
theorem dX1_holds_21 : decode cX1_holds 21 = .ok (.iload_n 2, 1) := by decide +kernel
theorem dX1_holds_22 : decode cX1_holds 22 = .ok (.iload 4, 2) := by decide +kernel
theorem dX1_holds_24 : decode cX1_holds 24 = .ok (.invokestatic 45, 3) := by decide +kernel
theorem dX1_holds_27 : decode cX1_holds 27 = .ok (.if_icmp .eq 5, 3) := by decide +kernel
theorem dX1_holds_30 : decode cX1_holds 30 = .ok (.iconst 0, 1) := by decide +kernel
theorem dX1_holds_31 : decode cX1_holds 31 = .ok (.ireturn, 1) := by decide +kernel
theorem dX1_holds_32 : decode cX1_holds 32 = .ok (.iinc 4 1, 3) := by decide +kernel
theorem dX1_holds_35 : decode cX1_holds 35 = .ok (.goto (-32), 3) := by decide +kernel
theorem dX1_holds_38 : decode cX1_holds 38 = .ok (.iconst 1, 1) := by decide +kernel
theorem dX1_holds_39 : decode cX1_holds 39 = .ok (.ireturn, 1) := by decide +kernel
def B_X1_holds_3 (w : rd_W) (k3 : Nat → Int32 → Int32 → Int32 → Int32 → rd_S → Option (Int32 × rd_S)) (a0 : Nat) (x1 : Int32) (x2 : Int32) (x3 : Int32) (x4 : Int32) (S : rd_S) : Option (Int32 × rd_S) :=
  if x2 ≤ x4 then
  (some (1, S))
  else
  (rd_c (gR S a0 2) fun b2 =>
  rd_b (F_X11_at w b2 (x1 + x4) S) fun v4 s3 =>
  rd_b (F_X1_unpacked w x3 x2 x4 s3) fun v6 s5 =>
  if v4 = v6 then
  (rd_let (x4 + 1) fun v8 =>
  k3 a0 x1 x2 x3 v8 s5)
  else
  (some (0, s5)))
theorem yb_X1_holds_3 (cx : rd_Cx) (w : rd_W) {k3 : Nat → Int32 → Int32 → Int32 → Int32 → rd_S → Option (Int32 × rd_S)} (hk3 : ∀ (a0 : Nat) (x1 : Int32) (x2 : Int32) (x3 : Int32) (x4 : Int32) (ha0 : rd_ok w a0 1) (S : rd_S), rd_Y cx G_X1_holds (fun r => rd_P cx G_X1_holds.2.2.2.2.2 0 w (rd_rI w r)) (k3 a0 x1 x2 x3 x4 S) 3 [(0, .inr (some a0)), (1, .inl x1), (2, .inl x2), (3, .inl x3), (4, .inl x4)] [] w S 0 0) (a0 : Nat) (x1 : Int32) (x2 : Int32) (x3 : Int32) (x4 : Int32) (ha0 : rd_ok w a0 1) (S : rd_S) : rd_Y cx G_X1_holds (fun r => rd_P cx G_X1_holds.2.2.2.2.2 0 w (rd_rI w r)) (B_X1_holds_3 w k3 a0 x1 x2 x3 x4 S) 3 [(0, .inr (some a0)), (1, .inl x1), (2, .inl x2), (3, .inl x3), (4, .inl x4)] [] w S 0 0 := by
  unfold B_X1_holds_3
  refine ry_iload dX1_holds_3 rfl ?_
  refine ry_iload_n dX1_holds_5 rfl ?_
  refine ry_icmp_ge 38 dX1_holds_6 (by decide) (fun c1 => ?_) (fun c1 => ?_)
  · refine ry_iconst (v := 1) dX1_holds_38 (by decide) ?_
    exact ry_zret dX1_holds_39 rfl (by decide) (Nat.le_of_ble_eq_true rfl) (Nat.le_of_ble_eq_true rfl)
  · refine ry_aload_n dX1_holds_9 rfl ?_
    refine ry_getr dX1_holds_10 ha0 fl_RX1_18 rfl (fun b2 hb2 => ?_)
    refine ry_iload_n dX1_holds_13 rfl ?_
    refine ry_iload dX1_holds_14 rfl ?_
    refine ry_iadd dX1_holds_16 ?_
    refine ry_callI (fun l r9 h9 => cm_X11_at l cx w b2 (x1 + x4) hb2 S r9 h9) (rd_runSN (vs := [.inr (some b2), .inl (x1 + x4)]) dX1_holds_17 yf_X11_at mt_X11_at mn_RX1_57 ⟨Nat.le_of_ble_eq_true rfl, Nat.le_of_ble_eq_true rfl⟩ (Nat.le_of_ble_eq_true rfl) rfl) rfl rfl (Nat.le_of_ble_eq_true rfl) (Nat.le_of_ble_eq_true rfl) (fun v4 s3 => ?_)
    refine ry_iload_n dX1_holds_20 rfl ?_
    refine ry_iload_n dX1_holds_21 rfl ?_
    refine ry_iload dX1_holds_22 rfl ?_
    refine ry_callI (fun l r9 h9 => cm_X1_unpacked l cx w x3 x2 x4 s3 r9 h9) (rd_runS (vs := [.inl x3, .inl x2, .inl x4]) dX1_holds_24 yf_X1_unpacked mt_X1_unpacked ml_RX1_45 ⟨Nat.le_of_ble_eq_true rfl, Nat.le_of_ble_eq_true rfl⟩ (Nat.le_of_ble_eq_true rfl) rfl) rfl rfl (Nat.le_of_ble_eq_true rfl) (Nat.le_of_ble_eq_true rfl) (fun v6 s5 => ?_)
    refine ry_icmp_eq 32 dX1_holds_27 (by decide) (fun c7 => ?_) (fun c7 => ?_)
    · refine ry_iinc (v := 1) dX1_holds_32 rfl (by decide) (by decide) ?_
      refine ry_let (fun v8 => ?_)
      refine ry_goto 3 dX1_holds_35 (by decide) ?_
      exact ry_to (hk3 a0 x1 x2 x3 v8 ha0 s5) ⟨rfl, rfl, rfl, rfl, rfl, trivial⟩
    · refine ry_iconst (v := 0) dX1_holds_30 (by decide) ?_
      exact ry_zret dX1_holds_31 rfl (by decide) (Nat.le_of_ble_eq_true rfl) (Nat.le_of_ble_eq_true rfl)
def F_X1_holds_3 (w : rd_W) (n : Nat) : Nat → Int32 → Int32 → Int32 → Int32 → rd_S → Option (Int32 × rd_S) :=
  Nat.rec (motive := fun _ => Nat → Int32 → Int32 → Int32 → Int32 → rd_S → Option (Int32 × rd_S)) (fun _ _ _ _ _ _ => none) (fun _ ih => B_X1_holds_3 w ih) n
theorem yl_X1_holds_3 (cx : rd_Cx) (w : rd_W) : ∀ (n : Nat) (a0 : Nat) (x1 : Int32) (x2 : Int32) (x3 : Int32) (x4 : Int32) (ha0 : rd_ok w a0 1) (S : rd_S), rd_Y cx G_X1_holds (fun r => rd_P cx G_X1_holds.2.2.2.2.2 0 w (rd_rI w r)) (F_X1_holds_3 w n a0 x1 x2 x3 x4 S) 3 [(0, .inr (some a0)), (1, .inl x1), (2, .inl x2), (3, .inl x3), (4, .inl x4)] [] w S 0 0 := by
  intro n
  induction n with
  | zero => intro a0 x1 x2 x3 x4 ha0 S; exact ry_none
  | succ n ih => intro a0 x1 x2 x3 x4 ha0 S; exact yb_X1_holds_3 cx w ih a0 x1 x2 x3 x4 ha0 S
def F_X1_holds (w : rd_W) (a0 : Nat) (x1 : Int32) (x2 : Int32) (x3 : Int32) (S : rd_S) : Option (Int32 × rd_S) :=
  F_X1_holds_3 w rd_big a0 x1 x2 x3 0 S
theorem ym_X1_holds (cx : rd_Cx) (w : rd_W) (a0 : Nat) (x1 : Int32) (x2 : Int32) (x3 : Int32) (ha0 : rd_ok w a0 1) (S : rd_S) : rd_Y cx G_X1_holds (fun r => rd_P cx G_X1_holds.2.2.2.2.2 0 w (rd_rI w r)) (F_X1_holds w a0 x1 x2 x3 S) 0 (rd_as 0 [.inr (some a0), .inl x1, .inl x2, .inl x3]) [] w S 0 0 := by
  unfold F_X1_holds
  refine ry_iconst (v := 0) dX1_holds_0 (by decide) ?_
  refine ry_istore dX1_holds_1 (by decide) ?_
  exact ry_to (yl_X1_holds_3 cx w rd_big a0 x1 x2 x3 0 ha0 S) ⟨rfl, rfl, rfl, rfl, rfl, trivial⟩
theorem cm_X1_holds (l : Launch) (cx : rd_Cx) (w : rd_W) (a0 : Nat) (x1 : Int32) (x2 : Int32) (x3 : Int32) (ha0 : rd_ok w a0 1) (S : rd_S) (r : Int32 × rd_S) (h : F_X1_holds w a0 x1 x2 x3 S = some r) : rd_M l cx yX1_holds G_X1_holds 0 [.inr (some a0), .inl x1, .inl x2, .inl x3] w S (rd_rI w r) :=
  rd_enter (plainFor_of_name (by decide +kernel)) rfl (fun h => by cases h) (Nat.le_of_ble_eq_true rfl) (ym_X1_holds cx w a0 x1 x2 x3 ha0 S r h)
abbrev G_X1_endWithin : rd_G := (RX1, cX1_endWithin, 4, (some .int), false, { frames := 0, cells := 0, slots := 0, locals := 0 })
theorem yf_X1_endWithin : rd_YL yX1_endWithin G_X1_endWithin 2 := ⟨rd_mem 614 (by decide +kernel) rfl, rd_mem 68 (by decide +kernel) rfl, by decide +kernel, by decide +kernel, by decide +kernel⟩
theorem mi_X1_endWithin : Cond.instanceMethod yX1_endWithin ∈ rd_gw := rd_mem 613 (by decide +kernel) rfl
theorem ms_X1_endWithin : Cond.selects (MethodName.cls yX1_endWithin) yX1_endWithin yX1_endWithin ∈ rd_gw := rd_mem 18 (by decide +kernel) rfl
theorem dX1_endWithin_0 : decode cX1_endWithin 0 = .ok (.iload_n 1, 1) := by decide +kernel
theorem dX1_endWithin_1 : decode cX1_endWithin 1 = .ok (.istore_n 3, 1) := by decide +kernel
theorem dX1_endWithin_2 : decode cX1_endWithin 2 = .ok (.iload_n 3, 1) := by decide +kernel
theorem dX1_endWithin_3 : decode cX1_endWithin 3 = .ok (.iload_n 1, 1) := by decide +kernel
theorem dX1_endWithin_4 : decode cX1_endWithin 4 = .ok (.iload_n 2, 1) := by decide +kernel
theorem dX1_endWithin_5 : decode cX1_endWithin 5 = .ok (.iadd, 1) := by decide +kernel
theorem dX1_endWithin_6 : decode cX1_endWithin 6 = .ok (.if_icmp .ge 37, 3) := by decide +kernel
theorem dX1_endWithin_9 : decode cX1_endWithin 9 = .ok (.iload_n 3, 1) := by decide +kernel
theorem dX1_endWithin_10 : decode cX1_endWithin 10 = .ok (.ifCond .lt 27, 3) := by decide +kernel
theorem dX1_endWithin_13 : decode cX1_endWithin 13 = .ok (.iload_n 3, 1) := by decide +kernel
theorem dX1_endWithin_14 : decode cX1_endWithin 14 = .ok (.aload_n 0, 1) := by decide +kernel
theorem dX1_endWithin_15 : decode cX1_endWithin 15 = .ok (.getfield 18, 3) := by decide +kernel
theorem dX1_endWithin_18 : decode cX1_endWithin 18 = .ok (.arraylength, 1) := by decide +kernel
theorem dX1_endWithin_19 : decode cX1_endWithin 19 = .ok (.if_icmp .ge 18, 3) := by decide +kernel
theorem dX1_endWithin_22 : decode cX1_endWithin 22 = .ok (.aload_n 0, 1) := by decide +kernel
theorem dX1_endWithin_23 : decode cX1_endWithin 23 = .ok (.getfield 18, 3) := by decide +kernel
theorem dX1_endWithin_26 : decode cX1_endWithin 26 = .ok (.iload_n 3, 1) := by decide +kernel
theorem dX1_endWithin_27 : decode cX1_endWithin 27 = .ok (.iaload, 1) := by decide +kernel
theorem dX1_endWithin_28 : decode cX1_endWithin 28 = .ok (.aload_n 0, 1) := by decide +kernel
theorem dX1_endWithin_29 : decode cX1_endWithin 29 = .ok (.getfield 15, 3) := by decide +kernel
theorem dX1_endWithin_32 : decode cX1_endWithin 32 = .ok (.if_icmp .ne 5, 3) := by decide +kernel
theorem dX1_endWithin_35 : decode cX1_endWithin 35 = .ok (.iload_n 3, 1) := by decide +kernel
theorem dX1_endWithin_36 : decode cX1_endWithin 36 = .ok (.ireturn, 1) := by decide +kernel
theorem dX1_endWithin_37 : decode cX1_endWithin 37 = .ok (.iinc 3 1, 3) := by decide +kernel
theorem dX1_endWithin_40 : decode cX1_endWithin 40 = .ok (.goto (-38), 3) := by decide +kernel
theorem dX1_endWithin_43 : decode cX1_endWithin 43 = .ok (.iconst (-1), 1) := by decide +kernel
theorem dX1_endWithin_44 : decode cX1_endWithin 44 = .ok (.ireturn, 1) := by decide +kernel
def B_X1_endWithin_37 (w : rd_W) (k2 : Nat → Int32 → Int32 → Int32 → rd_S → Option (Int32 × rd_S)) (a0 : Nat) (x1 : Int32) (x2 : Int32) (x3 : Int32) (S : rd_S) : Option (Int32 × rd_S) :=
  rd_let (x3 + 1) fun v3 =>
  k2 a0 x1 x2 v3 S
theorem yb_X1_endWithin_37 (cx : rd_Cx) (w : rd_W) {k2 : Nat → Int32 → Int32 → Int32 → rd_S → Option (Int32 × rd_S)} (hk2 : ∀ (a0 : Nat) (x1 : Int32) (x2 : Int32) (x3 : Int32) (ha0 : rd_ok w a0 1) (S : rd_S), rd_Y cx G_X1_endWithin (fun r => rd_P cx G_X1_endWithin.2.2.2.2.2 0 w (rd_rI w r)) (k2 a0 x1 x2 x3 S) 2 [(0, .inr (some a0)), (1, .inl x1), (2, .inl x2), (3, .inl x3)] [] w S 0 0) (a0 : Nat) (x1 : Int32) (x2 : Int32) (x3 : Int32) (ha0 : rd_ok w a0 1) (S : rd_S) : rd_Y cx G_X1_endWithin (fun r => rd_P cx G_X1_endWithin.2.2.2.2.2 0 w (rd_rI w r)) (B_X1_endWithin_37 w k2 a0 x1 x2 x3 S) 37 [(0, .inr (some a0)), (1, .inl x1), (2, .inl x2), (3, .inl x3)] [] w S 0 0 := by
  unfold B_X1_endWithin_37
  refine ry_iinc (v := 1) dX1_endWithin_37 rfl (by decide) (by decide) ?_
  refine ry_let (fun v3 => ?_)
  refine ry_goto 2 dX1_endWithin_40 (by decide) ?_
  exact ry_to (hk2 a0 x1 x2 v3 ha0 S) ⟨rfl, rfl, rfl, rfl, trivial⟩
def B_X1_endWithin_2 (w : rd_W) (k2 : Nat → Int32 → Int32 → Int32 → rd_S → Option (Int32 × rd_S)) (a0 : Nat) (x1 : Int32) (x2 : Int32) (x3 : Int32) (S : rd_S) : Option (Int32 × rd_S) :=
  if (x1 + x2) ≤ x3 then
  (some ((-1), S))
  else
  (if x3 < 0 then
  (B_X1_endWithin_37 w k2 a0 x1 x2 x3 S)
  else
  (rd_c (gR S a0 2) fun b4 =>
  if (nI (w.2.2 b4)) ≤ x3 then
  (B_X1_endWithin_37 w k2 a0 x1 x2 x3 S)
  else
  (rd_c (gR S a0 2) fun b6 =>
  rd_i x3 (w.2.2 b6) <|
  if (gI S b6 x3.toNatClampNeg) = (gI S a0 1) then
  (some (x3, S))
  else
  (B_X1_endWithin_37 w k2 a0 x1 x2 x3 S))))
theorem yb_X1_endWithin_2 (cx : rd_Cx) (w : rd_W) {k2 : Nat → Int32 → Int32 → Int32 → rd_S → Option (Int32 × rd_S)} (hk2 : ∀ (a0 : Nat) (x1 : Int32) (x2 : Int32) (x3 : Int32) (ha0 : rd_ok w a0 1) (S : rd_S), rd_Y cx G_X1_endWithin (fun r => rd_P cx G_X1_endWithin.2.2.2.2.2 0 w (rd_rI w r)) (k2 a0 x1 x2 x3 S) 2 [(0, .inr (some a0)), (1, .inl x1), (2, .inl x2), (3, .inl x3)] [] w S 0 0) (a0 : Nat) (x1 : Int32) (x2 : Int32) (x3 : Int32) (ha0 : rd_ok w a0 1) (S : rd_S) : rd_Y cx G_X1_endWithin (fun r => rd_P cx G_X1_endWithin.2.2.2.2.2 0 w (rd_rI w r)) (B_X1_endWithin_2 w k2 a0 x1 x2 x3 S) 2 [(0, .inr (some a0)), (1, .inl x1), (2, .inl x2), (3, .inl x3)] [] w S 0 0 := by
  unfold B_X1_endWithin_2
  refine ry_iload_n dX1_endWithin_2 rfl ?_
  refine ry_iload_n dX1_endWithin_3 rfl ?_
  refine ry_iload_n dX1_endWithin_4 rfl ?_
  refine ry_iadd dX1_endWithin_5 ?_
  refine ry_icmp_ge 43 dX1_endWithin_6 (by decide) (fun c1 => ?_) (fun c1 => ?_)
  · refine ry_iconst (v := (-1)) dX1_endWithin_43 (by decide) ?_
    exact ry_iret dX1_endWithin_44 rfl (Nat.le_of_ble_eq_true rfl) (Nat.le_of_ble_eq_true rfl)
  · refine ry_iload_n dX1_endWithin_9 rfl ?_
    refine ry_if_lt 37 dX1_endWithin_10 (by decide) (fun c2 => ?_) (fun c2 => ?_)
    · exact ry_to (yb_X1_endWithin_37 cx w (k2 := k2) hk2 a0 x1 x2 x3 ha0 S) ⟨rfl, rfl, rfl, rfl, trivial⟩
    · refine ry_iload_n dX1_endWithin_13 rfl ?_
      refine ry_aload_n dX1_endWithin_14 rfl ?_
      refine ry_getr dX1_endWithin_15 ha0 fl_RX1_18 rfl (fun b4 hb4 => ?_)
      refine ry_alen dX1_endWithin_18 hb4 ?_
      refine ry_icmp_ge 37 dX1_endWithin_19 (by decide) (fun c5 => ?_) (fun c5 => ?_)
      · exact ry_to (yb_X1_endWithin_37 cx w (k2 := k2) hk2 a0 x1 x2 x3 ha0 S) ⟨rfl, rfl, rfl, rfl, trivial⟩
      · refine ry_aload_n dX1_endWithin_22 rfl ?_
        refine ry_getr dX1_endWithin_23 ha0 fl_RX1_18 rfl (fun b6 hb6 => ?_)
        refine ry_iload_n dX1_endWithin_26 rfl ?_
        refine ry_iald dX1_endWithin_27 hb6 ?_
        refine ry_aload_n dX1_endWithin_28 rfl ?_
        refine ry_geti dX1_endWithin_29 ha0 fl_RX1_15 rfl ?_
        refine ry_icmp_ne 37 dX1_endWithin_32 (by decide) (fun c7 => ?_) (fun c7 => ?_)
        · refine ry_iload_n dX1_endWithin_35 rfl ?_
          exact ry_iret dX1_endWithin_36 rfl (Nat.le_of_ble_eq_true rfl) (Nat.le_of_ble_eq_true rfl)
        · exact ry_to (yb_X1_endWithin_37 cx w (k2 := k2) hk2 a0 x1 x2 x3 ha0 S) ⟨rfl, rfl, rfl, rfl, trivial⟩
def F_X1_endWithin_2 (w : rd_W) (n : Nat) : Nat → Int32 → Int32 → Int32 → rd_S → Option (Int32 × rd_S) :=
  Nat.rec (motive := fun _ => Nat → Int32 → Int32 → Int32 → rd_S → Option (Int32 × rd_S)) (fun _ _ _ _ _ => none) (fun _ ih => B_X1_endWithin_2 w ih) n
theorem yl_X1_endWithin_2 (cx : rd_Cx) (w : rd_W) : ∀ (n : Nat) (a0 : Nat) (x1 : Int32) (x2 : Int32) (x3 : Int32) (ha0 : rd_ok w a0 1) (S : rd_S), rd_Y cx G_X1_endWithin (fun r => rd_P cx G_X1_endWithin.2.2.2.2.2 0 w (rd_rI w r)) (F_X1_endWithin_2 w n a0 x1 x2 x3 S) 2 [(0, .inr (some a0)), (1, .inl x1), (2, .inl x2), (3, .inl x3)] [] w S 0 0 := by
  intro n
  induction n with
  | zero => intro a0 x1 x2 x3 ha0 S; exact ry_none
  | succ n ih => intro a0 x1 x2 x3 ha0 S; exact yb_X1_endWithin_2 cx w ih a0 x1 x2 x3 ha0 S
def F_X1_endWithin (w : rd_W) (a0 : Nat) (x1 : Int32) (x2 : Int32) (S : rd_S) : Option (Int32 × rd_S) :=
  F_X1_endWithin_2 w rd_big a0 x1 x2 x1 S
theorem ym_X1_endWithin (cx : rd_Cx) (w : rd_W) (a0 : Nat) (x1 : Int32) (x2 : Int32) (ha0 : rd_ok w a0 1) (S : rd_S) : rd_Y cx G_X1_endWithin (fun r => rd_P cx G_X1_endWithin.2.2.2.2.2 0 w (rd_rI w r)) (F_X1_endWithin w a0 x1 x2 S) 0 (rd_as 0 [.inr (some a0), .inl x1, .inl x2]) [] w S 0 0 := by
  unfold F_X1_endWithin
  refine ry_iload_n dX1_endWithin_0 rfl ?_
  refine ry_istore_n dX1_endWithin_1 (by decide) ?_
  exact ry_to (yl_X1_endWithin_2 cx w rd_big a0 x1 x2 x1 ha0 S) ⟨rfl, rfl, rfl, rfl, trivial⟩
theorem cm_X1_endWithin (l : Launch) (cx : rd_Cx) (w : rd_W) (a0 : Nat) (x1 : Int32) (x2 : Int32) (ha0 : rd_ok w a0 1) (S : rd_S) (r : Int32 × rd_S) (h : F_X1_endWithin w a0 x1 x2 S = some r) : rd_M l cx yX1_endWithin G_X1_endWithin 0 [.inr (some a0), .inl x1, .inl x2] w S (rd_rI w r) :=
  rd_enter (plainFor_of_name (by decide +kernel)) rfl (fun h => by cases h) (Nat.le_of_ble_eq_true rfl) (ym_X1_endWithin cx w a0 x1 x2 ha0 S r h)
abbrev G_X1_fullLength : rd_G := (RX1, cX1_fullLength, 4, (some .int), false, { frames := 1, cells := 0, slots := 0, locals := 23 })
theorem yf_X1_fullLength : rd_YL yX1_fullLength G_X1_fullLength 1 := ⟨rd_mem 610 (by decide +kernel) rfl, rd_mem 68 (by decide +kernel) rfl, by decide +kernel, by decide +kernel, by decide +kernel⟩
theorem mi_X1_fullLength : Cond.instanceMethod yX1_fullLength ∈ rd_gw := rd_mem 609 (by decide +kernel) rfl
theorem ms_X1_fullLength : Cond.selects (MethodName.cls yX1_fullLength) yX1_fullLength yX1_fullLength ∈ rd_gw := rd_mem 17 (by decide +kernel) rfl
theorem dX1_fullLength_0 : decode cX1_fullLength 0 = .ok (.iconst 0, 1) := by decide +kernel
theorem dX1_fullLength_1 : decode cX1_fullLength 1 = .ok (.istore_n 2, 1) := by decide +kernel
theorem dX1_fullLength_2 : decode cX1_fullLength 2 = .ok (.iload_n 2, 1) := by decide +kernel
theorem dX1_fullLength_3 : decode cX1_fullLength 3 = .ok (.aload_n 0, 1) := by decide +kernel
theorem dX1_fullLength_4 : decode cX1_fullLength 4 = .ok (.getfield 9, 3) := by decide +kernel
theorem dX1_fullLength_7 : decode cX1_fullLength 7 = .ok (.if_icmp .ge 35, 3) := by decide +kernel
theorem dX1_fullLength_10 : decode cX1_fullLength 10 = .ok (.aload_n 0, 1) := by decide +kernel
theorem dX1_fullLength_11 : decode cX1_fullLength 11 = .ok (.iload_n 2, 1) := by decide +kernel
theorem dX1_fullLength_12 : decode cX1_fullLength 12 = .ok (.invokevirtual 37, 3) := by decide +kernel
theorem dX1_fullLength_15 : decode cX1_fullLength 15 = .ok (.ifCond .ne 5, 3) := by decide +kernel
theorem dX1_fullLength_18 : decode cX1_fullLength 18 = .ok (.iconst (-1), 1) := by decide +kernel
theorem dX1_fullLength_19 : decode cX1_fullLength 19 = .ok (.ireturn, 1) := by decide +kernel
theorem dX1_fullLength_20 : decode cX1_fullLength 20 = .ok (.aload_n 0, 1) := by decide +kernel
theorem dX1_fullLength_21 : decode cX1_fullLength 21 = .ok (.iload_n 2, 1) := by decide +kernel
theorem dX1_fullLength_22 : decode cX1_fullLength 22 = .ok (.iload_n 1, 1) := by decide +kernel
theorem dX1_fullLength_23 : decode cX1_fullLength 23 = .ok (.imul, 1) := by decide +kernel
theorem dX1_fullLength_24 : decode cX1_fullLength 24 = .ok (.iload_n 1, 1) := by decide +kernel
theorem dX1_fullLength_25 : decode cX1_fullLength 25 = .ok (.invokevirtual 61, 3) := by decide +kernel
theorem dX1_fullLength_28 : decode cX1_fullLength 28 = .ok (.istore_n 3, 1) := by decide +kernel
theorem dX1_fullLength_29 : decode cX1_fullLength 29 = .ok (.iload_n 3, 1) := by decide +kernel
theorem dX1_fullLength_30 : decode cX1_fullLength 30 = .ok (.iconst (-1), 1) := by decide +kernel
theorem dX1_fullLength_31 : decode cX1_fullLength 31 = .ok (.if_icmp .eq 5, 3) := by decide +kernel
theorem dX1_fullLength_34 : decode cX1_fullLength 34 = .ok (.iload_n 3, 1) := by decide +kernel
theorem dX1_fullLength_35 : decode cX1_fullLength 35 = .ok (.ireturn, 1) := by decide +kernel
theorem dX1_fullLength_36 : decode cX1_fullLength 36 = .ok (.iinc 2 1, 3) := by decide +kernel
theorem dX1_fullLength_39 : decode cX1_fullLength 39 = .ok (.goto (-37), 3) := by decide +kernel
theorem dX1_fullLength_42 : decode cX1_fullLength 42 = .ok (.aload_n 0, 1) := by decide +kernel
theorem dX1_fullLength_43 : decode cX1_fullLength 43 = .ok (.getfield 9, 3) := by decide +kernel
theorem dX1_fullLength_46 : decode cX1_fullLength 46 = .ok (.iload_n 1, 1) := by decide +kernel
theorem dX1_fullLength_47 : decode cX1_fullLength 47 = .ok (.imul, 1) := by decide +kernel
theorem dX1_fullLength_48 : decode cX1_fullLength 48 = .ok (.ireturn, 1) := by decide +kernel
def B_X1_fullLength_2 (w : rd_W) (k2 : Nat → Int32 → Int32 → rd_S → Option (Int32 × rd_S)) (a0 : Nat) (x1 : Int32) (x2 : Int32) (S : rd_S) : Option (Int32 × rd_S) :=
  if (gI S a0 0) ≤ x2 then
  (some ((gI S a0 0) * x1, S))
  else
  (rd_b (F_X1_isMarked w a0 x2 S) fun v3 s2 =>
  if v3 = 0 then
  (some ((-1), s2))
  else
  (rd_b (F_X1_endWithin w a0 (x2 * x1) x1 s2) fun v6 s5 =>
  if v6 = (-1) then
  (rd_let (x2 + 1) fun v8 =>
  k2 a0 x1 v8 s5)
  else
  (some (v6, s5))))
theorem yb_X1_fullLength_2 (cx : rd_Cx) (w : rd_W) {k2 : Nat → Int32 → Int32 → rd_S → Option (Int32 × rd_S)} (hk2 : ∀ (a0 : Nat) (x1 : Int32) (x2 : Int32) (ha0 : rd_ok w a0 1) (S : rd_S), rd_Y cx G_X1_fullLength (fun r => rd_P cx G_X1_fullLength.2.2.2.2.2 0 w (rd_rI w r)) (k2 a0 x1 x2 S) 2 [(0, .inr (some a0)), (1, .inl x1), (2, .inl x2)] [] w S 0 0) (a0 : Nat) (x1 : Int32) (x2 : Int32) (ha0 : rd_ok w a0 1) (S : rd_S) : rd_Y cx G_X1_fullLength (fun r => rd_P cx G_X1_fullLength.2.2.2.2.2 0 w (rd_rI w r)) (B_X1_fullLength_2 w k2 a0 x1 x2 S) 2 [(0, .inr (some a0)), (1, .inl x1), (2, .inl x2)] [] w S 0 0 := by
  unfold B_X1_fullLength_2
  refine ry_iload_n dX1_fullLength_2 rfl ?_
  refine ry_aload_n dX1_fullLength_3 rfl ?_
  refine ry_geti dX1_fullLength_4 ha0 fl_RX1_9 rfl ?_
  refine ry_icmp_ge 42 dX1_fullLength_7 (by decide) (fun c1 => ?_) (fun c1 => ?_)
  · refine ry_aload_n dX1_fullLength_42 rfl ?_
    refine ry_geti dX1_fullLength_43 ha0 fl_RX1_9 rfl ?_
    refine ry_iload_n dX1_fullLength_46 rfl ?_
    refine ry_imul dX1_fullLength_47 ?_
    exact ry_iret dX1_fullLength_48 rfl (Nat.le_of_ble_eq_true rfl) (Nat.le_of_ble_eq_true rfl)
  · refine ry_aload_n dX1_fullLength_10 rfl ?_
    refine ry_iload_n dX1_fullLength_11 rfl ?_
    refine ry_callI (fun l r9 h9 => cm_X1_isMarked l cx w a0 x2 ha0 S r9 h9) (rd_runV (vs := [.inl x2]) dX1_fullLength_12 ha0 rfl rfl yf_X1_isMarked mi_X1_isMarked ms_X1_isMarked ml_RX1_37 ⟨Nat.le_of_ble_eq_true rfl, Nat.le_of_ble_eq_true rfl⟩ (Nat.le_of_ble_eq_true rfl) rfl) rfl rfl (Nat.le_of_ble_eq_true rfl) (Nat.le_of_ble_eq_true rfl) (fun v3 s2 => ?_)
    refine ry_if_ne 20 dX1_fullLength_15 (by decide) (fun c4 => ?_) (fun c4 => ?_)
    · refine ry_iconst (v := (-1)) dX1_fullLength_18 (by decide) ?_
      exact ry_iret dX1_fullLength_19 rfl (Nat.le_of_ble_eq_true rfl) (Nat.le_of_ble_eq_true rfl)
    · refine ry_aload_n dX1_fullLength_20 rfl ?_
      refine ry_iload_n dX1_fullLength_21 rfl ?_
      refine ry_iload_n dX1_fullLength_22 rfl ?_
      refine ry_imul dX1_fullLength_23 ?_
      refine ry_iload_n dX1_fullLength_24 rfl ?_
      refine ry_callI (fun l r9 h9 => cm_X1_endWithin l cx w a0 (x2 * x1) x1 ha0 s2 r9 h9) (rd_runV (vs := [.inl (x2 * x1), .inl x1]) dX1_fullLength_25 ha0 rfl rfl yf_X1_endWithin mi_X1_endWithin ms_X1_endWithin ml_RX1_61 ⟨Nat.le_of_ble_eq_true rfl, Nat.le_of_ble_eq_true rfl⟩ (Nat.le_of_ble_eq_true rfl) rfl) rfl rfl (Nat.le_of_ble_eq_true rfl) (Nat.le_of_ble_eq_true rfl) (fun v6 s5 => ?_)
      refine ry_istore_n dX1_fullLength_28 (by decide) ?_
      refine ry_iload_n dX1_fullLength_29 rfl ?_
      refine ry_iconst (v := (-1)) dX1_fullLength_30 (by decide) ?_
      refine ry_icmp_eq 36 dX1_fullLength_31 (by decide) (fun c7 => ?_) (fun c7 => ?_)
      · refine ry_iinc (v := 1) dX1_fullLength_36 rfl (by decide) (by decide) ?_
        refine ry_let (fun v8 => ?_)
        refine ry_goto 2 dX1_fullLength_39 (by decide) ?_
        exact ry_to (hk2 a0 x1 v8 ha0 s5) ⟨rfl, rfl, rfl, trivial⟩
      · refine ry_iload_n dX1_fullLength_34 rfl ?_
        exact ry_iret dX1_fullLength_35 rfl (Nat.le_of_ble_eq_true rfl) (Nat.le_of_ble_eq_true rfl)
def F_X1_fullLength_2 (w : rd_W) (n : Nat) : Nat → Int32 → Int32 → rd_S → Option (Int32 × rd_S) :=
  Nat.rec (motive := fun _ => Nat → Int32 → Int32 → rd_S → Option (Int32 × rd_S)) (fun _ _ _ _ => none) (fun _ ih => B_X1_fullLength_2 w ih) n
theorem yl_X1_fullLength_2 (cx : rd_Cx) (w : rd_W) : ∀ (n : Nat) (a0 : Nat) (x1 : Int32) (x2 : Int32) (ha0 : rd_ok w a0 1) (S : rd_S), rd_Y cx G_X1_fullLength (fun r => rd_P cx G_X1_fullLength.2.2.2.2.2 0 w (rd_rI w r)) (F_X1_fullLength_2 w n a0 x1 x2 S) 2 [(0, .inr (some a0)), (1, .inl x1), (2, .inl x2)] [] w S 0 0 := by
  intro n
  induction n with
  | zero => intro a0 x1 x2 ha0 S; exact ry_none
  | succ n ih => intro a0 x1 x2 ha0 S; exact yb_X1_fullLength_2 cx w ih a0 x1 x2 ha0 S
def F_X1_fullLength (w : rd_W) (a0 : Nat) (x1 : Int32) (S : rd_S) : Option (Int32 × rd_S) :=
  F_X1_fullLength_2 w rd_big a0 x1 0 S
theorem ym_X1_fullLength (cx : rd_Cx) (w : rd_W) (a0 : Nat) (x1 : Int32) (ha0 : rd_ok w a0 1) (S : rd_S) : rd_Y cx G_X1_fullLength (fun r => rd_P cx G_X1_fullLength.2.2.2.2.2 0 w (rd_rI w r)) (F_X1_fullLength w a0 x1 S) 0 (rd_as 0 [.inr (some a0), .inl x1]) [] w S 0 0 := by
  unfold F_X1_fullLength
  refine ry_iconst (v := 0) dX1_fullLength_0 (by decide) ?_
  refine ry_istore_n dX1_fullLength_1 (by decide) ?_
  exact ry_to (yl_X1_fullLength_2 cx w rd_big a0 x1 0 ha0 S) ⟨rfl, rfl, rfl, trivial⟩
theorem cm_X1_fullLength (l : Launch) (cx : rd_Cx) (w : rd_W) (a0 : Nat) (x1 : Int32) (ha0 : rd_ok w a0 1) (S : rd_S) (r : Int32 × rd_S) (h : F_X1_fullLength w a0 x1 S = some r) : rd_M l cx yX1_fullLength G_X1_fullLength 0 [.inr (some a0), .inl x1] w S (rd_rI w r) :=
  rd_enter (plainFor_of_name (by decide +kernel)) rfl (fun h => by cases h) (Nat.le_of_ble_eq_true rfl) (ym_X1_fullLength cx w a0 x1 ha0 S r h)
abbrev G_X1_finish : rd_G := (RX1, cX1_finish, 2, none, false, { frames := 1, cells := 0, slots := 0, locals := 40 })
theorem yf_X1_finish : rd_YL yX1_finish G_X1_finish 1 := ⟨rd_mem 618 (by decide +kernel) rfl, rd_mem 68 (by decide +kernel) rfl, by decide +kernel, by decide +kernel, by decide +kernel⟩
theorem mi_X1_finish : Cond.instanceMethod yX1_finish ∈ rd_gw := rd_mem 617 (by decide +kernel) rfl
theorem ms_X1_finish : Cond.selects (MethodName.cls yX1_finish) yX1_finish yX1_finish ∈ rd_gw := rd_mem 19 (by decide +kernel) rfl
theorem dX1_finish_0 : decode cX1_finish 0 = .ok (.iload_n 1, 1) := by decide +kernel
theorem dX1_finish_1 : decode cX1_finish 1 = .ok (.ifCond .lt 12, 3) := by decide +kernel
theorem dX1_finish_4 : decode cX1_finish 4 = .ok (.iload_n 1, 1) := by decide +kernel
theorem dX1_finish_5 : decode cX1_finish 5 = .ok (.aload_n 0, 1) := by decide +kernel
theorem dX1_finish_6 : decode cX1_finish 6 = .ok (.getfield 18, 3) := by decide +kernel
theorem dX1_finish_9 : decode cX1_finish 9 = .ok (.arraylength, 1) := by decide +kernel
theorem dX1_finish_10 : decode cX1_finish 10 = .ok (.if_icmp .le 4, 3) := by decide +kernel
theorem dX1_finish_13 : decode cX1_finish 13 = .ok (.return_, 1) := by decide +kernel
theorem dX1_finish_14 : decode cX1_finish 14 = .ok (.aload_n 0, 1) := by decide +kernel
theorem dX1_finish_15 : decode cX1_finish 15 = .ok (.getfield 18, 3) := by decide +kernel
theorem dX1_finish_18 : decode cX1_finish 18 = .ok (.iconst 0, 1) := by decide +kernel
theorem dX1_finish_19 : decode cX1_finish 19 = .ok (.aload_n 0, 1) := by decide +kernel
theorem dX1_finish_20 : decode cX1_finish 20 = .ok (.getfield 22, 3) := by decide +kernel
theorem dX1_finish_23 : decode cX1_finish 23 = .ok (.iconst 0, 1) := by decide +kernel
theorem dX1_finish_24 : decode cX1_finish 24 = .ok (.iload_n 1, 1) := by decide +kernel
theorem dX1_finish_25 : decode cX1_finish 25 = .ok (.invokestatic 65, 3) := by decide +kernel
theorem dX1_finish_28 : decode cX1_finish 28 = .ok (.aload_n 0, 1) := by decide +kernel
theorem dX1_finish_29 : decode cX1_finish 29 = .ok (.iload_n 1, 1) := by decide +kernel
theorem dX1_finish_30 : decode cX1_finish 30 = .ok (.putfield 31, 3) := by decide +kernel
theorem dX1_finish_33 : decode cX1_finish 33 = .ok (.aload_n 0, 1) := by decide +kernel
theorem dX1_finish_34 : decode cX1_finish 34 = .ok (.dup, 1) := by decide +kernel
theorem dX1_finish_35 : decode cX1_finish 35 = .ok (.getfield 34, 3) := by decide +kernel
theorem dX1_finish_38 : decode cX1_finish 38 = .ok (.iconst 1, 1) := by decide +kernel
theorem dX1_finish_39 : decode cX1_finish 39 = .ok (.iadd, 1) := by decide +kernel
theorem dX1_finish_40 : decode cX1_finish 40 = .ok (.putfield 34, 3) := by decide +kernel
theorem dX1_finish_43 : decode cX1_finish 43 = .ok (.aload_n 0, 1) := by decide +kernel
theorem dX1_finish_44 : decode cX1_finish 44 = .ok (.iconst 0, 1) := by decide +kernel
theorem dX1_finish_45 : decode cX1_finish 45 = .ok (.putfield 28, 3) := by decide +kernel
theorem dX1_finish_48 : decode cX1_finish 48 = .ok (.return_, 1) := by decide +kernel
def B_X1_finish_13 (w : rd_W) (S : rd_S) : Option (rd_S) :=
  some S
theorem yb_X1_finish_13 (cx : rd_Cx) (w : rd_W) (S : rd_S) : rd_Y cx G_X1_finish (fun r => rd_P cx G_X1_finish.2.2.2.2.2 0 w (rd_rV w r)) (B_X1_finish_13 w S) 13 [] [] w S 0 0 := by
  unfold B_X1_finish_13
  exact ry_vret dX1_finish_13 rfl (Nat.le_of_ble_eq_true rfl) (Nat.le_of_ble_eq_true rfl)
def F_X1_finish (w : rd_W) (a0 : Nat) (x1 : Int32) (S : rd_S) : Option (rd_S) :=
  if x1 < 0 then
  (B_X1_finish_13 w S)
  else
  (rd_c (gR S a0 2) fun b2 =>
  if x1 ≤ (nI (w.2.2 b2)) then
  (rd_c (gR S a0 2) fun b4 =>
  rd_c (gR S a0 3) fun b5 =>
  rd_cp 0 0 x1 (w.2.2 b4) (w.2.2 b5) <|
  rd_let (rd_cpy S b4 b5 0 0 x1) fun s6 =>
  rd_let (pI s6 a0 6 x1) fun s7 =>
  rd_let (pI s7 a0 7 ((gI s7 a0 7) + 1)) fun s8 =>
  rd_let (pI s8 a0 4 0) fun s9 =>
  some s9)
  else
  (B_X1_finish_13 w S))
theorem ym_X1_finish (cx : rd_Cx) (w : rd_W) (a0 : Nat) (x1 : Int32) (ha0 : rd_ok w a0 1) (S : rd_S) : rd_Y cx G_X1_finish (fun r => rd_P cx G_X1_finish.2.2.2.2.2 0 w (rd_rV w r)) (F_X1_finish w a0 x1 S) 0 (rd_as 0 [.inr (some a0), .inl x1]) [] w S 0 0 := by
  unfold F_X1_finish
  refine ry_iload_n dX1_finish_0 rfl ?_
  refine ry_if_lt 13 dX1_finish_1 (by decide) (fun c1 => ?_) (fun c1 => ?_)
  · exact ry_to (yb_X1_finish_13 cx w S) trivial
  · refine ry_iload_n dX1_finish_4 rfl ?_
    refine ry_aload_n dX1_finish_5 rfl ?_
    refine ry_getr dX1_finish_6 ha0 fl_RX1_18 rfl (fun b2 hb2 => ?_)
    refine ry_alen dX1_finish_9 hb2 ?_
    refine ry_icmp_le 14 dX1_finish_10 (by decide) (fun c3 => ?_) (fun c3 => ?_)
    · refine ry_aload_n dX1_finish_14 rfl ?_
      refine ry_getr dX1_finish_15 ha0 fl_RX1_18 rfl (fun b4 hb4 => ?_)
      refine ry_iconst (v := 0) dX1_finish_18 (by decide) ?_
      refine ry_aload_n dX1_finish_19 rfl ?_
      refine ry_getr dX1_finish_20 ha0 fl_RX1_22 rfl (fun b5 hb5 => ?_)
      refine ry_iconst (v := 0) dX1_finish_23 (by decide) ?_
      refine ry_iload_n dX1_finish_24 rfl ?_
      refine ry_copy dX1_finish_25 ml_RX1_65 ac_native ac_static ac_init hb4 hb5 (by decide) (by decide) ?_
      refine ry_letS (fun s6 => ?_)
      refine ry_aload_n dX1_finish_28 rfl ?_
      refine ry_iload_n dX1_finish_29 rfl ?_
      refine ry_puti dX1_finish_30 ha0 fl_RX1_31 rfl rfl rfl ?_
      refine ry_letS (fun s7 => ?_)
      refine ry_aload_n dX1_finish_33 rfl ?_
      refine ry_dup dX1_finish_34 ?_
      refine ry_geti dX1_finish_35 ha0 fl_RX1_34 rfl ?_
      refine ry_iconst (v := 1) dX1_finish_38 (by decide) ?_
      refine ry_iadd dX1_finish_39 ?_
      refine ry_puti dX1_finish_40 ha0 fl_RX1_34 rfl rfl rfl ?_
      refine ry_letS (fun s8 => ?_)
      refine ry_aload_n dX1_finish_43 rfl ?_
      refine ry_iconst (v := 0) dX1_finish_44 (by decide) ?_
      refine ry_puti dX1_finish_45 ha0 fl_RX1_28 rfl rfl rfl ?_
      refine ry_letS (fun s9 => ?_)
      exact ry_vret dX1_finish_48 rfl (Nat.le_of_ble_eq_true rfl) (Nat.le_of_ble_eq_true rfl)
    · exact ry_to (yb_X1_finish_13 cx w S) trivial
theorem cm_X1_finish (l : Launch) (cx : rd_Cx) (w : rd_W) (a0 : Nat) (x1 : Int32) (ha0 : rd_ok w a0 1) (S : rd_S) (r : rd_S) (h : F_X1_finish w a0 x1 S = some r) : rd_M l cx yX1_finish G_X1_finish 0 [.inr (some a0), .inl x1] w S (rd_rV w r) :=
  rd_enter (plainFor_of_name (by decide +kernel)) rfl (fun h => by cases h) (Nat.le_of_ble_eq_true rfl) (ym_X1_finish cx w a0 x1 ha0 S r h)
