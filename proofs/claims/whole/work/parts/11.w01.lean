abbrev G_X3_isWhole : rd_G := (RX3, cX3_isWhole, 1, (some .boolean), false, { frames := 1, cells := 0, slots := 0, locals := 21 })
theorem yf_X3_isWhole : rd_YL yX3_isWhole G_X3_isWhole 0 := ⟨rd_mem 461 (by decide +kernel) rfl, rd_mem 64 (by decide +kernel) rfl, by decide +kernel, by decide +kernel, by decide +kernel⟩
theorem mi_X3_isWhole : Cond.instanceMethod yX3_isWhole ∈ rd_gw := rd_mem 459 (by decide +kernel) rfl
theorem ms_X3_isWhole : Cond.selects (MethodName.cls yX3_isWhole) yX3_isWhole yX3_isWhole ∈ rd_gw := rd_mem 460 (by decide +kernel) rfl
theorem dX3_isWhole_0 : decode cX3_isWhole 0 = .ok (.aload_n 0, 1) := by decide +kernel
theorem dX3_isWhole_1 : decode cX3_isWhole 1 = .ok (.iconst 0, 1) := by decide +kernel
theorem dX3_isWhole_2 : decode cX3_isWhole 2 = .ok (.invokevirtual 56, 3) := by decide +kernel
theorem dX3_isWhole_5 : decode cX3_isWhole 5 = .ok (.ifCond .eq 31, 3) := by decide +kernel
theorem dX3_isWhole_8 : decode cX3_isWhole 8 = .ok (.aload_n 0, 1) := by decide +kernel
theorem dX3_isWhole_9 : decode cX3_isWhole 9 = .ok (.iconst 1, 1) := by decide +kernel
theorem dX3_isWhole_10 : decode cX3_isWhole 10 = .ok (.invokevirtual 56, 3) := by decide +kernel
theorem dX3_isWhole_13 : decode cX3_isWhole 13 = .ok (.ifCond .eq 23, 3) := by decide +kernel
theorem dX3_isWhole_16 : decode cX3_isWhole 16 = .ok (.aload_n 0, 1) := by decide +kernel
theorem dX3_isWhole_17 : decode cX3_isWhole 17 = .ok (.iconst 2, 1) := by decide +kernel
theorem dX3_isWhole_18 : decode cX3_isWhole 18 = .ok (.invokevirtual 56, 3) := by decide +kernel
theorem dX3_isWhole_21 : decode cX3_isWhole 21 = .ok (.ifCond .eq 15, 3) := by decide +kernel
theorem dX3_isWhole_24 : decode cX3_isWhole 24 = .ok (.aload_n 0, 1) := by decide +kernel
theorem dX3_isWhole_25 : decode cX3_isWhole 25 = .ok (.iconst 3, 1) := by decide +kernel
theorem dX3_isWhole_26 : decode cX3_isWhole 26 = .ok (.invokevirtual 56, 3) := by decide +kernel
theorem dX3_isWhole_29 : decode cX3_isWhole 29 = .ok (.ifCond .eq 7, 3) := by decide +kernel
theorem dX3_isWhole_32 : decode cX3_isWhole 32 = .ok (.iconst 1, 1) := by decide +kernel
theorem dX3_isWhole_33 : decode cX3_isWhole 33 = .ok (.goto 4, 3) := by decide +kernel
theorem dX3_isWhole_36 : decode cX3_isWhole 36 = .ok (.iconst 0, 1) := by decide +kernel
theorem dX3_isWhole_37 : decode cX3_isWhole 37 = .ok (.ireturn, 1) := by decide +kernel
def B_X3_isWhole_37 (w : rd_W) (t0 : Int32) (S : rd_S) : Option (Int32 × rd_S) :=
  rd_z t0 <|
  some (t0, S)
theorem yb_X3_isWhole_37 (cx : rd_Cx) (w : rd_W) (t0 : Int32) (S : rd_S) : rd_Y cx G_X3_isWhole (fun r => rd_P cx G_X3_isWhole.2.2.2.2.2 0 w (rd_rI w r)) (B_X3_isWhole_37 w t0 S) 37 [] [.inl t0] w S 0 0 := by
  unfold B_X3_isWhole_37
  refine ry_zg (fun z4 => ?_)
  exact ry_zret dX3_isWhole_37 rfl z4 (Nat.le_of_ble_eq_true rfl) (Nat.le_of_ble_eq_true rfl)
def B_X3_isWhole_36 (w : rd_W) (S : rd_S) : Option (Int32 × rd_S) :=
  B_X3_isWhole_37 w 0 S
theorem yb_X3_isWhole_36 (cx : rd_Cx) (w : rd_W) (S : rd_S) : rd_Y cx G_X3_isWhole (fun r => rd_P cx G_X3_isWhole.2.2.2.2.2 0 w (rd_rI w r)) (B_X3_isWhole_36 w S) 36 [] [] w S 0 0 := by
  unfold B_X3_isWhole_36
  refine ry_iconst (v := 0) dX3_isWhole_36 (by decide) ?_
  exact ry_to (yb_X3_isWhole_37 cx w 0 S) trivial
def F_X3_isWhole (w : rd_W) (a0 : Nat) (S : rd_S) : Option (Int32 × rd_S) :=
  rd_b (F_X3_knows w a0 0 S) fun v2 s1 =>
  if v2 = 0 then
  (B_X3_isWhole_36 w s1)
  else
  (rd_b (F_X3_knows w a0 1 s1) fun v6 s5 =>
  if v6 = 0 then
  (B_X3_isWhole_36 w s5)
  else
  (rd_b (F_X3_knows w a0 2 s5) fun v9 s8 =>
  if v9 = 0 then
  (B_X3_isWhole_36 w s8)
  else
  (rd_b (F_X3_knows w a0 3 s8) fun v12 s11 =>
  if v12 = 0 then
  (B_X3_isWhole_36 w s11)
  else
  (B_X3_isWhole_37 w 1 s11))))
theorem ym_X3_isWhole (cx : rd_Cx) (w : rd_W) (a0 : Nat) (ha0 : rd_ok w a0 3) (S : rd_S) : rd_Y cx G_X3_isWhole (fun r => rd_P cx G_X3_isWhole.2.2.2.2.2 0 w (rd_rI w r)) (F_X3_isWhole w a0 S) 0 (rd_as 0 [.inr (some a0)]) [] w S 0 0 := by
  unfold F_X3_isWhole
  refine ry_aload_n dX3_isWhole_0 rfl ?_
  refine ry_iconst (v := 0) dX3_isWhole_1 (by decide) ?_
  refine ry_callI (fun l r9 h9 => cm_X3_knows l cx w a0 0 ha0 S r9 h9) (rd_runV (vs := [.inl 0]) dX3_isWhole_2 ha0 rfl rfl yf_X3_knows mi_X3_knows ms_X3_knows ml_RX3_56 ⟨Nat.le_of_ble_eq_true rfl, Nat.le_of_ble_eq_true rfl⟩ (Nat.le_of_ble_eq_true rfl) rfl) rfl rfl (Nat.le_of_ble_eq_true rfl) (Nat.le_of_ble_eq_true rfl) (fun v2 s1 => ?_)
  refine ry_if_eq 36 dX3_isWhole_5 (by decide) (fun c3 => ?_) (fun c3 => ?_)
  · exact ry_to (yb_X3_isWhole_36 cx w s1) trivial
  · refine ry_aload_n dX3_isWhole_8 rfl ?_
    refine ry_iconst (v := 1) dX3_isWhole_9 (by decide) ?_
    refine ry_callI (fun l r9 h9 => cm_X3_knows l cx w a0 1 ha0 s1 r9 h9) (rd_runV (vs := [.inl 1]) dX3_isWhole_10 ha0 rfl rfl yf_X3_knows mi_X3_knows ms_X3_knows ml_RX3_56 ⟨Nat.le_of_ble_eq_true rfl, Nat.le_of_ble_eq_true rfl⟩ (Nat.le_of_ble_eq_true rfl) rfl) rfl rfl (Nat.le_of_ble_eq_true rfl) (Nat.le_of_ble_eq_true rfl) (fun v6 s5 => ?_)
    refine ry_if_eq 36 dX3_isWhole_13 (by decide) (fun c7 => ?_) (fun c7 => ?_)
    · exact ry_to (yb_X3_isWhole_36 cx w s5) trivial
    · refine ry_aload_n dX3_isWhole_16 rfl ?_
      refine ry_iconst (v := 2) dX3_isWhole_17 (by decide) ?_
      refine ry_callI (fun l r9 h9 => cm_X3_knows l cx w a0 2 ha0 s5 r9 h9) (rd_runV (vs := [.inl 2]) dX3_isWhole_18 ha0 rfl rfl yf_X3_knows mi_X3_knows ms_X3_knows ml_RX3_56 ⟨Nat.le_of_ble_eq_true rfl, Nat.le_of_ble_eq_true rfl⟩ (Nat.le_of_ble_eq_true rfl) rfl) rfl rfl (Nat.le_of_ble_eq_true rfl) (Nat.le_of_ble_eq_true rfl) (fun v9 s8 => ?_)
      refine ry_if_eq 36 dX3_isWhole_21 (by decide) (fun c10 => ?_) (fun c10 => ?_)
      · exact ry_to (yb_X3_isWhole_36 cx w s8) trivial
      · refine ry_aload_n dX3_isWhole_24 rfl ?_
        refine ry_iconst (v := 3) dX3_isWhole_25 (by decide) ?_
        refine ry_callI (fun l r9 h9 => cm_X3_knows l cx w a0 3 ha0 s8 r9 h9) (rd_runV (vs := [.inl 3]) dX3_isWhole_26 ha0 rfl rfl yf_X3_knows mi_X3_knows ms_X3_knows ml_RX3_56 ⟨Nat.le_of_ble_eq_true rfl, Nat.le_of_ble_eq_true rfl⟩ (Nat.le_of_ble_eq_true rfl) rfl) rfl rfl (Nat.le_of_ble_eq_true rfl) (Nat.le_of_ble_eq_true rfl) (fun v12 s11 => ?_)
        refine ry_if_eq 36 dX3_isWhole_29 (by decide) (fun c13 => ?_) (fun c13 => ?_)
        · exact ry_to (yb_X3_isWhole_36 cx w s11) trivial
        · refine ry_iconst (v := 1) dX3_isWhole_32 (by decide) ?_
          refine ry_goto 37 dX3_isWhole_33 (by decide) ?_
          exact ry_to (yb_X3_isWhole_37 cx w 1 s11) trivial
theorem cm_X3_isWhole (l : Launch) (cx : rd_Cx) (w : rd_W) (a0 : Nat) (ha0 : rd_ok w a0 3) (S : rd_S) (r : Int32 × rd_S) (h : F_X3_isWhole w a0 S = some r) : rd_M l cx yX3_isWhole G_X3_isWhole 0 [.inr (some a0)] w S (rd_rI w r) :=
  rd_enter (plainFor_of_name (by decide +kernel)) rfl (fun h => by cases h) (Nat.le_of_ble_eq_true rfl) (ym_X3_isWhole cx w a0 ha0 S r h)
abbrev G_X10_clear : rd_G := (RX10, cX10_clear, 1, none, false, { frames := 0, cells := 0, slots := 0, locals := 0 })
theorem yf_X10_clear : rd_YL yX10_clear G_X10_clear 0 := ⟨rd_mem 469 (by decide +kernel) rfl, rd_mem 66 (by decide +kernel) rfl, by decide +kernel, by decide +kernel, by decide +kernel⟩
theorem mi_X10_clear : Cond.instanceMethod yX10_clear ∈ rd_gw := rd_mem 467 (by decide +kernel) rfl
theorem ms_X10_clear : Cond.selects (MethodName.cls yX10_clear) yX10_clear yX10_clear ∈ rd_gw := rd_mem 468 (by decide +kernel) rfl
theorem dX10_clear_0 : decode cX10_clear 0 = .ok (.aload_n 0, 1) := by decide +kernel
theorem dX10_clear_1 : decode cX10_clear 1 = .ok (.iconst 0, 1) := by decide +kernel
theorem dX10_clear_2 : decode cX10_clear 2 = .ok (.putfield 13, 3) := by decide +kernel
theorem dX10_clear_5 : decode cX10_clear 5 = .ok (.aload_n 0, 1) := by decide +kernel
theorem dX10_clear_6 : decode cX10_clear 6 = .ok (.iconst 0, 1) := by decide +kernel
theorem dX10_clear_7 : decode cX10_clear 7 = .ok (.putfield 17, 3) := by decide +kernel
theorem dX10_clear_10 : decode cX10_clear 10 = .ok (.aload_n 0, 1) := by decide +kernel
theorem dX10_clear_11 : decode cX10_clear 11 = .ok (.iconst 0, 1) := by decide +kernel
theorem dX10_clear_12 : decode cX10_clear 12 = .ok (.putfield 20, 3) := by decide +kernel
theorem dX10_clear_15 : decode cX10_clear 15 = .ok (.return_, 1) := by decide +kernel
def F_X10_clear (w : rd_W) (a0 : Nat) (S : rd_S) : Option (rd_S) :=
  rd_let (pI S a0 1 0) fun s1 =>
  rd_let (pI s1 a0 2 0) fun s2 =>
  rd_let (pI s2 a0 3 0) fun s3 =>
  some s3
theorem ym_X10_clear (cx : rd_Cx) (w : rd_W) (a0 : Nat) (ha0 : rd_ok w a0 10) (S : rd_S) : rd_Y cx G_X10_clear (fun r => rd_P cx G_X10_clear.2.2.2.2.2 0 w (rd_rV w r)) (F_X10_clear w a0 S) 0 (rd_as 0 [.inr (some a0)]) [] w S 0 0 := by
  unfold F_X10_clear
  refine ry_aload_n dX10_clear_0 rfl ?_
  refine ry_iconst (v := 0) dX10_clear_1 (by decide) ?_
  refine ry_puti dX10_clear_2 ha0 fl_RX10_13 rfl rfl rfl ?_
  refine ry_letS (fun s1 => ?_)
  refine ry_aload_n dX10_clear_5 rfl ?_
  refine ry_iconst (v := 0) dX10_clear_6 (by decide) ?_
  refine ry_puti dX10_clear_7 ha0 fl_RX10_17 rfl rfl rfl ?_
  refine ry_letS (fun s2 => ?_)
  refine ry_aload_n dX10_clear_10 rfl ?_
  refine ry_iconst (v := 0) dX10_clear_11 (by decide) ?_
  refine ry_puti dX10_clear_12 ha0 fl_RX10_20 rfl rfl rfl ?_
  refine ry_letS (fun s3 => ?_)
  exact ry_vret dX10_clear_15 rfl (Nat.le_of_ble_eq_true rfl) (Nat.le_of_ble_eq_true rfl)
theorem cm_X10_clear (l : Launch) (cx : rd_Cx) (w : rd_W) (a0 : Nat) (ha0 : rd_ok w a0 10) (S : rd_S) (r : rd_S) (h : F_X10_clear w a0 S = some r) : rd_M l cx yX10_clear G_X10_clear 0 [.inr (some a0)] w S (rd_rV w r) :=
  rd_enter (plainFor_of_name (by decide +kernel)) rfl (fun h => by cases h) (Nat.le_of_ble_eq_true rfl) (ym_X10_clear cx w a0 ha0 S r h)
abbrev G_X7_beginSearch : rd_G := (RX7, cX7_beginSearch, 1, none, false, { frames := 1, cells := 0, slots := 0, locals := 20 })
theorem yf_X7_beginSearch : rd_YL yX7_beginSearch G_X7_beginSearch 0 := ⟨rd_mem 465 (by decide +kernel) rfl, rd_mem 63 (by decide +kernel) rfl, by decide +kernel, by decide +kernel, by decide +kernel⟩
theorem mi_X7_beginSearch : Cond.instanceMethod yX7_beginSearch ∈ rd_gw := rd_mem 464 (by decide +kernel) rfl
theorem ms_X7_beginSearch : Cond.selects (MethodName.cls yX7_beginSearch) yX7_beginSearch yX7_beginSearch ∈ rd_gw := rd_mem 4 (by decide +kernel) rfl
theorem dX7_beginSearch_0 : decode cX7_beginSearch 0 = .ok (.aload_n 0, 1) := by decide +kernel
theorem dX7_beginSearch_1 : decode cX7_beginSearch 1 = .ok (.getfield 21, 3) := by decide +kernel
theorem dX7_beginSearch_4 : decode cX7_beginSearch 4 = .ok (.invokevirtual 66, 3) := by decide +kernel
theorem dX7_beginSearch_7 : decode cX7_beginSearch 7 = .ok (.aload_n 0, 1) := by decide +kernel
theorem dX7_beginSearch_8 : decode cX7_beginSearch 8 = .ok (.iconst 0, 1) := by decide +kernel
theorem dX7_beginSearch_9 : decode cX7_beginSearch 9 = .ok (.putfield 69, 3) := by decide +kernel
theorem dX7_beginSearch_12 : decode cX7_beginSearch 12 = .ok (.aload_n 0, 1) := by decide +kernel
theorem dX7_beginSearch_13 : decode cX7_beginSearch 13 = .ok (.iconst 0, 1) := by decide +kernel
theorem dX7_beginSearch_14 : decode cX7_beginSearch 14 = .ok (.putfield 72, 3) := by decide +kernel
theorem dX7_beginSearch_17 : decode cX7_beginSearch 17 = .ok (.aload_n 0, 1) := by decide +kernel
theorem dX7_beginSearch_18 : decode cX7_beginSearch 18 = .ok (.iconst (-1), 1) := by decide +kernel
theorem dX7_beginSearch_19 : decode cX7_beginSearch 19 = .ok (.putfield 39, 3) := by decide +kernel
theorem dX7_beginSearch_22 : decode cX7_beginSearch 22 = .ok (.return_, 1) := by decide +kernel
def F_X7_beginSearch (w : rd_W) (a0 : Nat) (S : rd_S) : Option (rd_S) :=
  rd_c (gR S a0 1) fun b1 =>
  rd_c (F_X10_clear w b1 S) fun s2 =>
  rd_let (pI s2 a0 8 0) fun s3 =>
  rd_let (pI s3 a0 9 0) fun s4 =>
  rd_let (pI s4 a0 10 (-1)) fun s5 =>
  some s5
theorem ym_X7_beginSearch (cx : rd_Cx) (w : rd_W) (a0 : Nat) (ha0 : rd_ok w a0 7) (S : rd_S) : rd_Y cx G_X7_beginSearch (fun r => rd_P cx G_X7_beginSearch.2.2.2.2.2 0 w (rd_rV w r)) (F_X7_beginSearch w a0 S) 0 (rd_as 0 [.inr (some a0)]) [] w S 0 0 := by
  unfold F_X7_beginSearch
  refine ry_aload_n dX7_beginSearch_0 rfl ?_
  refine ry_getr dX7_beginSearch_1 ha0 fl_RX7_21 rfl (fun b1 hb1 => ?_)
  refine ry_callv (fun l r9 h9 => cm_X10_clear l cx w b1 hb1 S r9 h9) (rd_runV (vs := []) dX7_beginSearch_4 hb1 rfl rfl yf_X10_clear mi_X10_clear ms_X10_clear ml_RX7_66 ⟨Nat.le_of_ble_eq_true rfl, Nat.le_of_ble_eq_true rfl⟩ (Nat.le_of_ble_eq_true rfl) rfl) rfl rfl (Nat.le_of_ble_eq_true rfl) (Nat.le_of_ble_eq_true rfl) (fun s2 => ?_)
  refine ry_aload_n dX7_beginSearch_7 rfl ?_
  refine ry_iconst (v := 0) dX7_beginSearch_8 (by decide) ?_
  refine ry_puti dX7_beginSearch_9 ha0 fl_RX7_69 rfl rfl rfl ?_
  refine ry_letS (fun s3 => ?_)
  refine ry_aload_n dX7_beginSearch_12 rfl ?_
  refine ry_iconst (v := 0) dX7_beginSearch_13 (by decide) ?_
  refine ry_puti dX7_beginSearch_14 ha0 fl_RX7_72 rfl rfl rfl ?_
  refine ry_letS (fun s4 => ?_)
  refine ry_aload_n dX7_beginSearch_17 rfl ?_
  refine ry_iconst (v := (-1)) dX7_beginSearch_18 (by decide) ?_
  refine ry_puti dX7_beginSearch_19 ha0 fl_RX7_39 rfl rfl rfl ?_
  refine ry_letS (fun s5 => ?_)
  exact ry_vret dX7_beginSearch_22 rfl (Nat.le_of_ble_eq_true rfl) (Nat.le_of_ble_eq_true rfl)
theorem cm_X7_beginSearch (l : Launch) (cx : rd_Cx) (w : rd_W) (a0 : Nat) (ha0 : rd_ok w a0 7) (S : rd_S) (r : rd_S) (h : F_X7_beginSearch w a0 S = some r) : rd_M l cx yX7_beginSearch G_X7_beginSearch 0 [.inr (some a0)] w S (rd_rV w r) :=
  rd_enter (plainFor_of_name (by decide +kernel)) rfl (fun h => by cases h) (Nat.le_of_ble_eq_true rfl) (ym_X7_beginSearch cx w a0 ha0 S r h)
abbrev G_X7_lookAt : rd_G := (RX7, cX7_lookAt, 4, (some .boolean), false, { frames := 3, cells := 0, slots := 0, locals := 77 })
theorem yf_X7_lookAt : rd_YL yX7_lookAt G_X7_lookAt 1 := ⟨rd_mem 415 (by decide +kernel) rfl, rd_mem 63 (by decide +kernel) rfl, by decide +kernel, by decide +kernel, by decide +kernel⟩
theorem mi_X7_lookAt : Cond.instanceMethod yX7_lookAt ∈ rd_gw := rd_mem 414 (by decide +kernel) rfl
theorem ms_X7_lookAt : Cond.selects (MethodName.cls yX7_lookAt) yX7_lookAt yX7_lookAt ∈ rd_gw := rd_mem 1 (by decide +kernel) rfl
theorem dX7_lookAt_0 : decode cX7_lookAt 0 = .ok (.aload_n 0, 1) := by decide +kernel
theorem dX7_lookAt_1 : decode cX7_lookAt 1 = .ok (.getfield 39, 3) := by decide +kernel
theorem dX7_lookAt_4 : decode cX7_lookAt 4 = .ok (.ifCond .ne 11, 3) := by decide +kernel
theorem dX7_lookAt_7 : decode cX7_lookAt 7 = .ok (.aload_n 0, 1) := by decide +kernel
theorem dX7_lookAt_8 : decode cX7_lookAt 8 = .ok (.getfield 14, 3) := by decide +kernel
theorem dX7_lookAt_11 : decode cX7_lookAt 11 = .ok (.iconst 3, 1) := by decide +kernel
theorem dX7_lookAt_12 : decode cX7_lookAt 12 = .ok (.invokevirtual 126, 3) := by decide +kernel
theorem dX7_lookAt_15 : decode cX7_lookAt 15 = .ok (.aload_n 0, 1) := by decide +kernel
theorem dX7_lookAt_16 : decode cX7_lookAt 16 = .ok (.getfield 14, 3) := by decide +kernel
theorem dX7_lookAt_19 : decode cX7_lookAt 19 = .ok (.aload_n 0, 1) := by decide +kernel
theorem dX7_lookAt_20 : decode cX7_lookAt 20 = .ok (.getfield 39, 3) := by decide +kernel
theorem dX7_lookAt_23 : decode cX7_lookAt 23 = .ok (.iload_n 1, 1) := by decide +kernel
theorem dX7_lookAt_24 : decode cX7_lookAt 24 = .ok (.aload_n 0, 1) := by decide +kernel
theorem dX7_lookAt_25 : decode cX7_lookAt 25 = .ok (.getfield 32, 3) := by decide +kernel
theorem dX7_lookAt_28 : decode cX7_lookAt 28 = .ok (.invokevirtual 129, 3) := by decide +kernel
theorem dX7_lookAt_31 : decode cX7_lookAt 31 = .ok (.istore_n 2, 1) := by decide +kernel
theorem dX7_lookAt_32 : decode cX7_lookAt 32 = .ok (.iload_n 2, 1) := by decide +kernel
theorem dX7_lookAt_33 : decode cX7_lookAt 33 = .ok (.ifCond .lt 22, 3) := by decide +kernel
theorem dX7_lookAt_36 : decode cX7_lookAt 36 = .ok (.iload_n 2, 1) := by decide +kernel
theorem dX7_lookAt_37 : decode cX7_lookAt 37 = .ok (.aload_n 0, 1) := by decide +kernel
theorem dX7_lookAt_38 : decode cX7_lookAt 38 = .ok (.getfield 29, 3) := by decide +kernel
theorem dX7_lookAt_41 : decode cX7_lookAt 41 = .ok (.arraylength, 1) := by decide +kernel
theorem dX7_lookAt_42 : decode cX7_lookAt 42 = .ok (.if_icmp .ge 13, 3) := by decide +kernel
theorem dX7_lookAt_45 : decode cX7_lookAt 45 = .ok (.aload_n 0, 1) := by decide +kernel
theorem dX7_lookAt_46 : decode cX7_lookAt 46 = .ok (.getfield 29, 3) := by decide +kernel
theorem dX7_lookAt_49 : decode cX7_lookAt 49 = .ok (.iload_n 2, 1) := by decide +kernel
theorem dX7_lookAt_50 : decode cX7_lookAt 50 = .ok (.dup2, 1) := by decide +kernel
theorem dX7_lookAt_51 : decode cX7_lookAt 51 = .ok (.iaload, 1) := by decide +kernel
theorem dX7_lookAt_52 : decode cX7_lookAt 52 = .ok (.iconst 1, 1) := by decide +kernel
theorem dX7_lookAt_53 : decode cX7_lookAt 53 = .ok (.iadd, 1) := by decide +kernel
theorem dX7_lookAt_54 : decode cX7_lookAt 54 = .ok (.iastore, 1) := by decide +kernel
theorem dX7_lookAt_55 : decode cX7_lookAt 55 = .ok (.aload_n 0, 1) := by decide +kernel
theorem dX7_lookAt_56 : decode cX7_lookAt 56 = .ok (.getfield 21, 3) := by decide +kernel
theorem dX7_lookAt_59 : decode cX7_lookAt 59 = .ok (.iload_n 2, 1) := by decide +kernel
theorem dX7_lookAt_60 : decode cX7_lookAt 60 = .ok (.iconst 2, 1) := by decide +kernel
theorem dX7_lookAt_61 : decode cX7_lookAt 61 = .ok (.if_icmp .ne 7, 3) := by decide +kernel
theorem dX7_lookAt_64 : decode cX7_lookAt 64 = .ok (.iconst 1, 1) := by decide +kernel
theorem dX7_lookAt_65 : decode cX7_lookAt 65 = .ok (.goto 4, 3) := by decide +kernel
theorem dX7_lookAt_68 : decode cX7_lookAt 68 = .ok (.iconst 0, 1) := by decide +kernel
theorem dX7_lookAt_69 : decode cX7_lookAt 69 = .ok (.invokevirtual 132, 3) := by decide +kernel
theorem dX7_lookAt_72 : decode cX7_lookAt 72 = .ok (.aload_n 0, 1) := by decide +kernel
theorem dX7_lookAt_73 : decode cX7_lookAt 73 = .ok (.getfield 39, 3) := by decide +kernel
theorem dX7_lookAt_76 : decode cX7_lookAt 76 = .ok (.iconst 3, 1) := by decide +kernel
theorem dX7_lookAt_77 : decode cX7_lookAt 77 = .ok (.if_icmp .ne 7, 3) := by decide +kernel
theorem dX7_lookAt_80 : decode cX7_lookAt 80 = .ok (.iconst 1, 1) := by decide +kernel
theorem dX7_lookAt_81 : decode cX7_lookAt 81 = .ok (.goto 4, 3) := by decide +kernel
theorem dX7_lookAt_84 : decode cX7_lookAt 84 = .ok (.iconst 0, 1) := by decide +kernel
theorem dX7_lookAt_85 : decode cX7_lookAt 85 = .ok (.istore_n 3, 1) := by decide +kernel
theorem dX7_lookAt_86 : decode cX7_lookAt 86 = .ok (.iload_n 3, 1) := by decide +kernel
theorem dX7_lookAt_87 : decode cX7_lookAt 87 = .ok (.ifCond .eq 37, 3) := by decide +kernel
theorem dX7_lookAt_90 : decode cX7_lookAt 90 = .ok (.aload_n 0, 1) := by decide +kernel
theorem dX7_lookAt_91 : decode cX7_lookAt 91 = .ok (.dup, 1) := by decide +kernel
theorem dX7_lookAt_92 : decode cX7_lookAt 92 = .ok (.getfield 54, 3) := by decide +kernel
theorem dX7_lookAt_95 : decode cX7_lookAt 95 = .ok (.iconst 1, 1) := by decide +kernel
theorem dX7_lookAt_96 : decode cX7_lookAt 96 = .ok (.iadd, 1) := by decide +kernel
theorem dX7_lookAt_97 : decode cX7_lookAt 97 = .ok (.putfield 54, 3) := by decide +kernel
theorem dX7_lookAt_100 : decode cX7_lookAt 100 = .ok (.aload_n 0, 1) := by decide +kernel
theorem dX7_lookAt_101 : decode cX7_lookAt 101 = .ok (.dup, 1) := by decide +kernel
theorem dX7_lookAt_102 : decode cX7_lookAt 102 = .ok (.getfield 57, 3) := by decide +kernel
theorem dX7_lookAt_105 : decode cX7_lookAt 105 = .ok (.aload_n 0, 1) := by decide +kernel
theorem dX7_lookAt_106 : decode cX7_lookAt 106 = .ok (.getfield 14, 3) := by decide +kernel
theorem dX7_lookAt_109 : decode cX7_lookAt 109 = .ok (.invokevirtual 135, 3) := by decide +kernel
theorem dX7_lookAt_112 : decode cX7_lookAt 112 = .ok (.ifCond .eq 7, 3) := by decide +kernel
theorem dX7_lookAt_115 : decode cX7_lookAt 115 = .ok (.iconst 1, 1) := by decide +kernel
theorem dX7_lookAt_116 : decode cX7_lookAt 116 = .ok (.goto 4, 3) := by decide +kernel
theorem dX7_lookAt_119 : decode cX7_lookAt 119 = .ok (.iconst 0, 1) := by decide +kernel
theorem dX7_lookAt_120 : decode cX7_lookAt 120 = .ok (.iadd, 1) := by decide +kernel
theorem dX7_lookAt_121 : decode cX7_lookAt 121 = .ok (.putfield 57, 3) := by decide +kernel
theorem dX7_lookAt_124 : decode cX7_lookAt 124 = .ok (.aload_n 0, 1) := by decide +kernel
theorem dX7_lookAt_125 : decode cX7_lookAt 125 = .ok (.iload_n 3, 1) := by decide +kernel
theorem dX7_lookAt_126 : decode cX7_lookAt 126 = .ok (.ifCond .eq 7, 3) := by decide +kernel
theorem dX7_lookAt_129 : decode cX7_lookAt 129 = .ok (.iconst 0, 1) := by decide +kernel
theorem dX7_lookAt_130 : decode cX7_lookAt 130 = .ok (.goto 9, 3) := by decide +kernel
theorem dX7_lookAt_133 : decode cX7_lookAt 133 = .ok (.aload_n 0, 1) := by decide +kernel
theorem dX7_lookAt_134 : decode cX7_lookAt 134 = .ok (.getfield 39, 3) := by decide +kernel
theorem dX7_lookAt_137 : decode cX7_lookAt 137 = .ok (.iconst 1, 1) := by decide +kernel
theorem dX7_lookAt_138 : decode cX7_lookAt 138 = .ok (.iadd, 1) := by decide +kernel
theorem dX7_lookAt_139 : decode cX7_lookAt 139 = .ok (.putfield 39, 3) := by decide +kernel
theorem dX7_lookAt_142 : decode cX7_lookAt 142 = .ok (.aload_n 0, 1) := by decide +kernel
theorem dX7_lookAt_143 : decode cX7_lookAt 143 = .ok (.getfield 21, 3) := by decide +kernel
theorem dX7_lookAt_146 : decode cX7_lookAt 146 = .ok (.getfield 138, 3) := by decide +kernel
theorem dX7_lookAt_149 : decode cX7_lookAt 149 = .ok (.aload_n 0, 1) := by decide +kernel
theorem dX7_lookAt_150 : decode cX7_lookAt 150 = .ok (.getfield 36, 3) := by decide +kernel
theorem dX7_lookAt_153 : decode cX7_lookAt 153 = .ok (.if_icmp .lt 17, 3) := by decide +kernel
theorem dX7_lookAt_156 : decode cX7_lookAt 156 = .ok (.aload_n 0, 1) := by decide +kernel
theorem dX7_lookAt_157 : decode cX7_lookAt 157 = .ok (.dup, 1) := by decide +kernel
theorem dX7_lookAt_158 : decode cX7_lookAt 158 = .ok (.getfield 63, 3) := by decide +kernel
theorem dX7_lookAt_161 : decode cX7_lookAt 161 = .ok (.iconst 1, 1) := by decide +kernel
theorem dX7_lookAt_162 : decode cX7_lookAt 162 = .ok (.iadd, 1) := by decide +kernel
theorem dX7_lookAt_163 : decode cX7_lookAt 163 = .ok (.putfield 63, 3) := by decide +kernel
theorem dX7_lookAt_166 : decode cX7_lookAt 166 = .ok (.aload_n 0, 1) := by decide +kernel
theorem dX7_lookAt_167 : decode cX7_lookAt 167 = .ok (.invokevirtual 48, 3) := by decide +kernel
theorem dX7_lookAt_170 : decode cX7_lookAt 170 = .ok (.iload_n 3, 1) := by decide +kernel
theorem dX7_lookAt_171 : decode cX7_lookAt 171 = .ok (.ireturn, 1) := by decide +kernel
def B_X7_lookAt_170 (w : rd_W) (x3 : Int32) (S : rd_S) : Option (Int32 × rd_S) :=
  rd_z x3 <|
  some (x3, S)
theorem yb_X7_lookAt_170 (cx : rd_Cx) (w : rd_W) (x3 : Int32) (S : rd_S) : rd_Y cx G_X7_lookAt (fun r => rd_P cx G_X7_lookAt.2.2.2.2.2 0 w (rd_rI w r)) (B_X7_lookAt_170 w x3 S) 170 [(3, .inl x3)] [] w S 0 0 := by
  unfold B_X7_lookAt_170
  refine ry_iload_n dX7_lookAt_170 rfl ?_
  refine ry_zg (fun z17 => ?_)
  exact ry_zret dX7_lookAt_171 rfl z17 (Nat.le_of_ble_eq_true rfl) (Nat.le_of_ble_eq_true rfl)
def B_X7_lookAt_139 (w : rd_W) (a0 : Nat) (x3 : Int32) (t0 : Int32) (e1 : Nat) (S : rd_S) : Option (Int32 × rd_S) :=
  rd_let (pI S e1 10 t0) fun s14 =>
  rd_c (gR s14 a0 1) fun b15 =>
  if (gI s14 b15 3) < (gI s14 a0 5) then
  (B_X7_lookAt_170 w x3 s14)
  else
  (rd_let (pI s14 a0 15 ((gI s14 a0 15) + 1)) fun s18 =>
  rd_c (F_X7_beginSearch w a0 s18) fun s19 =>
  B_X7_lookAt_170 w x3 s19)
theorem yb_X7_lookAt_139 (cx : rd_Cx) (w : rd_W) (a0 : Nat) (x3 : Int32) (t0 : Int32) (e1 : Nat) (ha0 : rd_ok w a0 7) (he1 : rd_ok w e1 7) (S : rd_S) : rd_Y cx G_X7_lookAt (fun r => rd_P cx G_X7_lookAt.2.2.2.2.2 0 w (rd_rI w r)) (B_X7_lookAt_139 w a0 x3 t0 e1 S) 139 [(0, .inr (some a0)), (3, .inl x3)] [.inl t0, .inr (some e1)] w S 0 0 := by
  unfold B_X7_lookAt_139
  refine ry_puti dX7_lookAt_139 he1 fl_RX7_39 rfl rfl rfl ?_
  refine ry_letS (fun s14 => ?_)
  refine ry_aload_n dX7_lookAt_142 rfl ?_
  refine ry_getr dX7_lookAt_143 ha0 fl_RX7_21 rfl (fun b15 hb15 => ?_)
  refine ry_geti dX7_lookAt_146 hb15 fl_RX7_138 rfl ?_
  refine ry_aload_n dX7_lookAt_149 rfl ?_
  refine ry_geti dX7_lookAt_150 ha0 fl_RX7_36 rfl ?_
  refine ry_icmp_lt 170 dX7_lookAt_153 (by decide) (fun c16 => ?_) (fun c16 => ?_)
  · exact ry_to (yb_X7_lookAt_170 cx w x3 s14) ⟨rfl, trivial⟩
  · refine ry_aload_n dX7_lookAt_156 rfl ?_
    refine ry_dup dX7_lookAt_157 ?_
    refine ry_geti dX7_lookAt_158 ha0 fl_RX7_63 rfl ?_
    refine ry_iconst (v := 1) dX7_lookAt_161 (by decide) ?_
    refine ry_iadd dX7_lookAt_162 ?_
    refine ry_puti dX7_lookAt_163 ha0 fl_RX7_63 rfl rfl rfl ?_
    refine ry_letS (fun s18 => ?_)
    refine ry_aload_n dX7_lookAt_166 rfl ?_
    refine ry_callv (fun l r9 h9 => cm_X7_beginSearch l cx w a0 ha0 s18 r9 h9) (rd_runV (vs := []) dX7_lookAt_167 ha0 rfl rfl yf_X7_beginSearch mi_X7_beginSearch ms_X7_beginSearch ml_RX7_48 ⟨Nat.le_of_ble_eq_true rfl, Nat.le_of_ble_eq_true rfl⟩ (Nat.le_of_ble_eq_true rfl) rfl) rfl rfl (Nat.le_of_ble_eq_true rfl) (Nat.le_of_ble_eq_true rfl) (fun s19 => ?_)
    exact ry_to (yb_X7_lookAt_170 cx w x3 s19) ⟨rfl, trivial⟩
def B_X7_lookAt_124 (w : rd_W) (a0 : Nat) (x3 : Int32) (S : rd_S) : Option (Int32 × rd_S) :=
  if x3 = 0 then
  (B_X7_lookAt_139 w a0 x3 ((gI S a0 10) + 1) a0 S)
  else
  (B_X7_lookAt_139 w a0 x3 0 a0 S)
theorem yb_X7_lookAt_124 (cx : rd_Cx) (w : rd_W) (a0 : Nat) (x3 : Int32) (ha0 : rd_ok w a0 7) (S : rd_S) : rd_Y cx G_X7_lookAt (fun r => rd_P cx G_X7_lookAt.2.2.2.2.2 0 w (rd_rI w r)) (B_X7_lookAt_124 w a0 x3 S) 124 [(0, .inr (some a0)), (3, .inl x3)] [] w S 0 0 := by
  unfold B_X7_lookAt_124
  refine ry_aload_n dX7_lookAt_124 rfl ?_
  refine ry_iload_n dX7_lookAt_125 rfl ?_
  refine ry_if_eq 133 dX7_lookAt_126 (by decide) (fun c13 => ?_) (fun c13 => ?_)
  · refine ry_aload_n dX7_lookAt_133 rfl ?_
    refine ry_geti dX7_lookAt_134 ha0 fl_RX7_39 rfl ?_
    refine ry_iconst (v := 1) dX7_lookAt_137 (by decide) ?_
    refine ry_iadd dX7_lookAt_138 ?_
    exact ry_to (yb_X7_lookAt_139 cx w a0 x3 ((gI S a0 10) + 1) a0 ha0 ha0 S) ⟨rfl, rfl, trivial⟩
  · refine ry_iconst (v := 0) dX7_lookAt_129 (by decide) ?_
    refine ry_goto 139 dX7_lookAt_130 (by decide) ?_
    exact ry_to (yb_X7_lookAt_139 cx w a0 x3 0 a0 ha0 ha0 S) ⟨rfl, rfl, trivial⟩
def B_X7_lookAt_120 (w : rd_W) (a0 : Nat) (x3 : Int32) (t0 : Int32) (t1 : Int32) (e2 : Nat) (S : rd_S) : Option (Int32 × rd_S) :=
  rd_let (pI S e2 13 (t1 + t0)) fun s25 =>
  B_X7_lookAt_124 w a0 x3 s25
theorem yb_X7_lookAt_120 (cx : rd_Cx) (w : rd_W) (a0 : Nat) (x3 : Int32) (t0 : Int32) (t1 : Int32) (e2 : Nat) (ha0 : rd_ok w a0 7) (he2 : rd_ok w e2 7) (S : rd_S) : rd_Y cx G_X7_lookAt (fun r => rd_P cx G_X7_lookAt.2.2.2.2.2 0 w (rd_rI w r)) (B_X7_lookAt_120 w a0 x3 t0 t1 e2 S) 120 [(0, .inr (some a0)), (3, .inl x3)] [.inl t0, .inl t1, .inr (some e2)] w S 0 0 := by
  unfold B_X7_lookAt_120
  refine ry_iadd dX7_lookAt_120 ?_
  refine ry_puti dX7_lookAt_121 he2 fl_RX7_57 rfl rfl rfl ?_
  refine ry_letS (fun s25 => ?_)
  exact ry_to (yb_X7_lookAt_124 cx w a0 x3 ha0 s25) ⟨rfl, rfl, trivial⟩
def B_X7_lookAt_85 (w : rd_W) (a0 : Nat) (t0 : Int32) (S : rd_S) : Option (Int32 × rd_S) :=
  if t0 = 0 then
  (B_X7_lookAt_124 w a0 t0 S)
  else
  (rd_let (pI S a0 12 ((gI S a0 12) + 1)) fun s20 =>
  rd_c (gR s20 a0 0) fun b21 =>
  rd_b (F_X3_isWhole w b21 s20) fun v23 s22 =>
  if v23 = 0 then
  (B_X7_lookAt_120 w a0 t0 0 (gI s20 a0 13) a0 s22)
  else
  (B_X7_lookAt_120 w a0 t0 1 (gI s20 a0 13) a0 s22))
theorem yb_X7_lookAt_85 (cx : rd_Cx) (w : rd_W) (a0 : Nat) (t0 : Int32) (ha0 : rd_ok w a0 7) (S : rd_S) : rd_Y cx G_X7_lookAt (fun r => rd_P cx G_X7_lookAt.2.2.2.2.2 0 w (rd_rI w r)) (B_X7_lookAt_85 w a0 t0 S) 85 [(0, .inr (some a0))] [.inl t0] w S 0 0 := by
  unfold B_X7_lookAt_85
  refine ry_istore_n dX7_lookAt_85 (by decide) ?_
  refine ry_iload_n dX7_lookAt_86 rfl ?_
  refine ry_if_eq 124 dX7_lookAt_87 (by decide) (fun c12 => ?_) (fun c12 => ?_)
  · exact ry_to (yb_X7_lookAt_124 cx w a0 t0 ha0 S) ⟨rfl, rfl, trivial⟩
  · refine ry_aload_n dX7_lookAt_90 rfl ?_
    refine ry_dup dX7_lookAt_91 ?_
    refine ry_geti dX7_lookAt_92 ha0 fl_RX7_54 rfl ?_
    refine ry_iconst (v := 1) dX7_lookAt_95 (by decide) ?_
    refine ry_iadd dX7_lookAt_96 ?_
    refine ry_puti dX7_lookAt_97 ha0 fl_RX7_54 rfl rfl rfl ?_
    refine ry_letS (fun s20 => ?_)
    refine ry_aload_n dX7_lookAt_100 rfl ?_
    refine ry_dup dX7_lookAt_101 ?_
    refine ry_geti dX7_lookAt_102 ha0 fl_RX7_57 rfl ?_
    refine ry_aload_n dX7_lookAt_105 rfl ?_
    refine ry_getr dX7_lookAt_106 ha0 fl_RX7_14 rfl (fun b21 hb21 => ?_)
    refine ry_callI (fun l r9 h9 => cm_X3_isWhole l cx w b21 hb21 s20 r9 h9) (rd_runV (vs := []) dX7_lookAt_109 hb21 rfl rfl yf_X3_isWhole mi_X3_isWhole ms_X3_isWhole ml_RX7_135 ⟨Nat.le_of_ble_eq_true rfl, Nat.le_of_ble_eq_true rfl⟩ (Nat.le_of_ble_eq_true rfl) rfl) rfl rfl (Nat.le_of_ble_eq_true rfl) (Nat.le_of_ble_eq_true rfl) (fun v23 s22 => ?_)
    refine ry_if_eq 119 dX7_lookAt_112 (by decide) (fun c24 => ?_) (fun c24 => ?_)
    · refine ry_iconst (v := 0) dX7_lookAt_119 (by decide) ?_
      exact ry_to (yb_X7_lookAt_120 cx w a0 t0 0 (gI s20 a0 13) a0 ha0 ha0 s22) ⟨rfl, rfl, trivial⟩
    · refine ry_iconst (v := 1) dX7_lookAt_115 (by decide) ?_
      refine ry_goto 120 dX7_lookAt_116 (by decide) ?_
      exact ry_to (yb_X7_lookAt_120 cx w a0 t0 1 (gI s20 a0 13) a0 ha0 ha0 s22) ⟨rfl, rfl, trivial⟩
def B_X7_lookAt_69 (w : rd_W) (a0 : Nat) (t0 : Int32) (e1 : Nat) (S : rd_S) : Option (Int32 × rd_S) :=
  rd_c (F_X10_add w e1 t0 S) fun s10 =>
  if (gI s10 a0 10) = 3 then
  (B_X7_lookAt_85 w a0 1 s10)
  else
  (B_X7_lookAt_85 w a0 0 s10)
theorem yb_X7_lookAt_69 (cx : rd_Cx) (w : rd_W) (a0 : Nat) (t0 : Int32) (e1 : Nat) (ha0 : rd_ok w a0 7) (he1 : rd_ok w e1 10) (S : rd_S) : rd_Y cx G_X7_lookAt (fun r => rd_P cx G_X7_lookAt.2.2.2.2.2 0 w (rd_rI w r)) (B_X7_lookAt_69 w a0 t0 e1 S) 69 [(0, .inr (some a0))] [.inl t0, .inr (some e1)] w S 0 0 := by
  unfold B_X7_lookAt_69
  refine ry_callv (fun l r9 h9 => cm_X10_add l cx w e1 t0 he1 S r9 h9) (rd_runV (vs := [.inl t0]) dX7_lookAt_69 he1 rfl rfl yf_X10_add mi_X10_add ms_X10_add ml_RX7_132 ⟨Nat.le_of_ble_eq_true rfl, Nat.le_of_ble_eq_true rfl⟩ (Nat.le_of_ble_eq_true rfl) rfl) rfl rfl (Nat.le_of_ble_eq_true rfl) (Nat.le_of_ble_eq_true rfl) (fun s10 => ?_)
  refine ry_aload_n dX7_lookAt_72 rfl ?_
  refine ry_geti dX7_lookAt_73 ha0 fl_RX7_39 rfl ?_
  refine ry_iconst (v := 3) dX7_lookAt_76 (by decide) ?_
  refine ry_icmp_ne 84 dX7_lookAt_77 (by decide) (fun c11 => ?_) (fun c11 => ?_)
  · refine ry_iconst (v := 1) dX7_lookAt_80 (by decide) ?_
    refine ry_goto 85 dX7_lookAt_81 (by decide) ?_
    exact ry_to (yb_X7_lookAt_85 cx w a0 1 ha0 s10) ⟨rfl, trivial⟩
  · refine ry_iconst (v := 0) dX7_lookAt_84 (by decide) ?_
    exact ry_to (yb_X7_lookAt_85 cx w a0 0 ha0 s10) ⟨rfl, trivial⟩
def B_X7_lookAt_55 (w : rd_W) (a0 : Nat) (x2 : Int32) (S : rd_S) : Option (Int32 × rd_S) :=
  rd_c (gR S a0 1) fun b8 =>
  if x2 = 2 then
  (B_X7_lookAt_69 w a0 1 b8 S)
  else
  (B_X7_lookAt_69 w a0 0 b8 S)
theorem yb_X7_lookAt_55 (cx : rd_Cx) (w : rd_W) (a0 : Nat) (x2 : Int32) (ha0 : rd_ok w a0 7) (S : rd_S) : rd_Y cx G_X7_lookAt (fun r => rd_P cx G_X7_lookAt.2.2.2.2.2 0 w (rd_rI w r)) (B_X7_lookAt_55 w a0 x2 S) 55 [(0, .inr (some a0)), (2, .inl x2)] [] w S 0 0 := by
  unfold B_X7_lookAt_55
  refine ry_aload_n dX7_lookAt_55 rfl ?_
  refine ry_getr dX7_lookAt_56 ha0 fl_RX7_21 rfl (fun b8 hb8 => ?_)
  refine ry_iload_n dX7_lookAt_59 rfl ?_
  refine ry_iconst (v := 2) dX7_lookAt_60 (by decide) ?_
  refine ry_icmp_ne 68 dX7_lookAt_61 (by decide) (fun c9 => ?_) (fun c9 => ?_)
  · refine ry_iconst (v := 1) dX7_lookAt_64 (by decide) ?_
    refine ry_goto 69 dX7_lookAt_65 (by decide) ?_
    exact ry_to (yb_X7_lookAt_69 cx w a0 1 b8 ha0 hb8 S) ⟨rfl, trivial⟩
  · refine ry_iconst (v := 0) dX7_lookAt_68 (by decide) ?_
    exact ry_to (yb_X7_lookAt_69 cx w a0 0 b8 ha0 hb8 S) ⟨rfl, trivial⟩
def B_X7_lookAt_15 (w : rd_W) (a0 : Nat) (x1 : Int32) (S : rd_S) : Option (Int32 × rd_S) :=
  rd_c (gR S a0 0) fun b4 =>
  rd_b (F_X3_lookAt w b4 (gI S a0 10) x1 (gI S a0 4) S) fun v6 s5 =>
  if v6 < 0 then
  (B_X7_lookAt_55 w a0 v6 s5)
  else
  (rd_c (gR s5 a0 3) fun b26 =>
  if (nI (w.2.2 b26)) ≤ v6 then
  (B_X7_lookAt_55 w a0 v6 s5)
  else
  (rd_c (gR s5 a0 3) fun b28 =>
  rd_i v6 (w.2.2 b28) <|
  rd_i v6 (w.2.2 b28) <|
  rd_let (pI s5 b28 v6.toNatClampNeg ((gI s5 b28 v6.toNatClampNeg) + 1)) fun s29 =>
  B_X7_lookAt_55 w a0 v6 s29))
theorem yb_X7_lookAt_15 (cx : rd_Cx) (w : rd_W) (a0 : Nat) (x1 : Int32) (ha0 : rd_ok w a0 7) (S : rd_S) : rd_Y cx G_X7_lookAt (fun r => rd_P cx G_X7_lookAt.2.2.2.2.2 0 w (rd_rI w r)) (B_X7_lookAt_15 w a0 x1 S) 15 [(0, .inr (some a0)), (1, .inl x1)] [] w S 0 0 := by
  unfold B_X7_lookAt_15
  refine ry_aload_n dX7_lookAt_15 rfl ?_
  refine ry_getr dX7_lookAt_16 ha0 fl_RX7_14 rfl (fun b4 hb4 => ?_)
  refine ry_aload_n dX7_lookAt_19 rfl ?_
  refine ry_geti dX7_lookAt_20 ha0 fl_RX7_39 rfl ?_
  refine ry_iload_n dX7_lookAt_23 rfl ?_
  refine ry_aload_n dX7_lookAt_24 rfl ?_
  refine ry_geti dX7_lookAt_25 ha0 fl_RX7_32 rfl ?_
  refine ry_callI (fun l r9 h9 => cm_X3_lookAt l cx w b4 (gI S a0 10) x1 (gI S a0 4) hb4 S r9 h9) (rd_runV (vs := [.inl (gI S a0 10), .inl x1, .inl (gI S a0 4)]) dX7_lookAt_28 hb4 rfl rfl yf_X3_lookAt mi_X3_lookAt ms_X3_lookAt ml_RX7_129 ⟨Nat.le_of_ble_eq_true rfl, Nat.le_of_ble_eq_true rfl⟩ (Nat.le_of_ble_eq_true rfl) rfl) rfl rfl (Nat.le_of_ble_eq_true rfl) (Nat.le_of_ble_eq_true rfl) (fun v6 s5 => ?_)
  refine ry_istore_n dX7_lookAt_31 (by decide) ?_
  refine ry_iload_n dX7_lookAt_32 rfl ?_
  refine ry_if_lt 55 dX7_lookAt_33 (by decide) (fun c7 => ?_) (fun c7 => ?_)
  · exact ry_to (yb_X7_lookAt_55 cx w a0 v6 ha0 s5) ⟨rfl, rfl, trivial⟩
  · refine ry_iload_n dX7_lookAt_36 rfl ?_
    refine ry_aload_n dX7_lookAt_37 rfl ?_
    refine ry_getr dX7_lookAt_38 ha0 fl_RX7_29 rfl (fun b26 hb26 => ?_)
    refine ry_alen dX7_lookAt_41 hb26 ?_
    refine ry_icmp_ge 55 dX7_lookAt_42 (by decide) (fun c27 => ?_) (fun c27 => ?_)
    · exact ry_to (yb_X7_lookAt_55 cx w a0 v6 ha0 s5) ⟨rfl, rfl, trivial⟩
    · refine ry_aload_n dX7_lookAt_45 rfl ?_
      refine ry_getr dX7_lookAt_46 ha0 fl_RX7_29 rfl (fun b28 hb28 => ?_)
      refine ry_iload_n dX7_lookAt_49 rfl ?_
      refine ry_dup2 dX7_lookAt_50 ?_
      refine ry_iald dX7_lookAt_51 hb28 ?_
      refine ry_iconst (v := 1) dX7_lookAt_52 (by decide) ?_
      refine ry_iadd dX7_lookAt_53 ?_
      refine ry_iast dX7_lookAt_54 hb28 ?_
      refine ry_letS (fun s29 => ?_)
      exact ry_to (yb_X7_lookAt_55 cx w a0 v6 ha0 s29) ⟨rfl, rfl, trivial⟩
def F_X7_lookAt (w : rd_W) (a0 : Nat) (x1 : Int32) (S : rd_S) : Option (Int32 × rd_S) :=
  if (gI S a0 10) = 0 then
  (rd_c (gR S a0 0) fun b2 =>
  rd_c (F_X3_clear w b2 3 S) fun s3 =>
  B_X7_lookAt_15 w a0 x1 s3)
  else
  (B_X7_lookAt_15 w a0 x1 S)
theorem ym_X7_lookAt (cx : rd_Cx) (w : rd_W) (a0 : Nat) (x1 : Int32) (ha0 : rd_ok w a0 7) (S : rd_S) : rd_Y cx G_X7_lookAt (fun r => rd_P cx G_X7_lookAt.2.2.2.2.2 0 w (rd_rI w r)) (F_X7_lookAt w a0 x1 S) 0 (rd_as 0 [.inr (some a0), .inl x1]) [] w S 0 0 := by
  unfold F_X7_lookAt
  refine ry_aload_n dX7_lookAt_0 rfl ?_
  refine ry_geti dX7_lookAt_1 ha0 fl_RX7_39 rfl ?_
  refine ry_if_ne 15 dX7_lookAt_4 (by decide) (fun c1 => ?_) (fun c1 => ?_)
  · refine ry_aload_n dX7_lookAt_7 rfl ?_
    refine ry_getr dX7_lookAt_8 ha0 fl_RX7_14 rfl (fun b2 hb2 => ?_)
    refine ry_iconst (v := 3) dX7_lookAt_11 (by decide) ?_
    refine ry_callv (fun l r9 h9 => cm_X3_clear l cx w b2 3 hb2 S r9 h9) (rd_runV (vs := [.inl 3]) dX7_lookAt_12 hb2 rfl rfl yf_X3_clear mi_X3_clear ms_X3_clear ml_RX7_126 ⟨Nat.le_of_ble_eq_true rfl, Nat.le_of_ble_eq_true rfl⟩ (Nat.le_of_ble_eq_true rfl) rfl) rfl rfl (Nat.le_of_ble_eq_true rfl) (Nat.le_of_ble_eq_true rfl) (fun s3 => ?_)
    exact ry_to (yb_X7_lookAt_15 cx w a0 x1 ha0 s3) ⟨rfl, rfl, trivial⟩
  · exact ry_to (yb_X7_lookAt_15 cx w a0 x1 ha0 S) ⟨rfl, rfl, trivial⟩
theorem cm_X7_lookAt (l : Launch) (cx : rd_Cx) (w : rd_W) (a0 : Nat) (x1 : Int32) (ha0 : rd_ok w a0 7) (S : rd_S) (r : Int32 × rd_S) (h : F_X7_lookAt w a0 x1 S = some r) : rd_M l cx yX7_lookAt G_X7_lookAt 0 [.inr (some a0), .inl x1] w S (rd_rI w r) :=
  rd_enter (plainFor_of_name (by decide +kernel)) rfl (fun h => by cases h) (Nat.le_of_ble_eq_true rfl) (ym_X7_lookAt cx w a0 x1 ha0 S r h)
abbrev G_X7_follow : rd_G := (RX7, cX7_follow, 1, (some .boolean), false, { frames := 4, cells := 0, slots := 0, locals := 100 })
theorem yf_X7_follow : rd_YL yX7_follow G_X7_follow 0 := ⟨rd_mem 411 (by decide +kernel) rfl, rd_mem 63 (by decide +kernel) rfl, by decide +kernel, by decide +kernel, by decide +kernel⟩
theorem mi_X7_follow : Cond.instanceMethod yX7_follow ∈ rd_gw := rd_mem 410 (by decide +kernel) rfl
theorem ms_X7_follow : Cond.selects (MethodName.cls yX7_follow) yX7_follow yX7_follow ∈ rd_gw := rd_mem 0 (by decide +kernel) rfl
theorem dX7_follow_0 : decode cX7_follow 0 = .ok (.aload_n 0, 1) := by decide +kernel
theorem dX7_follow_1 : decode cX7_follow 1 = .ok (.dup, 1) := by decide +kernel
theorem dX7_follow_2 : decode cX7_follow 2 = .ok (.getfield 72, 3) := by decide +kernel
theorem dX7_follow_5 : decode cX7_follow 5 = .ok (.iconst 1, 1) := by decide +kernel
theorem dX7_follow_6 : decode cX7_follow 6 = .ok (.iadd, 1) := by decide +kernel
theorem dX7_follow_7 : decode cX7_follow 7 = .ok (.putfield 72, 3) := by decide +kernel
theorem dX7_follow_10 : decode cX7_follow 10 = .ok (.aload_n 0, 1) := by decide +kernel
theorem dX7_follow_11 : decode cX7_follow 11 = .ok (.getfield 72, 3) := by decide +kernel
theorem dX7_follow_14 : decode cX7_follow 14 = .ok (.bipush 26, 2) := by decide +kernel
theorem dX7_follow_16 : decode cX7_follow 16 = .ok (.if_icmp .ge 5, 3) := by decide +kernel
theorem dX7_follow_19 : decode cX7_follow 19 = .ok (.iconst 0, 1) := by decide +kernel
theorem dX7_follow_20 : decode cX7_follow 20 = .ok (.ireturn, 1) := by decide +kernel
theorem dX7_follow_21 : decode cX7_follow 21 = .ok (.aload_n 0, 1) := by decide +kernel
theorem dX7_follow_22 : decode cX7_follow 22 = .ok (.iconst 0, 1) := by decide +kernel
theorem dX7_follow_23 : decode cX7_follow 23 = .ok (.putfield 72, 3) := by decide +kernel
theorem dX7_follow_26 : decode cX7_follow 26 = .ok (.aload_n 0, 1) := by decide +kernel
theorem dX7_follow_27 : decode cX7_follow 27 = .ok (.aload_n 0, 1) := by decide +kernel
theorem dX7_follow_28 : decode cX7_follow 28 = .ok (.getfield 75, 3) := by decide +kernel
theorem dX7_follow_31 : decode cX7_follow 31 = .ok (.invokevirtual 91, 3) := by decide +kernel
theorem dX7_follow_34 : decode cX7_follow 34 = .ok (.ireturn, 1) := by decide +kernel
def F_X7_follow (w : rd_W) (a0 : Nat) (S : rd_S) : Option (Int32 × rd_S) :=
  rd_let (pI S a0 9 ((gI S a0 9) + 1)) fun s1 =>
  if 26 ≤ (gI s1 a0 9) then
  (rd_let (pI s1 a0 9 0) fun s3 =>
  rd_b (F_X7_lookAt w a0 (gI s3 a0 6) s3) fun v5 s4 =>
  rd_z v5 <|
  some (v5, s4))
  else
  (some (0, s1))
theorem ym_X7_follow (cx : rd_Cx) (w : rd_W) (a0 : Nat) (ha0 : rd_ok w a0 7) (S : rd_S) : rd_Y cx G_X7_follow (fun r => rd_P cx G_X7_follow.2.2.2.2.2 0 w (rd_rI w r)) (F_X7_follow w a0 S) 0 (rd_as 0 [.inr (some a0)]) [] w S 0 0 := by
  unfold F_X7_follow
  refine ry_aload_n dX7_follow_0 rfl ?_
  refine ry_dup dX7_follow_1 ?_
  refine ry_geti dX7_follow_2 ha0 fl_RX7_72 rfl ?_
  refine ry_iconst (v := 1) dX7_follow_5 (by decide) ?_
  refine ry_iadd dX7_follow_6 ?_
  refine ry_puti dX7_follow_7 ha0 fl_RX7_72 rfl rfl rfl ?_
  refine ry_letS (fun s1 => ?_)
  refine ry_aload_n dX7_follow_10 rfl ?_
  refine ry_geti dX7_follow_11 ha0 fl_RX7_72 rfl ?_
  refine ry_bipush (v := 26) dX7_follow_14 (by decide) ?_
  refine ry_icmp_ge 21 dX7_follow_16 (by decide) (fun c2 => ?_) (fun c2 => ?_)
  · refine ry_aload_n dX7_follow_21 rfl ?_
    refine ry_iconst (v := 0) dX7_follow_22 (by decide) ?_
    refine ry_puti dX7_follow_23 ha0 fl_RX7_72 rfl rfl rfl ?_
    refine ry_letS (fun s3 => ?_)
    refine ry_aload_n dX7_follow_26 rfl ?_
    refine ry_aload_n dX7_follow_27 rfl ?_
    refine ry_geti dX7_follow_28 ha0 fl_RX7_75 rfl ?_
    refine ry_callI (fun l r9 h9 => cm_X7_lookAt l cx w a0 (gI s3 a0 6) ha0 s3 r9 h9) (rd_runV (vs := [.inl (gI s3 a0 6)]) dX7_follow_31 ha0 rfl rfl yf_X7_lookAt mi_X7_lookAt ms_X7_lookAt ml_RX7_91 ⟨Nat.le_of_ble_eq_true rfl, Nat.le_of_ble_eq_true rfl⟩ (Nat.le_of_ble_eq_true rfl) rfl) rfl rfl (Nat.le_of_ble_eq_true rfl) (Nat.le_of_ble_eq_true rfl) (fun v5 s4 => ?_)
    refine ry_zg (fun z6 => ?_)
    exact ry_zret dX7_follow_34 rfl z6 (Nat.le_of_ble_eq_true rfl) (Nat.le_of_ble_eq_true rfl)
  · refine ry_iconst (v := 0) dX7_follow_19 (by decide) ?_
    exact ry_zret dX7_follow_20 rfl (by decide) (Nat.le_of_ble_eq_true rfl) (Nat.le_of_ble_eq_true rfl)
theorem cm_X7_follow (l : Launch) (cx : rd_Cx) (w : rd_W) (a0 : Nat) (ha0 : rd_ok w a0 7) (S : rd_S) (r : Int32 × rd_S) (h : F_X7_follow w a0 S = some r) : rd_M l cx yX7_follow G_X7_follow 0 [.inr (some a0)] w S (rd_rI w r) :=
  rd_enter (plainFor_of_name (by decide +kernel)) rfl (fun h => by cases h) (Nat.le_of_ble_eq_true rfl) (ym_X7_follow cx w a0 ha0 S r h)
abbrev G_J9_min_7cf53 : rd_G := (RJ9, cJ9_min_7cf53, 2, (some .int), false, { frames := 0, cells := 0, slots := 0, locals := 0 })
theorem yf_J9_min_7cf53 : rd_YL yJ9_min_7cf53 G_J9_min_7cf53 2 := ⟨rd_mem 476 (by decide +kernel) rfl, rd_mem 76 (by decide +kernel) rfl, by decide +kernel, by decide +kernel, by decide +kernel⟩
theorem mt_J9_min_7cf53 : Cond.static yJ9_min_7cf53 ∈ rd_gw := rd_mem 475 (by decide +kernel) rfl
theorem dJ9_min_7cf53_0 : decode cJ9_min_7cf53 0 = .ok (.iload_n 0, 1) := by decide +kernel
theorem dJ9_min_7cf53_1 : decode cJ9_min_7cf53 1 = .ok (.iload_n 1, 1) := by decide +kernel
theorem dJ9_min_7cf53_2 : decode cJ9_min_7cf53 2 = .ok (.if_icmp .gt 7, 3) := by decide +kernel
theorem dJ9_min_7cf53_5 : decode cJ9_min_7cf53 5 = .ok (.iload_n 0, 1) := by decide +kernel
theorem dJ9_min_7cf53_6 : decode cJ9_min_7cf53 6 = .ok (.goto 4, 3) := by decide +kernel
theorem dJ9_min_7cf53_9 : decode cJ9_min_7cf53 9 = .ok (.iload_n 1, 1) := by decide +kernel
theorem dJ9_min_7cf53_10 : decode cJ9_min_7cf53 10 = .ok (.ireturn, 1) := by decide +kernel
def B_J9_min_7cf53_10 (w : rd_W) (t0 : Int32) (S : rd_S) : Option (Int32 × rd_S) :=
  some (t0, S)
theorem yb_J9_min_7cf53_10 (cx : rd_Cx) (w : rd_W) (t0 : Int32) (S : rd_S) : rd_Y cx G_J9_min_7cf53 (fun r => rd_P cx G_J9_min_7cf53.2.2.2.2.2 0 w (rd_rI w r)) (B_J9_min_7cf53_10 w t0 S) 10 [] [.inl t0] w S 0 0 := by
  unfold B_J9_min_7cf53_10
  exact ry_iret dJ9_min_7cf53_10 rfl (Nat.le_of_ble_eq_true rfl) (Nat.le_of_ble_eq_true rfl)
def F_J9_min_7cf53 (w : rd_W) (x0 : Int32) (x1 : Int32) (S : rd_S) : Option (Int32 × rd_S) :=
  if x1 < x0 then
  (B_J9_min_7cf53_10 w x1 S)
  else
  (B_J9_min_7cf53_10 w x0 S)
theorem ym_J9_min_7cf53 (cx : rd_Cx) (w : rd_W) (x0 : Int32) (x1 : Int32) (S : rd_S) : rd_Y cx G_J9_min_7cf53 (fun r => rd_P cx G_J9_min_7cf53.2.2.2.2.2 0 w (rd_rI w r)) (F_J9_min_7cf53 w x0 x1 S) 0 (rd_as 0 [.inl x0, .inl x1]) [] w S 0 0 := by
  unfold F_J9_min_7cf53
  refine ry_iload_n dJ9_min_7cf53_0 rfl ?_
  refine ry_iload_n dJ9_min_7cf53_1 rfl ?_
  refine ry_icmp_gt 9 dJ9_min_7cf53_2 (by decide) (fun c1 => ?_) (fun c1 => ?_)
  · refine ry_iload_n dJ9_min_7cf53_9 rfl ?_
    exact ry_to (yb_J9_min_7cf53_10 cx w x1 S) trivial
  · refine ry_iload_n dJ9_min_7cf53_5 rfl ?_
    refine ry_goto 10 dJ9_min_7cf53_6 (by decide) ?_
    exact ry_to (yb_J9_min_7cf53_10 cx w x0 S) trivial
theorem cm_J9_min_7cf53 (l : Launch) (cx : rd_Cx) (w : rd_W) (x0 : Int32) (x1 : Int32) (S : rd_S) (r : Int32 × rd_S) (h : F_J9_min_7cf53 w x0 x1 S = some r) : rd_M l cx yJ9_min_7cf53 G_J9_min_7cf53 0 [.inl x0, .inl x1] w S (rd_rI w r) :=
  rd_enter (by decide +kernel) rfl (fun h => by cases h) (Nat.le_of_ble_eq_true rfl) (ym_J9_min_7cf53 cx w x0 x1 S r h)
abbrev G_J9_floorMod_7cf53 : rd_G := (RJ9, cJ9_floorMod_7cf53, 3, (some .int), false, { frames := 0, cells := 0, slots := 0, locals := 0 })
theorem yf_J9_floorMod_7cf53 : rd_YL yJ9_floorMod_7cf53 G_J9_floorMod_7cf53 2 := ⟨rd_mem 487 (by decide +kernel) rfl, rd_mem 76 (by decide +kernel) rfl, by decide +kernel, by decide +kernel, by decide +kernel⟩
theorem mt_J9_floorMod_7cf53 : Cond.static yJ9_floorMod_7cf53 ∈ rd_gw := rd_mem 486 (by decide +kernel) rfl
theorem dJ9_floorMod_7cf53_0 : decode cJ9_floorMod_7cf53 0 = .ok (.iload_n 0, 1) := by decide +kernel
theorem dJ9_floorMod_7cf53_1 : decode cJ9_floorMod_7cf53 1 = .ok (.iload_n 1, 1) := by decide +kernel
theorem dJ9_floorMod_7cf53_2 : decode cJ9_floorMod_7cf53 2 = .ok (.irem, 1) := by decide +kernel
theorem dJ9_floorMod_7cf53_3 : decode cJ9_floorMod_7cf53 3 = .ok (.istore_n 2, 1) := by decide +kernel
theorem dJ9_floorMod_7cf53_4 : decode cJ9_floorMod_7cf53 4 = .ok (.iload_n 0, 1) := by decide +kernel
theorem dJ9_floorMod_7cf53_5 : decode cJ9_floorMod_7cf53 5 = .ok (.iload_n 1, 1) := by decide +kernel
theorem dJ9_floorMod_7cf53_6 : decode cJ9_floorMod_7cf53 6 = .ok (.ixor, 1) := by decide +kernel
theorem dJ9_floorMod_7cf53_7 : decode cJ9_floorMod_7cf53 7 = .ok (.ifCond .ge 11, 3) := by decide +kernel
theorem dJ9_floorMod_7cf53_10 : decode cJ9_floorMod_7cf53 10 = .ok (.iload_n 2, 1) := by decide +kernel
theorem dJ9_floorMod_7cf53_11 : decode cJ9_floorMod_7cf53 11 = .ok (.ifCond .eq 7, 3) := by decide +kernel
theorem dJ9_floorMod_7cf53_14 : decode cJ9_floorMod_7cf53 14 = .ok (.iload_n 2, 1) := by decide +kernel
theorem dJ9_floorMod_7cf53_15 : decode cJ9_floorMod_7cf53 15 = .ok (.iload_n 1, 1) := by decide +kernel
theorem dJ9_floorMod_7cf53_16 : decode cJ9_floorMod_7cf53 16 = .ok (.iadd, 1) := by decide +kernel
theorem dJ9_floorMod_7cf53_17 : decode cJ9_floorMod_7cf53 17 = .ok (.ireturn, 1) := by decide +kernel
theorem dJ9_floorMod_7cf53_18 : decode cJ9_floorMod_7cf53 18 = .ok (.iload_n 2, 1) := by decide +kernel
theorem dJ9_floorMod_7cf53_19 : decode cJ9_floorMod_7cf53 19 = .ok (.ireturn, 1) := by decide +kernel
def B_J9_floorMod_7cf53_18 (w : rd_W) (x2 : Int32) (S : rd_S) : Option (Int32 × rd_S) :=
  some (x2, S)
theorem yb_J9_floorMod_7cf53_18 (cx : rd_Cx) (w : rd_W) (x2 : Int32) (S : rd_S) : rd_Y cx G_J9_floorMod_7cf53 (fun r => rd_P cx G_J9_floorMod_7cf53.2.2.2.2.2 0 w (rd_rI w r)) (B_J9_floorMod_7cf53_18 w x2 S) 18 [(2, .inl x2)] [] w S 0 0 := by
  unfold B_J9_floorMod_7cf53_18
  refine ry_iload_n dJ9_floorMod_7cf53_18 rfl ?_
  exact ry_iret dJ9_floorMod_7cf53_19 rfl (Nat.le_of_ble_eq_true rfl) (Nat.le_of_ble_eq_true rfl)
def F_J9_floorMod_7cf53 (w : rd_W) (x0 : Int32) (x1 : Int32) (S : rd_S) : Option (Int32 × rd_S) :=
  rd_d x1 <|
  rd_let (rd_rem x0 x1) fun v2 =>
  if 0 ≤ (x0 ^^^ x1) then
  (B_J9_floorMod_7cf53_18 w v2 S)
  else
  (if v2 = 0 then
  (B_J9_floorMod_7cf53_18 w v2 S)
  else
  (some (v2 + x1, S)))
theorem ym_J9_floorMod_7cf53 (cx : rd_Cx) (w : rd_W) (x0 : Int32) (x1 : Int32) (S : rd_S) : rd_Y cx G_J9_floorMod_7cf53 (fun r => rd_P cx G_J9_floorMod_7cf53.2.2.2.2.2 0 w (rd_rI w r)) (F_J9_floorMod_7cf53 w x0 x1 S) 0 (rd_as 0 [.inl x0, .inl x1]) [] w S 0 0 := by
  unfold F_J9_floorMod_7cf53
  refine ry_iload_n dJ9_floorMod_7cf53_0 rfl ?_
  refine ry_iload_n dJ9_floorMod_7cf53_1 rfl ?_
  refine ry_guard (fun g1 => ?_)
  refine ry_iremK dJ9_floorMod_7cf53_2 g1 ?_
  refine ry_istore_n dJ9_floorMod_7cf53_3 (by decide) ?_
  refine ry_let (fun v2 => ?_)
  refine ry_iload_n dJ9_floorMod_7cf53_4 rfl ?_
  refine ry_iload_n dJ9_floorMod_7cf53_5 rfl ?_
  refine ry_ixor dJ9_floorMod_7cf53_6 ?_
  refine ry_if_ge 18 dJ9_floorMod_7cf53_7 (by decide) (fun c3 => ?_) (fun c3 => ?_)
  · exact ry_to (yb_J9_floorMod_7cf53_18 cx w v2 S) ⟨rfl, trivial⟩
  · refine ry_iload_n dJ9_floorMod_7cf53_10 rfl ?_
    refine ry_if_eq 18 dJ9_floorMod_7cf53_11 (by decide) (fun c4 => ?_) (fun c4 => ?_)
    · exact ry_to (yb_J9_floorMod_7cf53_18 cx w v2 S) ⟨rfl, trivial⟩
    · refine ry_iload_n dJ9_floorMod_7cf53_14 rfl ?_
      refine ry_iload_n dJ9_floorMod_7cf53_15 rfl ?_
      refine ry_iadd dJ9_floorMod_7cf53_16 ?_
      exact ry_iret dJ9_floorMod_7cf53_17 rfl (Nat.le_of_ble_eq_true rfl) (Nat.le_of_ble_eq_true rfl)
theorem cm_J9_floorMod_7cf53 (l : Launch) (cx : rd_Cx) (w : rd_W) (x0 : Int32) (x1 : Int32) (S : rd_S) (r : Int32 × rd_S) (h : F_J9_floorMod_7cf53 w x0 x1 S = some r) : rd_M l cx yJ9_floorMod_7cf53 G_J9_floorMod_7cf53 0 [.inl x0, .inl x1] w S (rd_rI w r) :=
  rd_enter (by decide +kernel) rfl (fun h => by cases h) (Nat.le_of_ble_eq_true rfl) (ym_J9_floorMod_7cf53 cx w x0 x1 S r h)
abbrev G_X11_at : rd_G := (RX11, cX11_at, 2, (some .int), false, { frames := 0, cells := 0, slots := 0, locals := 0 })
theorem yf_X11_at : rd_YL yX11_at G_X11_at 2 := ⟨rd_mem 490 (by decide +kernel) rfl, rd_mem 62 (by decide +kernel) rfl, by decide +kernel, by decide +kernel, by decide +kernel⟩
theorem mt_X11_at : Cond.static yX11_at ∈ rd_gw := rd_mem 489 (by decide +kernel) rfl
theorem dX11_at_0 : decode cX11_at 0 = .ok (.iload_n 1, 1) := by decide +kernel
theorem dX11_at_1 : decode cX11_at 1 = .ok (.ifCond .lt 9, 3) := by decide +kernel
theorem dX11_at_4 : decode cX11_at 4 = .ok (.iload_n 1, 1) := by decide +kernel
theorem dX11_at_5 : decode cX11_at 5 = .ok (.aload_n 0, 1) := by decide +kernel
theorem dX11_at_6 : decode cX11_at 6 = .ok (.arraylength, 1) := by decide +kernel
theorem dX11_at_7 : decode cX11_at 7 = .ok (.if_icmp .lt 7, 3) := by decide +kernel
theorem dX11_at_10 : decode cX11_at 10 = .ok (.iconst (-1), 1) := by decide +kernel
theorem dX11_at_11 : decode cX11_at 11 = .ok (.goto 6, 3) := by decide +kernel
theorem dX11_at_14 : decode cX11_at 14 = .ok (.aload_n 0, 1) := by decide +kernel
theorem dX11_at_15 : decode cX11_at 15 = .ok (.iload_n 1, 1) := by decide +kernel
theorem dX11_at_16 : decode cX11_at 16 = .ok (.iaload, 1) := by decide +kernel
theorem dX11_at_17 : decode cX11_at 17 = .ok (.ireturn, 1) := by decide +kernel
def B_X11_at_17 (w : rd_W) (t0 : Int32) (S : rd_S) : Option (Int32 × rd_S) :=
  some (t0, S)
theorem yb_X11_at_17 (cx : rd_Cx) (w : rd_W) (t0 : Int32) (S : rd_S) : rd_Y cx G_X11_at (fun r => rd_P cx G_X11_at.2.2.2.2.2 0 w (rd_rI w r)) (B_X11_at_17 w t0 S) 17 [] [.inl t0] w S 0 0 := by
  unfold B_X11_at_17
  exact ry_iret dX11_at_17 rfl (Nat.le_of_ble_eq_true rfl) (Nat.le_of_ble_eq_true rfl)
def B_X11_at_10 (w : rd_W) (S : rd_S) : Option (Int32 × rd_S) :=
  B_X11_at_17 w (-1) S
theorem yb_X11_at_10 (cx : rd_Cx) (w : rd_W) (S : rd_S) : rd_Y cx G_X11_at (fun r => rd_P cx G_X11_at.2.2.2.2.2 0 w (rd_rI w r)) (B_X11_at_10 w S) 10 [] [] w S 0 0 := by
  unfold B_X11_at_10
  refine ry_iconst (v := (-1)) dX11_at_10 (by decide) ?_
  refine ry_goto 17 dX11_at_11 (by decide) ?_
  exact ry_to (yb_X11_at_17 cx w (-1) S) trivial
def F_X11_at (w : rd_W) (a0 : Nat) (x1 : Int32) (S : rd_S) : Option (Int32 × rd_S) :=
  if x1 < 0 then
  (B_X11_at_10 w S)
  else
  (if x1 < (nI (w.2.2 a0)) then
  (rd_i x1 (w.2.2 a0) <|
  B_X11_at_17 w (gI S a0 x1.toNatClampNeg) S)
  else
  (B_X11_at_10 w S))
theorem ym_X11_at (cx : rd_Cx) (w : rd_W) (a0 : Nat) (x1 : Int32) (ha0 : rd_ok w a0 13) (S : rd_S) : rd_Y cx G_X11_at (fun r => rd_P cx G_X11_at.2.2.2.2.2 0 w (rd_rI w r)) (F_X11_at w a0 x1 S) 0 (rd_as 0 [.inr (some a0), .inl x1]) [] w S 0 0 := by
  unfold F_X11_at
  refine ry_iload_n dX11_at_0 rfl ?_
  refine ry_if_lt 10 dX11_at_1 (by decide) (fun c1 => ?_) (fun c1 => ?_)
  · exact ry_to (yb_X11_at_10 cx w S) trivial
  · refine ry_iload_n dX11_at_4 rfl ?_
    refine ry_aload_n dX11_at_5 rfl ?_
    refine ry_alen dX11_at_6 ha0 ?_
    refine ry_icmp_lt 14 dX11_at_7 (by decide) (fun c2 => ?_) (fun c2 => ?_)
    · refine ry_aload_n dX11_at_14 rfl ?_
      refine ry_iload_n dX11_at_15 rfl ?_
      refine ry_iald dX11_at_16 ha0 ?_
      exact ry_to (yb_X11_at_17 cx w (gI S a0 x1.toNatClampNeg) S) trivial
    · exact ry_to (yb_X11_at_10 cx w S) trivial
theorem cm_X11_at (l : Launch) (cx : rd_Cx) (w : rd_W) (a0 : Nat) (x1 : Int32) (ha0 : rd_ok w a0 13) (S : rd_S) (r : Int32 × rd_S) (h : F_X11_at w a0 x1 S = some r) : rd_M l cx yX11_at G_X11_at 0 [.inr (some a0), .inl x1] w S (rd_rI w r) :=
  rd_enter (plainFor_of_name (by decide +kernel)) rfl (fun h => by cases h) (Nat.le_of_ble_eq_true rfl) (ym_X11_at cx w a0 x1 ha0 S r h)
abbrev G_X7_wordAhead : rd_G := (RX7, cX7_wordAhead, 3, (some .int), false, { frames := 1, cells := 0, slots := 0, locals := 22 })
theorem yf_X7_wordAhead : rd_YL yX7_wordAhead G_X7_wordAhead 1 := ⟨rd_mem 484 (by decide +kernel) rfl, rd_mem 63 (by decide +kernel) rfl, by decide +kernel, by decide +kernel, by decide +kernel⟩
theorem mi_X7_wordAhead : Cond.instanceMethod yX7_wordAhead ∈ rd_gw := rd_mem 483 (by decide +kernel) rfl
theorem ms_X7_wordAhead : Cond.selects (MethodName.cls yX7_wordAhead) yX7_wordAhead yX7_wordAhead ∈ rd_gw := rd_mem 7 (by decide +kernel) rfl
theorem dX7_wordAhead_0 : decode cX7_wordAhead 0 = .ok (.iload_n 1, 1) := by decide +kernel
theorem dX7_wordAhead_1 : decode cX7_wordAhead 1 = .ok (.bipush 26, 2) := by decide +kernel
theorem dX7_wordAhead_3 : decode cX7_wordAhead 3 = .ok (.imul, 1) := by decide +kernel
theorem dX7_wordAhead_4 : decode cX7_wordAhead 4 = .ok (.istore_n 2, 1) := by decide +kernel
theorem dX7_wordAhead_5 : decode cX7_wordAhead 5 = .ok (.aload_n 0, 1) := by decide +kernel
theorem dX7_wordAhead_6 : decode cX7_wordAhead 6 = .ok (.getfield 69, 3) := by decide +kernel
theorem dX7_wordAhead_9 : decode cX7_wordAhead 9 = .ok (.iload_n 2, 1) := by decide +kernel
theorem dX7_wordAhead_10 : decode cX7_wordAhead 10 = .ok (.bipush 26, 2) := by decide +kernel
theorem dX7_wordAhead_12 : decode cX7_wordAhead 12 = .ok (.iadd, 1) := by decide +kernel
theorem dX7_wordAhead_13 : decode cX7_wordAhead 13 = .ok (.if_icmp .ge 5, 3) := by decide +kernel
theorem dX7_wordAhead_16 : decode cX7_wordAhead 16 = .ok (.iconst (-1), 1) := by decide +kernel
theorem dX7_wordAhead_17 : decode cX7_wordAhead 17 = .ok (.ireturn, 1) := by decide +kernel
theorem dX7_wordAhead_18 : decode cX7_wordAhead 18 = .ok (.aload_n 0, 1) := by decide +kernel
theorem dX7_wordAhead_19 : decode cX7_wordAhead 19 = .ok (.getfield 25, 3) := by decide +kernel
theorem dX7_wordAhead_22 : decode cX7_wordAhead 22 = .ok (.aload_n 0, 1) := by decide +kernel
theorem dX7_wordAhead_23 : decode cX7_wordAhead 23 = .ok (.getfield 100, 3) := by decide +kernel
theorem dX7_wordAhead_26 : decode cX7_wordAhead 26 = .ok (.iload_n 2, 1) := by decide +kernel
theorem dX7_wordAhead_27 : decode cX7_wordAhead 27 = .ok (.isub, 1) := by decide +kernel
theorem dX7_wordAhead_28 : decode cX7_wordAhead 28 = .ok (.bipush 79, 2) := by decide +kernel
theorem dX7_wordAhead_30 : decode cX7_wordAhead 30 = .ok (.invokestatic 110, 3) := by decide +kernel
theorem dX7_wordAhead_33 : decode cX7_wordAhead 33 = .ok (.invokestatic 113, 3) := by decide +kernel
theorem dX7_wordAhead_36 : decode cX7_wordAhead 36 = .ok (.ireturn, 1) := by decide +kernel
def F_X7_wordAhead (w : rd_W) (a0 : Nat) (x1 : Int32) (S : rd_S) : Option (Int32 × rd_S) :=
  rd_let (x1 * 26) fun v1 =>
  if (v1 + 26) ≤ (gI S a0 8) then
  (rd_c (gR S a0 2) fun b3 =>
  rd_b (F_J9_floorMod_7cf53 w ((gI S a0 7) - v1) 79 S) fun v5 s4 =>
  rd_b (F_X11_at w b3 v5 s4) fun v7 s6 =>
  some (v7, s6))
  else
  (some ((-1), S))
theorem ym_X7_wordAhead (cx : rd_Cx) (w : rd_W) (a0 : Nat) (x1 : Int32) (ha0 : rd_ok w a0 7) (S : rd_S) : rd_Y cx G_X7_wordAhead (fun r => rd_P cx G_X7_wordAhead.2.2.2.2.2 0 w (rd_rI w r)) (F_X7_wordAhead w a0 x1 S) 0 (rd_as 0 [.inr (some a0), .inl x1]) [] w S 0 0 := by
  unfold F_X7_wordAhead
  refine ry_iload_n dX7_wordAhead_0 rfl ?_
  refine ry_bipush (v := 26) dX7_wordAhead_1 (by decide) ?_
  refine ry_imul dX7_wordAhead_3 ?_
  refine ry_istore_n dX7_wordAhead_4 (by decide) ?_
  refine ry_let (fun v1 => ?_)
  refine ry_aload_n dX7_wordAhead_5 rfl ?_
  refine ry_geti dX7_wordAhead_6 ha0 fl_RX7_69 rfl ?_
  refine ry_iload_n dX7_wordAhead_9 rfl ?_
  refine ry_bipush (v := 26) dX7_wordAhead_10 (by decide) ?_
  refine ry_iadd dX7_wordAhead_12 ?_
  refine ry_icmp_ge 18 dX7_wordAhead_13 (by decide) (fun c2 => ?_) (fun c2 => ?_)
  · refine ry_aload_n dX7_wordAhead_18 rfl ?_
    refine ry_getr dX7_wordAhead_19 ha0 fl_RX7_25 rfl (fun b3 hb3 => ?_)
    refine ry_aload_n dX7_wordAhead_22 rfl ?_
    refine ry_geti dX7_wordAhead_23 ha0 fl_RX7_100 rfl ?_
    refine ry_iload_n dX7_wordAhead_26 rfl ?_
    refine ry_isub dX7_wordAhead_27 ?_
    refine ry_bipush (v := 79) dX7_wordAhead_28 (by decide) ?_
    refine ry_callI (fun l r9 h9 => cm_J9_floorMod_7cf53 l cx w ((gI S a0 7) - v1) 79 S r9 h9) (rd_runS (vs := [.inl ((gI S a0 7) - v1), .inl 79]) dX7_wordAhead_30 yf_J9_floorMod_7cf53 mt_J9_floorMod_7cf53 ml_RX7_110 ⟨Nat.le_of_ble_eq_true rfl, Nat.le_of_ble_eq_true rfl⟩ (Nat.le_of_ble_eq_true rfl) rfl) rfl rfl (Nat.le_of_ble_eq_true rfl) (Nat.le_of_ble_eq_true rfl) (fun v5 s4 => ?_)
    refine ry_callI (fun l r9 h9 => cm_X11_at l cx w b3 v5 hb3 s4 r9 h9) (rd_runSN (vs := [.inr (some b3), .inl v5]) dX7_wordAhead_33 yf_X11_at mt_X11_at mn_RX7_113 ⟨Nat.le_of_ble_eq_true rfl, Nat.le_of_ble_eq_true rfl⟩ (Nat.le_of_ble_eq_true rfl) rfl) rfl rfl (Nat.le_of_ble_eq_true rfl) (Nat.le_of_ble_eq_true rfl) (fun v7 s6 => ?_)
    exact ry_iret dX7_wordAhead_36 rfl (Nat.le_of_ble_eq_true rfl) (Nat.le_of_ble_eq_true rfl)
  · refine ry_iconst (v := (-1)) dX7_wordAhead_16 (by decide) ?_
    exact ry_iret dX7_wordAhead_17 rfl (Nat.le_of_ble_eq_true rfl) (Nat.le_of_ble_eq_true rfl)
theorem cm_X7_wordAhead (l : Launch) (cx : rd_Cx) (w : rd_W) (a0 : Nat) (x1 : Int32) (ha0 : rd_ok w a0 7) (S : rd_S) (r : Int32 × rd_S) (h : F_X7_wordAhead w a0 x1 S = some r) : rd_M l cx yX7_wordAhead G_X7_wordAhead 0 [.inr (some a0), .inl x1] w S (rd_rI w r) :=
  rd_enter (plainFor_of_name (by decide +kernel)) rfl (fun h => by cases h) (Nat.le_of_ble_eq_true rfl) (ym_X7_wordAhead cx w a0 x1 ha0 S r h)
abbrev G_X7_hitAhead : rd_G := (RX7, cX7_hitAhead, 3, (some .int), false, { frames := 2, cells := 0, slots := 0, locals := 44 })
theorem yf_X7_hitAhead : rd_YL yX7_hitAhead G_X7_hitAhead 1 := ⟨rd_mem 480 (by decide +kernel) rfl, rd_mem 63 (by decide +kernel) rfl, by decide +kernel, by decide +kernel, by decide +kernel⟩
theorem mi_X7_hitAhead : Cond.instanceMethod yX7_hitAhead ∈ rd_gw := rd_mem 479 (by decide +kernel) rfl
theorem ms_X7_hitAhead : Cond.selects (MethodName.cls yX7_hitAhead) yX7_hitAhead yX7_hitAhead ∈ rd_gw := rd_mem 6 (by decide +kernel) rfl
theorem dX7_hitAhead_0 : decode cX7_hitAhead 0 = .ok (.aload_n 0, 1) := by decide +kernel
theorem dX7_hitAhead_1 : decode cX7_hitAhead 1 = .ok (.iload_n 1, 1) := by decide +kernel
theorem dX7_hitAhead_2 : decode cX7_hitAhead 2 = .ok (.invokevirtual 117, 3) := by decide +kernel
theorem dX7_hitAhead_5 : decode cX7_hitAhead 5 = .ok (.istore_n 2, 1) := by decide +kernel
theorem dX7_hitAhead_6 : decode cX7_hitAhead 6 = .ok (.iload_n 2, 1) := by decide +kernel
theorem dX7_hitAhead_7 : decode cX7_hitAhead 7 = .ok (.iconst (-1), 1) := by decide +kernel
theorem dX7_hitAhead_8 : decode cX7_hitAhead 8 = .ok (.if_icmp .ne 7, 3) := by decide +kernel
theorem dX7_hitAhead_11 : decode cX7_hitAhead 11 = .ok (.iconst (-1), 1) := by decide +kernel
theorem dX7_hitAhead_12 : decode cX7_hitAhead 12 = .ok (.goto 10, 3) := by decide +kernel
theorem dX7_hitAhead_15 : decode cX7_hitAhead 15 = .ok (.iload_n 2, 1) := by decide +kernel
theorem dX7_hitAhead_16 : decode cX7_hitAhead 16 = .ok (.invokestatic 120, 3) := by decide +kernel
theorem dX7_hitAhead_19 : decode cX7_hitAhead 19 = .ok (.invokestatic 123, 3) := by decide +kernel
theorem dX7_hitAhead_22 : decode cX7_hitAhead 22 = .ok (.ireturn, 1) := by decide +kernel
def B_X7_hitAhead_22 (w : rd_W) (t0 : Int32) (S : rd_S) : Option (Int32 × rd_S) :=
  some (t0, S)
theorem yb_X7_hitAhead_22 (cx : rd_Cx) (w : rd_W) (t0 : Int32) (S : rd_S) : rd_Y cx G_X7_hitAhead (fun r => rd_P cx G_X7_hitAhead.2.2.2.2.2 0 w (rd_rI w r)) (B_X7_hitAhead_22 w t0 S) 22 [] [.inl t0] w S 0 0 := by
  unfold B_X7_hitAhead_22
  exact ry_iret dX7_hitAhead_22 rfl (Nat.le_of_ble_eq_true rfl) (Nat.le_of_ble_eq_true rfl)
def F_X7_hitAhead (w : rd_W) (a0 : Nat) (x1 : Int32) (S : rd_S) : Option (Int32 × rd_S) :=
  rd_b (F_X7_wordAhead w a0 x1 S) fun v2 s1 =>
  if v2 = (-1) then
  (B_X7_hitAhead_22 w (-1) s1)
  else
  (rd_b (F_X11_letterOf w v2 s1) fun v5 s4 =>
  rd_b (F_X11_placeOf w v5 s4) fun v7 s6 =>
  B_X7_hitAhead_22 w v7 s6)
theorem ym_X7_hitAhead (cx : rd_Cx) (w : rd_W) (a0 : Nat) (x1 : Int32) (ha0 : rd_ok w a0 7) (S : rd_S) : rd_Y cx G_X7_hitAhead (fun r => rd_P cx G_X7_hitAhead.2.2.2.2.2 0 w (rd_rI w r)) (F_X7_hitAhead w a0 x1 S) 0 (rd_as 0 [.inr (some a0), .inl x1]) [] w S 0 0 := by
  unfold F_X7_hitAhead
  refine ry_aload_n dX7_hitAhead_0 rfl ?_
  refine ry_iload_n dX7_hitAhead_1 rfl ?_
  refine ry_callI (fun l r9 h9 => cm_X7_wordAhead l cx w a0 x1 ha0 S r9 h9) (rd_runV (vs := [.inl x1]) dX7_hitAhead_2 ha0 rfl rfl yf_X7_wordAhead mi_X7_wordAhead ms_X7_wordAhead ml_RX7_117 ⟨Nat.le_of_ble_eq_true rfl, Nat.le_of_ble_eq_true rfl⟩ (Nat.le_of_ble_eq_true rfl) rfl) rfl rfl (Nat.le_of_ble_eq_true rfl) (Nat.le_of_ble_eq_true rfl) (fun v2 s1 => ?_)
  refine ry_istore_n dX7_hitAhead_5 (by decide) ?_
  refine ry_iload_n dX7_hitAhead_6 rfl ?_
  refine ry_iconst (v := (-1)) dX7_hitAhead_7 (by decide) ?_
  refine ry_icmp_ne 15 dX7_hitAhead_8 (by decide) (fun c3 => ?_) (fun c3 => ?_)
  · refine ry_iconst (v := (-1)) dX7_hitAhead_11 (by decide) ?_
    refine ry_goto 22 dX7_hitAhead_12 (by decide) ?_
    exact ry_to (yb_X7_hitAhead_22 cx w (-1) s1) trivial
  · refine ry_iload_n dX7_hitAhead_15 rfl ?_
    refine ry_callI (fun l r9 h9 => cm_X11_letterOf l cx w v2 s1 r9 h9) (rd_runSN (vs := [.inl v2]) dX7_hitAhead_16 yf_X11_letterOf mt_X11_letterOf mn_RX7_120 ⟨Nat.le_of_ble_eq_true rfl, Nat.le_of_ble_eq_true rfl⟩ (Nat.le_of_ble_eq_true rfl) rfl) rfl rfl (Nat.le_of_ble_eq_true rfl) (Nat.le_of_ble_eq_true rfl) (fun v5 s4 => ?_)
    refine ry_callI (fun l r9 h9 => cm_X11_placeOf l cx w v5 s4 r9 h9) (rd_runSN (vs := [.inl v5]) dX7_hitAhead_19 yf_X11_placeOf mt_X11_placeOf mn_RX7_123 ⟨Nat.le_of_ble_eq_true rfl, Nat.le_of_ble_eq_true rfl⟩ (Nat.le_of_ble_eq_true rfl) rfl) rfl rfl (Nat.le_of_ble_eq_true rfl) (Nat.le_of_ble_eq_true rfl) (fun v7 s6 => ?_)
    exact ry_to (yb_X7_hitAhead_22 cx w v7 s6) trivial
theorem cm_X7_hitAhead (l : Launch) (cx : rd_Cx) (w : rd_W) (a0 : Nat) (x1 : Int32) (ha0 : rd_ok w a0 7) (S : rd_S) (r : Int32 × rd_S) (h : F_X7_hitAhead w a0 x1 S = some r) : rd_M l cx yX7_hitAhead G_X7_hitAhead 0 [.inr (some a0), .inl x1] w S (rd_rI w r) :=
  rd_enter (plainFor_of_name (by decide +kernel)) rfl (fun h => by cases h) (Nat.le_of_ble_eq_true rfl) (ym_X7_hitAhead cx w a0 x1 ha0 S r h)
abbrev G_X7_isSync : rd_G := (RX7, cX7_isSync, 3, (some .boolean), false, { frames := 3, cells := 0, slots := 0, locals := 66 })
theorem yf_X7_isSync : rd_YL yX7_isSync G_X7_isSync 1 := ⟨rd_mem 496 (by decide +kernel) rfl, rd_mem 63 (by decide +kernel) rfl, by decide +kernel, by decide +kernel, by decide +kernel⟩
theorem mi_X7_isSync : Cond.instanceMethod yX7_isSync ∈ rd_gw := rd_mem 495 (by decide +kernel) rfl
theorem ms_X7_isSync : Cond.selects (MethodName.cls yX7_isSync) yX7_isSync yX7_isSync ∈ rd_gw := rd_mem 8 (by decide +kernel) rfl
theorem dX7_isSync_0 : decode cX7_isSync 0 = .ok (.iconst 1, 1) := by decide +kernel
theorem dX7_isSync_1 : decode cX7_isSync 1 = .ok (.istore_n 2, 1) := by decide +kernel
theorem dX7_isSync_2 : decode cX7_isSync 2 = .ok (.iload_n 2, 1) := by decide +kernel
theorem dX7_isSync_3 : decode cX7_isSync 3 = .ok (.iconst 3, 1) := by decide +kernel
theorem dX7_isSync_4 : decode cX7_isSync 4 = .ok (.if_icmp .gt 24, 3) := by decide +kernel
theorem dX7_isSync_7 : decode cX7_isSync 7 = .ok (.aload_n 0, 1) := by decide +kernel
theorem dX7_isSync_8 : decode cX7_isSync 8 = .ok (.iload_n 2, 1) := by decide +kernel
theorem dX7_isSync_9 : decode cX7_isSync 9 = .ok (.invokevirtual 103, 3) := by decide +kernel
theorem dX7_isSync_12 : decode cX7_isSync 12 = .ok (.iload_n 1, 1) := by decide +kernel
theorem dX7_isSync_13 : decode cX7_isSync 13 = .ok (.iload_n 2, 1) := by decide +kernel
theorem dX7_isSync_14 : decode cX7_isSync 14 = .ok (.isub, 1) := by decide +kernel
theorem dX7_isSync_15 : decode cX7_isSync 15 = .ok (.iconst 3, 1) := by decide +kernel
theorem dX7_isSync_16 : decode cX7_isSync 16 = .ok (.iand, 1) := by decide +kernel
theorem dX7_isSync_17 : decode cX7_isSync 17 = .ok (.if_icmp .ne 5, 3) := by decide +kernel
theorem dX7_isSync_20 : decode cX7_isSync 20 = .ok (.iconst 1, 1) := by decide +kernel
theorem dX7_isSync_21 : decode cX7_isSync 21 = .ok (.ireturn, 1) := by decide +kernel
theorem dX7_isSync_22 : decode cX7_isSync 22 = .ok (.iinc 2 1, 3) := by decide +kernel
theorem dX7_isSync_25 : decode cX7_isSync 25 = .ok (.goto (-23), 3) := by decide +kernel
theorem dX7_isSync_28 : decode cX7_isSync 28 = .ok (.iconst 0, 1) := by decide +kernel
theorem dX7_isSync_29 : decode cX7_isSync 29 = .ok (.ireturn, 1) := by decide +kernel
def B_X7_isSync_2 (w : rd_W) (k2 : Nat → Int32 → Int32 → rd_S → Option (Int32 × rd_S)) (a0 : Nat) (x1 : Int32) (x2 : Int32) (S : rd_S) : Option (Int32 × rd_S) :=
  if 3 < x2 then
  (some (0, S))
  else
  (rd_b (F_X7_hitAhead w a0 x2 S) fun v3 s2 =>
  if v3 = ((x1 - x2) &&& 3) then
  (some (1, s2))
  else
  (rd_let (x2 + 1) fun v5 =>
  k2 a0 x1 v5 s2))
theorem yb_X7_isSync_2 (cx : rd_Cx) (w : rd_W) {k2 : Nat → Int32 → Int32 → rd_S → Option (Int32 × rd_S)} (hk2 : ∀ (a0 : Nat) (x1 : Int32) (x2 : Int32) (ha0 : rd_ok w a0 7) (S : rd_S), rd_Y cx G_X7_isSync (fun r => rd_P cx G_X7_isSync.2.2.2.2.2 0 w (rd_rI w r)) (k2 a0 x1 x2 S) 2 [(0, .inr (some a0)), (1, .inl x1), (2, .inl x2)] [] w S 0 0) (a0 : Nat) (x1 : Int32) (x2 : Int32) (ha0 : rd_ok w a0 7) (S : rd_S) : rd_Y cx G_X7_isSync (fun r => rd_P cx G_X7_isSync.2.2.2.2.2 0 w (rd_rI w r)) (B_X7_isSync_2 w k2 a0 x1 x2 S) 2 [(0, .inr (some a0)), (1, .inl x1), (2, .inl x2)] [] w S 0 0 := by
  unfold B_X7_isSync_2
  refine ry_iload_n dX7_isSync_2 rfl ?_
  refine ry_iconst (v := 3) dX7_isSync_3 (by decide) ?_
  refine ry_icmp_gt 28 dX7_isSync_4 (by decide) (fun c1 => ?_) (fun c1 => ?_)
  · refine ry_iconst (v := 0) dX7_isSync_28 (by decide) ?_
    exact ry_zret dX7_isSync_29 rfl (by decide) (Nat.le_of_ble_eq_true rfl) (Nat.le_of_ble_eq_true rfl)
  · refine ry_aload_n dX7_isSync_7 rfl ?_
    refine ry_iload_n dX7_isSync_8 rfl ?_
    refine ry_callI (fun l r9 h9 => cm_X7_hitAhead l cx w a0 x2 ha0 S r9 h9) (rd_runV (vs := [.inl x2]) dX7_isSync_9 ha0 rfl rfl yf_X7_hitAhead mi_X7_hitAhead ms_X7_hitAhead ml_RX7_103 ⟨Nat.le_of_ble_eq_true rfl, Nat.le_of_ble_eq_true rfl⟩ (Nat.le_of_ble_eq_true rfl) rfl) rfl rfl (Nat.le_of_ble_eq_true rfl) (Nat.le_of_ble_eq_true rfl) (fun v3 s2 => ?_)
    refine ry_iload_n dX7_isSync_12 rfl ?_
    refine ry_iload_n dX7_isSync_13 rfl ?_
    refine ry_isub dX7_isSync_14 ?_
    refine ry_iconst (v := 3) dX7_isSync_15 (by decide) ?_
    refine ry_iand dX7_isSync_16 ?_
    refine ry_icmp_ne 22 dX7_isSync_17 (by decide) (fun c4 => ?_) (fun c4 => ?_)
    · refine ry_iconst (v := 1) dX7_isSync_20 (by decide) ?_
      exact ry_zret dX7_isSync_21 rfl (by decide) (Nat.le_of_ble_eq_true rfl) (Nat.le_of_ble_eq_true rfl)
    · refine ry_iinc (v := 1) dX7_isSync_22 rfl (by decide) (by decide) ?_
      refine ry_let (fun v5 => ?_)
      refine ry_goto 2 dX7_isSync_25 (by decide) ?_
      exact ry_to (hk2 a0 x1 v5 ha0 s2) ⟨rfl, rfl, rfl, trivial⟩
def F_X7_isSync_2 (w : rd_W) (n : Nat) : Nat → Int32 → Int32 → rd_S → Option (Int32 × rd_S) :=
  Nat.rec (motive := fun _ => Nat → Int32 → Int32 → rd_S → Option (Int32 × rd_S)) (fun _ _ _ _ => none) (fun _ ih => B_X7_isSync_2 w ih) n
theorem yl_X7_isSync_2 (cx : rd_Cx) (w : rd_W) : ∀ (n : Nat) (a0 : Nat) (x1 : Int32) (x2 : Int32) (ha0 : rd_ok w a0 7) (S : rd_S), rd_Y cx G_X7_isSync (fun r => rd_P cx G_X7_isSync.2.2.2.2.2 0 w (rd_rI w r)) (F_X7_isSync_2 w n a0 x1 x2 S) 2 [(0, .inr (some a0)), (1, .inl x1), (2, .inl x2)] [] w S 0 0 := by
  intro n
  induction n with
  | zero => intro a0 x1 x2 ha0 S; exact ry_none
  | succ n ih => intro a0 x1 x2 ha0 S; exact yb_X7_isSync_2 cx w ih a0 x1 x2 ha0 S
def F_X7_isSync (w : rd_W) (a0 : Nat) (x1 : Int32) (S : rd_S) : Option (Int32 × rd_S) :=
  F_X7_isSync_2 w rd_big a0 x1 1 S
theorem ym_X7_isSync (cx : rd_Cx) (w : rd_W) (a0 : Nat) (x1 : Int32) (ha0 : rd_ok w a0 7) (S : rd_S) : rd_Y cx G_X7_isSync (fun r => rd_P cx G_X7_isSync.2.2.2.2.2 0 w (rd_rI w r)) (F_X7_isSync w a0 x1 S) 0 (rd_as 0 [.inr (some a0), .inl x1]) [] w S 0 0 := by
  unfold F_X7_isSync
  refine ry_iconst (v := 1) dX7_isSync_0 (by decide) ?_
  refine ry_istore_n dX7_isSync_1 (by decide) ?_
  exact ry_to (yl_X7_isSync_2 cx w rd_big a0 x1 1 ha0 S) ⟨rfl, rfl, rfl, trivial⟩
theorem cm_X7_isSync (l : Launch) (cx : rd_Cx) (w : rd_W) (a0 : Nat) (x1 : Int32) (ha0 : rd_ok w a0 7) (S : rd_S) (r : Int32 × rd_S) (h : F_X7_isSync w a0 x1 S = some r) : rd_M l cx yX7_isSync G_X7_isSync 0 [.inr (some a0), .inl x1] w S (rd_rI w r) :=
  rd_enter (plainFor_of_name (by decide +kernel)) rfl (fun h => by cases h) (Nat.le_of_ble_eq_true rfl) (ym_X7_isSync cx w a0 x1 ha0 S r h)
abbrev G_X7_search : rd_G := (RX7, cX7_search, 2, (some .int), false, { frames := 4, cells := 0, slots := 0, locals := 88 })
theorem yf_X7_search : rd_YL yX7_search G_X7_search 0 := ⟨rd_mem 473 (by decide +kernel) rfl, rd_mem 63 (by decide +kernel) rfl, by decide +kernel, by decide +kernel, by decide +kernel⟩
theorem mi_X7_search : Cond.instanceMethod yX7_search ∈ rd_gw := rd_mem 472 (by decide +kernel) rfl
theorem ms_X7_search : Cond.selects (MethodName.cls yX7_search) yX7_search yX7_search ∈ rd_gw := rd_mem 5 (by decide +kernel) rfl
theorem dX7_search_0 : decode cX7_search 0 = .ok (.aload_n 0, 1) := by decide +kernel
theorem dX7_search_1 : decode cX7_search 1 = .ok (.aload_n 0, 1) := by decide +kernel
theorem dX7_search_2 : decode cX7_search 2 = .ok (.getfield 69, 3) := by decide +kernel
theorem dX7_search_5 : decode cX7_search 5 = .ok (.iconst 1, 1) := by decide +kernel
theorem dX7_search_6 : decode cX7_search 6 = .ok (.iadd, 1) := by decide +kernel
theorem dX7_search_7 : decode cX7_search 7 = .ok (.bipush 104, 2) := by decide +kernel
theorem dX7_search_9 : decode cX7_search 9 = .ok (.invokestatic 94, 3) := by decide +kernel
theorem dX7_search_12 : decode cX7_search 12 = .ok (.putfield 69, 3) := by decide +kernel
theorem dX7_search_15 : decode cX7_search 15 = .ok (.aload_n 0, 1) := by decide +kernel
theorem dX7_search_16 : decode cX7_search 16 = .ok (.aload_n 0, 1) := by decide +kernel
theorem dX7_search_17 : decode cX7_search 17 = .ok (.getfield 100, 3) := by decide +kernel
theorem dX7_search_20 : decode cX7_search 20 = .ok (.ifCond .lt 23, 3) := by decide +kernel
theorem dX7_search_23 : decode cX7_search 23 = .ok (.aload_n 0, 1) := by decide +kernel
theorem dX7_search_24 : decode cX7_search 24 = .ok (.getfield 100, 3) := by decide +kernel
theorem dX7_search_27 : decode cX7_search 27 = .ok (.iconst 1, 1) := by decide +kernel
theorem dX7_search_28 : decode cX7_search 28 = .ok (.iadd, 1) := by decide +kernel
theorem dX7_search_29 : decode cX7_search 29 = .ok (.bipush 79, 2) := by decide +kernel
theorem dX7_search_31 : decode cX7_search 31 = .ok (.if_icmp .ge 12, 3) := by decide +kernel
theorem dX7_search_34 : decode cX7_search 34 = .ok (.aload_n 0, 1) := by decide +kernel
theorem dX7_search_35 : decode cX7_search 35 = .ok (.getfield 100, 3) := by decide +kernel
theorem dX7_search_38 : decode cX7_search 38 = .ok (.iconst 1, 1) := by decide +kernel
theorem dX7_search_39 : decode cX7_search 39 = .ok (.iadd, 1) := by decide +kernel
theorem dX7_search_40 : decode cX7_search 40 = .ok (.goto 4, 3) := by decide +kernel
theorem dX7_search_43 : decode cX7_search 43 = .ok (.iconst 0, 1) := by decide +kernel
theorem dX7_search_44 : decode cX7_search 44 = .ok (.putfield 100, 3) := by decide +kernel
theorem dX7_search_47 : decode cX7_search 47 = .ok (.aload_n 0, 1) := by decide +kernel
theorem dX7_search_48 : decode cX7_search 48 = .ok (.getfield 25, 3) := by decide +kernel
theorem dX7_search_51 : decode cX7_search 51 = .ok (.aload_n 0, 1) := by decide +kernel
theorem dX7_search_52 : decode cX7_search 52 = .ok (.getfield 100, 3) := by decide +kernel
theorem dX7_search_55 : decode cX7_search 55 = .ok (.aload_n 0, 1) := by decide +kernel
theorem dX7_search_56 : decode cX7_search 56 = .ok (.getfield 75, 3) := by decide +kernel
theorem dX7_search_59 : decode cX7_search 59 = .ok (.iastore, 1) := by decide +kernel
theorem dX7_search_60 : decode cX7_search 60 = .ok (.aload_n 0, 1) := by decide +kernel
theorem dX7_search_61 : decode cX7_search 61 = .ok (.iconst 0, 1) := by decide +kernel
theorem dX7_search_62 : decode cX7_search 62 = .ok (.invokevirtual 103, 3) := by decide +kernel
theorem dX7_search_65 : decode cX7_search 65 = .ok (.istore_n 1, 1) := by decide +kernel
theorem dX7_search_66 : decode cX7_search 66 = .ok (.iload_n 1, 1) := by decide +kernel
theorem dX7_search_67 : decode cX7_search 67 = .ok (.iconst (-1), 1) := by decide +kernel
theorem dX7_search_68 : decode cX7_search 68 = .ok (.if_icmp .eq 15, 3) := by decide +kernel
theorem dX7_search_71 : decode cX7_search 71 = .ok (.aload_n 0, 1) := by decide +kernel
theorem dX7_search_72 : decode cX7_search 72 = .ok (.iload_n 1, 1) := by decide +kernel
theorem dX7_search_73 : decode cX7_search 73 = .ok (.invokevirtual 107, 3) := by decide +kernel
theorem dX7_search_76 : decode cX7_search 76 = .ok (.ifCond .eq 7, 3) := by decide +kernel
theorem dX7_search_79 : decode cX7_search 79 = .ok (.iload_n 1, 1) := by decide +kernel
theorem dX7_search_80 : decode cX7_search 80 = .ok (.goto 4, 3) := by decide +kernel
theorem dX7_search_83 : decode cX7_search 83 = .ok (.iconst (-1), 1) := by decide +kernel
theorem dX7_search_84 : decode cX7_search 84 = .ok (.ireturn, 1) := by decide +kernel
def B_X7_search_84 (w : rd_W) (t0 : Int32) (S : rd_S) : Option (Int32 × rd_S) :=
  some (t0, S)
theorem yb_X7_search_84 (cx : rd_Cx) (w : rd_W) (t0 : Int32) (S : rd_S) : rd_Y cx G_X7_search (fun r => rd_P cx G_X7_search.2.2.2.2.2 0 w (rd_rI w r)) (B_X7_search_84 w t0 S) 84 [] [.inl t0] w S 0 0 := by
  unfold B_X7_search_84
  exact ry_iret dX7_search_84 rfl (Nat.le_of_ble_eq_true rfl) (Nat.le_of_ble_eq_true rfl)
def B_X7_search_83 (w : rd_W) (S : rd_S) : Option (Int32 × rd_S) :=
  B_X7_search_84 w (-1) S
theorem yb_X7_search_83 (cx : rd_Cx) (w : rd_W) (S : rd_S) : rd_Y cx G_X7_search (fun r => rd_P cx G_X7_search.2.2.2.2.2 0 w (rd_rI w r)) (B_X7_search_83 w S) 83 [] [] w S 0 0 := by
  unfold B_X7_search_83
  refine ry_iconst (v := (-1)) dX7_search_83 (by decide) ?_
  exact ry_to (yb_X7_search_84 cx w (-1) S) trivial
def B_X7_search_44 (w : rd_W) (a0 : Nat) (t0 : Int32) (e1 : Nat) (S : rd_S) : Option (Int32 × rd_S) :=
  rd_let (pI S e1 7 t0) fun s5 =>
  rd_c (gR s5 a0 2) fun b6 =>
  rd_i (gI s5 a0 7) (w.2.2 b6) <|
  rd_let (pI s5 b6 (gI s5 a0 7).toNatClampNeg (gI s5 a0 6)) fun s7 =>
  rd_b (F_X7_hitAhead w a0 0 s7) fun v9 s8 =>
  if v9 = (-1) then
  (B_X7_search_83 w s8)
  else
  (rd_b (F_X7_isSync w a0 v9 s8) fun v12 s11 =>
  if v12 = 0 then
  (B_X7_search_83 w s11)
  else
  (B_X7_search_84 w v9 s11))
theorem yb_X7_search_44 (cx : rd_Cx) (w : rd_W) (a0 : Nat) (t0 : Int32) (e1 : Nat) (ha0 : rd_ok w a0 7) (he1 : rd_ok w e1 7) (S : rd_S) : rd_Y cx G_X7_search (fun r => rd_P cx G_X7_search.2.2.2.2.2 0 w (rd_rI w r)) (B_X7_search_44 w a0 t0 e1 S) 44 [(0, .inr (some a0))] [.inl t0, .inr (some e1)] w S 0 0 := by
  unfold B_X7_search_44
  refine ry_puti dX7_search_44 he1 fl_RX7_100 rfl rfl rfl ?_
  refine ry_letS (fun s5 => ?_)
  refine ry_aload_n dX7_search_47 rfl ?_
  refine ry_getr dX7_search_48 ha0 fl_RX7_25 rfl (fun b6 hb6 => ?_)
  refine ry_aload_n dX7_search_51 rfl ?_
  refine ry_geti dX7_search_52 ha0 fl_RX7_100 rfl ?_
  refine ry_aload_n dX7_search_55 rfl ?_
  refine ry_geti dX7_search_56 ha0 fl_RX7_75 rfl ?_
  refine ry_iast dX7_search_59 hb6 ?_
  refine ry_letS (fun s7 => ?_)
  refine ry_aload_n dX7_search_60 rfl ?_
  refine ry_iconst (v := 0) dX7_search_61 (by decide) ?_
  refine ry_callI (fun l r9 h9 => cm_X7_hitAhead l cx w a0 0 ha0 s7 r9 h9) (rd_runV (vs := [.inl 0]) dX7_search_62 ha0 rfl rfl yf_X7_hitAhead mi_X7_hitAhead ms_X7_hitAhead ml_RX7_103 ⟨Nat.le_of_ble_eq_true rfl, Nat.le_of_ble_eq_true rfl⟩ (Nat.le_of_ble_eq_true rfl) rfl) rfl rfl (Nat.le_of_ble_eq_true rfl) (Nat.le_of_ble_eq_true rfl) (fun v9 s8 => ?_)
  refine ry_istore_n dX7_search_65 (by decide) ?_
  refine ry_iload_n dX7_search_66 rfl ?_
  refine ry_iconst (v := (-1)) dX7_search_67 (by decide) ?_
  refine ry_icmp_eq 83 dX7_search_68 (by decide) (fun c10 => ?_) (fun c10 => ?_)
  · exact ry_to (yb_X7_search_83 cx w s8) trivial
  · refine ry_aload_n dX7_search_71 rfl ?_
    refine ry_iload_n dX7_search_72 rfl ?_
    refine ry_callI (fun l r9 h9 => cm_X7_isSync l cx w a0 v9 ha0 s8 r9 h9) (rd_runV (vs := [.inl v9]) dX7_search_73 ha0 rfl rfl yf_X7_isSync mi_X7_isSync ms_X7_isSync ml_RX7_107 ⟨Nat.le_of_ble_eq_true rfl, Nat.le_of_ble_eq_true rfl⟩ (Nat.le_of_ble_eq_true rfl) rfl) rfl rfl (Nat.le_of_ble_eq_true rfl) (Nat.le_of_ble_eq_true rfl) (fun v12 s11 => ?_)
    refine ry_if_eq 83 dX7_search_76 (by decide) (fun c13 => ?_) (fun c13 => ?_)
    · exact ry_to (yb_X7_search_83 cx w s11) trivial
    · refine ry_iload_n dX7_search_79 rfl ?_
      refine ry_goto 84 dX7_search_80 (by decide) ?_
      exact ry_to (yb_X7_search_84 cx w v9 s11) trivial
def B_X7_search_43 (w : rd_W) (a0 : Nat) (e0 : Nat) (S : rd_S) : Option (Int32 × rd_S) :=
  B_X7_search_44 w a0 0 e0 S
theorem yb_X7_search_43 (cx : rd_Cx) (w : rd_W) (a0 : Nat) (e0 : Nat) (ha0 : rd_ok w a0 7) (he0 : rd_ok w e0 7) (S : rd_S) : rd_Y cx G_X7_search (fun r => rd_P cx G_X7_search.2.2.2.2.2 0 w (rd_rI w r)) (B_X7_search_43 w a0 e0 S) 43 [(0, .inr (some a0))] [.inr (some e0)] w S 0 0 := by
  unfold B_X7_search_43
  refine ry_iconst (v := 0) dX7_search_43 (by decide) ?_
  exact ry_to (yb_X7_search_44 cx w a0 0 e0 ha0 he0 S) ⟨rfl, trivial⟩
def F_X7_search (w : rd_W) (a0 : Nat) (S : rd_S) : Option (Int32 × rd_S) :=
  rd_b (F_J9_min_7cf53 w ((gI S a0 8) + 1) 104 S) fun v2 s1 =>
  rd_let (pI s1 a0 8 v2) fun s3 =>
  if (gI s3 a0 7) < 0 then
  (B_X7_search_43 w a0 a0 s3)
  else
  (if 79 ≤ ((gI s3 a0 7) + 1) then
  (B_X7_search_43 w a0 a0 s3)
  else
  (B_X7_search_44 w a0 ((gI s3 a0 7) + 1) a0 s3))
theorem ym_X7_search (cx : rd_Cx) (w : rd_W) (a0 : Nat) (ha0 : rd_ok w a0 7) (S : rd_S) : rd_Y cx G_X7_search (fun r => rd_P cx G_X7_search.2.2.2.2.2 0 w (rd_rI w r)) (F_X7_search w a0 S) 0 (rd_as 0 [.inr (some a0)]) [] w S 0 0 := by
  unfold F_X7_search
  refine ry_aload_n dX7_search_0 rfl ?_
  refine ry_aload_n dX7_search_1 rfl ?_
  refine ry_geti dX7_search_2 ha0 fl_RX7_69 rfl ?_
  refine ry_iconst (v := 1) dX7_search_5 (by decide) ?_
  refine ry_iadd dX7_search_6 ?_
  refine ry_bipush (v := 104) dX7_search_7 (by decide) ?_
  refine ry_callI (fun l r9 h9 => cm_J9_min_7cf53 l cx w ((gI S a0 8) + 1) 104 S r9 h9) (rd_runS (vs := [.inl ((gI S a0 8) + 1), .inl 104]) dX7_search_9 yf_J9_min_7cf53 mt_J9_min_7cf53 ml_RX7_94 ⟨Nat.le_of_ble_eq_true rfl, Nat.le_of_ble_eq_true rfl⟩ (Nat.le_of_ble_eq_true rfl) rfl) rfl rfl (Nat.le_of_ble_eq_true rfl) (Nat.le_of_ble_eq_true rfl) (fun v2 s1 => ?_)
  refine ry_puti dX7_search_12 ha0 fl_RX7_69 rfl rfl rfl ?_
  refine ry_letS (fun s3 => ?_)
  refine ry_aload_n dX7_search_15 rfl ?_
  refine ry_aload_n dX7_search_16 rfl ?_
  refine ry_geti dX7_search_17 ha0 fl_RX7_100 rfl ?_
  refine ry_if_lt 43 dX7_search_20 (by decide) (fun c4 => ?_) (fun c4 => ?_)
  · exact ry_to (yb_X7_search_43 cx w a0 a0 ha0 ha0 s3) ⟨rfl, trivial⟩
  · refine ry_aload_n dX7_search_23 rfl ?_
    refine ry_geti dX7_search_24 ha0 fl_RX7_100 rfl ?_
    refine ry_iconst (v := 1) dX7_search_27 (by decide) ?_
    refine ry_iadd dX7_search_28 ?_
    refine ry_bipush (v := 79) dX7_search_29 (by decide) ?_
    refine ry_icmp_ge 43 dX7_search_31 (by decide) (fun c14 => ?_) (fun c14 => ?_)
    · exact ry_to (yb_X7_search_43 cx w a0 a0 ha0 ha0 s3) ⟨rfl, trivial⟩
    · refine ry_aload_n dX7_search_34 rfl ?_
      refine ry_geti dX7_search_35 ha0 fl_RX7_100 rfl ?_
      refine ry_iconst (v := 1) dX7_search_38 (by decide) ?_
      refine ry_iadd dX7_search_39 ?_
      refine ry_goto 44 dX7_search_40 (by decide) ?_
      exact ry_to (yb_X7_search_44 cx w a0 ((gI s3 a0 7) + 1) a0 ha0 ha0 s3) ⟨rfl, trivial⟩
theorem cm_X7_search (l : Launch) (cx : rd_Cx) (w : rd_W) (a0 : Nat) (ha0 : rd_ok w a0 7) (S : rd_S) (r : Int32 × rd_S) (h : F_X7_search w a0 S = some r) : rd_M l cx yX7_search G_X7_search 0 [.inr (some a0)] w S (rd_rI w r) :=
  rd_enter (plainFor_of_name (by decide +kernel)) rfl (fun h => by cases h) (Nat.le_of_ble_eq_true rfl) (ym_X7_search cx w a0 ha0 S r h)
abbrev G_X7_synchronise : rd_G := (RX7, cX7_synchronise, 5, (some .boolean), false, { frames := 4, cells := 0, slots := 0, locals := 100 })
theorem yf_X7_synchronise : rd_YL yX7_synchronise G_X7_synchronise 1 := ⟨rd_mem 500 (by decide +kernel) rfl, rd_mem 63 (by decide +kernel) rfl, by decide +kernel, by decide +kernel, by decide +kernel⟩
theorem mi_X7_synchronise : Cond.instanceMethod yX7_synchronise ∈ rd_gw := rd_mem 499 (by decide +kernel) rfl
theorem ms_X7_synchronise : Cond.selects (MethodName.cls yX7_synchronise) yX7_synchronise yX7_synchronise ∈ rd_gw := rd_mem 9 (by decide +kernel) rfl
theorem dX7_synchronise_0 : decode cX7_synchronise 0 = .ok (.aload_n 0, 1) := by decide +kernel
theorem dX7_synchronise_1 : decode cX7_synchronise 1 = .ok (.dup, 1) := by decide +kernel
theorem dX7_synchronise_2 : decode cX7_synchronise 2 = .ok (.getfield 60, 3) := by decide +kernel
theorem dX7_synchronise_5 : decode cX7_synchronise 5 = .ok (.iconst 1, 1) := by decide +kernel
theorem dX7_synchronise_6 : decode cX7_synchronise 6 = .ok (.iadd, 1) := by decide +kernel
theorem dX7_synchronise_7 : decode cX7_synchronise 7 = .ok (.putfield 60, 3) := by decide +kernel
theorem dX7_synchronise_10 : decode cX7_synchronise 10 = .ok (.aload_n 0, 1) := by decide +kernel
theorem dX7_synchronise_11 : decode cX7_synchronise 11 = .ok (.getfield 14, 3) := by decide +kernel
theorem dX7_synchronise_14 : decode cX7_synchronise 14 = .ok (.iconst 3, 1) := by decide +kernel
theorem dX7_synchronise_15 : decode cX7_synchronise 15 = .ok (.invokevirtual 126, 3) := by decide +kernel
theorem dX7_synchronise_18 : decode cX7_synchronise 18 = .ok (.aload_n 0, 1) := by decide +kernel
theorem dX7_synchronise_19 : decode cX7_synchronise 19 = .ok (.iconst 0, 1) := by decide +kernel
theorem dX7_synchronise_20 : decode cX7_synchronise 20 = .ok (.putfield 39, 3) := by decide +kernel
theorem dX7_synchronise_23 : decode cX7_synchronise 23 = .ok (.iconst 0, 1) := by decide +kernel
theorem dX7_synchronise_24 : decode cX7_synchronise 24 = .ok (.istore_n 2, 1) := by decide +kernel
theorem dX7_synchronise_25 : decode cX7_synchronise 25 = .ok (.iconst 0, 1) := by decide +kernel
theorem dX7_synchronise_26 : decode cX7_synchronise 26 = .ok (.istore_n 3, 1) := by decide +kernel
theorem dX7_synchronise_27 : decode cX7_synchronise 27 = .ok (.iload_n 3, 1) := by decide +kernel
theorem dX7_synchronise_28 : decode cX7_synchronise 28 = .ok (.iload_n 1, 1) := by decide +kernel
theorem dX7_synchronise_29 : decode cX7_synchronise 29 = .ok (.if_icmp .gt 52, 3) := by decide +kernel
theorem dX7_synchronise_32 : decode cX7_synchronise 32 = .ok (.aload_n 0, 1) := by decide +kernel
theorem dX7_synchronise_33 : decode cX7_synchronise 33 = .ok (.getfield 39, 3) := by decide +kernel
theorem dX7_synchronise_36 : decode cX7_synchronise 36 = .ok (.iconst (-1), 1) := by decide +kernel
theorem dX7_synchronise_37 : decode cX7_synchronise 37 = .ok (.if_icmp .eq 44, 3) := by decide +kernel
theorem dX7_synchronise_40 : decode cX7_synchronise 40 = .ok (.aload_n 0, 1) := by decide +kernel
theorem dX7_synchronise_41 : decode cX7_synchronise 41 = .ok (.iload_n 1, 1) := by decide +kernel
theorem dX7_synchronise_42 : decode cX7_synchronise 42 = .ok (.iload_n 3, 1) := by decide +kernel
theorem dX7_synchronise_43 : decode cX7_synchronise 43 = .ok (.isub, 1) := by decide +kernel
theorem dX7_synchronise_44 : decode cX7_synchronise 44 = .ok (.invokevirtual 117, 3) := by decide +kernel
theorem dX7_synchronise_47 : decode cX7_synchronise 47 = .ok (.istore 4, 2) := by decide +kernel
theorem dX7_synchronise_49 : decode cX7_synchronise 49 = .ok (.iload 4, 2) := by decide +kernel
theorem dX7_synchronise_51 : decode cX7_synchronise 51 = .ok (.iconst (-1), 1) := by decide +kernel
theorem dX7_synchronise_52 : decode cX7_synchronise 52 = .ok (.if_icmp .ne 16, 3) := by decide +kernel
theorem dX7_synchronise_55 : decode cX7_synchronise 55 = .ok (.aload_n 0, 1) := by decide +kernel
theorem dX7_synchronise_56 : decode cX7_synchronise 56 = .ok (.dup, 1) := by decide +kernel
theorem dX7_synchronise_57 : decode cX7_synchronise 57 = .ok (.getfield 39, 3) := by decide +kernel
theorem dX7_synchronise_60 : decode cX7_synchronise 60 = .ok (.iconst 1, 1) := by decide +kernel
theorem dX7_synchronise_61 : decode cX7_synchronise 61 = .ok (.iadd, 1) := by decide +kernel
theorem dX7_synchronise_62 : decode cX7_synchronise 62 = .ok (.putfield 39, 3) := by decide +kernel
theorem dX7_synchronise_65 : decode cX7_synchronise 65 = .ok (.goto 10, 3) := by decide +kernel
theorem dX7_synchronise_68 : decode cX7_synchronise 68 = .ok (.aload_n 0, 1) := by decide +kernel
theorem dX7_synchronise_69 : decode cX7_synchronise 69 = .ok (.iload 4, 2) := by decide +kernel
theorem dX7_synchronise_71 : decode cX7_synchronise 71 = .ok (.invokevirtual 91, 3) := by decide +kernel
theorem dX7_synchronise_74 : decode cX7_synchronise 74 = .ok (.istore_n 2, 1) := by decide +kernel
theorem dX7_synchronise_75 : decode cX7_synchronise 75 = .ok (.iinc 3 1, 3) := by decide +kernel
theorem dX7_synchronise_78 : decode cX7_synchronise 78 = .ok (.goto (-51), 3) := by decide +kernel
theorem dX7_synchronise_81 : decode cX7_synchronise 81 = .ok (.iload_n 2, 1) := by decide +kernel
theorem dX7_synchronise_82 : decode cX7_synchronise 82 = .ok (.ireturn, 1) := by decide +kernel
def B_X7_synchronise_81 (w : rd_W) (x2 : Int32) (S : rd_S) : Option (Int32 × rd_S) :=
  rd_z x2 <|
  some (x2, S)
theorem yb_X7_synchronise_81 (cx : rd_Cx) (w : rd_W) (x2 : Int32) (S : rd_S) : rd_Y cx G_X7_synchronise (fun r => rd_P cx G_X7_synchronise.2.2.2.2.2 0 w (rd_rI w r)) (B_X7_synchronise_81 w x2 S) 81 [(2, .inl x2)] [] w S 0 0 := by
  unfold B_X7_synchronise_81
  refine ry_iload_n dX7_synchronise_81 rfl ?_
  refine ry_zg (fun z6 => ?_)
  exact ry_zret dX7_synchronise_82 rfl z6 (Nat.le_of_ble_eq_true rfl) (Nat.le_of_ble_eq_true rfl)
def B_X7_synchronise_75 (w : rd_W) (k27 : Nat → Int32 → Int32 → Int32 → rd_S → Option (Int32 × rd_S)) (a0 : Nat) (x1 : Int32) (x2 : Int32) (x3 : Int32) (S : rd_S) : Option (Int32 × rd_S) :=
  rd_let (x3 + 1) fun v12 =>
  k27 a0 x1 x2 v12 S
theorem yb_X7_synchronise_75 (cx : rd_Cx) (w : rd_W) {k27 : Nat → Int32 → Int32 → Int32 → rd_S → Option (Int32 × rd_S)} (hk27 : ∀ (a0 : Nat) (x1 : Int32) (x2 : Int32) (x3 : Int32) (ha0 : rd_ok w a0 7) (S : rd_S), rd_Y cx G_X7_synchronise (fun r => rd_P cx G_X7_synchronise.2.2.2.2.2 0 w (rd_rI w r)) (k27 a0 x1 x2 x3 S) 27 [(0, .inr (some a0)), (1, .inl x1), (2, .inl x2), (3, .inl x3)] [] w S 0 0) (a0 : Nat) (x1 : Int32) (x2 : Int32) (x3 : Int32) (ha0 : rd_ok w a0 7) (S : rd_S) : rd_Y cx G_X7_synchronise (fun r => rd_P cx G_X7_synchronise.2.2.2.2.2 0 w (rd_rI w r)) (B_X7_synchronise_75 w k27 a0 x1 x2 x3 S) 75 [(0, .inr (some a0)), (1, .inl x1), (2, .inl x2), (3, .inl x3)] [] w S 0 0 := by
  unfold B_X7_synchronise_75
  refine ry_iinc (v := 1) dX7_synchronise_75 rfl (by decide) (by decide) ?_
  refine ry_let (fun v12 => ?_)
  refine ry_goto 27 dX7_synchronise_78 (by decide) ?_
  exact ry_to (hk27 a0 x1 x2 v12 ha0 S) ⟨rfl, rfl, rfl, rfl, trivial⟩
def B_X7_synchronise_27 (w : rd_W) (k27 : Nat → Int32 → Int32 → Int32 → rd_S → Option (Int32 × rd_S)) (a0 : Nat) (x1 : Int32) (x2 : Int32) (x3 : Int32) (S : rd_S) : Option (Int32 × rd_S) :=
  if x1 < x3 then
  (B_X7_synchronise_81 w x2 S)
  else
  (if (gI S a0 10) = (-1) then
  (B_X7_synchronise_81 w x2 S)
  else
  (rd_b (F_X7_wordAhead w a0 (x1 - x3) S) fun v9 s8 =>
  if v9 = (-1) then
  (rd_let (pI s8 a0 10 ((gI s8 a0 10) + 1)) fun s11 =>
  B_X7_synchronise_75 w k27 a0 x1 x2 x3 s11)
  else
  (rd_b (F_X7_lookAt w a0 v9 s8) fun v14 s13 =>
  B_X7_synchronise_75 w k27 a0 x1 v14 x3 s13)))
theorem yb_X7_synchronise_27 (cx : rd_Cx) (w : rd_W) {k27 : Nat → Int32 → Int32 → Int32 → rd_S → Option (Int32 × rd_S)} (hk27 : ∀ (a0 : Nat) (x1 : Int32) (x2 : Int32) (x3 : Int32) (ha0 : rd_ok w a0 7) (S : rd_S), rd_Y cx G_X7_synchronise (fun r => rd_P cx G_X7_synchronise.2.2.2.2.2 0 w (rd_rI w r)) (k27 a0 x1 x2 x3 S) 27 [(0, .inr (some a0)), (1, .inl x1), (2, .inl x2), (3, .inl x3)] [] w S 0 0) (a0 : Nat) (x1 : Int32) (x2 : Int32) (x3 : Int32) (ha0 : rd_ok w a0 7) (S : rd_S) : rd_Y cx G_X7_synchronise (fun r => rd_P cx G_X7_synchronise.2.2.2.2.2 0 w (rd_rI w r)) (B_X7_synchronise_27 w k27 a0 x1 x2 x3 S) 27 [(0, .inr (some a0)), (1, .inl x1), (2, .inl x2), (3, .inl x3)] [] w S 0 0 := by
  unfold B_X7_synchronise_27
  refine ry_iload_n dX7_synchronise_27 rfl ?_
  refine ry_iload_n dX7_synchronise_28 rfl ?_
  refine ry_icmp_gt 81 dX7_synchronise_29 (by decide) (fun c5 => ?_) (fun c5 => ?_)
  · exact ry_to (yb_X7_synchronise_81 cx w x2 S) ⟨rfl, trivial⟩
  · refine ry_aload_n dX7_synchronise_32 rfl ?_
    refine ry_geti dX7_synchronise_33 ha0 fl_RX7_39 rfl ?_
    refine ry_iconst (v := (-1)) dX7_synchronise_36 (by decide) ?_
    refine ry_icmp_eq 81 dX7_synchronise_37 (by decide) (fun c7 => ?_) (fun c7 => ?_)
    · exact ry_to (yb_X7_synchronise_81 cx w x2 S) ⟨rfl, trivial⟩
    · refine ry_aload_n dX7_synchronise_40 rfl ?_
      refine ry_iload_n dX7_synchronise_41 rfl ?_
      refine ry_iload_n dX7_synchronise_42 rfl ?_
      refine ry_isub dX7_synchronise_43 ?_
      refine ry_callI (fun l r9 h9 => cm_X7_wordAhead l cx w a0 (x1 - x3) ha0 S r9 h9) (rd_runV (vs := [.inl (x1 - x3)]) dX7_synchronise_44 ha0 rfl rfl yf_X7_wordAhead mi_X7_wordAhead ms_X7_wordAhead ml_RX7_117 ⟨Nat.le_of_ble_eq_true rfl, Nat.le_of_ble_eq_true rfl⟩ (Nat.le_of_ble_eq_true rfl) rfl) rfl rfl (Nat.le_of_ble_eq_true rfl) (Nat.le_of_ble_eq_true rfl) (fun v9 s8 => ?_)
      refine ry_istore dX7_synchronise_47 (by decide) ?_
      refine ry_iload dX7_synchronise_49 rfl ?_
      refine ry_iconst (v := (-1)) dX7_synchronise_51 (by decide) ?_
      refine ry_icmp_ne 68 dX7_synchronise_52 (by decide) (fun c10 => ?_) (fun c10 => ?_)
      · refine ry_aload_n dX7_synchronise_55 rfl ?_
        refine ry_dup dX7_synchronise_56 ?_
        refine ry_geti dX7_synchronise_57 ha0 fl_RX7_39 rfl ?_
        refine ry_iconst (v := 1) dX7_synchronise_60 (by decide) ?_
        refine ry_iadd dX7_synchronise_61 ?_
        refine ry_puti dX7_synchronise_62 ha0 fl_RX7_39 rfl rfl rfl ?_
        refine ry_letS (fun s11 => ?_)
        refine ry_goto 75 dX7_synchronise_65 (by decide) ?_
        exact ry_to (yb_X7_synchronise_75 cx w (k27 := k27) hk27 a0 x1 x2 x3 ha0 s11) ⟨rfl, rfl, rfl, rfl, trivial⟩
      · refine ry_aload_n dX7_synchronise_68 rfl ?_
        refine ry_iload dX7_synchronise_69 rfl ?_
        refine ry_callI (fun l r9 h9 => cm_X7_lookAt l cx w a0 v9 ha0 s8 r9 h9) (rd_runV (vs := [.inl v9]) dX7_synchronise_71 ha0 rfl rfl yf_X7_lookAt mi_X7_lookAt ms_X7_lookAt ml_RX7_91 ⟨Nat.le_of_ble_eq_true rfl, Nat.le_of_ble_eq_true rfl⟩ (Nat.le_of_ble_eq_true rfl) rfl) rfl rfl (Nat.le_of_ble_eq_true rfl) (Nat.le_of_ble_eq_true rfl) (fun v14 s13 => ?_)
        refine ry_istore_n dX7_synchronise_74 (by decide) ?_
        exact ry_to (yb_X7_synchronise_75 cx w (k27 := k27) hk27 a0 x1 v14 x3 ha0 s13) ⟨rfl, rfl, rfl, rfl, trivial⟩
def F_X7_synchronise_27 (w : rd_W) (n : Nat) : Nat → Int32 → Int32 → Int32 → rd_S → Option (Int32 × rd_S) :=
  Nat.rec (motive := fun _ => Nat → Int32 → Int32 → Int32 → rd_S → Option (Int32 × rd_S)) (fun _ _ _ _ _ => none) (fun _ ih => B_X7_synchronise_27 w ih) n
theorem yl_X7_synchronise_27 (cx : rd_Cx) (w : rd_W) : ∀ (n : Nat) (a0 : Nat) (x1 : Int32) (x2 : Int32) (x3 : Int32) (ha0 : rd_ok w a0 7) (S : rd_S), rd_Y cx G_X7_synchronise (fun r => rd_P cx G_X7_synchronise.2.2.2.2.2 0 w (rd_rI w r)) (F_X7_synchronise_27 w n a0 x1 x2 x3 S) 27 [(0, .inr (some a0)), (1, .inl x1), (2, .inl x2), (3, .inl x3)] [] w S 0 0 := by
  intro n
  induction n with
  | zero => intro a0 x1 x2 x3 ha0 S; exact ry_none
  | succ n ih => intro a0 x1 x2 x3 ha0 S; exact yb_X7_synchronise_27 cx w ih a0 x1 x2 x3 ha0 S
def F_X7_synchronise (w : rd_W) (a0 : Nat) (x1 : Int32) (S : rd_S) : Option (Int32 × rd_S) :=
  rd_let (pI S a0 14 ((gI S a0 14) + 1)) fun s1 =>
  rd_c (gR s1 a0 0) fun b2 =>
  rd_c (F_X3_clear w b2 3 s1) fun s3 =>
  rd_let (pI s3 a0 10 0) fun s4 =>
  F_X7_synchronise_27 w rd_big a0 x1 0 0 s4
theorem ym_X7_synchronise (cx : rd_Cx) (w : rd_W) (a0 : Nat) (x1 : Int32) (ha0 : rd_ok w a0 7) (S : rd_S) : rd_Y cx G_X7_synchronise (fun r => rd_P cx G_X7_synchronise.2.2.2.2.2 0 w (rd_rI w r)) (F_X7_synchronise w a0 x1 S) 0 (rd_as 0 [.inr (some a0), .inl x1]) [] w S 0 0 := by
  unfold F_X7_synchronise
  refine ry_aload_n dX7_synchronise_0 rfl ?_
  refine ry_dup dX7_synchronise_1 ?_
  refine ry_geti dX7_synchronise_2 ha0 fl_RX7_60 rfl ?_
  refine ry_iconst (v := 1) dX7_synchronise_5 (by decide) ?_
  refine ry_iadd dX7_synchronise_6 ?_
  refine ry_puti dX7_synchronise_7 ha0 fl_RX7_60 rfl rfl rfl ?_
  refine ry_letS (fun s1 => ?_)
  refine ry_aload_n dX7_synchronise_10 rfl ?_
  refine ry_getr dX7_synchronise_11 ha0 fl_RX7_14 rfl (fun b2 hb2 => ?_)
  refine ry_iconst (v := 3) dX7_synchronise_14 (by decide) ?_
  refine ry_callv (fun l r9 h9 => cm_X3_clear l cx w b2 3 hb2 s1 r9 h9) (rd_runV (vs := [.inl 3]) dX7_synchronise_15 hb2 rfl rfl yf_X3_clear mi_X3_clear ms_X3_clear ml_RX7_126 ⟨Nat.le_of_ble_eq_true rfl, Nat.le_of_ble_eq_true rfl⟩ (Nat.le_of_ble_eq_true rfl) rfl) rfl rfl (Nat.le_of_ble_eq_true rfl) (Nat.le_of_ble_eq_true rfl) (fun s3 => ?_)
  refine ry_aload_n dX7_synchronise_18 rfl ?_
  refine ry_iconst (v := 0) dX7_synchronise_19 (by decide) ?_
  refine ry_puti dX7_synchronise_20 ha0 fl_RX7_39 rfl rfl rfl ?_
  refine ry_letS (fun s4 => ?_)
  refine ry_iconst (v := 0) dX7_synchronise_23 (by decide) ?_
  refine ry_istore_n dX7_synchronise_24 (by decide) ?_
  refine ry_iconst (v := 0) dX7_synchronise_25 (by decide) ?_
  refine ry_istore_n dX7_synchronise_26 (by decide) ?_
  exact ry_to (yl_X7_synchronise_27 cx w rd_big a0 x1 0 0 ha0 s4) ⟨rfl, rfl, rfl, rfl, trivial⟩
theorem cm_X7_synchronise (l : Launch) (cx : rd_Cx) (w : rd_W) (a0 : Nat) (x1 : Int32) (ha0 : rd_ok w a0 7) (S : rd_S) (r : Int32 × rd_S) (h : F_X7_synchronise w a0 x1 S = some r) : rd_M l cx yX7_synchronise G_X7_synchronise 0 [.inr (some a0), .inl x1] w S (rd_rI w r) :=
  rd_enter (plainFor_of_name (by decide +kernel)) rfl (fun h => by cases h) (Nat.le_of_ble_eq_true rfl) (ym_X7_synchronise cx w a0 x1 ha0 S r h)
abbrev G_X7_accept : rd_G := (RX7, cX7_accept, 3, (some .boolean), false, { frames := 5, cells := 0, slots := 0, locals := 124 })
theorem yf_X7_accept : rd_YL yX7_accept G_X7_accept 1 := ⟨rd_mem 406 (by decide +kernel) rfl, rd_mem 63 (by decide +kernel) rfl, by decide +kernel, by decide +kernel, by decide +kernel⟩
theorem mi_X7_accept : Cond.instanceMethod yX7_accept ∈ rd_gw := rd_mem 404 (by decide +kernel) rfl
theorem ms_X7_accept : Cond.selects (MethodName.cls yX7_accept) yX7_accept yX7_accept ∈ rd_gw := rd_mem 405 (by decide +kernel) rfl
theorem dX7_accept_0 : decode cX7_accept 0 = .ok (.aload_n 0, 1) := by decide +kernel
theorem dX7_accept_1 : decode cX7_accept 1 = .ok (.dup, 1) := by decide +kernel
theorem dX7_accept_2 : decode cX7_accept 2 = .ok (.getfield 51, 3) := by decide +kernel
theorem dX7_accept_5 : decode cX7_accept 5 = .ok (.iconst 1, 1) := by decide +kernel
theorem dX7_accept_6 : decode cX7_accept 6 = .ok (.iadd, 1) := by decide +kernel
theorem dX7_accept_7 : decode cX7_accept 7 = .ok (.putfield 51, 3) := by decide +kernel
theorem dX7_accept_10 : decode cX7_accept 10 = .ok (.aload_n 0, 1) := by decide +kernel
theorem dX7_accept_11 : decode cX7_accept 11 = .ok (.aload_n 0, 1) := by decide +kernel
theorem dX7_accept_12 : decode cX7_accept 12 = .ok (.getfield 75, 3) := by decide +kernel
theorem dX7_accept_15 : decode cX7_accept 15 = .ok (.iconst 1, 1) := by decide +kernel
theorem dX7_accept_16 : decode cX7_accept 16 = .ok (.ishl, 1) := by decide +kernel
theorem dX7_accept_17 : decode cX7_accept 17 = .ok (.iload_n 1, 1) := by decide +kernel
theorem dX7_accept_18 : decode cX7_accept 18 = .ok (.ior, 1) := by decide +kernel
theorem dX7_accept_19 : decode cX7_accept 19 = .ok (.ldc 78, 2) := by decide +kernel
theorem dX7_accept_21 : decode cX7_accept 21 = .ok (.iand, 1) := by decide +kernel
theorem dX7_accept_22 : decode cX7_accept 22 = .ok (.putfield 75, 3) := by decide +kernel
theorem dX7_accept_25 : decode cX7_accept 25 = .ok (.aload_n 0, 1) := by decide +kernel
theorem dX7_accept_26 : decode cX7_accept 26 = .ok (.getfield 39, 3) := by decide +kernel
theorem dX7_accept_29 : decode cX7_accept 29 = .ok (.iconst (-1), 1) := by decide +kernel
theorem dX7_accept_30 : decode cX7_accept 30 = .ok (.if_icmp .eq 8, 3) := by decide +kernel
theorem dX7_accept_33 : decode cX7_accept 33 = .ok (.aload_n 0, 1) := by decide +kernel
theorem dX7_accept_34 : decode cX7_accept 34 = .ok (.invokevirtual 79, 3) := by decide +kernel
theorem dX7_accept_37 : decode cX7_accept 37 = .ok (.ireturn, 1) := by decide +kernel
theorem dX7_accept_38 : decode cX7_accept 38 = .ok (.aload_n 0, 1) := by decide +kernel
theorem dX7_accept_39 : decode cX7_accept 39 = .ok (.invokevirtual 83, 3) := by decide +kernel
theorem dX7_accept_42 : decode cX7_accept 42 = .ok (.istore_n 2, 1) := by decide +kernel
theorem dX7_accept_43 : decode cX7_accept 43 = .ok (.iload_n 2, 1) := by decide +kernel
theorem dX7_accept_44 : decode cX7_accept 44 = .ok (.iconst (-1), 1) := by decide +kernel
theorem dX7_accept_45 : decode cX7_accept 45 = .ok (.if_icmp .eq 15, 3) := by decide +kernel
theorem dX7_accept_48 : decode cX7_accept 48 = .ok (.aload_n 0, 1) := by decide +kernel
theorem dX7_accept_49 : decode cX7_accept 49 = .ok (.iload_n 2, 1) := by decide +kernel
theorem dX7_accept_50 : decode cX7_accept 50 = .ok (.invokevirtual 87, 3) := by decide +kernel
theorem dX7_accept_53 : decode cX7_accept 53 = .ok (.ifCond .eq 7, 3) := by decide +kernel
theorem dX7_accept_56 : decode cX7_accept 56 = .ok (.iconst 1, 1) := by decide +kernel
theorem dX7_accept_57 : decode cX7_accept 57 = .ok (.goto 4, 3) := by decide +kernel
theorem dX7_accept_60 : decode cX7_accept 60 = .ok (.iconst 0, 1) := by decide +kernel
theorem dX7_accept_61 : decode cX7_accept 61 = .ok (.ireturn, 1) := by decide +kernel
def B_X7_accept_61 (w : rd_W) (t0 : Int32) (S : rd_S) : Option (Int32 × rd_S) :=
  rd_z t0 <|
  some (t0, S)
theorem yb_X7_accept_61 (cx : rd_Cx) (w : rd_W) (t0 : Int32) (S : rd_S) : rd_Y cx G_X7_accept (fun r => rd_P cx G_X7_accept.2.2.2.2.2 0 w (rd_rI w r)) (B_X7_accept_61 w t0 S) 61 [] [.inl t0] w S 0 0 := by
  unfold B_X7_accept_61
  refine ry_zg (fun z7 => ?_)
  exact ry_zret dX7_accept_61 rfl z7 (Nat.le_of_ble_eq_true rfl) (Nat.le_of_ble_eq_true rfl)
def B_X7_accept_60 (w : rd_W) (S : rd_S) : Option (Int32 × rd_S) :=
  B_X7_accept_61 w 0 S
theorem yb_X7_accept_60 (cx : rd_Cx) (w : rd_W) (S : rd_S) : rd_Y cx G_X7_accept (fun r => rd_P cx G_X7_accept.2.2.2.2.2 0 w (rd_rI w r)) (B_X7_accept_60 w S) 60 [] [] w S 0 0 := by
  unfold B_X7_accept_60
  refine ry_iconst (v := 0) dX7_accept_60 (by decide) ?_
  exact ry_to (yb_X7_accept_61 cx w 0 S) trivial
def F_X7_accept (w : rd_W) (a0 : Nat) (x1 : Int32) (S : rd_S) : Option (Int32 × rd_S) :=
  rd_let (pI S a0 11 ((gI S a0 11) + 1)) fun s1 =>
  rd_let (pI s1 a0 6 (((rd_shl (gI s1 a0 6) 1) ||| x1) &&& 67108863)) fun s2 =>
  if (gI s2 a0 10) = (-1) then
  (rd_b (F_X7_search w a0 s2) fun v5 s4 =>
  if v5 = (-1) then
  (B_X7_accept_60 w s4)
  else
  (rd_b (F_X7_synchronise w a0 v5 s4) fun v9 s8 =>
  if v9 = 0 then
  (B_X7_accept_60 w s8)
  else
  (B_X7_accept_61 w 1 s8)))
  else
  (rd_b (F_X7_follow w a0 s2) fun v12 s11 =>
  rd_z v12 <|
  some (v12, s11))
theorem ym_X7_accept (cx : rd_Cx) (w : rd_W) (a0 : Nat) (x1 : Int32) (ha0 : rd_ok w a0 7) (S : rd_S) : rd_Y cx G_X7_accept (fun r => rd_P cx G_X7_accept.2.2.2.2.2 0 w (rd_rI w r)) (F_X7_accept w a0 x1 S) 0 (rd_as 0 [.inr (some a0), .inl x1]) [] w S 0 0 := by
  unfold F_X7_accept
  refine ry_aload_n dX7_accept_0 rfl ?_
  refine ry_dup dX7_accept_1 ?_
  refine ry_geti dX7_accept_2 ha0 fl_RX7_51 rfl ?_
  refine ry_iconst (v := 1) dX7_accept_5 (by decide) ?_
  refine ry_iadd dX7_accept_6 ?_
  refine ry_puti dX7_accept_7 ha0 fl_RX7_51 rfl rfl rfl ?_
  refine ry_letS (fun s1 => ?_)
  refine ry_aload_n dX7_accept_10 rfl ?_
  refine ry_aload_n dX7_accept_11 rfl ?_
  refine ry_geti dX7_accept_12 ha0 fl_RX7_75 rfl ?_
  refine ry_iconst (v := 1) dX7_accept_15 (by decide) ?_
  refine ry_ishl dX7_accept_16 ?_
  refine ry_iload_n dX7_accept_17 rfl ?_
  refine ry_ior dX7_accept_18 ?_
  refine ry_ldc (v := 67108863) dX7_accept_19 co_RX7_78 ?_
  refine ry_iand dX7_accept_21 ?_
  refine ry_puti dX7_accept_22 ha0 fl_RX7_75 rfl rfl rfl ?_
  refine ry_letS (fun s2 => ?_)
  refine ry_aload_n dX7_accept_25 rfl ?_
  refine ry_geti dX7_accept_26 ha0 fl_RX7_39 rfl ?_
  refine ry_iconst (v := (-1)) dX7_accept_29 (by decide) ?_
  refine ry_icmp_eq 38 dX7_accept_30 (by decide) (fun c3 => ?_) (fun c3 => ?_)
  · refine ry_aload_n dX7_accept_38 rfl ?_
    refine ry_callI (fun l r9 h9 => cm_X7_search l cx w a0 ha0 s2 r9 h9) (rd_runV (vs := []) dX7_accept_39 ha0 rfl rfl yf_X7_search mi_X7_search ms_X7_search ml_RX7_83 ⟨Nat.le_of_ble_eq_true rfl, Nat.le_of_ble_eq_true rfl⟩ (Nat.le_of_ble_eq_true rfl) rfl) rfl rfl (Nat.le_of_ble_eq_true rfl) (Nat.le_of_ble_eq_true rfl) (fun v5 s4 => ?_)
    refine ry_istore_n dX7_accept_42 (by decide) ?_
    refine ry_iload_n dX7_accept_43 rfl ?_
    refine ry_iconst (v := (-1)) dX7_accept_44 (by decide) ?_
    refine ry_icmp_eq 60 dX7_accept_45 (by decide) (fun c6 => ?_) (fun c6 => ?_)
    · exact ry_to (yb_X7_accept_60 cx w s4) trivial
    · refine ry_aload_n dX7_accept_48 rfl ?_
      refine ry_iload_n dX7_accept_49 rfl ?_
      refine ry_callI (fun l r9 h9 => cm_X7_synchronise l cx w a0 v5 ha0 s4 r9 h9) (rd_runV (vs := [.inl v5]) dX7_accept_50 ha0 rfl rfl yf_X7_synchronise mi_X7_synchronise ms_X7_synchronise ml_RX7_87 ⟨Nat.le_of_ble_eq_true rfl, Nat.le_of_ble_eq_true rfl⟩ (Nat.le_of_ble_eq_true rfl) rfl) rfl rfl (Nat.le_of_ble_eq_true rfl) (Nat.le_of_ble_eq_true rfl) (fun v9 s8 => ?_)
      refine ry_if_eq 60 dX7_accept_53 (by decide) (fun c10 => ?_) (fun c10 => ?_)
      · exact ry_to (yb_X7_accept_60 cx w s8) trivial
      · refine ry_iconst (v := 1) dX7_accept_56 (by decide) ?_
        refine ry_goto 61 dX7_accept_57 (by decide) ?_
        exact ry_to (yb_X7_accept_61 cx w 1 s8) trivial
  · refine ry_aload_n dX7_accept_33 rfl ?_
    refine ry_callI (fun l r9 h9 => cm_X7_follow l cx w a0 ha0 s2 r9 h9) (rd_runV (vs := []) dX7_accept_34 ha0 rfl rfl yf_X7_follow mi_X7_follow ms_X7_follow ml_RX7_79 ⟨Nat.le_of_ble_eq_true rfl, Nat.le_of_ble_eq_true rfl⟩ (Nat.le_of_ble_eq_true rfl) rfl) rfl rfl (Nat.le_of_ble_eq_true rfl) (Nat.le_of_ble_eq_true rfl) (fun v12 s11 => ?_)
    refine ry_zg (fun z13 => ?_)
    exact ry_zret dX7_accept_37 rfl z13 (Nat.le_of_ble_eq_true rfl) (Nat.le_of_ble_eq_true rfl)
theorem cm_X7_accept (l : Launch) (cx : rd_Cx) (w : rd_W) (a0 : Nat) (x1 : Int32) (ha0 : rd_ok w a0 7) (S : rd_S) (r : Int32 × rd_S) (h : F_X7_accept w a0 x1 S = some r) : rd_M l cx yX7_accept G_X7_accept 0 [.inr (some a0), .inl x1] w S (rd_rI w r) :=
  rd_enter (plainFor_of_name (by decide +kernel)) rfl (fun h => by cases h) (Nat.le_of_ble_eq_true rfl) (ym_X7_accept cx w a0 x1 ha0 S r h)
abbrev G_X3_copy : rd_G := (RX3, cX3_copy, 2, none, false, { frames := 1, cells := 0, slots := 0, locals := 40 })
theorem yf_X3_copy : rd_YL yX3_copy G_X3_copy 1 := ⟨rd_mem 504 (by decide +kernel) rfl, rd_mem 64 (by decide +kernel) rfl, by decide +kernel, by decide +kernel, by decide +kernel⟩
theorem mi_X3_copy : Cond.instanceMethod yX3_copy ∈ rd_gw := rd_mem 502 (by decide +kernel) rfl
theorem ms_X3_copy : Cond.selects (MethodName.cls yX3_copy) yX3_copy yX3_copy ∈ rd_gw := rd_mem 503 (by decide +kernel) rfl
theorem dX3_copy_0 : decode cX3_copy 0 = .ok (.aload_n 1, 1) := by decide +kernel
theorem dX3_copy_1 : decode cX3_copy 1 = .ok (.getfield 9, 3) := by decide +kernel
theorem dX3_copy_4 : decode cX3_copy 4 = .ok (.iconst 0, 1) := by decide +kernel
theorem dX3_copy_5 : decode cX3_copy 5 = .ok (.aload_n 0, 1) := by decide +kernel
theorem dX3_copy_6 : decode cX3_copy 6 = .ok (.getfield 9, 3) := by decide +kernel
theorem dX3_copy_9 : decode cX3_copy 9 = .ok (.iconst 0, 1) := by decide +kernel
theorem dX3_copy_10 : decode cX3_copy 10 = .ok (.iconst 4, 1) := by decide +kernel
theorem dX3_copy_11 : decode cX3_copy 11 = .ok (.invokestatic 32, 3) := by decide +kernel
theorem dX3_copy_14 : decode cX3_copy 14 = .ok (.aload_n 1, 1) := by decide +kernel
theorem dX3_copy_15 : decode cX3_copy 15 = .ok (.getfield 15, 3) := by decide +kernel
theorem dX3_copy_18 : decode cX3_copy 18 = .ok (.iconst 0, 1) := by decide +kernel
theorem dX3_copy_19 : decode cX3_copy 19 = .ok (.aload_n 0, 1) := by decide +kernel
theorem dX3_copy_20 : decode cX3_copy 20 = .ok (.getfield 15, 3) := by decide +kernel
theorem dX3_copy_23 : decode cX3_copy 23 = .ok (.iconst 0, 1) := by decide +kernel
theorem dX3_copy_24 : decode cX3_copy 24 = .ok (.iconst 4, 1) := by decide +kernel
theorem dX3_copy_25 : decode cX3_copy 25 = .ok (.invokestatic 32, 3) := by decide +kernel
theorem dX3_copy_28 : decode cX3_copy 28 = .ok (.aload_n 0, 1) := by decide +kernel
theorem dX3_copy_29 : decode cX3_copy 29 = .ok (.aload_n 1, 1) := by decide +kernel
theorem dX3_copy_30 : decode cX3_copy 30 = .ok (.getfield 28, 3) := by decide +kernel
theorem dX3_copy_33 : decode cX3_copy 33 = .ok (.putfield 28, 3) := by decide +kernel
theorem dX3_copy_36 : decode cX3_copy 36 = .ok (.return_, 1) := by decide +kernel
def F_X3_copy (w : rd_W) (a0 : Nat) (a1 : Nat) (S : rd_S) : Option (rd_S) :=
  rd_c (gR S a1 0) fun b1 =>
  rd_c (gR S a0 0) fun b2 =>
  rd_cp 0 0 4 (w.2.2 b1) (w.2.2 b2) <|
  rd_let (rd_cpy S b1 b2 0 0 4) fun s3 =>
  rd_c (gR s3 a1 1) fun b4 =>
  rd_c (gR s3 a0 1) fun b5 =>
  rd_cp 0 0 4 (w.2.2 b4) (w.2.2 b5) <|
  rd_let (rd_cpy s3 b4 b5 0 0 4) fun s6 =>
  rd_z (gI s6 a1 2) <|
  rd_let (pI s6 a0 2 (gI s6 a1 2)) fun s8 =>
  some s8
theorem ym_X3_copy (cx : rd_Cx) (w : rd_W) (a0 : Nat) (a1 : Nat) (ha0 : rd_ok w a0 3) (ha1 : rd_ok w a1 3) (S : rd_S) : rd_Y cx G_X3_copy (fun r => rd_P cx G_X3_copy.2.2.2.2.2 0 w (rd_rV w r)) (F_X3_copy w a0 a1 S) 0 (rd_as 0 [.inr (some a0), .inr (some a1)]) [] w S 0 0 := by
  unfold F_X3_copy
  refine ry_aload_n dX3_copy_0 rfl ?_
  refine ry_getr dX3_copy_1 ha1 fl_RX3_9 rfl (fun b1 hb1 => ?_)
  refine ry_iconst (v := 0) dX3_copy_4 (by decide) ?_
  refine ry_aload_n dX3_copy_5 rfl ?_
  refine ry_getr dX3_copy_6 ha0 fl_RX3_9 rfl (fun b2 hb2 => ?_)
  refine ry_iconst (v := 0) dX3_copy_9 (by decide) ?_
  refine ry_iconst (v := 4) dX3_copy_10 (by decide) ?_
  refine ry_copy dX3_copy_11 ml_RX3_32 ac_native ac_static ac_init hb1 hb2 (by decide) (by decide) ?_
  refine ry_letS (fun s3 => ?_)
  refine ry_aload_n dX3_copy_14 rfl ?_
  refine ry_getr dX3_copy_15 ha1 fl_RX3_15 rfl (fun b4 hb4 => ?_)
  refine ry_iconst (v := 0) dX3_copy_18 (by decide) ?_
  refine ry_aload_n dX3_copy_19 rfl ?_
  refine ry_getr dX3_copy_20 ha0 fl_RX3_15 rfl (fun b5 hb5 => ?_)
  refine ry_iconst (v := 0) dX3_copy_23 (by decide) ?_
  refine ry_iconst (v := 4) dX3_copy_24 (by decide) ?_
  refine ry_copy dX3_copy_25 ml_RX3_32 ac_native ac_static ac_init hb4 hb5 (by decide) (by decide) ?_
  refine ry_letS (fun s6 => ?_)
  refine ry_aload_n dX3_copy_28 rfl ?_
  refine ry_aload_n dX3_copy_29 rfl ?_
  refine ry_geti dX3_copy_30 ha1 fl_RX3_28 rfl ?_
  refine ry_zg (fun z7 => ?_)
  refine ry_putz dX3_copy_33 ha0 fl_RX3_28 rfl rfl rfl z7 ?_
  refine ry_letS (fun s8 => ?_)
  exact ry_vret dX3_copy_36 rfl (Nat.le_of_ble_eq_true rfl) (Nat.le_of_ble_eq_true rfl)
theorem cm_X3_copy (l : Launch) (cx : rd_Cx) (w : rd_W) (a0 : Nat) (a1 : Nat) (ha0 : rd_ok w a0 3) (ha1 : rd_ok w a1 3) (S : rd_S) (r : rd_S) (h : F_X3_copy w a0 a1 S = some r) : rd_M l cx yX3_copy G_X3_copy 0 [.inr (some a0), .inr (some a1)] w S (rd_rV w r) :=
  rd_enter (plainFor_of_name (by decide +kernel)) rfl (fun h => by cases h) (Nat.le_of_ble_eq_true rfl) (ym_X3_copy cx w a0 a1 ha0 ha1 S r h)
abbrev G_X3_what : rd_G := (RX3, cX3_what, 2, (some .int), false, { frames := 0, cells := 0, slots := 0, locals := 0 })
theorem yf_X3_what : rd_YL yX3_what G_X3_what 1 := ⟨rd_mem 519 (by decide +kernel) rfl, rd_mem 64 (by decide +kernel) rfl, by decide +kernel, by decide +kernel, by decide +kernel⟩
theorem mi_X3_what : Cond.instanceMethod yX3_what ∈ rd_gw := rd_mem 517 (by decide +kernel) rfl
theorem ms_X3_what : Cond.selects (MethodName.cls yX3_what) yX3_what yX3_what ∈ rd_gw := rd_mem 518 (by decide +kernel) rfl
theorem dX3_what_0 : decode cX3_what 0 = .ok (.iload_n 1, 1) := by decide +kernel
theorem dX3_what_1 : decode cX3_what 1 = .ok (.ifCond .lt 8, 3) := by decide +kernel
theorem dX3_what_4 : decode cX3_what 4 = .ok (.iload_n 1, 1) := by decide +kernel
theorem dX3_what_5 : decode cX3_what 5 = .ok (.iconst 4, 1) := by decide +kernel
theorem dX3_what_6 : decode cX3_what 6 = .ok (.if_icmp .lt 7, 3) := by decide +kernel
theorem dX3_what_9 : decode cX3_what 9 = .ok (.iconst (-1), 1) := by decide +kernel
theorem dX3_what_10 : decode cX3_what 10 = .ok (.goto 9, 3) := by decide +kernel
theorem dX3_what_13 : decode cX3_what 13 = .ok (.aload_n 0, 1) := by decide +kernel
theorem dX3_what_14 : decode cX3_what 14 = .ok (.getfield 9, 3) := by decide +kernel
theorem dX3_what_17 : decode cX3_what 17 = .ok (.iload_n 1, 1) := by decide +kernel
theorem dX3_what_18 : decode cX3_what 18 = .ok (.iaload, 1) := by decide +kernel
theorem dX3_what_19 : decode cX3_what 19 = .ok (.ireturn, 1) := by decide +kernel
def B_X3_what_19 (w : rd_W) (t0 : Int32) (S : rd_S) : Option (Int32 × rd_S) :=
  some (t0, S)
theorem yb_X3_what_19 (cx : rd_Cx) (w : rd_W) (t0 : Int32) (S : rd_S) : rd_Y cx G_X3_what (fun r => rd_P cx G_X3_what.2.2.2.2.2 0 w (rd_rI w r)) (B_X3_what_19 w t0 S) 19 [] [.inl t0] w S 0 0 := by
  unfold B_X3_what_19
  exact ry_iret dX3_what_19 rfl (Nat.le_of_ble_eq_true rfl) (Nat.le_of_ble_eq_true rfl)
def B_X3_what_9 (w : rd_W) (S : rd_S) : Option (Int32 × rd_S) :=
  B_X3_what_19 w (-1) S
theorem yb_X3_what_9 (cx : rd_Cx) (w : rd_W) (S : rd_S) : rd_Y cx G_X3_what (fun r => rd_P cx G_X3_what.2.2.2.2.2 0 w (rd_rI w r)) (B_X3_what_9 w S) 9 [] [] w S 0 0 := by
  unfold B_X3_what_9
  refine ry_iconst (v := (-1)) dX3_what_9 (by decide) ?_
  refine ry_goto 19 dX3_what_10 (by decide) ?_
  exact ry_to (yb_X3_what_19 cx w (-1) S) trivial
def F_X3_what (w : rd_W) (a0 : Nat) (x1 : Int32) (S : rd_S) : Option (Int32 × rd_S) :=
  if x1 < 0 then
  (B_X3_what_9 w S)
  else
  (if x1 < 4 then
  (rd_c (gR S a0 0) fun b3 =>
  rd_i x1 (w.2.2 b3) <|
  B_X3_what_19 w (gI S b3 x1.toNatClampNeg) S)
  else
  (B_X3_what_9 w S))
theorem ym_X3_what (cx : rd_Cx) (w : rd_W) (a0 : Nat) (x1 : Int32) (ha0 : rd_ok w a0 3) (S : rd_S) : rd_Y cx G_X3_what (fun r => rd_P cx G_X3_what.2.2.2.2.2 0 w (rd_rI w r)) (F_X3_what w a0 x1 S) 0 (rd_as 0 [.inr (some a0), .inl x1]) [] w S 0 0 := by
  unfold F_X3_what
  refine ry_iload_n dX3_what_0 rfl ?_
  refine ry_if_lt 9 dX3_what_1 (by decide) (fun c1 => ?_) (fun c1 => ?_)
  · exact ry_to (yb_X3_what_9 cx w S) trivial
  · refine ry_iload_n dX3_what_4 rfl ?_
    refine ry_iconst (v := 4) dX3_what_5 (by decide) ?_
    refine ry_icmp_lt 13 dX3_what_6 (by decide) (fun c2 => ?_) (fun c2 => ?_)
    · refine ry_aload_n dX3_what_13 rfl ?_
      refine ry_getr dX3_what_14 ha0 fl_RX3_9 rfl (fun b3 hb3 => ?_)
      refine ry_iload_n dX3_what_17 rfl ?_
      refine ry_iald dX3_what_18 hb3 ?_
      exact ry_to (yb_X3_what_19 cx w (gI S b3 x1.toNatClampNeg) S) trivial
    · exact ry_to (yb_X3_what_9 cx w S) trivial
theorem cm_X3_what (l : Launch) (cx : rd_Cx) (w : rd_W) (a0 : Nat) (x1 : Int32) (ha0 : rd_ok w a0 3) (S : rd_S) (r : Int32 × rd_S) (h : F_X3_what w a0 x1 S = some r) : rd_M l cx yX3_what G_X3_what 0 [.inr (some a0), .inl x1] w S (rd_rI w r) :=
  rd_enter (plainFor_of_name (by decide +kernel)) rfl (fun h => by cases h) (Nat.le_of_ble_eq_true rfl) (ym_X3_what cx w a0 x1 ha0 S r h)
abbrev G_X3_identity : rd_G := (RX3, cX3_identity, 1, (some .int), false, { frames := 1, cells := 0, slots := 0, locals := 21 })
theorem yf_X3_identity : rd_YL yX3_identity G_X3_identity 0 := ⟨rd_mem 515 (by decide +kernel) rfl, rd_mem 64 (by decide +kernel) rfl, by decide +kernel, by decide +kernel, by decide +kernel⟩
theorem mi_X3_identity : Cond.instanceMethod yX3_identity ∈ rd_gw := rd_mem 513 (by decide +kernel) rfl
theorem ms_X3_identity : Cond.selects (MethodName.cls yX3_identity) yX3_identity yX3_identity ∈ rd_gw := rd_mem 514 (by decide +kernel) rfl
theorem dX3_identity_0 : decode cX3_identity 0 = .ok (.aload_n 0, 1) := by decide +kernel
theorem dX3_identity_1 : decode cX3_identity 1 = .ok (.iconst 0, 1) := by decide +kernel
theorem dX3_identity_2 : decode cX3_identity 2 = .ok (.invokevirtual 56, 3) := by decide +kernel
theorem dX3_identity_5 : decode cX3_identity 5 = .ok (.ifCond .ne 10, 3) := by decide +kernel
theorem dX3_identity_8 : decode cX3_identity 8 = .ok (.aload_n 0, 1) := by decide +kernel
theorem dX3_identity_9 : decode cX3_identity 9 = .ok (.getfield 28, 3) := by decide +kernel
theorem dX3_identity_12 : decode cX3_identity 12 = .ok (.ifCond .ne 11, 3) := by decide +kernel
theorem dX3_identity_15 : decode cX3_identity 15 = .ok (.aload_n 0, 1) := by decide +kernel
theorem dX3_identity_16 : decode cX3_identity 16 = .ok (.iconst 0, 1) := by decide +kernel
theorem dX3_identity_17 : decode cX3_identity 17 = .ok (.invokevirtual 60, 3) := by decide +kernel
theorem dX3_identity_20 : decode cX3_identity 20 = .ok (.goto 8, 3) := by decide +kernel
theorem dX3_identity_23 : decode cX3_identity 23 = .ok (.aload_n 0, 1) := by decide +kernel
theorem dX3_identity_24 : decode cX3_identity 24 = .ok (.iconst 2, 1) := by decide +kernel
theorem dX3_identity_25 : decode cX3_identity 25 = .ok (.invokevirtual 60, 3) := by decide +kernel
theorem dX3_identity_28 : decode cX3_identity 28 = .ok (.ireturn, 1) := by decide +kernel
def B_X3_identity_28 (w : rd_W) (t0 : Int32) (S : rd_S) : Option (Int32 × rd_S) :=
  some (t0, S)
theorem yb_X3_identity_28 (cx : rd_Cx) (w : rd_W) (t0 : Int32) (S : rd_S) : rd_Y cx G_X3_identity (fun r => rd_P cx G_X3_identity.2.2.2.2.2 0 w (rd_rI w r)) (B_X3_identity_28 w t0 S) 28 [] [.inl t0] w S 0 0 := by
  unfold B_X3_identity_28
  exact ry_iret dX3_identity_28 rfl (Nat.le_of_ble_eq_true rfl) (Nat.le_of_ble_eq_true rfl)
def B_X3_identity_15 (w : rd_W) (a0 : Nat) (S : rd_S) : Option (Int32 × rd_S) :=
  rd_b (F_X3_what w a0 0 S) fun v6 s5 =>
  B_X3_identity_28 w v6 s5
theorem yb_X3_identity_15 (cx : rd_Cx) (w : rd_W) (a0 : Nat) (ha0 : rd_ok w a0 3) (S : rd_S) : rd_Y cx G_X3_identity (fun r => rd_P cx G_X3_identity.2.2.2.2.2 0 w (rd_rI w r)) (B_X3_identity_15 w a0 S) 15 [(0, .inr (some a0))] [] w S 0 0 := by
  unfold B_X3_identity_15
  refine ry_aload_n dX3_identity_15 rfl ?_
  refine ry_iconst (v := 0) dX3_identity_16 (by decide) ?_
  refine ry_callI (fun l r9 h9 => cm_X3_what l cx w a0 0 ha0 S r9 h9) (rd_runV (vs := [.inl 0]) dX3_identity_17 ha0 rfl rfl yf_X3_what mi_X3_what ms_X3_what ml_RX3_60 ⟨Nat.le_of_ble_eq_true rfl, Nat.le_of_ble_eq_true rfl⟩ (Nat.le_of_ble_eq_true rfl) rfl) rfl rfl (Nat.le_of_ble_eq_true rfl) (Nat.le_of_ble_eq_true rfl) (fun v6 s5 => ?_)
  refine ry_goto 28 dX3_identity_20 (by decide) ?_
  exact ry_to (yb_X3_identity_28 cx w v6 s5) trivial
def F_X3_identity (w : rd_W) (a0 : Nat) (S : rd_S) : Option (Int32 × rd_S) :=
  rd_b (F_X3_knows w a0 0 S) fun v2 s1 =>
  if v2 = 0 then
  (if (gI s1 a0 2) = 0 then
  (B_X3_identity_15 w a0 s1)
  else
  (rd_b (F_X3_what w a0 2 s1) fun v8 s7 =>
  B_X3_identity_28 w v8 s7))
  else
  (B_X3_identity_15 w a0 s1)
theorem ym_X3_identity (cx : rd_Cx) (w : rd_W) (a0 : Nat) (ha0 : rd_ok w a0 3) (S : rd_S) : rd_Y cx G_X3_identity (fun r => rd_P cx G_X3_identity.2.2.2.2.2 0 w (rd_rI w r)) (F_X3_identity w a0 S) 0 (rd_as 0 [.inr (some a0)]) [] w S 0 0 := by
  unfold F_X3_identity
  refine ry_aload_n dX3_identity_0 rfl ?_
  refine ry_iconst (v := 0) dX3_identity_1 (by decide) ?_
  refine ry_callI (fun l r9 h9 => cm_X3_knows l cx w a0 0 ha0 S r9 h9) (rd_runV (vs := [.inl 0]) dX3_identity_2 ha0 rfl rfl yf_X3_knows mi_X3_knows ms_X3_knows ml_RX3_56 ⟨Nat.le_of_ble_eq_true rfl, Nat.le_of_ble_eq_true rfl⟩ (Nat.le_of_ble_eq_true rfl) rfl) rfl rfl (Nat.le_of_ble_eq_true rfl) (Nat.le_of_ble_eq_true rfl) (fun v2 s1 => ?_)
  refine ry_if_ne 15 dX3_identity_5 (by decide) (fun c3 => ?_) (fun c3 => ?_)
  · refine ry_aload_n dX3_identity_8 rfl ?_
    refine ry_geti dX3_identity_9 ha0 fl_RX3_28 rfl ?_
    refine ry_if_ne 23 dX3_identity_12 (by decide) (fun c4 => ?_) (fun c4 => ?_)
    · exact ry_to (yb_X3_identity_15 cx w a0 ha0 s1) ⟨rfl, trivial⟩
    · refine ry_aload_n dX3_identity_23 rfl ?_
      refine ry_iconst (v := 2) dX3_identity_24 (by decide) ?_
      refine ry_callI (fun l r9 h9 => cm_X3_what l cx w a0 2 ha0 s1 r9 h9) (rd_runV (vs := [.inl 2]) dX3_identity_25 ha0 rfl rfl yf_X3_what mi_X3_what ms_X3_what ml_RX3_60 ⟨Nat.le_of_ble_eq_true rfl, Nat.le_of_ble_eq_true rfl⟩ (Nat.le_of_ble_eq_true rfl) rfl) rfl rfl (Nat.le_of_ble_eq_true rfl) (Nat.le_of_ble_eq_true rfl) (fun v8 s7 => ?_)
      exact ry_to (yb_X3_identity_28 cx w v8 s7) trivial
  · exact ry_to (yb_X3_identity_15 cx w a0 ha0 s1) ⟨rfl, trivial⟩
theorem cm_X3_identity (l : Launch) (cx : rd_Cx) (w : rd_W) (a0 : Nat) (ha0 : rd_ok w a0 3) (S : rd_S) (r : Int32 × rd_S) (h : F_X3_identity w a0 S = some r) : rd_M l cx yX3_identity G_X3_identity 0 [.inr (some a0)] w S (rd_rI w r) :=
  rd_enter (plainFor_of_name (by decide +kernel)) rfl (fun h => by cases h) (Nat.le_of_ble_eq_true rfl) (ym_X3_identity cx w a0 ha0 S r h)
abbrev G_X1_clear : rd_G := (RX1, cX1_clear, 1, none, false, { frames := 0, cells := 0, slots := 0, locals := 0 })
theorem yf_X1_clear : rd_YL yX1_clear G_X1_clear 0 := ⟨rd_mem 531 (by decide +kernel) rfl, rd_mem 68 (by decide +kernel) rfl, by decide +kernel, by decide +kernel, by decide +kernel⟩
theorem mi_X1_clear : Cond.instanceMethod yX1_clear ∈ rd_gw := rd_mem 529 (by decide +kernel) rfl
theorem ms_X1_clear : Cond.selects (MethodName.cls yX1_clear) yX1_clear yX1_clear ∈ rd_gw := rd_mem 530 (by decide +kernel) rfl
theorem dX1_clear_0 : decode cX1_clear 0 = .ok (.aload_n 0, 1) := by decide +kernel
theorem dX1_clear_1 : decode cX1_clear 1 = .ok (.iconst 0, 1) := by decide +kernel
theorem dX1_clear_2 : decode cX1_clear 2 = .ok (.putfield 28, 3) := by decide +kernel
theorem dX1_clear_5 : decode cX1_clear 5 = .ok (.aload_n 0, 1) := by decide +kernel
theorem dX1_clear_6 : decode cX1_clear 6 = .ok (.iconst (-1), 1) := by decide +kernel
theorem dX1_clear_7 : decode cX1_clear 7 = .ok (.putfield 25, 3) := by decide +kernel
theorem dX1_clear_10 : decode cX1_clear 10 = .ok (.aload_n 0, 1) := by decide +kernel
theorem dX1_clear_11 : decode cX1_clear 11 = .ok (.iconst 0, 1) := by decide +kernel
theorem dX1_clear_12 : decode cX1_clear 12 = .ok (.putfield 31, 3) := by decide +kernel
theorem dX1_clear_15 : decode cX1_clear 15 = .ok (.aload_n 0, 1) := by decide +kernel
theorem dX1_clear_16 : decode cX1_clear 16 = .ok (.iconst 0, 1) := by decide +kernel
theorem dX1_clear_17 : decode cX1_clear 17 = .ok (.putfield 34, 3) := by decide +kernel
theorem dX1_clear_20 : decode cX1_clear 20 = .ok (.return_, 1) := by decide +kernel
def F_X1_clear (w : rd_W) (a0 : Nat) (S : rd_S) : Option (rd_S) :=
  rd_let (pI S a0 4 0) fun s1 =>
  rd_let (pI s1 a0 5 (-1)) fun s2 =>
  rd_let (pI s2 a0 6 0) fun s3 =>
  rd_let (pI s3 a0 7 0) fun s4 =>
  some s4
theorem ym_X1_clear (cx : rd_Cx) (w : rd_W) (a0 : Nat) (ha0 : rd_ok w a0 1) (S : rd_S) : rd_Y cx G_X1_clear (fun r => rd_P cx G_X1_clear.2.2.2.2.2 0 w (rd_rV w r)) (F_X1_clear w a0 S) 0 (rd_as 0 [.inr (some a0)]) [] w S 0 0 := by
  unfold F_X1_clear
  refine ry_aload_n dX1_clear_0 rfl ?_
  refine ry_iconst (v := 0) dX1_clear_1 (by decide) ?_
  refine ry_puti dX1_clear_2 ha0 fl_RX1_28 rfl rfl rfl ?_
  refine ry_letS (fun s1 => ?_)
  refine ry_aload_n dX1_clear_5 rfl ?_
  refine ry_iconst (v := (-1)) dX1_clear_6 (by decide) ?_
  refine ry_puti dX1_clear_7 ha0 fl_RX1_25 rfl rfl rfl ?_
  refine ry_letS (fun s2 => ?_)
  refine ry_aload_n dX1_clear_10 rfl ?_
  refine ry_iconst (v := 0) dX1_clear_11 (by decide) ?_
  refine ry_puti dX1_clear_12 ha0 fl_RX1_31 rfl rfl rfl ?_
  refine ry_letS (fun s3 => ?_)
  refine ry_aload_n dX1_clear_15 rfl ?_
  refine ry_iconst (v := 0) dX1_clear_16 (by decide) ?_
  refine ry_puti dX1_clear_17 ha0 fl_RX1_34 rfl rfl rfl ?_
  refine ry_letS (fun s4 => ?_)
  exact ry_vret dX1_clear_20 rfl (Nat.le_of_ble_eq_true rfl) (Nat.le_of_ble_eq_true rfl)
theorem cm_X1_clear (l : Launch) (cx : rd_Cx) (w : rd_W) (a0 : Nat) (ha0 : rd_ok w a0 1) (S : rd_S) (r : rd_S) (h : F_X1_clear w a0 S = some r) : rd_M l cx yX1_clear G_X1_clear 0 [.inr (some a0)] w S (rd_rV w r) :=
  rd_enter (plainFor_of_name (by decide +kernel)) rfl (fun h => by cases h) (Nat.le_of_ble_eq_true rfl) (ym_X1_clear cx w a0 ha0 S r h)
