theorem cd_0 : ∀ j, j < 5 → defaultValue (tyX0 j) = (match rd_ft 0 j with | some _ => Value.null | none => Value.int 0) := by decide +kernel
theorem cd_1 : ∀ j, j < 8 → defaultValue (tyX1 j) = (match rd_ft 1 j with | some _ => Value.null | none => Value.int 0) := by decide +kernel
theorem cd_2 : ∀ j, j < 8 → defaultValue (tyX2 j) = (match rd_ft 2 j with | some _ => Value.null | none => Value.int 0) := by decide +kernel
theorem cd_3 : ∀ j, j < 3 → defaultValue (tyX3 j) = (match rd_ft 3 j with | some _ => Value.null | none => Value.int 0) := by decide +kernel
theorem cd_4 : ∀ j, j < 4 → defaultValue (tyX4 j) = (match rd_ft 4 j with | some _ => Value.null | none => Value.int 0) := by decide +kernel
theorem cd_5 : ∀ j, j < 2 → defaultValue (tyX5 j) = (match rd_ft 5 j with | some _ => Value.null | none => Value.int 0) := by decide +kernel
theorem cd_6 : ∀ j, j < 2 → defaultValue (tyX6 j) = (match rd_ft 6 j with | some _ => Value.null | none => Value.int 0) := by decide +kernel
theorem cd_7 : ∀ j, j < 16 → defaultValue (tyX7 j) = (match rd_ft 7 j with | some _ => Value.null | none => Value.int 0) := by decide +kernel
theorem cd_8 : ∀ j, j < 9 → defaultValue (tyX8 j) = (match rd_ft 8 j with | some _ => Value.null | none => Value.int 0) := by decide +kernel
theorem cd_9 : ∀ j, j < 2 → defaultValue (tyX9 j) = (match rd_ft 9 j with | some _ => Value.null | none => Value.int 0) := by decide +kernel
theorem cd_10 : ∀ j, j < 4 → defaultValue (tyX10 j) = (match rd_ft 10 j with | some _ => Value.null | none => Value.int 0) := by decide +kernel
theorem cd_11 : ∀ j, j < 3 → defaultValue (tyX11 j) = (match rd_ft 11 j with | some _ => Value.null | none => Value.int 0) := by decide +kernel
theorem cd_12 : ∀ j, j < 54 → defaultValue (tyX12 j) = (match rd_ft 12 j with | some _ => Value.null | none => Value.int 0) := by decide +kernel
abbrev G_X3_init : rd_G := (RX3, cX3_init, 1, none, true, { frames := 2, cells := 2, slots := 8, locals := 44 })
theorem yf_X3_init : rd_YL yX3_init G_X3_init 0 := ⟨rd_mem 96 (by decide +kernel) rfl, rd_mem 64 (by decide +kernel) rfl, by decide +kernel, by decide +kernel, by decide +kernel⟩
theorem mi_X3_init : Cond.instanceMethod yX3_init ∈ rd_gw := rd_mem 95 (by decide +kernel) rfl
theorem dX3_init_0 : decode cX3_init 0 = .ok (.aload_n 0, 1) := by decide +kernel
theorem dX3_init_1 : decode cX3_init 1 = .ok (.invokespecial 3, 3) := by decide +kernel
theorem dX3_init_4 : decode cX3_init 4 = .ok (.aload_n 0, 1) := by decide +kernel
theorem dX3_init_5 : decode cX3_init 5 = .ok (.iconst 4, 1) := by decide +kernel
theorem dX3_init_6 : decode cX3_init 6 = .ok (.newarray .int, 2) := by decide +kernel
theorem dX3_init_8 : decode cX3_init 8 = .ok (.putfield 9, 3) := by decide +kernel
theorem dX3_init_11 : decode cX3_init 11 = .ok (.aload_n 0, 1) := by decide +kernel
theorem dX3_init_12 : decode cX3_init 12 = .ok (.iconst 4, 1) := by decide +kernel
theorem dX3_init_13 : decode cX3_init 13 = .ok (.newarray .int, 2) := by decide +kernel
theorem dX3_init_15 : decode cX3_init 15 = .ok (.putfield 15, 3) := by decide +kernel
theorem dX3_init_18 : decode cX3_init 18 = .ok (.aload_n 0, 1) := by decide +kernel
theorem dX3_init_19 : decode cX3_init 19 = .ok (.iconst (-1), 1) := by decide +kernel
theorem dX3_init_20 : decode cX3_init 20 = .ok (.invokevirtual 18, 3) := by decide +kernel
theorem dX3_init_23 : decode cX3_init 23 = .ok (.return_, 1) := by decide +kernel
def F_X3_init (w : rd_W) (a0 : Nat) (S : rd_S) : Option (rd_W × rd_S) :=
  rd_na 4 4 <| rd_np w <|
  rd_let (pR S a0 0 (some (w.1 + 1))) fun s2 =>
  rd_na 4 4 <| rd_np (rd_push w 13 (4 : Int32).toNatClampNeg) <|
  rd_let (pR s2 a0 1 (some ((rd_push w 13 (4 : Int32).toNatClampNeg).1 + 1))) fun s4 =>
  rd_c (F_X3_clear (rd_push (rd_push w 13 (4 : Int32).toNatClampNeg) 13 (4 : Int32).toNatClampNeg) a0 (-1) s4) fun s5 =>
  some (rd_push (rd_push w 13 (4 : Int32).toNatClampNeg) 13 (4 : Int32).toNatClampNeg, s5)
theorem ym_X3_init (cx : rd_Cx) (w : rd_W) (a0 : Nat) (ha0 : rd_ok w a0 3) (S : rd_S) : rd_Y cx G_X3_init (fun r => rd_P cx G_X3_init.2.2.2.2.2 0 w (rd_rC r)) (F_X3_init w a0 S) 0 (rd_as 0 [.inr (some a0)]) [] w S 0 0 := by
  unfold F_X3_init
  refine ry_aload_n dX3_init_0 rfl ?_
  refine ry_objinit dX3_init_1 ha0 ml_RX3_3 ob_inst ob_code (by decide) (Nat.le_of_ble_eq_true rfl) ?_
  refine ry_aload_n dX3_init_4 rfl ?_
  refine ry_iconst (v := 4) dX3_init_5 (by decide) ?_
  refine ry_newa 4 dX3_init_6 ar_int (Nat.le_of_ble_eq_true rfl) (Nat.le_of_ble_eq_true rfl) (Nat.le_of_ble_eq_true rfl) (fun h1 => ?_)
  refine ry_putFr dX3_init_8 rfl rfl (ha0.le (rd_push_le _ _ _)) h1 fl_RX3_9 rfl rfl rfl (fun _ => rfl) (fun _ => rfl) ?_
  refine ry_letS (fun s2 => ?_)
  refine ry_aload_n dX3_init_11 rfl ?_
  refine ry_iconst (v := 4) dX3_init_12 (by decide) ?_
  refine ry_newa 4 dX3_init_13 ar_int (Nat.le_of_ble_eq_true rfl) (Nat.le_of_ble_eq_true rfl) (Nat.le_of_ble_eq_true rfl) (fun h3 => ?_)
  refine ry_putFr dX3_init_15 rfl rfl ((ha0.le (rd_push_le _ _ _)).le (rd_push_le _ _ _)) h3 fl_RX3_15 rfl rfl rfl (fun _ => rfl) (fun _ => rfl) ?_
  refine ry_letS (fun s4 => ?_)
  refine ry_aload_n dX3_init_18 rfl ?_
  refine ry_iconst (v := (-1)) dX3_init_19 (by decide) ?_
  refine ry_callv (fun l r9 h9 => cm_X3_clear l cx (rd_push (rd_push w 13 (4 : Int32).toNatClampNeg) 13 (4 : Int32).toNatClampNeg) a0 (-1) ((ha0.le (rd_push_le _ _ _)).le (rd_push_le _ _ _)) s4 r9 h9) (rd_runV (vs := [.inl (-1)]) dX3_init_20 ((ha0.le (rd_push_le _ _ _)).le (rd_push_le _ _ _)) rfl rfl yf_X3_clear mi_X3_clear ms_X3_clear ml_RX3_18 ⟨Nat.le_of_ble_eq_true rfl, Nat.le_of_ble_eq_true rfl⟩ (Nat.le_of_ble_eq_true rfl) rfl) rfl rfl (Nat.le_of_ble_eq_true rfl) (Nat.le_of_ble_eq_true rfl) (fun s5 => ?_)
  exact ry_cret dX3_init_23 rfl ((rd_push_le _ _ _).tr (rd_push_le _ _ _)) (Nat.le_of_ble_eq_true rfl) (Nat.le_of_ble_eq_true rfl)
theorem cm_X3_init (l : Launch) (cx : rd_Cx) (w : rd_W) (a0 : Nat) (ha0 : rd_ok w a0 3) (S : rd_S) (r : rd_W × rd_S) (h : F_X3_init w a0 S = some r) : rd_M l cx yX3_init G_X3_init 0 [.inr (some a0)] w S (rd_rC r) :=
  rd_enter (plainFor_of_name (by decide +kernel)) rfl (fun _ => rfl) (Nat.le_of_ble_eq_true rfl) (ym_X3_init cx w a0 ha0 S r h)
abbrev G_X10_init : rd_G := (RX10, cX10_init, 1, none, true, { frames := 1, cells := 1, slots := 50, locals := 40 })
theorem yf_X10_init : rd_YL yX10_init G_X10_init 0 := ⟨rd_mem 120 (by decide +kernel) rfl, rd_mem 66 (by decide +kernel) rfl, by decide +kernel, by decide +kernel, by decide +kernel⟩
theorem mi_X10_init : Cond.instanceMethod yX10_init ∈ rd_gw := rd_mem 119 (by decide +kernel) rfl
theorem dX10_init_0 : decode cX10_init 0 = .ok (.aload_n 0, 1) := by decide +kernel
theorem dX10_init_1 : decode cX10_init 1 = .ok (.invokespecial 1, 3) := by decide +kernel
theorem dX10_init_4 : decode cX10_init 4 = .ok (.aload_n 0, 1) := by decide +kernel
theorem dX10_init_5 : decode cX10_init 5 = .ok (.bipush 50, 2) := by decide +kernel
theorem dX10_init_7 : decode cX10_init 7 = .ok (.newarray .int, 2) := by decide +kernel
theorem dX10_init_9 : decode cX10_init 9 = .ok (.putfield 9, 3) := by decide +kernel
theorem dX10_init_12 : decode cX10_init 12 = .ok (.return_, 1) := by decide +kernel
def F_X10_init (w : rd_W) (a0 : Nat) (S : rd_S) : Option (rd_W × rd_S) :=
  rd_na 50 50 <| rd_np w <|
  rd_let (pR S a0 0 (some (w.1 + 1))) fun s2 =>
  some (rd_push w 13 (50 : Int32).toNatClampNeg, s2)
theorem ym_X10_init (cx : rd_Cx) (w : rd_W) (a0 : Nat) (ha0 : rd_ok w a0 10) (S : rd_S) : rd_Y cx G_X10_init (fun r => rd_P cx G_X10_init.2.2.2.2.2 0 w (rd_rC r)) (F_X10_init w a0 S) 0 (rd_as 0 [.inr (some a0)]) [] w S 0 0 := by
  unfold F_X10_init
  refine ry_aload_n dX10_init_0 rfl ?_
  refine ry_objinit dX10_init_1 ha0 ml_RX10_1 ob_inst ob_code (by decide) (Nat.le_of_ble_eq_true rfl) ?_
  refine ry_aload_n dX10_init_4 rfl ?_
  refine ry_bipush (v := 50) dX10_init_5 (by decide) ?_
  refine ry_newa 50 dX10_init_7 ar_int (Nat.le_of_ble_eq_true rfl) (Nat.le_of_ble_eq_true rfl) (Nat.le_of_ble_eq_true rfl) (fun h1 => ?_)
  refine ry_putFr dX10_init_9 rfl rfl (ha0.le (rd_push_le _ _ _)) h1 fl_RX10_9 rfl rfl rfl (fun _ => rfl) (fun _ => rfl) ?_
  refine ry_letS (fun s2 => ?_)
  exact ry_cret dX10_init_12 rfl (rd_push_le _ _ _) (Nat.le_of_ble_eq_true rfl) (Nat.le_of_ble_eq_true rfl)
theorem cm_X10_init (l : Launch) (cx : rd_Cx) (w : rd_W) (a0 : Nat) (ha0 : rd_ok w a0 10) (S : rd_S) (r : rd_W × rd_S) (h : F_X10_init w a0 S = some r) : rd_M l cx yX10_init G_X10_init 0 [.inr (some a0)] w S (rd_rC r) :=
  rd_enter (plainFor_of_name (by decide +kernel)) rfl (fun _ => rfl) (Nat.le_of_ble_eq_true rfl) (ym_X10_init cx w a0 ha0 S r h)
abbrev G_X7_init : rd_G := (RX7, cX7_init, 1, none, true, { frames := 3, cells := 7, slots := 147, locals := 64 })
theorem yf_X7_init : rd_YL yX7_init G_X7_init 0 := ⟨rd_mem 90 (by decide +kernel) rfl, rd_mem 63 (by decide +kernel) rfl, by decide +kernel, by decide +kernel, by decide +kernel⟩
theorem mi_X7_init : Cond.instanceMethod yX7_init ∈ rd_gw := rd_mem 89 (by decide +kernel) rfl
theorem dX7_init_0 : decode cX7_init 0 = .ok (.aload_n 0, 1) := by decide +kernel
theorem dX7_init_1 : decode cX7_init 1 = .ok (.invokespecial 5, 3) := by decide +kernel
theorem dX7_init_4 : decode cX7_init 4 = .ok (.aload_n 0, 1) := by decide +kernel
theorem dX7_init_5 : decode cX7_init 5 = .ok (.new 11, 3) := by decide +kernel
theorem dX7_init_8 : decode cX7_init 8 = .ok (.dup, 1) := by decide +kernel
theorem dX7_init_9 : decode cX7_init 9 = .ok (.invokespecial 13, 3) := by decide +kernel
theorem dX7_init_12 : decode cX7_init 12 = .ok (.putfield 14, 3) := by decide +kernel
theorem dX7_init_15 : decode cX7_init 15 = .ok (.aload_n 0, 1) := by decide +kernel
theorem dX7_init_16 : decode cX7_init 16 = .ok (.new 18, 3) := by decide +kernel
theorem dX7_init_19 : decode cX7_init 19 = .ok (.dup, 1) := by decide +kernel
theorem dX7_init_20 : decode cX7_init 20 = .ok (.invokespecial 20, 3) := by decide +kernel
theorem dX7_init_23 : decode cX7_init 23 = .ok (.putfield 21, 3) := by decide +kernel
theorem dX7_init_26 : decode cX7_init 26 = .ok (.aload_n 0, 1) := by decide +kernel
theorem dX7_init_27 : decode cX7_init 27 = .ok (.bipush 79, 2) := by decide +kernel
theorem dX7_init_29 : decode cX7_init 29 = .ok (.newarray .int, 2) := by decide +kernel
theorem dX7_init_31 : decode cX7_init 31 = .ok (.putfield 25, 3) := by decide +kernel
theorem dX7_init_34 : decode cX7_init 34 = .ok (.aload_n 0, 1) := by decide +kernel
theorem dX7_init_35 : decode cX7_init 35 = .ok (.iconst 3, 1) := by decide +kernel
theorem dX7_init_36 : decode cX7_init 36 = .ok (.newarray .int, 2) := by decide +kernel
theorem dX7_init_38 : decode cX7_init 38 = .ok (.putfield 29, 3) := by decide +kernel
theorem dX7_init_41 : decode cX7_init 41 = .ok (.aload_n 0, 1) := by decide +kernel
theorem dX7_init_42 : decode cX7_init 42 = .ok (.iconst 5, 1) := by decide +kernel
theorem dX7_init_43 : decode cX7_init 43 = .ok (.putfield 32, 3) := by decide +kernel
theorem dX7_init_46 : decode cX7_init 46 = .ok (.aload_n 0, 1) := by decide +kernel
theorem dX7_init_47 : decode cX7_init 47 = .ok (.bipush 30, 2) := by decide +kernel
theorem dX7_init_49 : decode cX7_init 49 = .ok (.putfield 36, 3) := by decide +kernel
theorem dX7_init_52 : decode cX7_init 52 = .ok (.aload_n 0, 1) := by decide +kernel
theorem dX7_init_53 : decode cX7_init 53 = .ok (.iconst (-1), 1) := by decide +kernel
theorem dX7_init_54 : decode cX7_init 54 = .ok (.putfield 39, 3) := by decide +kernel
theorem dX7_init_57 : decode cX7_init 57 = .ok (.return_, 1) := by decide +kernel
def F_X7_init (w : rd_W) (a0 : Nat) (S : rd_S) : Option (rd_W × rd_S) :=
  rd_np w <|
  rd_b (F_X3_init (rd_push w 3 0) (w.1 + 1) S) fun w3 s2 =>
  rd_let (pR s2 a0 0 (some (w.1 + 1))) fun s5 =>
  rd_np w3 <|
  rd_b (F_X10_init (rd_push w3 10 0) (w3.1 + 1) s5) fun w8 s7 =>
  rd_let (pR s7 a0 1 (some (w3.1 + 1))) fun s10 =>
  rd_na 79 79 <| rd_np w8 <|
  rd_let (pR s10 a0 2 (some (w8.1 + 1))) fun s12 =>
  rd_na 3 3 <| rd_np (rd_push w8 13 (79 : Int32).toNatClampNeg) <|
  rd_let (pR s12 a0 3 (some ((rd_push w8 13 (79 : Int32).toNatClampNeg).1 + 1))) fun s14 =>
  rd_let (pI s14 a0 4 5) fun s15 =>
  rd_let (pI s15 a0 5 30) fun s16 =>
  rd_let (pI s16 a0 10 (-1)) fun s17 =>
  some (rd_push (rd_push w8 13 (79 : Int32).toNatClampNeg) 13 (3 : Int32).toNatClampNeg, s17)
theorem ym_X7_init (cx : rd_Cx) (w : rd_W) (a0 : Nat) (ha0 : rd_ok w a0 7) (S : rd_S) : rd_Y cx G_X7_init (fun r => rd_P cx G_X7_init.2.2.2.2.2 0 w (rd_rC r)) (F_X7_init w a0 S) 0 (rd_as 0 [.inr (some a0)]) [] w S 0 0 := by
  unfold F_X7_init
  refine ry_aload_n dX7_init_0 rfl ?_
  refine ry_objinit dX7_init_1 ha0 ml_RX7_5 ob_inst ob_code (by decide) (Nat.le_of_ble_eq_true rfl) ?_
  refine ry_aload_n dX7_init_4 rfl ?_
  refine ry_new dX7_init_5 cl_3 kl_RX7_11 ci_3 cn_3 cd_3 (Nat.le_of_ble_eq_true rfl) (Nat.le_of_ble_eq_true rfl) (fun h1 => ?_)
  refine ry_dup dX7_init_8 ?_
  refine ry_callC 3 11 (fun l r9 h9 => cm_X3_init l cx (rd_push w 3 0) (w.1 + 1) h1 S r9 h9) (rd_runI (vs := []) dX7_init_9 h1 yf_X3_init rfl rfl mi_X3_init ml_RX7_13 ⟨Nat.le_of_ble_eq_true rfl, Nat.le_of_ble_eq_true rfl⟩ (Nat.le_of_ble_eq_true rfl) rfl) rfl rfl (Nat.le_of_ble_eq_true rfl) (Nat.le_of_ble_eq_true rfl) (fun w3 s2 l4 => ?_)
  refine ry_putFr dX7_init_12 rfl rfl ((ha0.le (rd_push_le _ _ _)).le l4) (h1.le l4) fl_RX7_14 rfl rfl rfl (fun _ => rfl) (fun _ => rfl) ?_
  refine ry_letS (fun s5 => ?_)
  refine ry_aload_n dX7_init_15 rfl ?_
  refine ry_new dX7_init_16 cl_10 kl_RX7_18 ci_10 cn_10 cd_10 (Nat.le_of_ble_eq_true rfl) (Nat.le_of_ble_eq_true rfl) (fun h6 => ?_)
  refine ry_dup dX7_init_19 ?_
  refine ry_callC 5 65 (fun l r9 h9 => cm_X10_init l cx (rd_push w3 10 0) (w3.1 + 1) h6 s5 r9 h9) (rd_runIN (vs := []) dX7_init_20 h6 yf_X10_init rfl rfl mi_X10_init mn_RX7_20 ⟨Nat.le_of_ble_eq_true rfl, Nat.le_of_ble_eq_true rfl⟩ (Nat.le_of_ble_eq_true rfl) rfl) rfl rfl (Nat.le_of_ble_eq_true rfl) (Nat.le_of_ble_eq_true rfl) (fun w8 s7 l9 => ?_)
  refine ry_putFr dX7_init_23 rfl rfl ((((ha0.le (rd_push_le _ _ _)).le l4).le (rd_push_le _ _ _)).le l9) (h6.le l9) fl_RX7_21 rfl rfl rfl (fun _ => rfl) (fun _ => rfl) ?_
  refine ry_letS (fun s10 => ?_)
  refine ry_aload_n dX7_init_26 rfl ?_
  refine ry_bipush (v := 79) dX7_init_27 (by decide) ?_
  refine ry_newa 79 dX7_init_29 ar_int (Nat.le_of_ble_eq_true rfl) (Nat.le_of_ble_eq_true rfl) (Nat.le_of_ble_eq_true rfl) (fun h11 => ?_)
  refine ry_putFr dX7_init_31 rfl rfl (((((ha0.le (rd_push_le _ _ _)).le l4).le (rd_push_le _ _ _)).le l9).le (rd_push_le _ _ _)) h11 fl_RX7_25 rfl rfl rfl (fun _ => rfl) (fun _ => rfl) ?_
  refine ry_letS (fun s12 => ?_)
  refine ry_aload_n dX7_init_34 rfl ?_
  refine ry_iconst (v := 3) dX7_init_35 (by decide) ?_
  refine ry_newa 3 dX7_init_36 ar_int (Nat.le_of_ble_eq_true rfl) (Nat.le_of_ble_eq_true rfl) (Nat.le_of_ble_eq_true rfl) (fun h13 => ?_)
  refine ry_putFr dX7_init_38 rfl rfl ((((((ha0.le (rd_push_le _ _ _)).le l4).le (rd_push_le _ _ _)).le l9).le (rd_push_le _ _ _)).le (rd_push_le _ _ _)) h13 fl_RX7_29 rfl rfl rfl (fun _ => rfl) (fun _ => rfl) ?_
  refine ry_letS (fun s14 => ?_)
  refine ry_aload_n dX7_init_41 rfl ?_
  refine ry_iconst (v := 5) dX7_init_42 (by decide) ?_
  refine ry_puti dX7_init_43 ((((((ha0.le (rd_push_le _ _ _)).le l4).le (rd_push_le _ _ _)).le l9).le (rd_push_le _ _ _)).le (rd_push_le _ _ _)) fl_RX7_32 rfl rfl rfl ?_
  refine ry_letS (fun s15 => ?_)
  refine ry_aload_n dX7_init_46 rfl ?_
  refine ry_bipush (v := 30) dX7_init_47 (by decide) ?_
  refine ry_puti dX7_init_49 ((((((ha0.le (rd_push_le _ _ _)).le l4).le (rd_push_le _ _ _)).le l9).le (rd_push_le _ _ _)).le (rd_push_le _ _ _)) fl_RX7_36 rfl rfl rfl ?_
  refine ry_letS (fun s16 => ?_)
  refine ry_aload_n dX7_init_52 rfl ?_
  refine ry_iconst (v := (-1)) dX7_init_53 (by decide) ?_
  refine ry_puti dX7_init_54 ((((((ha0.le (rd_push_le _ _ _)).le l4).le (rd_push_le _ _ _)).le l9).le (rd_push_le _ _ _)).le (rd_push_le _ _ _)) fl_RX7_39 rfl rfl rfl ?_
  refine ry_letS (fun s17 => ?_)
  exact ry_cret dX7_init_57 rfl ((((((rd_push_le _ _ _).tr l4).tr (rd_push_le _ _ _)).tr l9).tr (rd_push_le _ _ _)).tr (rd_push_le _ _ _)) (Nat.le_of_ble_eq_true rfl) (Nat.le_of_ble_eq_true rfl)
theorem cm_X7_init (l : Launch) (cx : rd_Cx) (w : rd_W) (a0 : Nat) (ha0 : rd_ok w a0 7) (S : rd_S) (r : rd_W × rd_S) (h : F_X7_init w a0 S = some r) : rd_M l cx yX7_init G_X7_init 0 [.inr (some a0)] w S (rd_rC r) :=
  rd_enter (plainFor_of_name (by decide +kernel)) rfl (fun _ => rfl) (Nat.le_of_ble_eq_true rfl) (ym_X7_init cx w a0 ha0 S r h)
abbrev G_X1_init : rd_G := (RX1, cX1_init, 4, none, true, { frames := 1, cells := 2, slots := 128, locals := 40 })
theorem yf_X1_init : rd_YL yX1_init G_X1_init 3 := ⟨rd_mem 200 (by decide +kernel) rfl, rd_mem 68 (by decide +kernel) rfl, by decide +kernel, by decide +kernel, by decide +kernel⟩
theorem mi_X1_init : Cond.instanceMethod yX1_init ∈ rd_gw := rd_mem 199 (by decide +kernel) rfl
theorem dX1_init_0 : decode cX1_init 0 = .ok (.aload_n 0, 1) := by decide +kernel
theorem dX1_init_1 : decode cX1_init 1 = .ok (.invokespecial 3, 3) := by decide +kernel
theorem dX1_init_4 : decode cX1_init 4 = .ok (.aload_n 0, 1) := by decide +kernel
theorem dX1_init_5 : decode cX1_init 5 = .ok (.iload_n 1, 1) := by decide +kernel
theorem dX1_init_6 : decode cX1_init 6 = .ok (.putfield 9, 3) := by decide +kernel
theorem dX1_init_9 : decode cX1_init 9 = .ok (.aload_n 0, 1) := by decide +kernel
theorem dX1_init_10 : decode cX1_init 10 = .ok (.iload_n 3, 1) := by decide +kernel
theorem dX1_init_11 : decode cX1_init 11 = .ok (.putfield 15, 3) := by decide +kernel
theorem dX1_init_14 : decode cX1_init 14 = .ok (.aload_n 0, 1) := by decide +kernel
theorem dX1_init_15 : decode cX1_init 15 = .ok (.iload_n 1, 1) := by decide +kernel
theorem dX1_init_16 : decode cX1_init 16 = .ok (.iload_n 2, 1) := by decide +kernel
theorem dX1_init_17 : decode cX1_init 17 = .ok (.imul, 1) := by decide +kernel
theorem dX1_init_18 : decode cX1_init 18 = .ok (.newarray .int, 2) := by decide +kernel
theorem dX1_init_20 : decode cX1_init 20 = .ok (.putfield 18, 3) := by decide +kernel
theorem dX1_init_23 : decode cX1_init 23 = .ok (.aload_n 0, 1) := by decide +kernel
theorem dX1_init_24 : decode cX1_init 24 = .ok (.iload_n 1, 1) := by decide +kernel
theorem dX1_init_25 : decode cX1_init 25 = .ok (.iload_n 2, 1) := by decide +kernel
theorem dX1_init_26 : decode cX1_init 26 = .ok (.imul, 1) := by decide +kernel
theorem dX1_init_27 : decode cX1_init 27 = .ok (.newarray .int, 2) := by decide +kernel
theorem dX1_init_29 : decode cX1_init 29 = .ok (.putfield 22, 3) := by decide +kernel
theorem dX1_init_32 : decode cX1_init 32 = .ok (.aload_n 0, 1) := by decide +kernel
theorem dX1_init_33 : decode cX1_init 33 = .ok (.iconst (-1), 1) := by decide +kernel
theorem dX1_init_34 : decode cX1_init 34 = .ok (.putfield 25, 3) := by decide +kernel
theorem dX1_init_37 : decode cX1_init 37 = .ok (.return_, 1) := by decide +kernel
def F_X1_init (w : rd_W) (a0 : Nat) (x1 : Int32) (x2 : Int32) (x3 : Int32) (S : rd_S) : Option (rd_W × rd_S) :=
  rd_let (pI S a0 0 x1) fun s1 =>
  rd_let (pI s1 a0 1 x3) fun s2 =>
  rd_na (x1 * x2) 64 <| rd_np w <|
  rd_let (pR s2 a0 2 (some (w.1 + 1))) fun s4 =>
  rd_na (x1 * x2) 64 <| rd_np (rd_push w 13 (x1 * x2).toNatClampNeg) <|
  rd_let (pR s4 a0 3 (some ((rd_push w 13 (x1 * x2).toNatClampNeg).1 + 1))) fun s6 =>
  rd_let (pI s6 a0 5 (-1)) fun s7 =>
  some (rd_push (rd_push w 13 (x1 * x2).toNatClampNeg) 13 (x1 * x2).toNatClampNeg, s7)
theorem ym_X1_init (cx : rd_Cx) (w : rd_W) (a0 : Nat) (x1 : Int32) (x2 : Int32) (x3 : Int32) (ha0 : rd_ok w a0 1) (S : rd_S) : rd_Y cx G_X1_init (fun r => rd_P cx G_X1_init.2.2.2.2.2 0 w (rd_rC r)) (F_X1_init w a0 x1 x2 x3 S) 0 (rd_as 0 [.inr (some a0), .inl x1, .inl x2, .inl x3]) [] w S 0 0 := by
  unfold F_X1_init
  refine ry_aload_n dX1_init_0 rfl ?_
  refine ry_objinit dX1_init_1 ha0 ml_RX1_3 ob_inst ob_code (by decide) (Nat.le_of_ble_eq_true rfl) ?_
  refine ry_aload_n dX1_init_4 rfl ?_
  refine ry_iload_n dX1_init_5 rfl ?_
  refine ry_putFi dX1_init_6 rfl rfl ha0 fl_RX1_9 rfl rfl rfl ?_
  refine ry_letS (fun s1 => ?_)
  refine ry_aload_n dX1_init_9 rfl ?_
  refine ry_iload_n dX1_init_10 rfl ?_
  refine ry_putFi dX1_init_11 rfl rfl ha0 fl_RX1_15 rfl rfl rfl ?_
  refine ry_letS (fun s2 => ?_)
  refine ry_aload_n dX1_init_14 rfl ?_
  refine ry_iload_n dX1_init_15 rfl ?_
  refine ry_iload_n dX1_init_16 rfl ?_
  refine ry_imul dX1_init_17 ?_
  refine ry_newa 64 dX1_init_18 ar_int (Nat.le_of_ble_eq_true rfl) (Nat.le_of_ble_eq_true rfl) (Nat.le_of_ble_eq_true rfl) (fun h3 => ?_)
  refine ry_putFr dX1_init_20 rfl rfl (ha0.le (rd_push_le _ _ _)) h3 fl_RX1_18 rfl rfl rfl (fun _ => rfl) (fun _ => rfl) ?_
  refine ry_letS (fun s4 => ?_)
  refine ry_aload_n dX1_init_23 rfl ?_
  refine ry_iload_n dX1_init_24 rfl ?_
  refine ry_iload_n dX1_init_25 rfl ?_
  refine ry_imul dX1_init_26 ?_
  refine ry_newa 64 dX1_init_27 ar_int (Nat.le_of_ble_eq_true rfl) (Nat.le_of_ble_eq_true rfl) (Nat.le_of_ble_eq_true rfl) (fun h5 => ?_)
  refine ry_putFr dX1_init_29 rfl rfl ((ha0.le (rd_push_le _ _ _)).le (rd_push_le _ _ _)) h5 fl_RX1_22 rfl rfl rfl (fun _ => rfl) (fun _ => rfl) ?_
  refine ry_letS (fun s6 => ?_)
  refine ry_aload_n dX1_init_32 rfl ?_
  refine ry_iconst (v := (-1)) dX1_init_33 (by decide) ?_
  refine ry_puti dX1_init_34 ((ha0.le (rd_push_le _ _ _)).le (rd_push_le _ _ _)) fl_RX1_25 rfl rfl rfl ?_
  refine ry_letS (fun s7 => ?_)
  exact ry_cret dX1_init_37 rfl ((rd_push_le _ _ _).tr (rd_push_le _ _ _)) (Nat.le_of_ble_eq_true rfl) (Nat.le_of_ble_eq_true rfl)
theorem cm_X1_init (l : Launch) (cx : rd_Cx) (w : rd_W) (a0 : Nat) (x1 : Int32) (x2 : Int32) (x3 : Int32) (ha0 : rd_ok w a0 1) (S : rd_S) (r : rd_W × rd_S) (h : F_X1_init w a0 x1 x2 x3 S = some r) : rd_M l cx yX1_init G_X1_init 0 [.inr (some a0), .inl x1, .inl x2, .inl x3] w S (rd_rC r) :=
  rd_enter (plainFor_of_name (by decide +kernel)) rfl (fun _ => rfl) (Nat.le_of_ble_eq_true rfl) (ym_X1_init cx w a0 x1 x2 x3 ha0 S r h)
abbrev G_X2_init : rd_G := (RX2, cX2_init, 1, none, true, { frames := 1, cells := 2, slots := 50, locals := 40 })
theorem yf_X2_init : rd_YL yX2_init G_X2_init 0 := ⟨rd_mem 234 (by decide +kernel) rfl, rd_mem 69 (by decide +kernel) rfl, by decide +kernel, by decide +kernel, by decide +kernel⟩
theorem mi_X2_init : Cond.instanceMethod yX2_init ∈ rd_gw := rd_mem 233 (by decide +kernel) rfl
theorem dX2_init_0 : decode cX2_init 0 = .ok (.aload_n 0, 1) := by decide +kernel
theorem dX2_init_1 : decode cX2_init 1 = .ok (.invokespecial 3, 3) := by decide +kernel
theorem dX2_init_4 : decode cX2_init 4 = .ok (.aload_n 0, 1) := by decide +kernel
theorem dX2_init_5 : decode cX2_init 5 = .ok (.bipush 25, 2) := by decide +kernel
theorem dX2_init_7 : decode cX2_init 7 = .ok (.newarray .int, 2) := by decide +kernel
theorem dX2_init_9 : decode cX2_init 9 = .ok (.putfield 11, 3) := by decide +kernel
theorem dX2_init_12 : decode cX2_init 12 = .ok (.aload_n 0, 1) := by decide +kernel
theorem dX2_init_13 : decode cX2_init 13 = .ok (.bipush 25, 2) := by decide +kernel
theorem dX2_init_15 : decode cX2_init 15 = .ok (.newarray .int, 2) := by decide +kernel
theorem dX2_init_17 : decode cX2_init 17 = .ok (.putfield 15, 3) := by decide +kernel
theorem dX2_init_20 : decode cX2_init 20 = .ok (.return_, 1) := by decide +kernel
def F_X2_init (w : rd_W) (a0 : Nat) (S : rd_S) : Option (rd_W × rd_S) :=
  rd_na 25 25 <| rd_np w <|
  rd_let (pR S a0 0 (some (w.1 + 1))) fun s2 =>
  rd_na 25 25 <| rd_np (rd_push w 13 (25 : Int32).toNatClampNeg) <|
  rd_let (pR s2 a0 1 (some ((rd_push w 13 (25 : Int32).toNatClampNeg).1 + 1))) fun s4 =>
  some (rd_push (rd_push w 13 (25 : Int32).toNatClampNeg) 13 (25 : Int32).toNatClampNeg, s4)
theorem ym_X2_init (cx : rd_Cx) (w : rd_W) (a0 : Nat) (ha0 : rd_ok w a0 2) (S : rd_S) : rd_Y cx G_X2_init (fun r => rd_P cx G_X2_init.2.2.2.2.2 0 w (rd_rC r)) (F_X2_init w a0 S) 0 (rd_as 0 [.inr (some a0)]) [] w S 0 0 := by
  unfold F_X2_init
  refine ry_aload_n dX2_init_0 rfl ?_
  refine ry_objinit dX2_init_1 ha0 ml_RX2_3 ob_inst ob_code (by decide) (Nat.le_of_ble_eq_true rfl) ?_
  refine ry_aload_n dX2_init_4 rfl ?_
  refine ry_bipush (v := 25) dX2_init_5 (by decide) ?_
  refine ry_newa 25 dX2_init_7 ar_int (Nat.le_of_ble_eq_true rfl) (Nat.le_of_ble_eq_true rfl) (Nat.le_of_ble_eq_true rfl) (fun h1 => ?_)
  refine ry_putFr dX2_init_9 rfl rfl (ha0.le (rd_push_le _ _ _)) h1 fl_RX2_11 rfl rfl rfl (fun _ => rfl) (fun _ => rfl) ?_
  refine ry_letS (fun s2 => ?_)
  refine ry_aload_n dX2_init_12 rfl ?_
  refine ry_bipush (v := 25) dX2_init_13 (by decide) ?_
  refine ry_newa 25 dX2_init_15 ar_int (Nat.le_of_ble_eq_true rfl) (Nat.le_of_ble_eq_true rfl) (Nat.le_of_ble_eq_true rfl) (fun h3 => ?_)
  refine ry_putFr dX2_init_17 rfl rfl ((ha0.le (rd_push_le _ _ _)).le (rd_push_le _ _ _)) h3 fl_RX2_15 rfl rfl rfl (fun _ => rfl) (fun _ => rfl) ?_
  refine ry_letS (fun s4 => ?_)
  exact ry_cret dX2_init_20 rfl ((rd_push_le _ _ _).tr (rd_push_le _ _ _)) (Nat.le_of_ble_eq_true rfl) (Nat.le_of_ble_eq_true rfl)
theorem cm_X2_init (l : Launch) (cx : rd_Cx) (w : rd_W) (a0 : Nat) (ha0 : rd_ok w a0 2) (S : rd_S) (r : rd_W × rd_S) (h : F_X2_init w a0 S = some r) : rd_M l cx yX2_init G_X2_init 0 [.inr (some a0)] w S (rd_rC r) :=
  rd_enter (plainFor_of_name (by decide +kernel)) rfl (fun _ => rfl) (Nat.le_of_ble_eq_true rfl) (ym_X2_init cx w a0 ha0 S r h)
abbrev G_X0_init : rd_G := (RX0, cX0_init, 1, none, true, { frames := 1, cells := 0, slots := 0, locals := 40 })
theorem yf_X0_init : rd_YL yX0_init G_X0_init 0 := ⟨rd_mem 266 (by decide +kernel) rfl, rd_mem 70 (by decide +kernel) rfl, by decide +kernel, by decide +kernel, by decide +kernel⟩
theorem mi_X0_init : Cond.instanceMethod yX0_init ∈ rd_gw := rd_mem 265 (by decide +kernel) rfl
theorem dX0_init_0 : decode cX0_init 0 = .ok (.aload_n 0, 1) := by decide +kernel
theorem dX0_init_1 : decode cX0_init 1 = .ok (.invokespecial 3, 3) := by decide +kernel
theorem dX0_init_4 : decode cX0_init 4 = .ok (.return_, 1) := by decide +kernel
def F_X0_init (w : rd_W) (a0 : Nat) (S : rd_S) : Option (rd_W × rd_S) :=
  some (w, S)
theorem ym_X0_init (cx : rd_Cx) (w : rd_W) (a0 : Nat) (ha0 : rd_ok w a0 0) (S : rd_S) : rd_Y cx G_X0_init (fun r => rd_P cx G_X0_init.2.2.2.2.2 0 w (rd_rC r)) (F_X0_init w a0 S) 0 (rd_as 0 [.inr (some a0)]) [] w S 0 0 := by
  unfold F_X0_init
  refine ry_aload_n dX0_init_0 rfl ?_
  refine ry_objinit dX0_init_1 ha0 ml_RX0_3 ob_inst ob_code (by decide) (Nat.le_of_ble_eq_true rfl) ?_
  exact ry_cret dX0_init_4 rfl rd_le.rf (Nat.le_of_ble_eq_true rfl) (Nat.le_of_ble_eq_true rfl)
theorem cm_X0_init (l : Launch) (cx : rd_Cx) (w : rd_W) (a0 : Nat) (ha0 : rd_ok w a0 0) (S : rd_S) (r : rd_W × rd_S) (h : F_X0_init w a0 S = some r) : rd_M l cx yX0_init G_X0_init 0 [.inr (some a0)] w S (rd_rC r) :=
  rd_enter (plainFor_of_name (by decide +kernel)) rfl (fun _ => rfl) (Nat.le_of_ble_eq_true rfl) (ym_X0_init cx w a0 ha0 S r h)
abbrev G_X4_init : rd_G := (RX4, cX4_init, 1, none, true, { frames := 1, cells := 3, slots := 24, locals := 40 })
theorem yf_X4_init : rd_YL yX4_init G_X4_init 0 := ⟨rd_mem 289 (by decide +kernel) rfl, rd_mem 71 (by decide +kernel) rfl, by decide +kernel, by decide +kernel, by decide +kernel⟩
theorem mi_X4_init : Cond.instanceMethod yX4_init ∈ rd_gw := rd_mem 288 (by decide +kernel) rfl
theorem dX4_init_0 : decode cX4_init 0 = .ok (.aload_n 0, 1) := by decide +kernel
theorem dX4_init_1 : decode cX4_init 1 = .ok (.invokespecial 3, 3) := by decide +kernel
theorem dX4_init_4 : decode cX4_init 4 = .ok (.aload_n 0, 1) := by decide +kernel
theorem dX4_init_5 : decode cX4_init 5 = .ok (.bipush 8, 2) := by decide +kernel
theorem dX4_init_7 : decode cX4_init 7 = .ok (.newarray .int, 2) := by decide +kernel
theorem dX4_init_9 : decode cX4_init 9 = .ok (.putfield 11, 3) := by decide +kernel
theorem dX4_init_12 : decode cX4_init 12 = .ok (.aload_n 0, 1) := by decide +kernel
theorem dX4_init_13 : decode cX4_init 13 = .ok (.bipush 8, 2) := by decide +kernel
theorem dX4_init_15 : decode cX4_init 15 = .ok (.newarray .int, 2) := by decide +kernel
theorem dX4_init_17 : decode cX4_init 17 = .ok (.putfield 15, 3) := by decide +kernel
theorem dX4_init_20 : decode cX4_init 20 = .ok (.aload_n 0, 1) := by decide +kernel
theorem dX4_init_21 : decode cX4_init 21 = .ok (.bipush 8, 2) := by decide +kernel
theorem dX4_init_23 : decode cX4_init 23 = .ok (.newarray .int, 2) := by decide +kernel
theorem dX4_init_25 : decode cX4_init 25 = .ok (.putfield 18, 3) := by decide +kernel
theorem dX4_init_28 : decode cX4_init 28 = .ok (.return_, 1) := by decide +kernel
def F_X4_init (w : rd_W) (a0 : Nat) (S : rd_S) : Option (rd_W × rd_S) :=
  rd_na 8 8 <| rd_np w <|
  rd_let (pR S a0 0 (some (w.1 + 1))) fun s2 =>
  rd_na 8 8 <| rd_np (rd_push w 13 (8 : Int32).toNatClampNeg) <|
  rd_let (pR s2 a0 1 (some ((rd_push w 13 (8 : Int32).toNatClampNeg).1 + 1))) fun s4 =>
  rd_na 8 8 <| rd_np (rd_push (rd_push w 13 (8 : Int32).toNatClampNeg) 13 (8 : Int32).toNatClampNeg) <|
  rd_let (pR s4 a0 2 (some ((rd_push (rd_push w 13 (8 : Int32).toNatClampNeg) 13 (8 : Int32).toNatClampNeg).1 + 1))) fun s6 =>
  some (rd_push (rd_push (rd_push w 13 (8 : Int32).toNatClampNeg) 13 (8 : Int32).toNatClampNeg) 13 (8 : Int32).toNatClampNeg, s6)
theorem ym_X4_init (cx : rd_Cx) (w : rd_W) (a0 : Nat) (ha0 : rd_ok w a0 4) (S : rd_S) : rd_Y cx G_X4_init (fun r => rd_P cx G_X4_init.2.2.2.2.2 0 w (rd_rC r)) (F_X4_init w a0 S) 0 (rd_as 0 [.inr (some a0)]) [] w S 0 0 := by
  unfold F_X4_init
  refine ry_aload_n dX4_init_0 rfl ?_
  refine ry_objinit dX4_init_1 ha0 ml_RX4_3 ob_inst ob_code (by decide) (Nat.le_of_ble_eq_true rfl) ?_
  refine ry_aload_n dX4_init_4 rfl ?_
  refine ry_bipush (v := 8) dX4_init_5 (by decide) ?_
  refine ry_newa 8 dX4_init_7 ar_int (Nat.le_of_ble_eq_true rfl) (Nat.le_of_ble_eq_true rfl) (Nat.le_of_ble_eq_true rfl) (fun h1 => ?_)
  refine ry_putFr dX4_init_9 rfl rfl (ha0.le (rd_push_le _ _ _)) h1 fl_RX4_11 rfl rfl rfl (fun _ => rfl) (fun _ => rfl) ?_
  refine ry_letS (fun s2 => ?_)
  refine ry_aload_n dX4_init_12 rfl ?_
  refine ry_bipush (v := 8) dX4_init_13 (by decide) ?_
  refine ry_newa 8 dX4_init_15 ar_int (Nat.le_of_ble_eq_true rfl) (Nat.le_of_ble_eq_true rfl) (Nat.le_of_ble_eq_true rfl) (fun h3 => ?_)
  refine ry_putFr dX4_init_17 rfl rfl ((ha0.le (rd_push_le _ _ _)).le (rd_push_le _ _ _)) h3 fl_RX4_15 rfl rfl rfl (fun _ => rfl) (fun _ => rfl) ?_
  refine ry_letS (fun s4 => ?_)
  refine ry_aload_n dX4_init_20 rfl ?_
  refine ry_bipush (v := 8) dX4_init_21 (by decide) ?_
  refine ry_newa 8 dX4_init_23 ar_int (Nat.le_of_ble_eq_true rfl) (Nat.le_of_ble_eq_true rfl) (Nat.le_of_ble_eq_true rfl) (fun h5 => ?_)
  refine ry_putFr dX4_init_25 rfl rfl (((ha0.le (rd_push_le _ _ _)).le (rd_push_le _ _ _)).le (rd_push_le _ _ _)) h5 fl_RX4_18 rfl rfl rfl (fun _ => rfl) (fun _ => rfl) ?_
  refine ry_letS (fun s6 => ?_)
  exact ry_cret dX4_init_28 rfl (((rd_push_le _ _ _).tr (rd_push_le _ _ _)).tr (rd_push_le _ _ _)) (Nat.le_of_ble_eq_true rfl) (Nat.le_of_ble_eq_true rfl)
theorem cm_X4_init (l : Launch) (cx : rd_Cx) (w : rd_W) (a0 : Nat) (ha0 : rd_ok w a0 4) (S : rd_S) (r : rd_W × rd_S) (h : F_X4_init w a0 S = some r) : rd_M l cx yX4_init G_X4_init 0 [.inr (some a0)] w S (rd_rC r) :=
  rd_enter (plainFor_of_name (by decide +kernel)) rfl (fun _ => rfl) (Nat.le_of_ble_eq_true rfl) (ym_X4_init cx w a0 ha0 S r h)
abbrev G_X5_init : rd_G := (RX5, cX5_init, 1, none, true, { frames := 2, cells := 4, slots := 147, locals := 63 })
theorem yf_X5_init : rd_YL yX5_init G_X5_init 0 := ⟨rd_mem 315 (by decide +kernel) rfl, rd_mem 73 (by decide +kernel) rfl, by decide +kernel, by decide +kernel, by decide +kernel⟩
theorem mi_X5_init : Cond.instanceMethod yX5_init ∈ rd_gw := rd_mem 314 (by decide +kernel) rfl
theorem dX5_init_0 : decode cX5_init 0 = .ok (.aload_n 0, 1) := by decide +kernel
theorem dX5_init_1 : decode cX5_init 1 = .ok (.invokespecial 3, 3) := by decide +kernel
theorem dX5_init_4 : decode cX5_init 4 = .ok (.aload_n 0, 1) := by decide +kernel
theorem dX5_init_5 : decode cX5_init 5 = .ok (.bipush 11, 2) := by decide +kernel
theorem dX5_init_7 : decode cX5_init 7 = .ok (.newarray .int, 2) := by decide +kernel
theorem dX5_init_9 : decode cX5_init 9 = .ok (.putfield 11, 3) := by decide +kernel
theorem dX5_init_12 : decode cX5_init 12 = .ok (.aload_n 0, 1) := by decide +kernel
theorem dX5_init_13 : decode cX5_init 13 = .ok (.new 15, 3) := by decide +kernel
theorem dX5_init_16 : decode cX5_init 16 = .ok (.dup, 1) := by decide +kernel
theorem dX5_init_17 : decode cX5_init 17 = .ok (.iconst 4, 1) := by decide +kernel
theorem dX5_init_18 : decode cX5_init 18 = .ok (.iconst 2, 1) := by decide +kernel
theorem dX5_init_19 : decode cX5_init 19 = .ok (.iconst (-1), 1) := by decide +kernel
theorem dX5_init_20 : decode cX5_init 20 = .ok (.invokespecial 17, 3) := by decide +kernel
theorem dX5_init_23 : decode cX5_init 23 = .ok (.putfield 20, 3) := by decide +kernel
theorem dX5_init_26 : decode cX5_init 26 = .ok (.return_, 1) := by decide +kernel
def F_X5_init (w : rd_W) (a0 : Nat) (S : rd_S) : Option (rd_W × rd_S) :=
  rd_na 11 11 <| rd_np w <|
  rd_let (pR S a0 0 (some (w.1 + 1))) fun s2 =>
  rd_np (rd_push w 13 (11 : Int32).toNatClampNeg) <|
  rd_b (F_X1_init (rd_push (rd_push w 13 (11 : Int32).toNatClampNeg) 1 0) ((rd_push w 13 (11 : Int32).toNatClampNeg).1 + 1) 4 2 (-1) s2) fun w5 s4 =>
  rd_let (pR s4 a0 1 (some ((rd_push w 13 (11 : Int32).toNatClampNeg).1 + 1))) fun s7 =>
  some (w5, s7)
theorem ym_X5_init (cx : rd_Cx) (w : rd_W) (a0 : Nat) (ha0 : rd_ok w a0 5) (S : rd_S) : rd_Y cx G_X5_init (fun r => rd_P cx G_X5_init.2.2.2.2.2 0 w (rd_rC r)) (F_X5_init w a0 S) 0 (rd_as 0 [.inr (some a0)]) [] w S 0 0 := by
  unfold F_X5_init
  refine ry_aload_n dX5_init_0 rfl ?_
  refine ry_objinit dX5_init_1 ha0 ml_RX5_3 ob_inst ob_code (by decide) (Nat.le_of_ble_eq_true rfl) ?_
  refine ry_aload_n dX5_init_4 rfl ?_
  refine ry_bipush (v := 11) dX5_init_5 (by decide) ?_
  refine ry_newa 11 dX5_init_7 ar_int (Nat.le_of_ble_eq_true rfl) (Nat.le_of_ble_eq_true rfl) (Nat.le_of_ble_eq_true rfl) (fun h1 => ?_)
  refine ry_putFr dX5_init_9 rfl rfl (ha0.le (rd_push_le _ _ _)) h1 fl_RX5_11 rfl rfl rfl (fun _ => rfl) (fun _ => rfl) ?_
  refine ry_letS (fun s2 => ?_)
  refine ry_aload_n dX5_init_12 rfl ?_
  refine ry_new dX5_init_13 cl_1 kl_RX5_15 ci_1 cn_1 cd_1 (Nat.le_of_ble_eq_true rfl) (Nat.le_of_ble_eq_true rfl) (fun h3 => ?_)
  refine ry_dup dX5_init_16 ?_
  refine ry_iconst (v := 4) dX5_init_17 (by decide) ?_
  refine ry_iconst (v := 2) dX5_init_18 (by decide) ?_
  refine ry_iconst (v := (-1)) dX5_init_19 (by decide) ?_
  refine ry_callC 4 147 (fun l r9 h9 => cm_X1_init l cx (rd_push (rd_push w 13 (11 : Int32).toNatClampNeg) 1 0) ((rd_push w 13 (11 : Int32).toNatClampNeg).1 + 1) 4 2 (-1) h3 s2 r9 h9) (rd_runI (vs := [.inl 4, .inl 2, .inl (-1)]) dX5_init_20 h3 yf_X1_init rfl rfl mi_X1_init ml_RX5_17 ⟨Nat.le_of_ble_eq_true rfl, Nat.le_of_ble_eq_true rfl⟩ (Nat.le_of_ble_eq_true rfl) rfl) rfl rfl (Nat.le_of_ble_eq_true rfl) (Nat.le_of_ble_eq_true rfl) (fun w5 s4 l6 => ?_)
  refine ry_putFr dX5_init_23 rfl rfl (((ha0.le (rd_push_le _ _ _)).le (rd_push_le _ _ _)).le l6) (h3.le l6) fl_RX5_20 rfl rfl rfl (fun _ => rfl) (fun _ => rfl) ?_
  refine ry_letS (fun s7 => ?_)
  exact ry_cret dX5_init_26 rfl (((rd_push_le _ _ _).tr (rd_push_le _ _ _)).tr l6) (Nat.le_of_ble_eq_true rfl) (Nat.le_of_ble_eq_true rfl)
theorem cm_X5_init (l : Launch) (cx : rd_Cx) (w : rd_W) (a0 : Nat) (ha0 : rd_ok w a0 5) (S : rd_S) (r : rd_W × rd_S) (h : F_X5_init w a0 S = some r) : rd_M l cx yX5_init G_X5_init 0 [.inr (some a0)] w S (rd_rC r) :=
  rd_enter (plainFor_of_name (by decide +kernel)) rfl (fun _ => rfl) (Nat.le_of_ble_eq_true rfl) (ym_X5_init cx w a0 ha0 S r h)
abbrev G_X6_init : rd_G := (RX6, cX6_init, 2, none, true, { frames := 3, cells := 41, slots := 1200, locals := 83 })
theorem yf_X6_init : rd_YL yX6_init G_X6_init 0 := ⟨rd_mem 308 (by decide +kernel) rfl, rd_mem 72 (by decide +kernel) rfl, by decide +kernel, by decide +kernel, by decide +kernel⟩
theorem mi_X6_init : Cond.instanceMethod yX6_init ∈ rd_gw := rd_mem 307 (by decide +kernel) rfl
theorem dX6_init_0 : decode cX6_init 0 = .ok (.aload_n 0, 1) := by decide +kernel
theorem dX6_init_1 : decode cX6_init 1 = .ok (.invokespecial 1, 3) := by decide +kernel
theorem dX6_init_4 : decode cX6_init 4 = .ok (.aload_n 0, 1) := by decide +kernel
theorem dX6_init_5 : decode cX6_init 5 = .ok (.bipush 8, 2) := by decide +kernel
theorem dX6_init_7 : decode cX6_init 7 = .ok (.anewarray 9, 3) := by decide +kernel
theorem dX6_init_10 : decode cX6_init 10 = .ok (.putfield 11, 3) := by decide +kernel
theorem dX6_init_13 : decode cX6_init 13 = .ok (.iconst 0, 1) := by decide +kernel
theorem dX6_init_14 : decode cX6_init 14 = .ok (.istore_n 1, 1) := by decide +kernel
theorem dX6_init_15 : decode cX6_init 15 = .ok (.iload_n 1, 1) := by decide +kernel
theorem dX6_init_16 : decode cX6_init 16 = .ok (.bipush 8, 2) := by decide +kernel
theorem dX6_init_18 : decode cX6_init 18 = .ok (.if_icmp .ge 22, 3) := by decide +kernel
theorem dX6_init_21 : decode cX6_init 21 = .ok (.aload_n 0, 1) := by decide +kernel
theorem dX6_init_22 : decode cX6_init 22 = .ok (.getfield 11, 3) := by decide +kernel
theorem dX6_init_25 : decode cX6_init 25 = .ok (.iload_n 1, 1) := by decide +kernel
theorem dX6_init_26 : decode cX6_init 26 = .ok (.new 9, 3) := by decide +kernel
theorem dX6_init_29 : decode cX6_init 29 = .ok (.dup, 1) := by decide +kernel
theorem dX6_init_30 : decode cX6_init 30 = .ok (.invokespecial 15, 3) := by decide +kernel
theorem dX6_init_33 : decode cX6_init 33 = .ok (.aastore, 1) := by decide +kernel
theorem dX6_init_34 : decode cX6_init 34 = .ok (.iinc 1 1, 3) := by decide +kernel
theorem dX6_init_37 : decode cX6_init 37 = .ok (.goto (-22), 3) := by decide +kernel
theorem dX6_init_40 : decode cX6_init 40 = .ok (.return_, 1) := by decide +kernel
def F_X6_init (w : rd_W) (a0 : Nat) (S : rd_S) : Option (rd_W × rd_S) :=
  rd_na 8 8 <| rd_np w <|
  rd_let (pR S a0 0 (some (w.1 + 1))) fun s2 =>
  rd_c (gR s2 a0 0) fun b3 =>
  rd_np (rd_push w 14 (8 : Int32).toNatClampNeg) <|
  rd_b (F_X5_init (rd_push (rd_push w 14 (8 : Int32).toNatClampNeg) 5 0) ((rd_push w 14 (8 : Int32).toNatClampNeg).1 + 1) s2) fun w6 s5 =>
  rd_i 0 (w6.2.2 b3) <|
  rd_let (pR s5 b3 (0 : Int32).toNatClampNeg (some ((rd_push w 14 (8 : Int32).toNatClampNeg).1 + 1))) fun s8 =>
  rd_c (gR s8 a0 0) fun b9 =>
  rd_np w6 <|
  rd_b (F_X5_init (rd_push w6 5 0) (w6.1 + 1) s8) fun w12 s11 =>
  rd_i (0 + 1) (w12.2.2 b9) <|
  rd_let (pR s11 b9 (0 + 1 : Int32).toNatClampNeg (some (w6.1 + 1))) fun s14 =>
  rd_c (gR s14 a0 0) fun b15 =>
  rd_np w12 <|
  rd_b (F_X5_init (rd_push w12 5 0) (w12.1 + 1) s14) fun w18 s17 =>
  rd_i ((0 + 1) + 1) (w18.2.2 b15) <|
  rd_let (pR s17 b15 ((0 + 1) + 1 : Int32).toNatClampNeg (some (w12.1 + 1))) fun s20 =>
  rd_c (gR s20 a0 0) fun b21 =>
  rd_np w18 <|
  rd_b (F_X5_init (rd_push w18 5 0) (w18.1 + 1) s20) fun w24 s23 =>
  rd_i (((0 + 1) + 1) + 1) (w24.2.2 b21) <|
  rd_let (pR s23 b21 (((0 + 1) + 1) + 1 : Int32).toNatClampNeg (some (w18.1 + 1))) fun s26 =>
  rd_c (gR s26 a0 0) fun b27 =>
  rd_np w24 <|
  rd_b (F_X5_init (rd_push w24 5 0) (w24.1 + 1) s26) fun w30 s29 =>
  rd_i ((((0 + 1) + 1) + 1) + 1) (w30.2.2 b27) <|
  rd_let (pR s29 b27 ((((0 + 1) + 1) + 1) + 1 : Int32).toNatClampNeg (some (w24.1 + 1))) fun s32 =>
  rd_c (gR s32 a0 0) fun b33 =>
  rd_np w30 <|
  rd_b (F_X5_init (rd_push w30 5 0) (w30.1 + 1) s32) fun w36 s35 =>
  rd_i (((((0 + 1) + 1) + 1) + 1) + 1) (w36.2.2 b33) <|
  rd_let (pR s35 b33 (((((0 + 1) + 1) + 1) + 1) + 1 : Int32).toNatClampNeg (some (w30.1 + 1))) fun s38 =>
  rd_c (gR s38 a0 0) fun b39 =>
  rd_np w36 <|
  rd_b (F_X5_init (rd_push w36 5 0) (w36.1 + 1) s38) fun w42 s41 =>
  rd_i ((((((0 + 1) + 1) + 1) + 1) + 1) + 1) (w42.2.2 b39) <|
  rd_let (pR s41 b39 ((((((0 + 1) + 1) + 1) + 1) + 1) + 1 : Int32).toNatClampNeg (some (w36.1 + 1))) fun s44 =>
  rd_c (gR s44 a0 0) fun b45 =>
  rd_np w42 <|
  rd_b (F_X5_init (rd_push w42 5 0) (w42.1 + 1) s44) fun w48 s47 =>
  rd_i (((((((0 + 1) + 1) + 1) + 1) + 1) + 1) + 1) (w48.2.2 b45) <|
  rd_let (pR s47 b45 (((((((0 + 1) + 1) + 1) + 1) + 1) + 1) + 1 : Int32).toNatClampNeg (some (w42.1 + 1))) fun s50 =>
  some (w48, s50)
theorem ym_X6_init (cx : rd_Cx) (w : rd_W) (a0 : Nat) (ha0 : rd_ok w a0 6) (S : rd_S) : rd_Y cx G_X6_init (fun r => rd_P cx G_X6_init.2.2.2.2.2 0 w (rd_rC r)) (F_X6_init w a0 S) 0 (rd_as 0 [.inr (some a0)]) [] w S 0 0 := by
  unfold F_X6_init
  refine ry_aload_n dX6_init_0 rfl ?_
  refine ry_objinit dX6_init_1 ha0 ml_RX6_1 ob_inst ob_code (by decide) (Nat.le_of_ble_eq_true rfl) ?_
  refine ry_aload_n dX6_init_4 rfl ?_
  refine ry_bipush (v := 8) dX6_init_5 (by decide) ?_
  refine ry_newq 8 dX6_init_7 kl_RX6_9 (Nat.le_of_ble_eq_true rfl) (Nat.le_of_ble_eq_true rfl) (Nat.le_of_ble_eq_true rfl) (fun h1 => ?_)
  refine ry_putFr dX6_init_10 rfl rfl (ha0.le (rd_push_le _ _ _)) h1 fl_RX6_11 rfl rfl rfl (fun _ => rfl) (fun _ => rfl) ?_
  refine ry_letS (fun s2 => ?_)
  refine ry_iconst (v := 0) dX6_init_13 (by decide) ?_
  refine ry_istore_n dX6_init_14 (by decide) ?_
  refine ry_iload_n dX6_init_15 rfl ?_
  refine ry_bipush (v := 8) dX6_init_16 (by decide) ?_
  refine ry_ite (ry_icmp_ge 40 dX6_init_18 (by decide) (fun h => absurd h (by decide)) (fun _ => ?_))
  refine ry_aload_n dX6_init_21 rfl ?_
  refine ry_getr dX6_init_22 (ha0.le (rd_push_le _ _ _)) fl_RX6_11 rfl (fun b3 hb3 => ?_)
  refine ry_iload_n dX6_init_25 rfl ?_
  refine ry_new dX6_init_26 cl_5 kl_RX6_9 ci_5 cn_5 cd_5 (Nat.le_of_ble_eq_true rfl) (Nat.le_of_ble_eq_true rfl) (fun h4 => ?_)
  refine ry_dup dX6_init_29 ?_
  refine ry_callC 6 157 (fun l r9 h9 => cm_X5_init l cx (rd_push (rd_push w 14 (8 : Int32).toNatClampNeg) 5 0) ((rd_push w 14 (8 : Int32).toNatClampNeg).1 + 1) h4 s2 r9 h9) (rd_runIN (vs := []) dX6_init_30 h4 yf_X5_init rfl rfl mi_X5_init mn_RX6_15 ⟨Nat.le_of_ble_eq_true rfl, Nat.le_of_ble_eq_true rfl⟩ (Nat.le_of_ble_eq_true rfl) rfl) rfl rfl (Nat.le_of_ble_eq_true rfl) (Nat.le_of_ble_eq_true rfl) (fun w6 s5 l7 => ?_)
  refine ry_aast dX6_init_33 ((hb3.le (rd_push_le _ _ _)).le l7) (h4.le l7) ?_
  refine ry_letS (fun s8 => ?_)
  refine ry_iinc (v := 1) dX6_init_34 rfl (by decide) (by decide) ?_
  refine ry_goto 15 dX6_init_37 (by decide) ?_
  refine ry_iload_n dX6_init_15 rfl ?_
  refine ry_bipush (v := 8) dX6_init_16 (by decide) ?_
  refine ry_ite (ry_icmp_ge 40 dX6_init_18 (by decide) (fun h => absurd h (by decide)) (fun _ => ?_))
  refine ry_aload_n dX6_init_21 rfl ?_
  refine ry_getr dX6_init_22 (((ha0.le (rd_push_le _ _ _)).le (rd_push_le _ _ _)).le l7) fl_RX6_11 rfl (fun b9 hb9 => ?_)
  refine ry_iload_n dX6_init_25 rfl ?_
  refine ry_new dX6_init_26 cl_5 kl_RX6_9 ci_5 cn_5 cd_5 (Nat.le_of_ble_eq_true rfl) (Nat.le_of_ble_eq_true rfl) (fun h10 => ?_)
  refine ry_dup dX6_init_29 ?_
  refine ry_callC 11 306 (fun l r9 h9 => cm_X5_init l cx (rd_push w6 5 0) (w6.1 + 1) h10 s8 r9 h9) (rd_runIN (vs := []) dX6_init_30 h10 yf_X5_init rfl rfl mi_X5_init mn_RX6_15 ⟨Nat.le_of_ble_eq_true rfl, Nat.le_of_ble_eq_true rfl⟩ (Nat.le_of_ble_eq_true rfl) rfl) rfl rfl (Nat.le_of_ble_eq_true rfl) (Nat.le_of_ble_eq_true rfl) (fun w12 s11 l13 => ?_)
  refine ry_aast dX6_init_33 ((hb9.le (rd_push_le _ _ _)).le l13) (h10.le l13) ?_
  refine ry_letS (fun s14 => ?_)
  refine ry_iinc (v := 1) dX6_init_34 rfl (by decide) (by decide) ?_
  refine ry_goto 15 dX6_init_37 (by decide) ?_
  refine ry_iload_n dX6_init_15 rfl ?_
  refine ry_bipush (v := 8) dX6_init_16 (by decide) ?_
  refine ry_ite (ry_icmp_ge 40 dX6_init_18 (by decide) (fun h => absurd h (by decide)) (fun _ => ?_))
  refine ry_aload_n dX6_init_21 rfl ?_
  refine ry_getr dX6_init_22 (((((ha0.le (rd_push_le _ _ _)).le (rd_push_le _ _ _)).le l7).le (rd_push_le _ _ _)).le l13) fl_RX6_11 rfl (fun b15 hb15 => ?_)
  refine ry_iload_n dX6_init_25 rfl ?_
  refine ry_new dX6_init_26 cl_5 kl_RX6_9 ci_5 cn_5 cd_5 (Nat.le_of_ble_eq_true rfl) (Nat.le_of_ble_eq_true rfl) (fun h16 => ?_)
  refine ry_dup dX6_init_29 ?_
  refine ry_callC 16 455 (fun l r9 h9 => cm_X5_init l cx (rd_push w12 5 0) (w12.1 + 1) h16 s14 r9 h9) (rd_runIN (vs := []) dX6_init_30 h16 yf_X5_init rfl rfl mi_X5_init mn_RX6_15 ⟨Nat.le_of_ble_eq_true rfl, Nat.le_of_ble_eq_true rfl⟩ (Nat.le_of_ble_eq_true rfl) rfl) rfl rfl (Nat.le_of_ble_eq_true rfl) (Nat.le_of_ble_eq_true rfl) (fun w18 s17 l19 => ?_)
  refine ry_aast dX6_init_33 ((hb15.le (rd_push_le _ _ _)).le l19) (h16.le l19) ?_
  refine ry_letS (fun s20 => ?_)
  refine ry_iinc (v := 1) dX6_init_34 rfl (by decide) (by decide) ?_
  refine ry_goto 15 dX6_init_37 (by decide) ?_
  refine ry_iload_n dX6_init_15 rfl ?_
  refine ry_bipush (v := 8) dX6_init_16 (by decide) ?_
  refine ry_ite (ry_icmp_ge 40 dX6_init_18 (by decide) (fun h => absurd h (by decide)) (fun _ => ?_))
  refine ry_aload_n dX6_init_21 rfl ?_
  refine ry_getr dX6_init_22 (((((((ha0.le (rd_push_le _ _ _)).le (rd_push_le _ _ _)).le l7).le (rd_push_le _ _ _)).le l13).le (rd_push_le _ _ _)).le l19) fl_RX6_11 rfl (fun b21 hb21 => ?_)
  refine ry_iload_n dX6_init_25 rfl ?_
  refine ry_new dX6_init_26 cl_5 kl_RX6_9 ci_5 cn_5 cd_5 (Nat.le_of_ble_eq_true rfl) (Nat.le_of_ble_eq_true rfl) (fun h22 => ?_)
  refine ry_dup dX6_init_29 ?_
  refine ry_callC 21 604 (fun l r9 h9 => cm_X5_init l cx (rd_push w18 5 0) (w18.1 + 1) h22 s20 r9 h9) (rd_runIN (vs := []) dX6_init_30 h22 yf_X5_init rfl rfl mi_X5_init mn_RX6_15 ⟨Nat.le_of_ble_eq_true rfl, Nat.le_of_ble_eq_true rfl⟩ (Nat.le_of_ble_eq_true rfl) rfl) rfl rfl (Nat.le_of_ble_eq_true rfl) (Nat.le_of_ble_eq_true rfl) (fun w24 s23 l25 => ?_)
  refine ry_aast dX6_init_33 ((hb21.le (rd_push_le _ _ _)).le l25) (h22.le l25) ?_
  refine ry_letS (fun s26 => ?_)
  refine ry_iinc (v := 1) dX6_init_34 rfl (by decide) (by decide) ?_
  refine ry_goto 15 dX6_init_37 (by decide) ?_
  refine ry_iload_n dX6_init_15 rfl ?_
  refine ry_bipush (v := 8) dX6_init_16 (by decide) ?_
  refine ry_ite (ry_icmp_ge 40 dX6_init_18 (by decide) (fun h => absurd h (by decide)) (fun _ => ?_))
  refine ry_aload_n dX6_init_21 rfl ?_
  refine ry_getr dX6_init_22 (((((((((ha0.le (rd_push_le _ _ _)).le (rd_push_le _ _ _)).le l7).le (rd_push_le _ _ _)).le l13).le (rd_push_le _ _ _)).le l19).le (rd_push_le _ _ _)).le l25) fl_RX6_11 rfl (fun b27 hb27 => ?_)
  refine ry_iload_n dX6_init_25 rfl ?_
  refine ry_new dX6_init_26 cl_5 kl_RX6_9 ci_5 cn_5 cd_5 (Nat.le_of_ble_eq_true rfl) (Nat.le_of_ble_eq_true rfl) (fun h28 => ?_)
  refine ry_dup dX6_init_29 ?_
  refine ry_callC 26 753 (fun l r9 h9 => cm_X5_init l cx (rd_push w24 5 0) (w24.1 + 1) h28 s26 r9 h9) (rd_runIN (vs := []) dX6_init_30 h28 yf_X5_init rfl rfl mi_X5_init mn_RX6_15 ⟨Nat.le_of_ble_eq_true rfl, Nat.le_of_ble_eq_true rfl⟩ (Nat.le_of_ble_eq_true rfl) rfl) rfl rfl (Nat.le_of_ble_eq_true rfl) (Nat.le_of_ble_eq_true rfl) (fun w30 s29 l31 => ?_)
  refine ry_aast dX6_init_33 ((hb27.le (rd_push_le _ _ _)).le l31) (h28.le l31) ?_
  refine ry_letS (fun s32 => ?_)
  refine ry_iinc (v := 1) dX6_init_34 rfl (by decide) (by decide) ?_
  refine ry_goto 15 dX6_init_37 (by decide) ?_
  refine ry_iload_n dX6_init_15 rfl ?_
  refine ry_bipush (v := 8) dX6_init_16 (by decide) ?_
  refine ry_ite (ry_icmp_ge 40 dX6_init_18 (by decide) (fun h => absurd h (by decide)) (fun _ => ?_))
  refine ry_aload_n dX6_init_21 rfl ?_
  refine ry_getr dX6_init_22 (((((((((((ha0.le (rd_push_le _ _ _)).le (rd_push_le _ _ _)).le l7).le (rd_push_le _ _ _)).le l13).le (rd_push_le _ _ _)).le l19).le (rd_push_le _ _ _)).le l25).le (rd_push_le _ _ _)).le l31) fl_RX6_11 rfl (fun b33 hb33 => ?_)
  refine ry_iload_n dX6_init_25 rfl ?_
  refine ry_new dX6_init_26 cl_5 kl_RX6_9 ci_5 cn_5 cd_5 (Nat.le_of_ble_eq_true rfl) (Nat.le_of_ble_eq_true rfl) (fun h34 => ?_)
  refine ry_dup dX6_init_29 ?_
  refine ry_callC 31 902 (fun l r9 h9 => cm_X5_init l cx (rd_push w30 5 0) (w30.1 + 1) h34 s32 r9 h9) (rd_runIN (vs := []) dX6_init_30 h34 yf_X5_init rfl rfl mi_X5_init mn_RX6_15 ⟨Nat.le_of_ble_eq_true rfl, Nat.le_of_ble_eq_true rfl⟩ (Nat.le_of_ble_eq_true rfl) rfl) rfl rfl (Nat.le_of_ble_eq_true rfl) (Nat.le_of_ble_eq_true rfl) (fun w36 s35 l37 => ?_)
  refine ry_aast dX6_init_33 ((hb33.le (rd_push_le _ _ _)).le l37) (h34.le l37) ?_
  refine ry_letS (fun s38 => ?_)
  refine ry_iinc (v := 1) dX6_init_34 rfl (by decide) (by decide) ?_
  refine ry_goto 15 dX6_init_37 (by decide) ?_
  refine ry_iload_n dX6_init_15 rfl ?_
  refine ry_bipush (v := 8) dX6_init_16 (by decide) ?_
  refine ry_ite (ry_icmp_ge 40 dX6_init_18 (by decide) (fun h => absurd h (by decide)) (fun _ => ?_))
  refine ry_aload_n dX6_init_21 rfl ?_
  refine ry_getr dX6_init_22 (((((((((((((ha0.le (rd_push_le _ _ _)).le (rd_push_le _ _ _)).le l7).le (rd_push_le _ _ _)).le l13).le (rd_push_le _ _ _)).le l19).le (rd_push_le _ _ _)).le l25).le (rd_push_le _ _ _)).le l31).le (rd_push_le _ _ _)).le l37) fl_RX6_11 rfl (fun b39 hb39 => ?_)
  refine ry_iload_n dX6_init_25 rfl ?_
  refine ry_new dX6_init_26 cl_5 kl_RX6_9 ci_5 cn_5 cd_5 (Nat.le_of_ble_eq_true rfl) (Nat.le_of_ble_eq_true rfl) (fun h40 => ?_)
  refine ry_dup dX6_init_29 ?_
  refine ry_callC 36 1051 (fun l r9 h9 => cm_X5_init l cx (rd_push w36 5 0) (w36.1 + 1) h40 s38 r9 h9) (rd_runIN (vs := []) dX6_init_30 h40 yf_X5_init rfl rfl mi_X5_init mn_RX6_15 ⟨Nat.le_of_ble_eq_true rfl, Nat.le_of_ble_eq_true rfl⟩ (Nat.le_of_ble_eq_true rfl) rfl) rfl rfl (Nat.le_of_ble_eq_true rfl) (Nat.le_of_ble_eq_true rfl) (fun w42 s41 l43 => ?_)
  refine ry_aast dX6_init_33 ((hb39.le (rd_push_le _ _ _)).le l43) (h40.le l43) ?_
  refine ry_letS (fun s44 => ?_)
  refine ry_iinc (v := 1) dX6_init_34 rfl (by decide) (by decide) ?_
  refine ry_goto 15 dX6_init_37 (by decide) ?_
  refine ry_iload_n dX6_init_15 rfl ?_
  refine ry_bipush (v := 8) dX6_init_16 (by decide) ?_
  refine ry_ite (ry_icmp_ge 40 dX6_init_18 (by decide) (fun h => absurd h (by decide)) (fun _ => ?_))
  refine ry_aload_n dX6_init_21 rfl ?_
  refine ry_getr dX6_init_22 (((((((((((((((ha0.le (rd_push_le _ _ _)).le (rd_push_le _ _ _)).le l7).le (rd_push_le _ _ _)).le l13).le (rd_push_le _ _ _)).le l19).le (rd_push_le _ _ _)).le l25).le (rd_push_le _ _ _)).le l31).le (rd_push_le _ _ _)).le l37).le (rd_push_le _ _ _)).le l43) fl_RX6_11 rfl (fun b45 hb45 => ?_)
  refine ry_iload_n dX6_init_25 rfl ?_
  refine ry_new dX6_init_26 cl_5 kl_RX6_9 ci_5 cn_5 cd_5 (Nat.le_of_ble_eq_true rfl) (Nat.le_of_ble_eq_true rfl) (fun h46 => ?_)
  refine ry_dup dX6_init_29 ?_
  refine ry_callC 41 1200 (fun l r9 h9 => cm_X5_init l cx (rd_push w42 5 0) (w42.1 + 1) h46 s44 r9 h9) (rd_runIN (vs := []) dX6_init_30 h46 yf_X5_init rfl rfl mi_X5_init mn_RX6_15 ⟨Nat.le_of_ble_eq_true rfl, Nat.le_of_ble_eq_true rfl⟩ (Nat.le_of_ble_eq_true rfl) rfl) rfl rfl (Nat.le_of_ble_eq_true rfl) (Nat.le_of_ble_eq_true rfl) (fun w48 s47 l49 => ?_)
  refine ry_aast dX6_init_33 ((hb45.le (rd_push_le _ _ _)).le l49) (h46.le l49) ?_
  refine ry_letS (fun s50 => ?_)
  refine ry_iinc (v := 1) dX6_init_34 rfl (by decide) (by decide) ?_
  refine ry_goto 15 dX6_init_37 (by decide) ?_
  refine ry_iload_n dX6_init_15 rfl ?_
  refine ry_bipush (v := 8) dX6_init_16 (by decide) ?_
  refine ry_ite (ry_icmp_ge 40 dX6_init_18 (by decide) (fun _ => ?_) (fun h => absurd (by decide) h))
  exact ry_cret dX6_init_40 rfl (((((((((((((((((rd_push_le _ _ _).tr (rd_push_le _ _ _)).tr l7).tr (rd_push_le _ _ _)).tr l13).tr (rd_push_le _ _ _)).tr l19).tr (rd_push_le _ _ _)).tr l25).tr (rd_push_le _ _ _)).tr l31).tr (rd_push_le _ _ _)).tr l37).tr (rd_push_le _ _ _)).tr l43).tr (rd_push_le _ _ _)).tr l49) (Nat.le_of_ble_eq_true rfl) (Nat.le_of_ble_eq_true rfl)
theorem cm_X6_init (l : Launch) (cx : rd_Cx) (w : rd_W) (a0 : Nat) (ha0 : rd_ok w a0 6) (S : rd_S) (r : rd_W × rd_S) (h : F_X6_init w a0 S = some r) : rd_M l cx yX6_init G_X6_init 0 [.inr (some a0)] w S (rd_rC r) :=
  rd_enter (plainFor_of_name (by decide +kernel)) rfl (fun _ => rfl) (Nat.le_of_ble_eq_true rfl) (ym_X6_init cx w a0 ha0 S r h)
abbrev G_X9_init : rd_G := (RX9, cX9_init, 1, none, true, { frames := 1, cells := 1, slots := 8, locals := 40 })
theorem yf_X9_init : rd_YL yX9_init G_X9_init 0 := ⟨rd_mem 339 (by decide +kernel) rfl, rd_mem 74 (by decide +kernel) rfl, by decide +kernel, by decide +kernel, by decide +kernel⟩
theorem mi_X9_init : Cond.instanceMethod yX9_init ∈ rd_gw := rd_mem 338 (by decide +kernel) rfl
theorem dX9_init_0 : decode cX9_init 0 = .ok (.aload_n 0, 1) := by decide +kernel
theorem dX9_init_1 : decode cX9_init 1 = .ok (.invokespecial 3, 3) := by decide +kernel
theorem dX9_init_4 : decode cX9_init 4 = .ok (.aload_n 0, 1) := by decide +kernel
theorem dX9_init_5 : decode cX9_init 5 = .ok (.bipush 8, 2) := by decide +kernel
theorem dX9_init_7 : decode cX9_init 7 = .ok (.newarray .int, 2) := by decide +kernel
theorem dX9_init_9 : decode cX9_init 9 = .ok (.putfield 11, 3) := by decide +kernel
theorem dX9_init_12 : decode cX9_init 12 = .ok (.aload_n 0, 1) := by decide +kernel
theorem dX9_init_13 : decode cX9_init 13 = .ok (.getfield 11, 3) := by decide +kernel
theorem dX9_init_16 : decode cX9_init 16 = .ok (.iconst (-1), 1) := by decide +kernel
theorem dX9_init_17 : decode cX9_init 17 = .ok (.invokestatic 15, 3) := by decide +kernel
theorem dX9_init_20 : decode cX9_init 20 = .ok (.return_, 1) := by decide +kernel
def F_X9_init (w : rd_W) (a0 : Nat) (S : rd_S) : Option (rd_W × rd_S) :=
  rd_na 8 8 <| rd_np w <|
  rd_let (pR S a0 0 (some (w.1 + 1))) fun s2 =>
  rd_c (gR s2 a0 0) fun b3 =>
  rd_c (F_J7_fill_53178 (rd_push w 13 (8 : Int32).toNatClampNeg) b3 (-1) s2) fun s4 =>
  some (rd_push w 13 (8 : Int32).toNatClampNeg, s4)
theorem ym_X9_init (cx : rd_Cx) (w : rd_W) (a0 : Nat) (ha0 : rd_ok w a0 9) (S : rd_S) : rd_Y cx G_X9_init (fun r => rd_P cx G_X9_init.2.2.2.2.2 0 w (rd_rC r)) (F_X9_init w a0 S) 0 (rd_as 0 [.inr (some a0)]) [] w S 0 0 := by
  unfold F_X9_init
  refine ry_aload_n dX9_init_0 rfl ?_
  refine ry_objinit dX9_init_1 ha0 ml_RX9_3 ob_inst ob_code (by decide) (Nat.le_of_ble_eq_true rfl) ?_
  refine ry_aload_n dX9_init_4 rfl ?_
  refine ry_bipush (v := 8) dX9_init_5 (by decide) ?_
  refine ry_newa 8 dX9_init_7 ar_int (Nat.le_of_ble_eq_true rfl) (Nat.le_of_ble_eq_true rfl) (Nat.le_of_ble_eq_true rfl) (fun h1 => ?_)
  refine ry_putFr dX9_init_9 rfl rfl (ha0.le (rd_push_le _ _ _)) h1 fl_RX9_11 rfl rfl rfl (fun _ => rfl) (fun _ => rfl) ?_
  refine ry_letS (fun s2 => ?_)
  refine ry_aload_n dX9_init_12 rfl ?_
  refine ry_getr dX9_init_13 (ha0.le (rd_push_le _ _ _)) fl_RX9_11 rfl (fun b3 hb3 => ?_)
  refine ry_iconst (v := (-1)) dX9_init_16 (by decide) ?_
  refine ry_callv (fun l r9 h9 => cm_J7_fill_53178 l cx (rd_push w 13 (8 : Int32).toNatClampNeg) b3 (-1) hb3 s2 r9 h9) (rd_runS (vs := [.inr (some b3), .inl (-1)]) dX9_init_17 yf_J7_fill_53178 mt_J7_fill_53178 ml_RX9_15 ⟨Nat.le_of_ble_eq_true rfl, Nat.le_of_ble_eq_true rfl⟩ (Nat.le_of_ble_eq_true rfl) rfl) rfl rfl (Nat.le_of_ble_eq_true rfl) (Nat.le_of_ble_eq_true rfl) (fun s4 => ?_)
  exact ry_cret dX9_init_20 rfl (rd_push_le _ _ _) (Nat.le_of_ble_eq_true rfl) (Nat.le_of_ble_eq_true rfl)
theorem cm_X9_init (l : Launch) (cx : rd_Cx) (w : rd_W) (a0 : Nat) (ha0 : rd_ok w a0 9) (S : rd_S) (r : rd_W × rd_S) (h : F_X9_init w a0 S = some r) : rd_M l cx yX9_init G_X9_init 0 [.inr (some a0)] w S (rd_rC r) :=
  rd_enter (plainFor_of_name (by decide +kernel)) rfl (fun _ => rfl) (Nat.le_of_ble_eq_true rfl) (ym_X9_init cx w a0 ha0 S r h)
abbrev G_X8_init : rd_G := (RX8, cX8_init, 1, none, true, { frames := 4, cells := 62, slots := 1721, locals := 104 })
theorem yf_X8_init : rd_YL yX8_init G_X8_init 0 := ⟨rd_mem 194 (by decide +kernel) rfl, rd_mem 67 (by decide +kernel) rfl, by decide +kernel, by decide +kernel, by decide +kernel⟩
theorem mi_X8_init : Cond.instanceMethod yX8_init ∈ rd_gw := rd_mem 193 (by decide +kernel) rfl
theorem dX8_init_0 : decode cX8_init 0 = .ok (.aload_n 0, 1) := by decide +kernel
theorem dX8_init_1 : decode cX8_init 1 = .ok (.invokespecial 3, 3) := by decide +kernel
theorem dX8_init_4 : decode cX8_init 4 = .ok (.aload_n 0, 1) := by decide +kernel
theorem dX8_init_5 : decode cX8_init 5 = .ok (.bipush 10, 2) := by decide +kernel
theorem dX8_init_7 : decode cX8_init 7 = .ok (.newarray .int, 2) := by decide +kernel
theorem dX8_init_9 : decode cX8_init 9 = .ok (.putfield 11, 3) := by decide +kernel
theorem dX8_init_12 : decode cX8_init 12 = .ok (.aload_n 0, 1) := by decide +kernel
theorem dX8_init_13 : decode cX8_init 13 = .ok (.new 15, 3) := by decide +kernel
theorem dX8_init_16 : decode cX8_init 16 = .ok (.dup, 1) := by decide +kernel
theorem dX8_init_17 : decode cX8_init 17 = .ok (.iconst 4, 1) := by decide +kernel
theorem dX8_init_18 : decode cX8_init 18 = .ok (.iconst 2, 1) := by decide +kernel
theorem dX8_init_19 : decode cX8_init 19 = .ok (.iconst (-1), 1) := by decide +kernel
theorem dX8_init_20 : decode cX8_init 20 = .ok (.invokespecial 17, 3) := by decide +kernel
theorem dX8_init_23 : decode cX8_init 23 = .ok (.putfield 20, 3) := by decide +kernel
theorem dX8_init_26 : decode cX8_init 26 = .ok (.aload_n 0, 1) := by decide +kernel
theorem dX8_init_27 : decode cX8_init 27 = .ok (.new 15, 3) := by decide +kernel
theorem dX8_init_30 : decode cX8_init 30 = .ok (.dup, 1) := by decide +kernel
theorem dX8_init_31 : decode cX8_init 31 = .ok (.bipush 16, 2) := by decide +kernel
theorem dX8_init_33 : decode cX8_init 33 = .ok (.iconst 4, 1) := by decide +kernel
theorem dX8_init_34 : decode cX8_init 34 = .ok (.bipush 13, 2) := by decide +kernel
theorem dX8_init_36 : decode cX8_init 36 = .ok (.invokespecial 17, 3) := by decide +kernel
theorem dX8_init_39 : decode cX8_init 39 = .ok (.putfield 24, 3) := by decide +kernel
theorem dX8_init_42 : decode cX8_init 42 = .ok (.aload_n 0, 1) := by decide +kernel
theorem dX8_init_43 : decode cX8_init 43 = .ok (.new 15, 3) := by decide +kernel
theorem dX8_init_46 : decode cX8_init 46 = .ok (.dup, 1) := by decide +kernel
theorem dX8_init_47 : decode cX8_init 47 = .ok (.iconst 2, 1) := by decide +kernel
theorem dX8_init_48 : decode cX8_init 48 = .ok (.iconst 4, 1) := by decide +kernel
theorem dX8_init_49 : decode cX8_init 49 = .ok (.iconst (-1), 1) := by decide +kernel
theorem dX8_init_50 : decode cX8_init 50 = .ok (.invokespecial 17, 3) := by decide +kernel
theorem dX8_init_53 : decode cX8_init 53 = .ok (.putfield 27, 3) := by decide +kernel
theorem dX8_init_56 : decode cX8_init 56 = .ok (.aload_n 0, 1) := by decide +kernel
theorem dX8_init_57 : decode cX8_init 57 = .ok (.new 30, 3) := by decide +kernel
theorem dX8_init_60 : decode cX8_init 60 = .ok (.dup, 1) := by decide +kernel
theorem dX8_init_61 : decode cX8_init 61 = .ok (.invokespecial 32, 3) := by decide +kernel
theorem dX8_init_64 : decode cX8_init 64 = .ok (.putfield 33, 3) := by decide +kernel
theorem dX8_init_67 : decode cX8_init 67 = .ok (.aload_n 0, 1) := by decide +kernel
theorem dX8_init_68 : decode cX8_init 68 = .ok (.new 37, 3) := by decide +kernel
theorem dX8_init_71 : decode cX8_init 71 = .ok (.dup, 1) := by decide +kernel
theorem dX8_init_72 : decode cX8_init 72 = .ok (.invokespecial 39, 3) := by decide +kernel
theorem dX8_init_75 : decode cX8_init 75 = .ok (.putfield 40, 3) := by decide +kernel
theorem dX8_init_78 : decode cX8_init 78 = .ok (.aload_n 0, 1) := by decide +kernel
theorem dX8_init_79 : decode cX8_init 79 = .ok (.new 44, 3) := by decide +kernel
theorem dX8_init_82 : decode cX8_init 82 = .ok (.dup, 1) := by decide +kernel
theorem dX8_init_83 : decode cX8_init 83 = .ok (.invokespecial 46, 3) := by decide +kernel
theorem dX8_init_86 : decode cX8_init 86 = .ok (.putfield 47, 3) := by decide +kernel
theorem dX8_init_89 : decode cX8_init 89 = .ok (.aload_n 0, 1) := by decide +kernel
theorem dX8_init_90 : decode cX8_init 90 = .ok (.new 51, 3) := by decide +kernel
theorem dX8_init_93 : decode cX8_init 93 = .ok (.dup, 1) := by decide +kernel
theorem dX8_init_94 : decode cX8_init 94 = .ok (.invokespecial 53, 3) := by decide +kernel
theorem dX8_init_97 : decode cX8_init 97 = .ok (.putfield 54, 3) := by decide +kernel
theorem dX8_init_100 : decode cX8_init 100 = .ok (.aload_n 0, 1) := by decide +kernel
theorem dX8_init_101 : decode cX8_init 101 = .ok (.new 58, 3) := by decide +kernel
theorem dX8_init_104 : decode cX8_init 104 = .ok (.dup, 1) := by decide +kernel
theorem dX8_init_105 : decode cX8_init 105 = .ok (.invokespecial 60, 3) := by decide +kernel
theorem dX8_init_108 : decode cX8_init 108 = .ok (.putfield 61, 3) := by decide +kernel
theorem dX8_init_111 : decode cX8_init 111 = .ok (.aload_n 0, 1) := by decide +kernel
theorem dX8_init_112 : decode cX8_init 112 = .ok (.getfield 11, 3) := by decide +kernel
theorem dX8_init_115 : decode cX8_init 115 = .ok (.iconst (-1), 1) := by decide +kernel
theorem dX8_init_116 : decode cX8_init 116 = .ok (.invokestatic 65, 3) := by decide +kernel
theorem dX8_init_119 : decode cX8_init 119 = .ok (.return_, 1) := by decide +kernel
def F_X8_init (w : rd_W) (a0 : Nat) (S : rd_S) : Option (rd_W × rd_S) :=
  rd_na 10 10 <| rd_np w <|
  rd_let (pR S a0 0 (some (w.1 + 1))) fun s2 =>
  rd_np (rd_push w 13 (10 : Int32).toNatClampNeg) <|
  rd_b (F_X1_init (rd_push (rd_push w 13 (10 : Int32).toNatClampNeg) 1 0) ((rd_push w 13 (10 : Int32).toNatClampNeg).1 + 1) 4 2 (-1) s2) fun w5 s4 =>
  rd_let (pR s4 a0 1 (some ((rd_push w 13 (10 : Int32).toNatClampNeg).1 + 1))) fun s7 =>
  rd_np w5 <|
  rd_b (F_X1_init (rd_push w5 1 0) (w5.1 + 1) 16 4 13 s7) fun w10 s9 =>
  rd_let (pR s9 a0 2 (some (w5.1 + 1))) fun s12 =>
  rd_np w10 <|
  rd_b (F_X1_init (rd_push w10 1 0) (w10.1 + 1) 2 4 (-1) s12) fun w15 s14 =>
  rd_let (pR s14 a0 3 (some (w10.1 + 1))) fun s17 =>
  rd_np w15 <|
  rd_b (F_X2_init (rd_push w15 2 0) (w15.1 + 1) s17) fun w20 s19 =>
  rd_let (pR s19 a0 4 (some (w15.1 + 1))) fun s22 =>
  rd_np w20 <|
  rd_b (F_X0_init (rd_push w20 0 0) (w20.1 + 1) s22) fun w25 s24 =>
  rd_let (pR s24 a0 5 (some (w20.1 + 1))) fun s27 =>
  rd_np w25 <|
  rd_b (F_X4_init (rd_push w25 4 0) (w25.1 + 1) s27) fun w30 s29 =>
  rd_let (pR s29 a0 6 (some (w25.1 + 1))) fun s32 =>
  rd_np w30 <|
  rd_b (F_X6_init (rd_push w30 6 0) (w30.1 + 1) s32) fun w35 s34 =>
  rd_let (pR s34 a0 7 (some (w30.1 + 1))) fun s37 =>
  rd_np w35 <|
  rd_b (F_X9_init (rd_push w35 9 0) (w35.1 + 1) s37) fun w40 s39 =>
  rd_let (pR s39 a0 8 (some (w35.1 + 1))) fun s42 =>
  rd_c (gR s42 a0 0) fun b43 =>
  rd_c (F_J7_fill_53178 w40 b43 (-1) s42) fun s44 =>
  some (w40, s44)
theorem ym_X8_init (cx : rd_Cx) (w : rd_W) (a0 : Nat) (ha0 : rd_ok w a0 8) (S : rd_S) : rd_Y cx G_X8_init (fun r => rd_P cx G_X8_init.2.2.2.2.2 0 w (rd_rC r)) (F_X8_init w a0 S) 0 (rd_as 0 [.inr (some a0)]) [] w S 0 0 := by
  unfold F_X8_init
  refine ry_aload_n dX8_init_0 rfl ?_
  refine ry_objinit dX8_init_1 ha0 ml_RX8_3 ob_inst ob_code (by decide) (Nat.le_of_ble_eq_true rfl) ?_
  refine ry_aload_n dX8_init_4 rfl ?_
  refine ry_bipush (v := 10) dX8_init_5 (by decide) ?_
  refine ry_newa 10 dX8_init_7 ar_int (Nat.le_of_ble_eq_true rfl) (Nat.le_of_ble_eq_true rfl) (Nat.le_of_ble_eq_true rfl) (fun h1 => ?_)
  refine ry_putFr dX8_init_9 rfl rfl (ha0.le (rd_push_le _ _ _)) h1 fl_RX8_11 rfl rfl rfl (fun _ => rfl) (fun _ => rfl) ?_
  refine ry_letS (fun s2 => ?_)
  refine ry_aload_n dX8_init_12 rfl ?_
  refine ry_new dX8_init_13 cl_1 kl_RX8_15 ci_1 cn_1 cd_1 (Nat.le_of_ble_eq_true rfl) (Nat.le_of_ble_eq_true rfl) (fun h3 => ?_)
  refine ry_dup dX8_init_16 ?_
  refine ry_iconst (v := 4) dX8_init_17 (by decide) ?_
  refine ry_iconst (v := 2) dX8_init_18 (by decide) ?_
  refine ry_iconst (v := (-1)) dX8_init_19 (by decide) ?_
  refine ry_callC 4 146 (fun l r9 h9 => cm_X1_init l cx (rd_push (rd_push w 13 (10 : Int32).toNatClampNeg) 1 0) ((rd_push w 13 (10 : Int32).toNatClampNeg).1 + 1) 4 2 (-1) h3 s2 r9 h9) (rd_runI (vs := [.inl 4, .inl 2, .inl (-1)]) dX8_init_20 h3 yf_X1_init rfl rfl mi_X1_init ml_RX8_17 ⟨Nat.le_of_ble_eq_true rfl, Nat.le_of_ble_eq_true rfl⟩ (Nat.le_of_ble_eq_true rfl) rfl) rfl rfl (Nat.le_of_ble_eq_true rfl) (Nat.le_of_ble_eq_true rfl) (fun w5 s4 l6 => ?_)
  refine ry_putFr dX8_init_23 rfl rfl (((ha0.le (rd_push_le _ _ _)).le (rd_push_le _ _ _)).le l6) (h3.le l6) fl_RX8_20 rfl rfl rfl (fun _ => rfl) (fun _ => rfl) ?_
  refine ry_letS (fun s7 => ?_)
  refine ry_aload_n dX8_init_26 rfl ?_
  refine ry_new dX8_init_27 cl_1 kl_RX8_15 ci_1 cn_1 cd_1 (Nat.le_of_ble_eq_true rfl) (Nat.le_of_ble_eq_true rfl) (fun h8 => ?_)
  refine ry_dup dX8_init_30 ?_
  refine ry_bipush (v := 16) dX8_init_31 (by decide) ?_
  refine ry_iconst (v := 4) dX8_init_33 (by decide) ?_
  refine ry_bipush (v := 13) dX8_init_34 (by decide) ?_
  refine ry_callC 7 282 (fun l r9 h9 => cm_X1_init l cx (rd_push w5 1 0) (w5.1 + 1) 16 4 13 h8 s7 r9 h9) (rd_runI (vs := [.inl 16, .inl 4, .inl 13]) dX8_init_36 h8 yf_X1_init rfl rfl mi_X1_init ml_RX8_17 ⟨Nat.le_of_ble_eq_true rfl, Nat.le_of_ble_eq_true rfl⟩ (Nat.le_of_ble_eq_true rfl) rfl) rfl rfl (Nat.le_of_ble_eq_true rfl) (Nat.le_of_ble_eq_true rfl) (fun w10 s9 l11 => ?_)
  refine ry_putFr dX8_init_39 rfl rfl (((((ha0.le (rd_push_le _ _ _)).le (rd_push_le _ _ _)).le l6).le (rd_push_le _ _ _)).le l11) (h8.le l11) fl_RX8_24 rfl rfl rfl (fun _ => rfl) (fun _ => rfl) ?_
  refine ry_letS (fun s12 => ?_)
  refine ry_aload_n dX8_init_42 rfl ?_
  refine ry_new dX8_init_43 cl_1 kl_RX8_15 ci_1 cn_1 cd_1 (Nat.le_of_ble_eq_true rfl) (Nat.le_of_ble_eq_true rfl) (fun h13 => ?_)
  refine ry_dup dX8_init_46 ?_
  refine ry_iconst (v := 2) dX8_init_47 (by decide) ?_
  refine ry_iconst (v := 4) dX8_init_48 (by decide) ?_
  refine ry_iconst (v := (-1)) dX8_init_49 (by decide) ?_
  refine ry_callC 10 418 (fun l r9 h9 => cm_X1_init l cx (rd_push w10 1 0) (w10.1 + 1) 2 4 (-1) h13 s12 r9 h9) (rd_runI (vs := [.inl 2, .inl 4, .inl (-1)]) dX8_init_50 h13 yf_X1_init rfl rfl mi_X1_init ml_RX8_17 ⟨Nat.le_of_ble_eq_true rfl, Nat.le_of_ble_eq_true rfl⟩ (Nat.le_of_ble_eq_true rfl) rfl) rfl rfl (Nat.le_of_ble_eq_true rfl) (Nat.le_of_ble_eq_true rfl) (fun w15 s14 l16 => ?_)
  refine ry_putFr dX8_init_53 rfl rfl (((((((ha0.le (rd_push_le _ _ _)).le (rd_push_le _ _ _)).le l6).le (rd_push_le _ _ _)).le l11).le (rd_push_le _ _ _)).le l16) (h13.le l16) fl_RX8_27 rfl rfl rfl (fun _ => rfl) (fun _ => rfl) ?_
  refine ry_letS (fun s17 => ?_)
  refine ry_aload_n dX8_init_56 rfl ?_
  refine ry_new dX8_init_57 cl_2 kl_RX8_30 ci_2 cn_2 cd_2 (Nat.le_of_ble_eq_true rfl) (Nat.le_of_ble_eq_true rfl) (fun h18 => ?_)
  refine ry_dup dX8_init_60 ?_
  refine ry_callC 13 476 (fun l r9 h9 => cm_X2_init l cx (rd_push w15 2 0) (w15.1 + 1) h18 s17 r9 h9) (rd_runIN (vs := []) dX8_init_61 h18 yf_X2_init rfl rfl mi_X2_init mn_RX8_32 ⟨Nat.le_of_ble_eq_true rfl, Nat.le_of_ble_eq_true rfl⟩ (Nat.le_of_ble_eq_true rfl) rfl) rfl rfl (Nat.le_of_ble_eq_true rfl) (Nat.le_of_ble_eq_true rfl) (fun w20 s19 l21 => ?_)
  refine ry_putFr dX8_init_64 rfl rfl (((((((((ha0.le (rd_push_le _ _ _)).le (rd_push_le _ _ _)).le l6).le (rd_push_le _ _ _)).le l11).le (rd_push_le _ _ _)).le l16).le (rd_push_le _ _ _)).le l21) (h18.le l21) fl_RX8_33 rfl rfl rfl (fun _ => rfl) (fun _ => rfl) ?_
  refine ry_letS (fun s22 => ?_)
  refine ry_aload_n dX8_init_67 rfl ?_
  refine ry_new dX8_init_68 cl_0 kl_RX8_37 ci_0 cn_0 cd_0 (Nat.le_of_ble_eq_true rfl) (Nat.le_of_ble_eq_true rfl) (fun h23 => ?_)
  refine ry_dup dX8_init_71 ?_
  refine ry_callC 14 481 (fun l r9 h9 => cm_X0_init l cx (rd_push w20 0 0) (w20.1 + 1) h23 s22 r9 h9) (rd_runIN (vs := []) dX8_init_72 h23 yf_X0_init rfl rfl mi_X0_init mn_RX8_39 ⟨Nat.le_of_ble_eq_true rfl, Nat.le_of_ble_eq_true rfl⟩ (Nat.le_of_ble_eq_true rfl) rfl) rfl rfl (Nat.le_of_ble_eq_true rfl) (Nat.le_of_ble_eq_true rfl) (fun w25 s24 l26 => ?_)
  refine ry_putFr dX8_init_75 rfl rfl (((((((((((ha0.le (rd_push_le _ _ _)).le (rd_push_le _ _ _)).le l6).le (rd_push_le _ _ _)).le l11).le (rd_push_le _ _ _)).le l16).le (rd_push_le _ _ _)).le l21).le (rd_push_le _ _ _)).le l26) (h23.le l26) fl_RX8_40 rfl rfl rfl (fun _ => rfl) (fun _ => rfl) ?_
  refine ry_letS (fun s27 => ?_)
  refine ry_aload_n dX8_init_78 rfl ?_
  refine ry_new dX8_init_79 cl_4 kl_RX8_44 ci_4 cn_4 cd_4 (Nat.le_of_ble_eq_true rfl) (Nat.le_of_ble_eq_true rfl) (fun h28 => ?_)
  refine ry_dup dX8_init_82 ?_
  refine ry_callC 18 509 (fun l r9 h9 => cm_X4_init l cx (rd_push w25 4 0) (w25.1 + 1) h28 s27 r9 h9) (rd_runIN (vs := []) dX8_init_83 h28 yf_X4_init rfl rfl mi_X4_init mn_RX8_46 ⟨Nat.le_of_ble_eq_true rfl, Nat.le_of_ble_eq_true rfl⟩ (Nat.le_of_ble_eq_true rfl) rfl) rfl rfl (Nat.le_of_ble_eq_true rfl) (Nat.le_of_ble_eq_true rfl) (fun w30 s29 l31 => ?_)
  refine ry_putFr dX8_init_86 rfl rfl (((((((((((((ha0.le (rd_push_le _ _ _)).le (rd_push_le _ _ _)).le l6).le (rd_push_le _ _ _)).le l11).le (rd_push_le _ _ _)).le l16).le (rd_push_le _ _ _)).le l21).le (rd_push_le _ _ _)).le l26).le (rd_push_le _ _ _)).le l31) (h28.le l31) fl_RX8_47 rfl rfl rfl (fun _ => rfl) (fun _ => rfl) ?_
  refine ry_letS (fun s32 => ?_)
  refine ry_aload_n dX8_init_89 rfl ?_
  refine ry_new dX8_init_90 cl_6 kl_RX8_51 ci_6 cn_6 cd_6 (Nat.le_of_ble_eq_true rfl) (Nat.le_of_ble_eq_true rfl) (fun h33 => ?_)
  refine ry_dup dX8_init_93 ?_
  refine ry_callC 60 1711 (fun l r9 h9 => cm_X6_init l cx (rd_push w30 6 0) (w30.1 + 1) h33 s32 r9 h9) (rd_runI (vs := []) dX8_init_94 h33 yf_X6_init rfl rfl mi_X6_init ml_RX8_53 ⟨Nat.le_of_ble_eq_true rfl, Nat.le_of_ble_eq_true rfl⟩ (Nat.le_of_ble_eq_true rfl) rfl) rfl rfl (Nat.le_of_ble_eq_true rfl) (Nat.le_of_ble_eq_true rfl) (fun w35 s34 l36 => ?_)
  refine ry_putFr dX8_init_97 rfl rfl (((((((((((((((ha0.le (rd_push_le _ _ _)).le (rd_push_le _ _ _)).le l6).le (rd_push_le _ _ _)).le l11).le (rd_push_le _ _ _)).le l16).le (rd_push_le _ _ _)).le l21).le (rd_push_le _ _ _)).le l26).le (rd_push_le _ _ _)).le l31).le (rd_push_le _ _ _)).le l36) (h33.le l36) fl_RX8_54 rfl rfl rfl (fun _ => rfl) (fun _ => rfl) ?_
  refine ry_letS (fun s37 => ?_)
  refine ry_aload_n dX8_init_100 rfl ?_
  refine ry_new dX8_init_101 cl_9 kl_RX8_58 ci_9 cn_9 cd_9 (Nat.le_of_ble_eq_true rfl) (Nat.le_of_ble_eq_true rfl) (fun h38 => ?_)
  refine ry_dup dX8_init_104 ?_
  refine ry_callC 62 1721 (fun l r9 h9 => cm_X9_init l cx (rd_push w35 9 0) (w35.1 + 1) h38 s37 r9 h9) (rd_runI (vs := []) dX8_init_105 h38 yf_X9_init rfl rfl mi_X9_init ml_RX8_60 ⟨Nat.le_of_ble_eq_true rfl, Nat.le_of_ble_eq_true rfl⟩ (Nat.le_of_ble_eq_true rfl) rfl) rfl rfl (Nat.le_of_ble_eq_true rfl) (Nat.le_of_ble_eq_true rfl) (fun w40 s39 l41 => ?_)
  refine ry_putFr dX8_init_108 rfl rfl (((((((((((((((((ha0.le (rd_push_le _ _ _)).le (rd_push_le _ _ _)).le l6).le (rd_push_le _ _ _)).le l11).le (rd_push_le _ _ _)).le l16).le (rd_push_le _ _ _)).le l21).le (rd_push_le _ _ _)).le l26).le (rd_push_le _ _ _)).le l31).le (rd_push_le _ _ _)).le l36).le (rd_push_le _ _ _)).le l41) (h38.le l41) fl_RX8_61 rfl rfl rfl (fun _ => rfl) (fun _ => rfl) ?_
  refine ry_letS (fun s42 => ?_)
  refine ry_aload_n dX8_init_111 rfl ?_
  refine ry_getr dX8_init_112 (((((((((((((((((ha0.le (rd_push_le _ _ _)).le (rd_push_le _ _ _)).le l6).le (rd_push_le _ _ _)).le l11).le (rd_push_le _ _ _)).le l16).le (rd_push_le _ _ _)).le l21).le (rd_push_le _ _ _)).le l26).le (rd_push_le _ _ _)).le l31).le (rd_push_le _ _ _)).le l36).le (rd_push_le _ _ _)).le l41) fl_RX8_11 rfl (fun b43 hb43 => ?_)
  refine ry_iconst (v := (-1)) dX8_init_115 (by decide) ?_
  refine ry_callv (fun l r9 h9 => cm_J7_fill_53178 l cx w40 b43 (-1) hb43 s42 r9 h9) (rd_runS (vs := [.inr (some b43), .inl (-1)]) dX8_init_116 yf_J7_fill_53178 mt_J7_fill_53178 ml_RX8_65 ⟨Nat.le_of_ble_eq_true rfl, Nat.le_of_ble_eq_true rfl⟩ (Nat.le_of_ble_eq_true rfl) rfl) rfl rfl (Nat.le_of_ble_eq_true rfl) (Nat.le_of_ble_eq_true rfl) (fun s44 => ?_)
  exact ry_cret dX8_init_119 rfl (((((((((((((((((rd_push_le _ _ _).tr (rd_push_le _ _ _)).tr l6).tr (rd_push_le _ _ _)).tr l11).tr (rd_push_le _ _ _)).tr l16).tr (rd_push_le _ _ _)).tr l21).tr (rd_push_le _ _ _)).tr l26).tr (rd_push_le _ _ _)).tr l31).tr (rd_push_le _ _ _)).tr l36).tr (rd_push_le _ _ _)).tr l41) (Nat.le_of_ble_eq_true rfl) (Nat.le_of_ble_eq_true rfl)
theorem cm_X8_init (l : Launch) (cx : rd_Cx) (w : rd_W) (a0 : Nat) (ha0 : rd_ok w a0 8) (S : rd_S) (r : rd_W × rd_S) (h : F_X8_init w a0 S = some r) : rd_M l cx yX8_init G_X8_init 0 [.inr (some a0)] w S (rd_rC r) :=
  rd_enter (plainFor_of_name (by decide +kernel)) rfl (fun _ => rfl) (Nat.le_of_ble_eq_true rfl) (ym_X8_init cx w a0 ha0 S r h)
abbrev G_X11_init : rd_G := (RX11, cX11_init, 1, none, true, { frames := 5, cells := 74, slots := 1904, locals := 124 })
theorem yf_X11_init : rd_YL yX11_init G_X11_init 0 := ⟨rd_mem 82 (by decide +kernel) rfl, rd_mem 62 (by decide +kernel) rfl, by decide +kernel, by decide +kernel, by decide +kernel⟩
theorem mi_X11_init : Cond.instanceMethod yX11_init ∈ rd_gw := rd_mem 81 (by decide +kernel) rfl
theorem dX11_init_0 : decode cX11_init 0 = .ok (.aload_n 0, 1) := by decide +kernel
theorem dX11_init_1 : decode cX11_init 1 = .ok (.invokespecial 3, 3) := by decide +kernel
theorem dX11_init_4 : decode cX11_init 4 = .ok (.aload_n 0, 1) := by decide +kernel
theorem dX11_init_5 : decode cX11_init 5 = .ok (.new 9, 3) := by decide +kernel
theorem dX11_init_8 : decode cX11_init 8 = .ok (.dup, 1) := by decide +kernel
theorem dX11_init_9 : decode cX11_init 9 = .ok (.invokespecial 11, 3) := by decide +kernel
theorem dX11_init_12 : decode cX11_init 12 = .ok (.putfield 12, 3) := by decide +kernel
theorem dX11_init_15 : decode cX11_init 15 = .ok (.aload_n 0, 1) := by decide +kernel
theorem dX11_init_16 : decode cX11_init 16 = .ok (.new 16, 3) := by decide +kernel
theorem dX11_init_19 : decode cX11_init 19 = .ok (.dup, 1) := by decide +kernel
theorem dX11_init_20 : decode cX11_init 20 = .ok (.invokespecial 18, 3) := by decide +kernel
theorem dX11_init_23 : decode cX11_init 23 = .ok (.putfield 19, 3) := by decide +kernel
theorem dX11_init_26 : decode cX11_init 26 = .ok (.aload_n 0, 1) := by decide +kernel
theorem dX11_init_27 : decode cX11_init 27 = .ok (.new 23, 3) := by decide +kernel
theorem dX11_init_30 : decode cX11_init 30 = .ok (.dup, 1) := by decide +kernel
theorem dX11_init_31 : decode cX11_init 31 = .ok (.invokespecial 25, 3) := by decide +kernel
theorem dX11_init_34 : decode cX11_init 34 = .ok (.putfield 26, 3) := by decide +kernel
theorem dX11_init_37 : decode cX11_init 37 = .ok (.return_, 1) := by decide +kernel
def F_X11_init (w : rd_W) (a0 : Nat) (S : rd_S) : Option (rd_W × rd_S) :=
  rd_np w <|
  rd_b (F_X7_init (rd_push w 7 0) (w.1 + 1) S) fun w3 s2 =>
  rd_let (pR s2 a0 0 (some (w.1 + 1))) fun s5 =>
  rd_np w3 <|
  rd_b (F_X3_init (rd_push w3 3 0) (w3.1 + 1) s5) fun w8 s7 =>
  rd_let (pR s7 a0 1 (some (w3.1 + 1))) fun s10 =>
  rd_np w8 <|
  rd_b (F_X8_init (rd_push w8 8 0) (w8.1 + 1) s10) fun w13 s12 =>
  rd_let (pR s12 a0 2 (some (w8.1 + 1))) fun s15 =>
  some (w13, s15)
theorem ym_X11_init (cx : rd_Cx) (w : rd_W) (a0 : Nat) (ha0 : rd_ok w a0 11) (S : rd_S) : rd_Y cx G_X11_init (fun r => rd_P cx G_X11_init.2.2.2.2.2 0 w (rd_rC r)) (F_X11_init w a0 S) 0 (rd_as 0 [.inr (some a0)]) [] w S 0 0 := by
  unfold F_X11_init
  refine ry_aload_n dX11_init_0 rfl ?_
  refine ry_objinit dX11_init_1 ha0 ml_RX11_3 ob_inst ob_code (by decide) (Nat.le_of_ble_eq_true rfl) ?_
  refine ry_aload_n dX11_init_4 rfl ?_
  refine ry_new dX11_init_5 cl_7 kl_RX11_9 ci_7 cn_7 cd_7 (Nat.le_of_ble_eq_true rfl) (Nat.le_of_ble_eq_true rfl) (fun h1 => ?_)
  refine ry_dup dX11_init_8 ?_
  refine ry_callC 8 163 (fun l r9 h9 => cm_X7_init l cx (rd_push w 7 0) (w.1 + 1) h1 S r9 h9) (rd_runIN (vs := []) dX11_init_9 h1 yf_X7_init rfl rfl mi_X7_init mn_RX11_11 ⟨Nat.le_of_ble_eq_true rfl, Nat.le_of_ble_eq_true rfl⟩ (Nat.le_of_ble_eq_true rfl) rfl) rfl rfl (Nat.le_of_ble_eq_true rfl) (Nat.le_of_ble_eq_true rfl) (fun w3 s2 l4 => ?_)
  refine ry_putFr dX11_init_12 rfl rfl ((ha0.le (rd_push_le _ _ _)).le l4) (h1.le l4) fl_RX11_12 rfl rfl rfl (fun _ => rfl) (fun _ => rfl) ?_
  refine ry_letS (fun s5 => ?_)
  refine ry_aload_n dX11_init_15 rfl ?_
  refine ry_new dX11_init_16 cl_3 kl_RX11_16 ci_3 cn_3 cd_3 (Nat.le_of_ble_eq_true rfl) (Nat.le_of_ble_eq_true rfl) (fun h6 => ?_)
  refine ry_dup dX11_init_19 ?_
  refine ry_callC 11 174 (fun l r9 h9 => cm_X3_init l cx (rd_push w3 3 0) (w3.1 + 1) h6 s5 r9 h9) (rd_runI (vs := []) dX11_init_20 h6 yf_X3_init rfl rfl mi_X3_init ml_RX11_18 ⟨Nat.le_of_ble_eq_true rfl, Nat.le_of_ble_eq_true rfl⟩ (Nat.le_of_ble_eq_true rfl) rfl) rfl rfl (Nat.le_of_ble_eq_true rfl) (Nat.le_of_ble_eq_true rfl) (fun w8 s7 l9 => ?_)
  refine ry_putFr dX11_init_23 rfl rfl ((((ha0.le (rd_push_le _ _ _)).le l4).le (rd_push_le _ _ _)).le l9) (h6.le l9) fl_RX11_19 rfl rfl rfl (fun _ => rfl) (fun _ => rfl) ?_
  refine ry_letS (fun s10 => ?_)
  refine ry_aload_n dX11_init_26 rfl ?_
  refine ry_new dX11_init_27 cl_8 kl_RX11_23 ci_8 cn_8 cd_8 (Nat.le_of_ble_eq_true rfl) (Nat.le_of_ble_eq_true rfl) (fun h11 => ?_)
  refine ry_dup dX11_init_30 ?_
  refine ry_callC 74 1904 (fun l r9 h9 => cm_X8_init l cx (rd_push w8 8 0) (w8.1 + 1) h11 s10 r9 h9) (rd_runI (vs := []) dX11_init_31 h11 yf_X8_init rfl rfl mi_X8_init ml_RX11_25 ⟨Nat.le_of_ble_eq_true rfl, Nat.le_of_ble_eq_true rfl⟩ (Nat.le_of_ble_eq_true rfl) rfl) rfl rfl (Nat.le_of_ble_eq_true rfl) (Nat.le_of_ble_eq_true rfl) (fun w13 s12 l14 => ?_)
  refine ry_putFr dX11_init_34 rfl rfl ((((((ha0.le (rd_push_le _ _ _)).le l4).le (rd_push_le _ _ _)).le l9).le (rd_push_le _ _ _)).le l14) (h11.le l14) fl_RX11_26 rfl rfl rfl (fun _ => rfl) (fun _ => rfl) ?_
  refine ry_letS (fun s15 => ?_)
  exact ry_cret dX11_init_37 rfl ((((((rd_push_le _ _ _).tr l4).tr (rd_push_le _ _ _)).tr l9).tr (rd_push_le _ _ _)).tr l14) (Nat.le_of_ble_eq_true rfl) (Nat.le_of_ble_eq_true rfl)
theorem cm_X11_init (l : Launch) (cx : rd_Cx) (w : rd_W) (a0 : Nat) (ha0 : rd_ok w a0 11) (S : rd_S) (r : rd_W × rd_S) (h : F_X11_init w a0 S = some r) : rd_M l cx yX11_init G_X11_init 0 [.inr (some a0)] w S (rd_rC r) :=
  rd_enter (plainFor_of_name (by decide +kernel)) rfl (fun _ => rfl) (Nat.le_of_ble_eq_true rfl) (ym_X11_init cx w a0 ha0 S r h)
abbrev G_X12_init : rd_G := (RX12, cX12_init, 1, none, true, { frames := 1, cells := 22, slots := 1949, locals := 40 })
theorem yf_X12_init : rd_YL yX12_init G_X12_init 0 := ⟨rd_mem 999 (by decide +kernel) rfl, rd_mem 75 (by decide +kernel) rfl, by decide +kernel, by decide +kernel, by decide +kernel⟩
theorem mi_X12_init : Cond.instanceMethod yX12_init ∈ rd_gw := rd_mem 998 (by decide +kernel) rfl
theorem dX12_init_0 : decode cX12_init 0 = .ok (.aload_n 0, 1) := by decide +kernel
theorem dX12_init_1 : decode cX12_init 1 = .ok (.invokespecial 281, 3) := by decide +kernel
theorem dX12_init_4 : decode cX12_init 4 = .ok (.aload_n 0, 1) := by decide +kernel
theorem dX12_init_5 : decode cX12_init 5 = .ok (.iconst 5, 1) := by decide +kernel
theorem dX12_init_6 : decode cX12_init 6 = .ok (.putfield 18, 3) := by decide +kernel
theorem dX12_init_9 : decode cX12_init 9 = .ok (.aload_n 0, 1) := by decide +kernel
theorem dX12_init_10 : decode cX12_init 10 = .ok (.bipush 30, 2) := by decide +kernel
theorem dX12_init_12 : decode cX12_init 12 = .ok (.putfield 22, 3) := by decide +kernel
theorem dX12_init_15 : decode cX12_init 15 = .ok (.aload_n 0, 1) := by decide +kernel
theorem dX12_init_16 : decode cX12_init 16 = .ok (.sipush 128, 3) := by decide +kernel
theorem dX12_init_19 : decode cX12_init 19 = .ok (.newarray .int, 2) := by decide +kernel
theorem dX12_init_21 : decode cX12_init 21 = .ok (.putfield 25, 3) := by decide +kernel
theorem dX12_init_24 : decode cX12_init 24 = .ok (.aload_n 0, 1) := by decide +kernel
theorem dX12_init_25 : decode cX12_init 25 = .ok (.sipush 128, 3) := by decide +kernel
theorem dX12_init_28 : decode cX12_init 28 = .ok (.newarray .int, 2) := by decide +kernel
theorem dX12_init_30 : decode cX12_init 30 = .ok (.putfield 36, 3) := by decide +kernel
theorem dX12_init_33 : decode cX12_init 33 = .ok (.aload_n 0, 1) := by decide +kernel
theorem dX12_init_34 : decode cX12_init 34 = .ok (.bipush 50, 2) := by decide +kernel
theorem dX12_init_36 : decode cX12_init 36 = .ok (.newarray .int, 2) := by decide +kernel
theorem dX12_init_38 : decode cX12_init 38 = .ok (.putfield 102, 3) := by decide +kernel
theorem dX12_init_41 : decode cX12_init 41 = .ok (.aload_n 0, 1) := by decide +kernel
theorem dX12_init_42 : decode cX12_init 42 = .ok (.iconst 3, 1) := by decide +kernel
theorem dX12_init_43 : decode cX12_init 43 = .ok (.newarray .int, 2) := by decide +kernel
theorem dX12_init_45 : decode cX12_init 45 = .ok (.putfield 87, 3) := by decide +kernel
theorem dX12_init_48 : decode cX12_init 48 = .ok (.aload_n 0, 1) := by decide +kernel
theorem dX12_init_49 : decode cX12_init 49 = .ok (.iconst 4, 1) := by decide +kernel
theorem dX12_init_50 : decode cX12_init 50 = .ok (.newarray .int, 2) := by decide +kernel
theorem dX12_init_52 : decode cX12_init 52 = .ok (.putfield 77, 3) := by decide +kernel
theorem dX12_init_55 : decode cX12_init 55 = .ok (.aload_n 0, 1) := by decide +kernel
theorem dX12_init_56 : decode cX12_init 56 = .ok (.iconst 4, 1) := by decide +kernel
theorem dX12_init_57 : decode cX12_init 57 = .ok (.newarray .int, 2) := by decide +kernel
theorem dX12_init_59 : decode cX12_init 59 = .ok (.putfield 74, 3) := by decide +kernel
theorem dX12_init_62 : decode cX12_init 62 = .ok (.aload_n 0, 1) := by decide +kernel
theorem dX12_init_63 : decode cX12_init 63 = .ok (.iconst 4, 1) := by decide +kernel
theorem dX12_init_64 : decode cX12_init 64 = .ok (.newarray .int, 2) := by decide +kernel
theorem dX12_init_66 : decode cX12_init 66 = .ok (.putfield 111, 3) := by decide +kernel
theorem dX12_init_69 : decode cX12_init 69 = .ok (.aload_n 0, 1) := by decide +kernel
theorem dX12_init_70 : decode cX12_init 70 = .ok (.iconst 4, 1) := by decide +kernel
theorem dX12_init_71 : decode cX12_init 71 = .ok (.newarray .int, 2) := by decide +kernel
theorem dX12_init_73 : decode cX12_init 73 = .ok (.putfield 108, 3) := by decide +kernel
theorem dX12_init_76 : decode cX12_init 76 = .ok (.aload_n 0, 1) := by decide +kernel
theorem dX12_init_77 : decode cX12_init 77 = .ok (.bipush 10, 2) := by decide +kernel
theorem dX12_init_79 : decode cX12_init 79 = .ok (.newarray .int, 2) := by decide +kernel
theorem dX12_init_81 : decode cX12_init 81 = .ok (.putfield 127, 3) := by decide +kernel
theorem dX12_init_84 : decode cX12_init 84 = .ok (.aload_n 0, 1) := by decide +kernel
theorem dX12_init_85 : decode cX12_init 85 = .ok (.bipush 6, 2) := by decide +kernel
theorem dX12_init_87 : decode cX12_init 87 = .ok (.newarray .int, 2) := by decide +kernel
theorem dX12_init_89 : decode cX12_init 89 = .ok (.putfield 190, 3) := by decide +kernel
theorem dX12_init_92 : decode cX12_init 92 = .ok (.aload_n 0, 1) := by decide +kernel
theorem dX12_init_93 : decode cX12_init 93 = .ok (.sipush 704, 3) := by decide +kernel
theorem dX12_init_96 : decode cX12_init 96 = .ok (.newarray .int, 2) := by decide +kernel
theorem dX12_init_98 : decode cX12_init 98 = .ok (.putfield 171, 3) := by decide +kernel
theorem dX12_init_101 : decode cX12_init 101 = .ok (.aload_n 0, 1) := by decide +kernel
theorem dX12_init_102 : decode cX12_init 102 = .ok (.bipush 11, 2) := by decide +kernel
theorem dX12_init_104 : decode cX12_init 104 = .ok (.newarray .int, 2) := by decide +kernel
theorem dX12_init_106 : decode cX12_init 106 = .ok (.putfield 178, 3) := by decide +kernel
theorem dX12_init_109 : decode cX12_init 109 = .ok (.aload_n 0, 1) := by decide +kernel
theorem dX12_init_110 : decode cX12_init 110 = .ok (.sipush 704, 3) := by decide +kernel
theorem dX12_init_113 : decode cX12_init 113 = .ok (.newarray .int, 2) := by decide +kernel
theorem dX12_init_115 : decode cX12_init 115 = .ok (.putfield 184, 3) := by decide +kernel
theorem dX12_init_118 : decode cX12_init 118 = .ok (.aload_n 0, 1) := by decide +kernel
theorem dX12_init_119 : decode cX12_init 119 = .ok (.bipush 11, 2) := by decide +kernel
theorem dX12_init_121 : decode cX12_init 121 = .ok (.newarray .int, 2) := by decide +kernel
theorem dX12_init_123 : decode cX12_init 123 = .ok (.putfield 187, 3) := by decide +kernel
theorem dX12_init_126 : decode cX12_init 126 = .ok (.aload_n 0, 1) := by decide +kernel
theorem dX12_init_127 : decode cX12_init 127 = .ok (.iconst (-1), 1) := by decide +kernel
theorem dX12_init_128 : decode cX12_init 128 = .ok (.putfield 196, 3) := by decide +kernel
theorem dX12_init_131 : decode cX12_init 131 = .ok (.aload_n 0, 1) := by decide +kernel
theorem dX12_init_132 : decode cX12_init 132 = .ok (.iconst (-1), 1) := by decide +kernel
theorem dX12_init_133 : decode cX12_init 133 = .ok (.putfield 199, 3) := by decide +kernel
theorem dX12_init_136 : decode cX12_init 136 = .ok (.aload_n 0, 1) := by decide +kernel
theorem dX12_init_137 : decode cX12_init 137 = .ok (.bipush 25, 2) := by decide +kernel
theorem dX12_init_139 : decode cX12_init 139 = .ok (.newarray .int, 2) := by decide +kernel
theorem dX12_init_141 : decode cX12_init 141 = .ok (.putfield 224, 3) := by decide +kernel
theorem dX12_init_144 : decode cX12_init 144 = .ok (.aload_n 0, 1) := by decide +kernel
theorem dX12_init_145 : decode cX12_init 145 = .ok (.bipush 25, 2) := by decide +kernel
theorem dX12_init_147 : decode cX12_init 147 = .ok (.newarray .int, 2) := by decide +kernel
theorem dX12_init_149 : decode cX12_init 149 = .ok (.putfield 221, 3) := by decide +kernel
theorem dX12_init_152 : decode cX12_init 152 = .ok (.aload_n 0, 1) := by decide +kernel
theorem dX12_init_153 : decode cX12_init 153 = .ok (.iconst (-1), 1) := by decide +kernel
theorem dX12_init_154 : decode cX12_init 154 = .ok (.putfield 227, 3) := by decide +kernel
theorem dX12_init_157 : decode cX12_init 157 = .ok (.aload_n 0, 1) := by decide +kernel
theorem dX12_init_158 : decode cX12_init 158 = .ok (.bipush 8, 2) := by decide +kernel
theorem dX12_init_160 : decode cX12_init 160 = .ok (.newarray .int, 2) := by decide +kernel
theorem dX12_init_162 : decode cX12_init 162 = .ok (.putfield 233, 3) := by decide +kernel
theorem dX12_init_165 : decode cX12_init 165 = .ok (.aload_n 0, 1) := by decide +kernel
theorem dX12_init_166 : decode cX12_init 166 = .ok (.bipush 8, 2) := by decide +kernel
theorem dX12_init_168 : decode cX12_init 168 = .ok (.newarray .int, 2) := by decide +kernel
theorem dX12_init_170 : decode cX12_init 170 = .ok (.putfield 236, 3) := by decide +kernel
theorem dX12_init_173 : decode cX12_init 173 = .ok (.aload_n 0, 1) := by decide +kernel
theorem dX12_init_174 : decode cX12_init 174 = .ok (.bipush 8, 2) := by decide +kernel
theorem dX12_init_176 : decode cX12_init 176 = .ok (.newarray .int, 2) := by decide +kernel
theorem dX12_init_178 : decode cX12_init 178 = .ok (.putfield 239, 3) := by decide +kernel
theorem dX12_init_181 : decode cX12_init 181 = .ok (.aload_n 0, 1) := by decide +kernel
theorem dX12_init_182 : decode cX12_init 182 = .ok (.bipush 8, 2) := by decide +kernel
theorem dX12_init_184 : decode cX12_init 184 = .ok (.newarray .int, 2) := by decide +kernel
theorem dX12_init_186 : decode cX12_init 186 = .ok (.putfield 242, 3) := by decide +kernel
theorem dX12_init_189 : decode cX12_init 189 = .ok (.aload_n 0, 1) := by decide +kernel
theorem dX12_init_190 : decode cX12_init 190 = .ok (.bipush 88, 2) := by decide +kernel
theorem dX12_init_192 : decode cX12_init 192 = .ok (.newarray .int, 2) := by decide +kernel
theorem dX12_init_194 : decode cX12_init 194 = .ok (.putfield 275, 3) := by decide +kernel
theorem dX12_init_197 : decode cX12_init 197 = .ok (.aload_n 0, 1) := by decide +kernel
theorem dX12_init_198 : decode cX12_init 198 = .ok (.bipush 8, 2) := by decide +kernel
theorem dX12_init_200 : decode cX12_init 200 = .ok (.newarray .int, 2) := by decide +kernel
theorem dX12_init_202 : decode cX12_init 202 = .ok (.putfield 193, 3) := by decide +kernel
theorem dX12_init_205 : decode cX12_init 205 = .ok (.aload_n 0, 1) := by decide +kernel
theorem dX12_init_206 : decode cX12_init 206 = .ok (.invokevirtual 130, 3) := by decide +kernel
theorem dX12_init_209 : decode cX12_init 209 = .ok (.aload_n 0, 1) := by decide +kernel
theorem dX12_init_210 : decode cX12_init 210 = .ok (.iconst (-1), 1) := by decide +kernel
theorem dX12_init_211 : decode cX12_init 211 = .ok (.putfield 124, 3) := by decide +kernel
theorem dX12_init_214 : decode cX12_init 214 = .ok (.return_, 1) := by decide +kernel
def F_X12_init (w : rd_W) (a0 : Nat) (S : rd_S) : Option (rd_W × rd_S) :=
  rd_let (pI S a0 1 5) fun s1 =>
  rd_let (pI s1 a0 2 30) fun s2 =>
  rd_na 128 128 <| rd_np w <|
  rd_let (pR s2 a0 3 (some (w.1 + 1))) fun s4 =>
  rd_na 128 128 <| rd_np (rd_push w 13 (128 : Int32).toNatClampNeg) <|
  rd_let (pR s4 a0 4 (some ((rd_push w 13 (128 : Int32).toNatClampNeg).1 + 1))) fun s6 =>
  rd_na 50 50 <| rd_np (rd_push (rd_push w 13 (128 : Int32).toNatClampNeg) 13 (128 : Int32).toNatClampNeg) <|
  rd_let (pR s6 a0 10 (some ((rd_push (rd_push w 13 (128 : Int32).toNatClampNeg) 13 (128 : Int32).toNatClampNeg).1 + 1))) fun s8 =>
  rd_na 3 3 <| rd_np (rd_push (rd_push (rd_push w 13 (128 : Int32).toNatClampNeg) 13 (128 : Int32).toNatClampNeg) 13 (50 : Int32).toNatClampNeg) <|
  rd_let (pR s8 a0 13 (some ((rd_push (rd_push (rd_push w 13 (128 : Int32).toNatClampNeg) 13 (128 : Int32).toNatClampNeg) 13 (50 : Int32).toNatClampNeg).1 + 1))) fun s10 =>
  rd_na 4 4 <| rd_np (rd_push (rd_push (rd_push (rd_push w 13 (128 : Int32).toNatClampNeg) 13 (128 : Int32).toNatClampNeg) 13 (50 : Int32).toNatClampNeg) 13 (3 : Int32).toNatClampNeg) <|
  rd_let (pR s10 a0 18 (some ((rd_push (rd_push (rd_push (rd_push w 13 (128 : Int32).toNatClampNeg) 13 (128 : Int32).toNatClampNeg) 13 (50 : Int32).toNatClampNeg) 13 (3 : Int32).toNatClampNeg).1 + 1))) fun s12 =>
  rd_na 4 4 <| rd_np (rd_push (rd_push (rd_push (rd_push (rd_push w 13 (128 : Int32).toNatClampNeg) 13 (128 : Int32).toNatClampNeg) 13 (50 : Int32).toNatClampNeg) 13 (3 : Int32).toNatClampNeg) 13 (4 : Int32).toNatClampNeg) <|
  rd_let (pR s12 a0 19 (some ((rd_push (rd_push (rd_push (rd_push (rd_push w 13 (128 : Int32).toNatClampNeg) 13 (128 : Int32).toNatClampNeg) 13 (50 : Int32).toNatClampNeg) 13 (3 : Int32).toNatClampNeg) 13 (4 : Int32).toNatClampNeg).1 + 1))) fun s14 =>
  rd_na 4 4 <| rd_np (rd_push (rd_push (rd_push (rd_push (rd_push (rd_push w 13 (128 : Int32).toNatClampNeg) 13 (128 : Int32).toNatClampNeg) 13 (50 : Int32).toNatClampNeg) 13 (3 : Int32).toNatClampNeg) 13 (4 : Int32).toNatClampNeg) 13 (4 : Int32).toNatClampNeg) <|
  rd_let (pR s14 a0 21 (some ((rd_push (rd_push (rd_push (rd_push (rd_push (rd_push w 13 (128 : Int32).toNatClampNeg) 13 (128 : Int32).toNatClampNeg) 13 (50 : Int32).toNatClampNeg) 13 (3 : Int32).toNatClampNeg) 13 (4 : Int32).toNatClampNeg) 13 (4 : Int32).toNatClampNeg).1 + 1))) fun s16 =>
  rd_na 4 4 <| rd_np (rd_push (rd_push (rd_push (rd_push (rd_push (rd_push (rd_push w 13 (128 : Int32).toNatClampNeg) 13 (128 : Int32).toNatClampNeg) 13 (50 : Int32).toNatClampNeg) 13 (3 : Int32).toNatClampNeg) 13 (4 : Int32).toNatClampNeg) 13 (4 : Int32).toNatClampNeg) 13 (4 : Int32).toNatClampNeg) <|
  rd_let (pR s16 a0 22 (some ((rd_push (rd_push (rd_push (rd_push (rd_push (rd_push (rd_push w 13 (128 : Int32).toNatClampNeg) 13 (128 : Int32).toNatClampNeg) 13 (50 : Int32).toNatClampNeg) 13 (3 : Int32).toNatClampNeg) 13 (4 : Int32).toNatClampNeg) 13 (4 : Int32).toNatClampNeg) 13 (4 : Int32).toNatClampNeg).1 + 1))) fun s18 =>
  rd_na 10 10 <| rd_np (rd_push (rd_push (rd_push (rd_push (rd_push (rd_push (rd_push (rd_push w 13 (128 : Int32).toNatClampNeg) 13 (128 : Int32).toNatClampNeg) 13 (50 : Int32).toNatClampNeg) 13 (3 : Int32).toNatClampNeg) 13 (4 : Int32).toNatClampNeg) 13 (4 : Int32).toNatClampNeg) 13 (4 : Int32).toNatClampNeg) 13 (4 : Int32).toNatClampNeg) <|
  rd_let (pR s18 a0 25 (some ((rd_push (rd_push (rd_push (rd_push (rd_push (rd_push (rd_push (rd_push w 13 (128 : Int32).toNatClampNeg) 13 (128 : Int32).toNatClampNeg) 13 (50 : Int32).toNatClampNeg) 13 (3 : Int32).toNatClampNeg) 13 (4 : Int32).toNatClampNeg) 13 (4 : Int32).toNatClampNeg) 13 (4 : Int32).toNatClampNeg) 13 (4 : Int32).toNatClampNeg).1 + 1))) fun s20 =>
  rd_na 6 6 <| rd_np (rd_push (rd_push (rd_push (rd_push (rd_push (rd_push (rd_push (rd_push (rd_push w 13 (128 : Int32).toNatClampNeg) 13 (128 : Int32).toNatClampNeg) 13 (50 : Int32).toNatClampNeg) 13 (3 : Int32).toNatClampNeg) 13 (4 : Int32).toNatClampNeg) 13 (4 : Int32).toNatClampNeg) 13 (4 : Int32).toNatClampNeg) 13 (4 : Int32).toNatClampNeg) 13 (10 : Int32).toNatClampNeg) <|
  rd_let (pR s20 a0 26 (some ((rd_push (rd_push (rd_push (rd_push (rd_push (rd_push (rd_push (rd_push (rd_push w 13 (128 : Int32).toNatClampNeg) 13 (128 : Int32).toNatClampNeg) 13 (50 : Int32).toNatClampNeg) 13 (3 : Int32).toNatClampNeg) 13 (4 : Int32).toNatClampNeg) 13 (4 : Int32).toNatClampNeg) 13 (4 : Int32).toNatClampNeg) 13 (4 : Int32).toNatClampNeg) 13 (10 : Int32).toNatClampNeg).1 + 1))) fun s22 =>
  rd_na 704 704 <| rd_np (rd_push (rd_push (rd_push (rd_push (rd_push (rd_push (rd_push (rd_push (rd_push (rd_push w 13 (128 : Int32).toNatClampNeg) 13 (128 : Int32).toNatClampNeg) 13 (50 : Int32).toNatClampNeg) 13 (3 : Int32).toNatClampNeg) 13 (4 : Int32).toNatClampNeg) 13 (4 : Int32).toNatClampNeg) 13 (4 : Int32).toNatClampNeg) 13 (4 : Int32).toNatClampNeg) 13 (10 : Int32).toNatClampNeg) 13 (6 : Int32).toNatClampNeg) <|
  rd_let (pR s22 a0 27 (some ((rd_push (rd_push (rd_push (rd_push (rd_push (rd_push (rd_push (rd_push (rd_push (rd_push w 13 (128 : Int32).toNatClampNeg) 13 (128 : Int32).toNatClampNeg) 13 (50 : Int32).toNatClampNeg) 13 (3 : Int32).toNatClampNeg) 13 (4 : Int32).toNatClampNeg) 13 (4 : Int32).toNatClampNeg) 13 (4 : Int32).toNatClampNeg) 13 (4 : Int32).toNatClampNeg) 13 (10 : Int32).toNatClampNeg) 13 (6 : Int32).toNatClampNeg).1 + 1))) fun s24 =>
  rd_na 11 11 <| rd_np (rd_push (rd_push (rd_push (rd_push (rd_push (rd_push (rd_push (rd_push (rd_push (rd_push (rd_push w 13 (128 : Int32).toNatClampNeg) 13 (128 : Int32).toNatClampNeg) 13 (50 : Int32).toNatClampNeg) 13 (3 : Int32).toNatClampNeg) 13 (4 : Int32).toNatClampNeg) 13 (4 : Int32).toNatClampNeg) 13 (4 : Int32).toNatClampNeg) 13 (4 : Int32).toNatClampNeg) 13 (10 : Int32).toNatClampNeg) 13 (6 : Int32).toNatClampNeg) 13 (704 : Int32).toNatClampNeg) <|
  rd_let (pR s24 a0 28 (some ((rd_push (rd_push (rd_push (rd_push (rd_push (rd_push (rd_push (rd_push (rd_push (rd_push (rd_push w 13 (128 : Int32).toNatClampNeg) 13 (128 : Int32).toNatClampNeg) 13 (50 : Int32).toNatClampNeg) 13 (3 : Int32).toNatClampNeg) 13 (4 : Int32).toNatClampNeg) 13 (4 : Int32).toNatClampNeg) 13 (4 : Int32).toNatClampNeg) 13 (4 : Int32).toNatClampNeg) 13 (10 : Int32).toNatClampNeg) 13 (6 : Int32).toNatClampNeg) 13 (704 : Int32).toNatClampNeg).1 + 1))) fun s26 =>
  rd_na 704 704 <| rd_np (rd_push (rd_push (rd_push (rd_push (rd_push (rd_push (rd_push (rd_push (rd_push (rd_push (rd_push (rd_push w 13 (128 : Int32).toNatClampNeg) 13 (128 : Int32).toNatClampNeg) 13 (50 : Int32).toNatClampNeg) 13 (3 : Int32).toNatClampNeg) 13 (4 : Int32).toNatClampNeg) 13 (4 : Int32).toNatClampNeg) 13 (4 : Int32).toNatClampNeg) 13 (4 : Int32).toNatClampNeg) 13 (10 : Int32).toNatClampNeg) 13 (6 : Int32).toNatClampNeg) 13 (704 : Int32).toNatClampNeg) 13 (11 : Int32).toNatClampNeg) <|
  rd_let (pR s26 a0 29 (some ((rd_push (rd_push (rd_push (rd_push (rd_push (rd_push (rd_push (rd_push (rd_push (rd_push (rd_push (rd_push w 13 (128 : Int32).toNatClampNeg) 13 (128 : Int32).toNatClampNeg) 13 (50 : Int32).toNatClampNeg) 13 (3 : Int32).toNatClampNeg) 13 (4 : Int32).toNatClampNeg) 13 (4 : Int32).toNatClampNeg) 13 (4 : Int32).toNatClampNeg) 13 (4 : Int32).toNatClampNeg) 13 (10 : Int32).toNatClampNeg) 13 (6 : Int32).toNatClampNeg) 13 (704 : Int32).toNatClampNeg) 13 (11 : Int32).toNatClampNeg).1 + 1))) fun s28 =>
  rd_na 11 11 <| rd_np (rd_push (rd_push (rd_push (rd_push (rd_push (rd_push (rd_push (rd_push (rd_push (rd_push (rd_push (rd_push (rd_push w 13 (128 : Int32).toNatClampNeg) 13 (128 : Int32).toNatClampNeg) 13 (50 : Int32).toNatClampNeg) 13 (3 : Int32).toNatClampNeg) 13 (4 : Int32).toNatClampNeg) 13 (4 : Int32).toNatClampNeg) 13 (4 : Int32).toNatClampNeg) 13 (4 : Int32).toNatClampNeg) 13 (10 : Int32).toNatClampNeg) 13 (6 : Int32).toNatClampNeg) 13 (704 : Int32).toNatClampNeg) 13 (11 : Int32).toNatClampNeg) 13 (704 : Int32).toNatClampNeg) <|
  rd_let (pR s28 a0 30 (some ((rd_push (rd_push (rd_push (rd_push (rd_push (rd_push (rd_push (rd_push (rd_push (rd_push (rd_push (rd_push (rd_push w 13 (128 : Int32).toNatClampNeg) 13 (128 : Int32).toNatClampNeg) 13 (50 : Int32).toNatClampNeg) 13 (3 : Int32).toNatClampNeg) 13 (4 : Int32).toNatClampNeg) 13 (4 : Int32).toNatClampNeg) 13 (4 : Int32).toNatClampNeg) 13 (4 : Int32).toNatClampNeg) 13 (10 : Int32).toNatClampNeg) 13 (6 : Int32).toNatClampNeg) 13 (704 : Int32).toNatClampNeg) 13 (11 : Int32).toNatClampNeg) 13 (704 : Int32).toNatClampNeg).1 + 1))) fun s30 =>
  rd_let (pI s30 a0 31 (-1)) fun s31 =>
  rd_let (pI s31 a0 32 (-1)) fun s32 =>
  rd_na 25 25 <| rd_np (rd_push (rd_push (rd_push (rd_push (rd_push (rd_push (rd_push (rd_push (rd_push (rd_push (rd_push (rd_push (rd_push (rd_push w 13 (128 : Int32).toNatClampNeg) 13 (128 : Int32).toNatClampNeg) 13 (50 : Int32).toNatClampNeg) 13 (3 : Int32).toNatClampNeg) 13 (4 : Int32).toNatClampNeg) 13 (4 : Int32).toNatClampNeg) 13 (4 : Int32).toNatClampNeg) 13 (4 : Int32).toNatClampNeg) 13 (10 : Int32).toNatClampNeg) 13 (6 : Int32).toNatClampNeg) 13 (704 : Int32).toNatClampNeg) 13 (11 : Int32).toNatClampNeg) 13 (704 : Int32).toNatClampNeg) 13 (11 : Int32).toNatClampNeg) <|
  rd_let (pR s32 a0 33 (some ((rd_push (rd_push (rd_push (rd_push (rd_push (rd_push (rd_push (rd_push (rd_push (rd_push (rd_push (rd_push (rd_push (rd_push w 13 (128 : Int32).toNatClampNeg) 13 (128 : Int32).toNatClampNeg) 13 (50 : Int32).toNatClampNeg) 13 (3 : Int32).toNatClampNeg) 13 (4 : Int32).toNatClampNeg) 13 (4 : Int32).toNatClampNeg) 13 (4 : Int32).toNatClampNeg) 13 (4 : Int32).toNatClampNeg) 13 (10 : Int32).toNatClampNeg) 13 (6 : Int32).toNatClampNeg) 13 (704 : Int32).toNatClampNeg) 13 (11 : Int32).toNatClampNeg) 13 (704 : Int32).toNatClampNeg) 13 (11 : Int32).toNatClampNeg).1 + 1))) fun s34 =>
  rd_na 25 25 <| rd_np (rd_push (rd_push (rd_push (rd_push (rd_push (rd_push (rd_push (rd_push (rd_push (rd_push (rd_push (rd_push (rd_push (rd_push (rd_push w 13 (128 : Int32).toNatClampNeg) 13 (128 : Int32).toNatClampNeg) 13 (50 : Int32).toNatClampNeg) 13 (3 : Int32).toNatClampNeg) 13 (4 : Int32).toNatClampNeg) 13 (4 : Int32).toNatClampNeg) 13 (4 : Int32).toNatClampNeg) 13 (4 : Int32).toNatClampNeg) 13 (10 : Int32).toNatClampNeg) 13 (6 : Int32).toNatClampNeg) 13 (704 : Int32).toNatClampNeg) 13 (11 : Int32).toNatClampNeg) 13 (704 : Int32).toNatClampNeg) 13 (11 : Int32).toNatClampNeg) 13 (25 : Int32).toNatClampNeg) <|
  rd_let (pR s34 a0 34 (some ((rd_push (rd_push (rd_push (rd_push (rd_push (rd_push (rd_push (rd_push (rd_push (rd_push (rd_push (rd_push (rd_push (rd_push (rd_push w 13 (128 : Int32).toNatClampNeg) 13 (128 : Int32).toNatClampNeg) 13 (50 : Int32).toNatClampNeg) 13 (3 : Int32).toNatClampNeg) 13 (4 : Int32).toNatClampNeg) 13 (4 : Int32).toNatClampNeg) 13 (4 : Int32).toNatClampNeg) 13 (4 : Int32).toNatClampNeg) 13 (10 : Int32).toNatClampNeg) 13 (6 : Int32).toNatClampNeg) 13 (704 : Int32).toNatClampNeg) 13 (11 : Int32).toNatClampNeg) 13 (704 : Int32).toNatClampNeg) 13 (11 : Int32).toNatClampNeg) 13 (25 : Int32).toNatClampNeg).1 + 1))) fun s36 =>
  rd_let (pI s36 a0 35 (-1)) fun s37 =>
  rd_na 8 8 <| rd_np (rd_push (rd_push (rd_push (rd_push (rd_push (rd_push (rd_push (rd_push (rd_push (rd_push (rd_push (rd_push (rd_push (rd_push (rd_push (rd_push w 13 (128 : Int32).toNatClampNeg) 13 (128 : Int32).toNatClampNeg) 13 (50 : Int32).toNatClampNeg) 13 (3 : Int32).toNatClampNeg) 13 (4 : Int32).toNatClampNeg) 13 (4 : Int32).toNatClampNeg) 13 (4 : Int32).toNatClampNeg) 13 (4 : Int32).toNatClampNeg) 13 (10 : Int32).toNatClampNeg) 13 (6 : Int32).toNatClampNeg) 13 (704 : Int32).toNatClampNeg) 13 (11 : Int32).toNatClampNeg) 13 (704 : Int32).toNatClampNeg) 13 (11 : Int32).toNatClampNeg) 13 (25 : Int32).toNatClampNeg) 13 (25 : Int32).toNatClampNeg) <|
  rd_let (pR s37 a0 40 (some ((rd_push (rd_push (rd_push (rd_push (rd_push (rd_push (rd_push (rd_push (rd_push (rd_push (rd_push (rd_push (rd_push (rd_push (rd_push (rd_push w 13 (128 : Int32).toNatClampNeg) 13 (128 : Int32).toNatClampNeg) 13 (50 : Int32).toNatClampNeg) 13 (3 : Int32).toNatClampNeg) 13 (4 : Int32).toNatClampNeg) 13 (4 : Int32).toNatClampNeg) 13 (4 : Int32).toNatClampNeg) 13 (4 : Int32).toNatClampNeg) 13 (10 : Int32).toNatClampNeg) 13 (6 : Int32).toNatClampNeg) 13 (704 : Int32).toNatClampNeg) 13 (11 : Int32).toNatClampNeg) 13 (704 : Int32).toNatClampNeg) 13 (11 : Int32).toNatClampNeg) 13 (25 : Int32).toNatClampNeg) 13 (25 : Int32).toNatClampNeg).1 + 1))) fun s39 =>
  rd_na 8 8 <| rd_np (rd_push (rd_push (rd_push (rd_push (rd_push (rd_push (rd_push (rd_push (rd_push (rd_push (rd_push (rd_push (rd_push (rd_push (rd_push (rd_push (rd_push w 13 (128 : Int32).toNatClampNeg) 13 (128 : Int32).toNatClampNeg) 13 (50 : Int32).toNatClampNeg) 13 (3 : Int32).toNatClampNeg) 13 (4 : Int32).toNatClampNeg) 13 (4 : Int32).toNatClampNeg) 13 (4 : Int32).toNatClampNeg) 13 (4 : Int32).toNatClampNeg) 13 (10 : Int32).toNatClampNeg) 13 (6 : Int32).toNatClampNeg) 13 (704 : Int32).toNatClampNeg) 13 (11 : Int32).toNatClampNeg) 13 (704 : Int32).toNatClampNeg) 13 (11 : Int32).toNatClampNeg) 13 (25 : Int32).toNatClampNeg) 13 (25 : Int32).toNatClampNeg) 13 (8 : Int32).toNatClampNeg) <|
  rd_let (pR s39 a0 41 (some ((rd_push (rd_push (rd_push (rd_push (rd_push (rd_push (rd_push (rd_push (rd_push (rd_push (rd_push (rd_push (rd_push (rd_push (rd_push (rd_push (rd_push w 13 (128 : Int32).toNatClampNeg) 13 (128 : Int32).toNatClampNeg) 13 (50 : Int32).toNatClampNeg) 13 (3 : Int32).toNatClampNeg) 13 (4 : Int32).toNatClampNeg) 13 (4 : Int32).toNatClampNeg) 13 (4 : Int32).toNatClampNeg) 13 (4 : Int32).toNatClampNeg) 13 (10 : Int32).toNatClampNeg) 13 (6 : Int32).toNatClampNeg) 13 (704 : Int32).toNatClampNeg) 13 (11 : Int32).toNatClampNeg) 13 (704 : Int32).toNatClampNeg) 13 (11 : Int32).toNatClampNeg) 13 (25 : Int32).toNatClampNeg) 13 (25 : Int32).toNatClampNeg) 13 (8 : Int32).toNatClampNeg).1 + 1))) fun s41 =>
  rd_na 8 8 <| rd_np (rd_push (rd_push (rd_push (rd_push (rd_push (rd_push (rd_push (rd_push (rd_push (rd_push (rd_push (rd_push (rd_push (rd_push (rd_push (rd_push (rd_push (rd_push w 13 (128 : Int32).toNatClampNeg) 13 (128 : Int32).toNatClampNeg) 13 (50 : Int32).toNatClampNeg) 13 (3 : Int32).toNatClampNeg) 13 (4 : Int32).toNatClampNeg) 13 (4 : Int32).toNatClampNeg) 13 (4 : Int32).toNatClampNeg) 13 (4 : Int32).toNatClampNeg) 13 (10 : Int32).toNatClampNeg) 13 (6 : Int32).toNatClampNeg) 13 (704 : Int32).toNatClampNeg) 13 (11 : Int32).toNatClampNeg) 13 (704 : Int32).toNatClampNeg) 13 (11 : Int32).toNatClampNeg) 13 (25 : Int32).toNatClampNeg) 13 (25 : Int32).toNatClampNeg) 13 (8 : Int32).toNatClampNeg) 13 (8 : Int32).toNatClampNeg) <|
  rd_let (pR s41 a0 42 (some ((rd_push (rd_push (rd_push (rd_push (rd_push (rd_push (rd_push (rd_push (rd_push (rd_push (rd_push (rd_push (rd_push (rd_push (rd_push (rd_push (rd_push (rd_push w 13 (128 : Int32).toNatClampNeg) 13 (128 : Int32).toNatClampNeg) 13 (50 : Int32).toNatClampNeg) 13 (3 : Int32).toNatClampNeg) 13 (4 : Int32).toNatClampNeg) 13 (4 : Int32).toNatClampNeg) 13 (4 : Int32).toNatClampNeg) 13 (4 : Int32).toNatClampNeg) 13 (10 : Int32).toNatClampNeg) 13 (6 : Int32).toNatClampNeg) 13 (704 : Int32).toNatClampNeg) 13 (11 : Int32).toNatClampNeg) 13 (704 : Int32).toNatClampNeg) 13 (11 : Int32).toNatClampNeg) 13 (25 : Int32).toNatClampNeg) 13 (25 : Int32).toNatClampNeg) 13 (8 : Int32).toNatClampNeg) 13 (8 : Int32).toNatClampNeg).1 + 1))) fun s43 =>
  rd_na 8 8 <| rd_np (rd_push (rd_push (rd_push (rd_push (rd_push (rd_push (rd_push (rd_push (rd_push (rd_push (rd_push (rd_push (rd_push (rd_push (rd_push (rd_push (rd_push (rd_push (rd_push w 13 (128 : Int32).toNatClampNeg) 13 (128 : Int32).toNatClampNeg) 13 (50 : Int32).toNatClampNeg) 13 (3 : Int32).toNatClampNeg) 13 (4 : Int32).toNatClampNeg) 13 (4 : Int32).toNatClampNeg) 13 (4 : Int32).toNatClampNeg) 13 (4 : Int32).toNatClampNeg) 13 (10 : Int32).toNatClampNeg) 13 (6 : Int32).toNatClampNeg) 13 (704 : Int32).toNatClampNeg) 13 (11 : Int32).toNatClampNeg) 13 (704 : Int32).toNatClampNeg) 13 (11 : Int32).toNatClampNeg) 13 (25 : Int32).toNatClampNeg) 13 (25 : Int32).toNatClampNeg) 13 (8 : Int32).toNatClampNeg) 13 (8 : Int32).toNatClampNeg) 13 (8 : Int32).toNatClampNeg) <|
  rd_let (pR s43 a0 44 (some ((rd_push (rd_push (rd_push (rd_push (rd_push (rd_push (rd_push (rd_push (rd_push (rd_push (rd_push (rd_push (rd_push (rd_push (rd_push (rd_push (rd_push (rd_push (rd_push w 13 (128 : Int32).toNatClampNeg) 13 (128 : Int32).toNatClampNeg) 13 (50 : Int32).toNatClampNeg) 13 (3 : Int32).toNatClampNeg) 13 (4 : Int32).toNatClampNeg) 13 (4 : Int32).toNatClampNeg) 13 (4 : Int32).toNatClampNeg) 13 (4 : Int32).toNatClampNeg) 13 (10 : Int32).toNatClampNeg) 13 (6 : Int32).toNatClampNeg) 13 (704 : Int32).toNatClampNeg) 13 (11 : Int32).toNatClampNeg) 13 (704 : Int32).toNatClampNeg) 13 (11 : Int32).toNatClampNeg) 13 (25 : Int32).toNatClampNeg) 13 (25 : Int32).toNatClampNeg) 13 (8 : Int32).toNatClampNeg) 13 (8 : Int32).toNatClampNeg) 13 (8 : Int32).toNatClampNeg).1 + 1))) fun s45 =>
  rd_na 88 88 <| rd_np (rd_push (rd_push (rd_push (rd_push (rd_push (rd_push (rd_push (rd_push (rd_push (rd_push (rd_push (rd_push (rd_push (rd_push (rd_push (rd_push (rd_push (rd_push (rd_push (rd_push w 13 (128 : Int32).toNatClampNeg) 13 (128 : Int32).toNatClampNeg) 13 (50 : Int32).toNatClampNeg) 13 (3 : Int32).toNatClampNeg) 13 (4 : Int32).toNatClampNeg) 13 (4 : Int32).toNatClampNeg) 13 (4 : Int32).toNatClampNeg) 13 (4 : Int32).toNatClampNeg) 13 (10 : Int32).toNatClampNeg) 13 (6 : Int32).toNatClampNeg) 13 (704 : Int32).toNatClampNeg) 13 (11 : Int32).toNatClampNeg) 13 (704 : Int32).toNatClampNeg) 13 (11 : Int32).toNatClampNeg) 13 (25 : Int32).toNatClampNeg) 13 (25 : Int32).toNatClampNeg) 13 (8 : Int32).toNatClampNeg) 13 (8 : Int32).toNatClampNeg) 13 (8 : Int32).toNatClampNeg) 13 (8 : Int32).toNatClampNeg) <|
  rd_let (pR s45 a0 51 (some ((rd_push (rd_push (rd_push (rd_push (rd_push (rd_push (rd_push (rd_push (rd_push (rd_push (rd_push (rd_push (rd_push (rd_push (rd_push (rd_push (rd_push (rd_push (rd_push (rd_push w 13 (128 : Int32).toNatClampNeg) 13 (128 : Int32).toNatClampNeg) 13 (50 : Int32).toNatClampNeg) 13 (3 : Int32).toNatClampNeg) 13 (4 : Int32).toNatClampNeg) 13 (4 : Int32).toNatClampNeg) 13 (4 : Int32).toNatClampNeg) 13 (4 : Int32).toNatClampNeg) 13 (10 : Int32).toNatClampNeg) 13 (6 : Int32).toNatClampNeg) 13 (704 : Int32).toNatClampNeg) 13 (11 : Int32).toNatClampNeg) 13 (704 : Int32).toNatClampNeg) 13 (11 : Int32).toNatClampNeg) 13 (25 : Int32).toNatClampNeg) 13 (25 : Int32).toNatClampNeg) 13 (8 : Int32).toNatClampNeg) 13 (8 : Int32).toNatClampNeg) 13 (8 : Int32).toNatClampNeg) 13 (8 : Int32).toNatClampNeg).1 + 1))) fun s47 =>
  rd_na 8 8 <| rd_np (rd_push (rd_push (rd_push (rd_push (rd_push (rd_push (rd_push (rd_push (rd_push (rd_push (rd_push (rd_push (rd_push (rd_push (rd_push (rd_push (rd_push (rd_push (rd_push (rd_push (rd_push w 13 (128 : Int32).toNatClampNeg) 13 (128 : Int32).toNatClampNeg) 13 (50 : Int32).toNatClampNeg) 13 (3 : Int32).toNatClampNeg) 13 (4 : Int32).toNatClampNeg) 13 (4 : Int32).toNatClampNeg) 13 (4 : Int32).toNatClampNeg) 13 (4 : Int32).toNatClampNeg) 13 (10 : Int32).toNatClampNeg) 13 (6 : Int32).toNatClampNeg) 13 (704 : Int32).toNatClampNeg) 13 (11 : Int32).toNatClampNeg) 13 (704 : Int32).toNatClampNeg) 13 (11 : Int32).toNatClampNeg) 13 (25 : Int32).toNatClampNeg) 13 (25 : Int32).toNatClampNeg) 13 (8 : Int32).toNatClampNeg) 13 (8 : Int32).toNatClampNeg) 13 (8 : Int32).toNatClampNeg) 13 (8 : Int32).toNatClampNeg) 13 (88 : Int32).toNatClampNeg) <|
  rd_let (pR s47 a0 52 (some ((rd_push (rd_push (rd_push (rd_push (rd_push (rd_push (rd_push (rd_push (rd_push (rd_push (rd_push (rd_push (rd_push (rd_push (rd_push (rd_push (rd_push (rd_push (rd_push (rd_push (rd_push w 13 (128 : Int32).toNatClampNeg) 13 (128 : Int32).toNatClampNeg) 13 (50 : Int32).toNatClampNeg) 13 (3 : Int32).toNatClampNeg) 13 (4 : Int32).toNatClampNeg) 13 (4 : Int32).toNatClampNeg) 13 (4 : Int32).toNatClampNeg) 13 (4 : Int32).toNatClampNeg) 13 (10 : Int32).toNatClampNeg) 13 (6 : Int32).toNatClampNeg) 13 (704 : Int32).toNatClampNeg) 13 (11 : Int32).toNatClampNeg) 13 (704 : Int32).toNatClampNeg) 13 (11 : Int32).toNatClampNeg) 13 (25 : Int32).toNatClampNeg) 13 (25 : Int32).toNatClampNeg) 13 (8 : Int32).toNatClampNeg) 13 (8 : Int32).toNatClampNeg) 13 (8 : Int32).toNatClampNeg) 13 (8 : Int32).toNatClampNeg) 13 (88 : Int32).toNatClampNeg).1 + 1))) fun s49 =>
  rd_c (F_X12_unknown (rd_push (rd_push (rd_push (rd_push (rd_push (rd_push (rd_push (rd_push (rd_push (rd_push (rd_push (rd_push (rd_push (rd_push (rd_push (rd_push (rd_push (rd_push (rd_push (rd_push (rd_push (rd_push w 13 (128 : Int32).toNatClampNeg) 13 (128 : Int32).toNatClampNeg) 13 (50 : Int32).toNatClampNeg) 13 (3 : Int32).toNatClampNeg) 13 (4 : Int32).toNatClampNeg) 13 (4 : Int32).toNatClampNeg) 13 (4 : Int32).toNatClampNeg) 13 (4 : Int32).toNatClampNeg) 13 (10 : Int32).toNatClampNeg) 13 (6 : Int32).toNatClampNeg) 13 (704 : Int32).toNatClampNeg) 13 (11 : Int32).toNatClampNeg) 13 (704 : Int32).toNatClampNeg) 13 (11 : Int32).toNatClampNeg) 13 (25 : Int32).toNatClampNeg) 13 (25 : Int32).toNatClampNeg) 13 (8 : Int32).toNatClampNeg) 13 (8 : Int32).toNatClampNeg) 13 (8 : Int32).toNatClampNeg) 13 (8 : Int32).toNatClampNeg) 13 (88 : Int32).toNatClampNeg) 13 (8 : Int32).toNatClampNeg) a0 s49) fun s50 =>
  rd_let (pI s50 a0 23 (-1)) fun s51 =>
  some (rd_push (rd_push (rd_push (rd_push (rd_push (rd_push (rd_push (rd_push (rd_push (rd_push (rd_push (rd_push (rd_push (rd_push (rd_push (rd_push (rd_push (rd_push (rd_push (rd_push (rd_push (rd_push w 13 (128 : Int32).toNatClampNeg) 13 (128 : Int32).toNatClampNeg) 13 (50 : Int32).toNatClampNeg) 13 (3 : Int32).toNatClampNeg) 13 (4 : Int32).toNatClampNeg) 13 (4 : Int32).toNatClampNeg) 13 (4 : Int32).toNatClampNeg) 13 (4 : Int32).toNatClampNeg) 13 (10 : Int32).toNatClampNeg) 13 (6 : Int32).toNatClampNeg) 13 (704 : Int32).toNatClampNeg) 13 (11 : Int32).toNatClampNeg) 13 (704 : Int32).toNatClampNeg) 13 (11 : Int32).toNatClampNeg) 13 (25 : Int32).toNatClampNeg) 13 (25 : Int32).toNatClampNeg) 13 (8 : Int32).toNatClampNeg) 13 (8 : Int32).toNatClampNeg) 13 (8 : Int32).toNatClampNeg) 13 (8 : Int32).toNatClampNeg) 13 (88 : Int32).toNatClampNeg) 13 (8 : Int32).toNatClampNeg, s51)
theorem ym_X12_init (cx : rd_Cx) (w : rd_W) (a0 : Nat) (ha0 : rd_ok w a0 12) (S : rd_S) : rd_Y cx G_X12_init (fun r => rd_P cx G_X12_init.2.2.2.2.2 0 w (rd_rC r)) (F_X12_init w a0 S) 0 (rd_as 0 [.inr (some a0)]) [] w S 0 0 := by
  unfold F_X12_init
  refine ry_aload_n dX12_init_0 rfl ?_
  refine ry_objinit dX12_init_1 ha0 ml_RX12_281 ob_inst ob_code (by decide) (Nat.le_of_ble_eq_true rfl) ?_
  refine ry_aload_n dX12_init_4 rfl ?_
  refine ry_iconst (v := 5) dX12_init_5 (by decide) ?_
  refine ry_puti dX12_init_6 ha0 fl_RX12_18 rfl rfl rfl ?_
  refine ry_letS (fun s1 => ?_)
  refine ry_aload_n dX12_init_9 rfl ?_
  refine ry_bipush (v := 30) dX12_init_10 (by decide) ?_
  refine ry_puti dX12_init_12 ha0 fl_RX12_22 rfl rfl rfl ?_
  refine ry_letS (fun s2 => ?_)
  refine ry_aload_n dX12_init_15 rfl ?_
  refine ry_sipush (v := 128) dX12_init_16 (by decide) ?_
  refine ry_newa 128 dX12_init_19 ar_int (Nat.le_of_ble_eq_true rfl) (Nat.le_of_ble_eq_true rfl) (Nat.le_of_ble_eq_true rfl) (fun h3 => ?_)
  refine ry_putFr dX12_init_21 rfl rfl (ha0.le (rd_push_le _ _ _)) h3 fl_RX12_25 rfl rfl rfl (fun _ => rfl) (fun _ => rfl) ?_
  refine ry_letS (fun s4 => ?_)
  refine ry_aload_n dX12_init_24 rfl ?_
  refine ry_sipush (v := 128) dX12_init_25 (by decide) ?_
  refine ry_newa 128 dX12_init_28 ar_int (Nat.le_of_ble_eq_true rfl) (Nat.le_of_ble_eq_true rfl) (Nat.le_of_ble_eq_true rfl) (fun h5 => ?_)
  refine ry_putFr dX12_init_30 rfl rfl ((ha0.le (rd_push_le _ _ _)).le (rd_push_le _ _ _)) h5 fl_RX12_36 rfl rfl rfl (fun _ => rfl) (fun _ => rfl) ?_
  refine ry_letS (fun s6 => ?_)
  refine ry_aload_n dX12_init_33 rfl ?_
  refine ry_bipush (v := 50) dX12_init_34 (by decide) ?_
  refine ry_newa 50 dX12_init_36 ar_int (Nat.le_of_ble_eq_true rfl) (Nat.le_of_ble_eq_true rfl) (Nat.le_of_ble_eq_true rfl) (fun h7 => ?_)
  refine ry_putFr dX12_init_38 rfl rfl (((ha0.le (rd_push_le _ _ _)).le (rd_push_le _ _ _)).le (rd_push_le _ _ _)) h7 fl_RX12_102 rfl rfl rfl (fun _ => rfl) (fun _ => rfl) ?_
  refine ry_letS (fun s8 => ?_)
  refine ry_aload_n dX12_init_41 rfl ?_
  refine ry_iconst (v := 3) dX12_init_42 (by decide) ?_
  refine ry_newa 3 dX12_init_43 ar_int (Nat.le_of_ble_eq_true rfl) (Nat.le_of_ble_eq_true rfl) (Nat.le_of_ble_eq_true rfl) (fun h9 => ?_)
  refine ry_putFr dX12_init_45 rfl rfl ((((ha0.le (rd_push_le _ _ _)).le (rd_push_le _ _ _)).le (rd_push_le _ _ _)).le (rd_push_le _ _ _)) h9 fl_RX12_87 rfl rfl rfl (fun _ => rfl) (fun _ => rfl) ?_
  refine ry_letS (fun s10 => ?_)
  refine ry_aload_n dX12_init_48 rfl ?_
  refine ry_iconst (v := 4) dX12_init_49 (by decide) ?_
  refine ry_newa 4 dX12_init_50 ar_int (Nat.le_of_ble_eq_true rfl) (Nat.le_of_ble_eq_true rfl) (Nat.le_of_ble_eq_true rfl) (fun h11 => ?_)
  refine ry_putFr dX12_init_52 rfl rfl (((((ha0.le (rd_push_le _ _ _)).le (rd_push_le _ _ _)).le (rd_push_le _ _ _)).le (rd_push_le _ _ _)).le (rd_push_le _ _ _)) h11 fl_RX12_77 rfl rfl rfl (fun _ => rfl) (fun _ => rfl) ?_
  refine ry_letS (fun s12 => ?_)
  refine ry_aload_n dX12_init_55 rfl ?_
  refine ry_iconst (v := 4) dX12_init_56 (by decide) ?_
  refine ry_newa 4 dX12_init_57 ar_int (Nat.le_of_ble_eq_true rfl) (Nat.le_of_ble_eq_true rfl) (Nat.le_of_ble_eq_true rfl) (fun h13 => ?_)
  refine ry_putFr dX12_init_59 rfl rfl ((((((ha0.le (rd_push_le _ _ _)).le (rd_push_le _ _ _)).le (rd_push_le _ _ _)).le (rd_push_le _ _ _)).le (rd_push_le _ _ _)).le (rd_push_le _ _ _)) h13 fl_RX12_74 rfl rfl rfl (fun _ => rfl) (fun _ => rfl) ?_
  refine ry_letS (fun s14 => ?_)
  refine ry_aload_n dX12_init_62 rfl ?_
  refine ry_iconst (v := 4) dX12_init_63 (by decide) ?_
  refine ry_newa 4 dX12_init_64 ar_int (Nat.le_of_ble_eq_true rfl) (Nat.le_of_ble_eq_true rfl) (Nat.le_of_ble_eq_true rfl) (fun h15 => ?_)
  refine ry_putFr dX12_init_66 rfl rfl (((((((ha0.le (rd_push_le _ _ _)).le (rd_push_le _ _ _)).le (rd_push_le _ _ _)).le (rd_push_le _ _ _)).le (rd_push_le _ _ _)).le (rd_push_le _ _ _)).le (rd_push_le _ _ _)) h15 fl_RX12_111 rfl rfl rfl (fun _ => rfl) (fun _ => rfl) ?_
  refine ry_letS (fun s16 => ?_)
  refine ry_aload_n dX12_init_69 rfl ?_
  refine ry_iconst (v := 4) dX12_init_70 (by decide) ?_
  refine ry_newa 4 dX12_init_71 ar_int (Nat.le_of_ble_eq_true rfl) (Nat.le_of_ble_eq_true rfl) (Nat.le_of_ble_eq_true rfl) (fun h17 => ?_)
  refine ry_putFr dX12_init_73 rfl rfl ((((((((ha0.le (rd_push_le _ _ _)).le (rd_push_le _ _ _)).le (rd_push_le _ _ _)).le (rd_push_le _ _ _)).le (rd_push_le _ _ _)).le (rd_push_le _ _ _)).le (rd_push_le _ _ _)).le (rd_push_le _ _ _)) h17 fl_RX12_108 rfl rfl rfl (fun _ => rfl) (fun _ => rfl) ?_
  refine ry_letS (fun s18 => ?_)
  refine ry_aload_n dX12_init_76 rfl ?_
  refine ry_bipush (v := 10) dX12_init_77 (by decide) ?_
  refine ry_newa 10 dX12_init_79 ar_int (Nat.le_of_ble_eq_true rfl) (Nat.le_of_ble_eq_true rfl) (Nat.le_of_ble_eq_true rfl) (fun h19 => ?_)
  refine ry_putFr dX12_init_81 rfl rfl (((((((((ha0.le (rd_push_le _ _ _)).le (rd_push_le _ _ _)).le (rd_push_le _ _ _)).le (rd_push_le _ _ _)).le (rd_push_le _ _ _)).le (rd_push_le _ _ _)).le (rd_push_le _ _ _)).le (rd_push_le _ _ _)).le (rd_push_le _ _ _)) h19 fl_RX12_127 rfl rfl rfl (fun _ => rfl) (fun _ => rfl) ?_
  refine ry_letS (fun s20 => ?_)
  refine ry_aload_n dX12_init_84 rfl ?_
  refine ry_bipush (v := 6) dX12_init_85 (by decide) ?_
  refine ry_newa 6 dX12_init_87 ar_int (Nat.le_of_ble_eq_true rfl) (Nat.le_of_ble_eq_true rfl) (Nat.le_of_ble_eq_true rfl) (fun h21 => ?_)
  refine ry_putFr dX12_init_89 rfl rfl ((((((((((ha0.le (rd_push_le _ _ _)).le (rd_push_le _ _ _)).le (rd_push_le _ _ _)).le (rd_push_le _ _ _)).le (rd_push_le _ _ _)).le (rd_push_le _ _ _)).le (rd_push_le _ _ _)).le (rd_push_le _ _ _)).le (rd_push_le _ _ _)).le (rd_push_le _ _ _)) h21 fl_RX12_190 rfl rfl rfl (fun _ => rfl) (fun _ => rfl) ?_
  refine ry_letS (fun s22 => ?_)
  refine ry_aload_n dX12_init_92 rfl ?_
  refine ry_sipush (v := 704) dX12_init_93 (by decide) ?_
  refine ry_newa 704 dX12_init_96 ar_int (Nat.le_of_ble_eq_true rfl) (Nat.le_of_ble_eq_true rfl) (Nat.le_of_ble_eq_true rfl) (fun h23 => ?_)
  refine ry_putFr dX12_init_98 rfl rfl (((((((((((ha0.le (rd_push_le _ _ _)).le (rd_push_le _ _ _)).le (rd_push_le _ _ _)).le (rd_push_le _ _ _)).le (rd_push_le _ _ _)).le (rd_push_le _ _ _)).le (rd_push_le _ _ _)).le (rd_push_le _ _ _)).le (rd_push_le _ _ _)).le (rd_push_le _ _ _)).le (rd_push_le _ _ _)) h23 fl_RX12_171 rfl rfl rfl (fun _ => rfl) (fun _ => rfl) ?_
  refine ry_letS (fun s24 => ?_)
  refine ry_aload_n dX12_init_101 rfl ?_
  refine ry_bipush (v := 11) dX12_init_102 (by decide) ?_
  refine ry_newa 11 dX12_init_104 ar_int (Nat.le_of_ble_eq_true rfl) (Nat.le_of_ble_eq_true rfl) (Nat.le_of_ble_eq_true rfl) (fun h25 => ?_)
  refine ry_putFr dX12_init_106 rfl rfl ((((((((((((ha0.le (rd_push_le _ _ _)).le (rd_push_le _ _ _)).le (rd_push_le _ _ _)).le (rd_push_le _ _ _)).le (rd_push_le _ _ _)).le (rd_push_le _ _ _)).le (rd_push_le _ _ _)).le (rd_push_le _ _ _)).le (rd_push_le _ _ _)).le (rd_push_le _ _ _)).le (rd_push_le _ _ _)).le (rd_push_le _ _ _)) h25 fl_RX12_178 rfl rfl rfl (fun _ => rfl) (fun _ => rfl) ?_
  refine ry_letS (fun s26 => ?_)
  refine ry_aload_n dX12_init_109 rfl ?_
  refine ry_sipush (v := 704) dX12_init_110 (by decide) ?_
  refine ry_newa 704 dX12_init_113 ar_int (Nat.le_of_ble_eq_true rfl) (Nat.le_of_ble_eq_true rfl) (Nat.le_of_ble_eq_true rfl) (fun h27 => ?_)
  refine ry_putFr dX12_init_115 rfl rfl (((((((((((((ha0.le (rd_push_le _ _ _)).le (rd_push_le _ _ _)).le (rd_push_le _ _ _)).le (rd_push_le _ _ _)).le (rd_push_le _ _ _)).le (rd_push_le _ _ _)).le (rd_push_le _ _ _)).le (rd_push_le _ _ _)).le (rd_push_le _ _ _)).le (rd_push_le _ _ _)).le (rd_push_le _ _ _)).le (rd_push_le _ _ _)).le (rd_push_le _ _ _)) h27 fl_RX12_184 rfl rfl rfl (fun _ => rfl) (fun _ => rfl) ?_
  refine ry_letS (fun s28 => ?_)
  refine ry_aload_n dX12_init_118 rfl ?_
  refine ry_bipush (v := 11) dX12_init_119 (by decide) ?_
  refine ry_newa 11 dX12_init_121 ar_int (Nat.le_of_ble_eq_true rfl) (Nat.le_of_ble_eq_true rfl) (Nat.le_of_ble_eq_true rfl) (fun h29 => ?_)
  refine ry_putFr dX12_init_123 rfl rfl ((((((((((((((ha0.le (rd_push_le _ _ _)).le (rd_push_le _ _ _)).le (rd_push_le _ _ _)).le (rd_push_le _ _ _)).le (rd_push_le _ _ _)).le (rd_push_le _ _ _)).le (rd_push_le _ _ _)).le (rd_push_le _ _ _)).le (rd_push_le _ _ _)).le (rd_push_le _ _ _)).le (rd_push_le _ _ _)).le (rd_push_le _ _ _)).le (rd_push_le _ _ _)).le (rd_push_le _ _ _)) h29 fl_RX12_187 rfl rfl rfl (fun _ => rfl) (fun _ => rfl) ?_
  refine ry_letS (fun s30 => ?_)
  refine ry_aload_n dX12_init_126 rfl ?_
  refine ry_iconst (v := (-1)) dX12_init_127 (by decide) ?_
  refine ry_puti dX12_init_128 ((((((((((((((ha0.le (rd_push_le _ _ _)).le (rd_push_le _ _ _)).le (rd_push_le _ _ _)).le (rd_push_le _ _ _)).le (rd_push_le _ _ _)).le (rd_push_le _ _ _)).le (rd_push_le _ _ _)).le (rd_push_le _ _ _)).le (rd_push_le _ _ _)).le (rd_push_le _ _ _)).le (rd_push_le _ _ _)).le (rd_push_le _ _ _)).le (rd_push_le _ _ _)).le (rd_push_le _ _ _)) fl_RX12_196 rfl rfl rfl ?_
  refine ry_letS (fun s31 => ?_)
  refine ry_aload_n dX12_init_131 rfl ?_
  refine ry_iconst (v := (-1)) dX12_init_132 (by decide) ?_
  refine ry_puti dX12_init_133 ((((((((((((((ha0.le (rd_push_le _ _ _)).le (rd_push_le _ _ _)).le (rd_push_le _ _ _)).le (rd_push_le _ _ _)).le (rd_push_le _ _ _)).le (rd_push_le _ _ _)).le (rd_push_le _ _ _)).le (rd_push_le _ _ _)).le (rd_push_le _ _ _)).le (rd_push_le _ _ _)).le (rd_push_le _ _ _)).le (rd_push_le _ _ _)).le (rd_push_le _ _ _)).le (rd_push_le _ _ _)) fl_RX12_199 rfl rfl rfl ?_
  refine ry_letS (fun s32 => ?_)
  refine ry_aload_n dX12_init_136 rfl ?_
  refine ry_bipush (v := 25) dX12_init_137 (by decide) ?_
  refine ry_newa 25 dX12_init_139 ar_int (Nat.le_of_ble_eq_true rfl) (Nat.le_of_ble_eq_true rfl) (Nat.le_of_ble_eq_true rfl) (fun h33 => ?_)
  refine ry_putFr dX12_init_141 rfl rfl (((((((((((((((ha0.le (rd_push_le _ _ _)).le (rd_push_le _ _ _)).le (rd_push_le _ _ _)).le (rd_push_le _ _ _)).le (rd_push_le _ _ _)).le (rd_push_le _ _ _)).le (rd_push_le _ _ _)).le (rd_push_le _ _ _)).le (rd_push_le _ _ _)).le (rd_push_le _ _ _)).le (rd_push_le _ _ _)).le (rd_push_le _ _ _)).le (rd_push_le _ _ _)).le (rd_push_le _ _ _)).le (rd_push_le _ _ _)) h33 fl_RX12_224 rfl rfl rfl (fun _ => rfl) (fun _ => rfl) ?_
  refine ry_letS (fun s34 => ?_)
  refine ry_aload_n dX12_init_144 rfl ?_
  refine ry_bipush (v := 25) dX12_init_145 (by decide) ?_
  refine ry_newa 25 dX12_init_147 ar_int (Nat.le_of_ble_eq_true rfl) (Nat.le_of_ble_eq_true rfl) (Nat.le_of_ble_eq_true rfl) (fun h35 => ?_)
  refine ry_putFr dX12_init_149 rfl rfl ((((((((((((((((ha0.le (rd_push_le _ _ _)).le (rd_push_le _ _ _)).le (rd_push_le _ _ _)).le (rd_push_le _ _ _)).le (rd_push_le _ _ _)).le (rd_push_le _ _ _)).le (rd_push_le _ _ _)).le (rd_push_le _ _ _)).le (rd_push_le _ _ _)).le (rd_push_le _ _ _)).le (rd_push_le _ _ _)).le (rd_push_le _ _ _)).le (rd_push_le _ _ _)).le (rd_push_le _ _ _)).le (rd_push_le _ _ _)).le (rd_push_le _ _ _)) h35 fl_RX12_221 rfl rfl rfl (fun _ => rfl) (fun _ => rfl) ?_
  refine ry_letS (fun s36 => ?_)
  refine ry_aload_n dX12_init_152 rfl ?_
  refine ry_iconst (v := (-1)) dX12_init_153 (by decide) ?_
  refine ry_puti dX12_init_154 ((((((((((((((((ha0.le (rd_push_le _ _ _)).le (rd_push_le _ _ _)).le (rd_push_le _ _ _)).le (rd_push_le _ _ _)).le (rd_push_le _ _ _)).le (rd_push_le _ _ _)).le (rd_push_le _ _ _)).le (rd_push_le _ _ _)).le (rd_push_le _ _ _)).le (rd_push_le _ _ _)).le (rd_push_le _ _ _)).le (rd_push_le _ _ _)).le (rd_push_le _ _ _)).le (rd_push_le _ _ _)).le (rd_push_le _ _ _)).le (rd_push_le _ _ _)) fl_RX12_227 rfl rfl rfl ?_
  refine ry_letS (fun s37 => ?_)
  refine ry_aload_n dX12_init_157 rfl ?_
  refine ry_bipush (v := 8) dX12_init_158 (by decide) ?_
  refine ry_newa 8 dX12_init_160 ar_int (Nat.le_of_ble_eq_true rfl) (Nat.le_of_ble_eq_true rfl) (Nat.le_of_ble_eq_true rfl) (fun h38 => ?_)
  refine ry_putFr dX12_init_162 rfl rfl (((((((((((((((((ha0.le (rd_push_le _ _ _)).le (rd_push_le _ _ _)).le (rd_push_le _ _ _)).le (rd_push_le _ _ _)).le (rd_push_le _ _ _)).le (rd_push_le _ _ _)).le (rd_push_le _ _ _)).le (rd_push_le _ _ _)).le (rd_push_le _ _ _)).le (rd_push_le _ _ _)).le (rd_push_le _ _ _)).le (rd_push_le _ _ _)).le (rd_push_le _ _ _)).le (rd_push_le _ _ _)).le (rd_push_le _ _ _)).le (rd_push_le _ _ _)).le (rd_push_le _ _ _)) h38 fl_RX12_233 rfl rfl rfl (fun _ => rfl) (fun _ => rfl) ?_
  refine ry_letS (fun s39 => ?_)
  refine ry_aload_n dX12_init_165 rfl ?_
  refine ry_bipush (v := 8) dX12_init_166 (by decide) ?_
  refine ry_newa 8 dX12_init_168 ar_int (Nat.le_of_ble_eq_true rfl) (Nat.le_of_ble_eq_true rfl) (Nat.le_of_ble_eq_true rfl) (fun h40 => ?_)
  refine ry_putFr dX12_init_170 rfl rfl ((((((((((((((((((ha0.le (rd_push_le _ _ _)).le (rd_push_le _ _ _)).le (rd_push_le _ _ _)).le (rd_push_le _ _ _)).le (rd_push_le _ _ _)).le (rd_push_le _ _ _)).le (rd_push_le _ _ _)).le (rd_push_le _ _ _)).le (rd_push_le _ _ _)).le (rd_push_le _ _ _)).le (rd_push_le _ _ _)).le (rd_push_le _ _ _)).le (rd_push_le _ _ _)).le (rd_push_le _ _ _)).le (rd_push_le _ _ _)).le (rd_push_le _ _ _)).le (rd_push_le _ _ _)).le (rd_push_le _ _ _)) h40 fl_RX12_236 rfl rfl rfl (fun _ => rfl) (fun _ => rfl) ?_
  refine ry_letS (fun s41 => ?_)
  refine ry_aload_n dX12_init_173 rfl ?_
  refine ry_bipush (v := 8) dX12_init_174 (by decide) ?_
  refine ry_newa 8 dX12_init_176 ar_int (Nat.le_of_ble_eq_true rfl) (Nat.le_of_ble_eq_true rfl) (Nat.le_of_ble_eq_true rfl) (fun h42 => ?_)
  refine ry_putFr dX12_init_178 rfl rfl (((((((((((((((((((ha0.le (rd_push_le _ _ _)).le (rd_push_le _ _ _)).le (rd_push_le _ _ _)).le (rd_push_le _ _ _)).le (rd_push_le _ _ _)).le (rd_push_le _ _ _)).le (rd_push_le _ _ _)).le (rd_push_le _ _ _)).le (rd_push_le _ _ _)).le (rd_push_le _ _ _)).le (rd_push_le _ _ _)).le (rd_push_le _ _ _)).le (rd_push_le _ _ _)).le (rd_push_le _ _ _)).le (rd_push_le _ _ _)).le (rd_push_le _ _ _)).le (rd_push_le _ _ _)).le (rd_push_le _ _ _)).le (rd_push_le _ _ _)) h42 fl_RX12_239 rfl rfl rfl (fun _ => rfl) (fun _ => rfl) ?_
  refine ry_letS (fun s43 => ?_)
  refine ry_aload_n dX12_init_181 rfl ?_
  refine ry_bipush (v := 8) dX12_init_182 (by decide) ?_
  refine ry_newa 8 dX12_init_184 ar_int (Nat.le_of_ble_eq_true rfl) (Nat.le_of_ble_eq_true rfl) (Nat.le_of_ble_eq_true rfl) (fun h44 => ?_)
  refine ry_putFr dX12_init_186 rfl rfl ((((((((((((((((((((ha0.le (rd_push_le _ _ _)).le (rd_push_le _ _ _)).le (rd_push_le _ _ _)).le (rd_push_le _ _ _)).le (rd_push_le _ _ _)).le (rd_push_le _ _ _)).le (rd_push_le _ _ _)).le (rd_push_le _ _ _)).le (rd_push_le _ _ _)).le (rd_push_le _ _ _)).le (rd_push_le _ _ _)).le (rd_push_le _ _ _)).le (rd_push_le _ _ _)).le (rd_push_le _ _ _)).le (rd_push_le _ _ _)).le (rd_push_le _ _ _)).le (rd_push_le _ _ _)).le (rd_push_le _ _ _)).le (rd_push_le _ _ _)).le (rd_push_le _ _ _)) h44 fl_RX12_242 rfl rfl rfl (fun _ => rfl) (fun _ => rfl) ?_
  refine ry_letS (fun s45 => ?_)
  refine ry_aload_n dX12_init_189 rfl ?_
  refine ry_bipush (v := 88) dX12_init_190 (by decide) ?_
  refine ry_newa 88 dX12_init_192 ar_int (Nat.le_of_ble_eq_true rfl) (Nat.le_of_ble_eq_true rfl) (Nat.le_of_ble_eq_true rfl) (fun h46 => ?_)
  refine ry_putFr dX12_init_194 rfl rfl (((((((((((((((((((((ha0.le (rd_push_le _ _ _)).le (rd_push_le _ _ _)).le (rd_push_le _ _ _)).le (rd_push_le _ _ _)).le (rd_push_le _ _ _)).le (rd_push_le _ _ _)).le (rd_push_le _ _ _)).le (rd_push_le _ _ _)).le (rd_push_le _ _ _)).le (rd_push_le _ _ _)).le (rd_push_le _ _ _)).le (rd_push_le _ _ _)).le (rd_push_le _ _ _)).le (rd_push_le _ _ _)).le (rd_push_le _ _ _)).le (rd_push_le _ _ _)).le (rd_push_le _ _ _)).le (rd_push_le _ _ _)).le (rd_push_le _ _ _)).le (rd_push_le _ _ _)).le (rd_push_le _ _ _)) h46 fl_RX12_275 rfl rfl rfl (fun _ => rfl) (fun _ => rfl) ?_
  refine ry_letS (fun s47 => ?_)
  refine ry_aload_n dX12_init_197 rfl ?_
  refine ry_bipush (v := 8) dX12_init_198 (by decide) ?_
  refine ry_newa 8 dX12_init_200 ar_int (Nat.le_of_ble_eq_true rfl) (Nat.le_of_ble_eq_true rfl) (Nat.le_of_ble_eq_true rfl) (fun h48 => ?_)
  refine ry_putFr dX12_init_202 rfl rfl ((((((((((((((((((((((ha0.le (rd_push_le _ _ _)).le (rd_push_le _ _ _)).le (rd_push_le _ _ _)).le (rd_push_le _ _ _)).le (rd_push_le _ _ _)).le (rd_push_le _ _ _)).le (rd_push_le _ _ _)).le (rd_push_le _ _ _)).le (rd_push_le _ _ _)).le (rd_push_le _ _ _)).le (rd_push_le _ _ _)).le (rd_push_le _ _ _)).le (rd_push_le _ _ _)).le (rd_push_le _ _ _)).le (rd_push_le _ _ _)).le (rd_push_le _ _ _)).le (rd_push_le _ _ _)).le (rd_push_le _ _ _)).le (rd_push_le _ _ _)).le (rd_push_le _ _ _)).le (rd_push_le _ _ _)).le (rd_push_le _ _ _)) h48 fl_RX12_193 rfl rfl rfl (fun _ => rfl) (fun _ => rfl) ?_
  refine ry_letS (fun s49 => ?_)
  refine ry_aload_n dX12_init_205 rfl ?_
  refine ry_callv (fun l r9 h9 => cm_X12_unknown l cx (rd_push (rd_push (rd_push (rd_push (rd_push (rd_push (rd_push (rd_push (rd_push (rd_push (rd_push (rd_push (rd_push (rd_push (rd_push (rd_push (rd_push (rd_push (rd_push (rd_push (rd_push (rd_push w 13 (128 : Int32).toNatClampNeg) 13 (128 : Int32).toNatClampNeg) 13 (50 : Int32).toNatClampNeg) 13 (3 : Int32).toNatClampNeg) 13 (4 : Int32).toNatClampNeg) 13 (4 : Int32).toNatClampNeg) 13 (4 : Int32).toNatClampNeg) 13 (4 : Int32).toNatClampNeg) 13 (10 : Int32).toNatClampNeg) 13 (6 : Int32).toNatClampNeg) 13 (704 : Int32).toNatClampNeg) 13 (11 : Int32).toNatClampNeg) 13 (704 : Int32).toNatClampNeg) 13 (11 : Int32).toNatClampNeg) 13 (25 : Int32).toNatClampNeg) 13 (25 : Int32).toNatClampNeg) 13 (8 : Int32).toNatClampNeg) 13 (8 : Int32).toNatClampNeg) 13 (8 : Int32).toNatClampNeg) 13 (8 : Int32).toNatClampNeg) 13 (88 : Int32).toNatClampNeg) 13 (8 : Int32).toNatClampNeg) a0 ((((((((((((((((((((((ha0.le (rd_push_le _ _ _)).le (rd_push_le _ _ _)).le (rd_push_le _ _ _)).le (rd_push_le _ _ _)).le (rd_push_le _ _ _)).le (rd_push_le _ _ _)).le (rd_push_le _ _ _)).le (rd_push_le _ _ _)).le (rd_push_le _ _ _)).le (rd_push_le _ _ _)).le (rd_push_le _ _ _)).le (rd_push_le _ _ _)).le (rd_push_le _ _ _)).le (rd_push_le _ _ _)).le (rd_push_le _ _ _)).le (rd_push_le _ _ _)).le (rd_push_le _ _ _)).le (rd_push_le _ _ _)).le (rd_push_le _ _ _)).le (rd_push_le _ _ _)).le (rd_push_le _ _ _)).le (rd_push_le _ _ _)) s49 r9 h9) (rd_runV (vs := []) dX12_init_206 ((((((((((((((((((((((ha0.le (rd_push_le _ _ _)).le (rd_push_le _ _ _)).le (rd_push_le _ _ _)).le (rd_push_le _ _ _)).le (rd_push_le _ _ _)).le (rd_push_le _ _ _)).le (rd_push_le _ _ _)).le (rd_push_le _ _ _)).le (rd_push_le _ _ _)).le (rd_push_le _ _ _)).le (rd_push_le _ _ _)).le (rd_push_le _ _ _)).le (rd_push_le _ _ _)).le (rd_push_le _ _ _)).le (rd_push_le _ _ _)).le (rd_push_le _ _ _)).le (rd_push_le _ _ _)).le (rd_push_le _ _ _)).le (rd_push_le _ _ _)).le (rd_push_le _ _ _)).le (rd_push_le _ _ _)).le (rd_push_le _ _ _)) rfl rfl yf_X12_unknown mi_X12_unknown ms_X12_unknown ml_RX12_130 ⟨Nat.le_of_ble_eq_true rfl, Nat.le_of_ble_eq_true rfl⟩ (Nat.le_of_ble_eq_true rfl) rfl) rfl rfl (Nat.le_of_ble_eq_true rfl) (Nat.le_of_ble_eq_true rfl) (fun s50 => ?_)
  refine ry_aload_n dX12_init_209 rfl ?_
  refine ry_iconst (v := (-1)) dX12_init_210 (by decide) ?_
  refine ry_puti dX12_init_211 ((((((((((((((((((((((ha0.le (rd_push_le _ _ _)).le (rd_push_le _ _ _)).le (rd_push_le _ _ _)).le (rd_push_le _ _ _)).le (rd_push_le _ _ _)).le (rd_push_le _ _ _)).le (rd_push_le _ _ _)).le (rd_push_le _ _ _)).le (rd_push_le _ _ _)).le (rd_push_le _ _ _)).le (rd_push_le _ _ _)).le (rd_push_le _ _ _)).le (rd_push_le _ _ _)).le (rd_push_le _ _ _)).le (rd_push_le _ _ _)).le (rd_push_le _ _ _)).le (rd_push_le _ _ _)).le (rd_push_le _ _ _)).le (rd_push_le _ _ _)).le (rd_push_le _ _ _)).le (rd_push_le _ _ _)).le (rd_push_le _ _ _)) fl_RX12_124 rfl rfl rfl ?_
  refine ry_letS (fun s51 => ?_)
  exact ry_cret dX12_init_214 rfl ((((((((((((((((((((((rd_push_le _ _ _).tr (rd_push_le _ _ _)).tr (rd_push_le _ _ _)).tr (rd_push_le _ _ _)).tr (rd_push_le _ _ _)).tr (rd_push_le _ _ _)).tr (rd_push_le _ _ _)).tr (rd_push_le _ _ _)).tr (rd_push_le _ _ _)).tr (rd_push_le _ _ _)).tr (rd_push_le _ _ _)).tr (rd_push_le _ _ _)).tr (rd_push_le _ _ _)).tr (rd_push_le _ _ _)).tr (rd_push_le _ _ _)).tr (rd_push_le _ _ _)).tr (rd_push_le _ _ _)).tr (rd_push_le _ _ _)).tr (rd_push_le _ _ _)).tr (rd_push_le _ _ _)).tr (rd_push_le _ _ _)).tr (rd_push_le _ _ _)) (Nat.le_of_ble_eq_true rfl) (Nat.le_of_ble_eq_true rfl)
theorem cm_X12_init (l : Launch) (cx : rd_Cx) (w : rd_W) (a0 : Nat) (ha0 : rd_ok w a0 12) (S : rd_S) (r : rd_W × rd_S) (h : F_X12_init w a0 S = some r) : rd_M l cx yX12_init G_X12_init 0 [.inr (some a0)] w S (rd_rC r) :=
  rd_enter (plainFor_of_name (by decide +kernel)) rfl (fun _ => rfl) (Nat.le_of_ble_eq_true rfl) (ym_X12_init cx w a0 ha0 S r h)
