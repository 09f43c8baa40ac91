abbrev G_J7_fill_53178 : rd_G := (RJ7, cJ7_fill_53178, 4, none, false, { frames := 0, cells := 0, slots := 0, locals := 0 })
theorem yf_J7_fill_53178 : rd_YL yJ7_fill_53178 G_J7_fill_53178 2 := ⟨rd_mem 104 (by decide +kernel) rfl, rd_mem 65 (by decide +kernel) rfl, by decide +kernel, by decide +kernel, by decide +kernel⟩
theorem mt_J7_fill_53178 : Cond.static yJ7_fill_53178 ∈ rd_gw := rd_mem 103 (by decide +kernel) rfl
theorem dJ7_fill_53178_0 : decode cJ7_fill_53178 0 = .ok (.iconst 0, 1) := by decide +kernel
theorem dJ7_fill_53178_1 : decode cJ7_fill_53178 1 = .ok (.istore_n 2, 1) := by decide +kernel
theorem dJ7_fill_53178_2 : decode cJ7_fill_53178 2 = .ok (.aload_n 0, 1) := by decide +kernel
theorem dJ7_fill_53178_3 : decode cJ7_fill_53178 3 = .ok (.arraylength, 1) := by decide +kernel
theorem dJ7_fill_53178_4 : decode cJ7_fill_53178 4 = .ok (.istore_n 3, 1) := by decide +kernel
theorem dJ7_fill_53178_5 : decode cJ7_fill_53178 5 = .ok (.iload_n 2, 1) := by decide +kernel
theorem dJ7_fill_53178_6 : decode cJ7_fill_53178 6 = .ok (.iload_n 3, 1) := by decide +kernel
theorem dJ7_fill_53178_7 : decode cJ7_fill_53178 7 = .ok (.if_icmp .ge 13, 3) := by decide +kernel
theorem dJ7_fill_53178_10 : decode cJ7_fill_53178 10 = .ok (.aload_n 0, 1) := by decide +kernel
theorem dJ7_fill_53178_11 : decode cJ7_fill_53178 11 = .ok (.iload_n 2, 1) := by decide +kernel
theorem dJ7_fill_53178_12 : decode cJ7_fill_53178 12 = .ok (.iload_n 1, 1) := by decide +kernel
theorem dJ7_fill_53178_13 : decode cJ7_fill_53178 13 = .ok (.iastore, 1) := by decide +kernel
theorem dJ7_fill_53178_14 : decode cJ7_fill_53178 14 = .ok (.iinc 2 1, 3) := by decide +kernel
theorem dJ7_fill_53178_17 : decode cJ7_fill_53178 17 = .ok (.goto (-12), 3) := by decide +kernel
theorem dJ7_fill_53178_20 : decode cJ7_fill_53178 20 = .ok (.return_, 1) := by decide +kernel
def B_J7_fill_53178_5 (w : rd_W) (k5 : Nat → Int32 → Int32 → Int32 → rd_S → Option (rd_S)) (a0 : Nat) (x1 : Int32) (x2 : Int32) (x3 : Int32) (S : rd_S) : Option (rd_S) :=
  if x3 ≤ x2 then
  (some S)
  else
  (rd_i x2 (w.2.2 a0) <|
  rd_let (pI S a0 x2.toNatClampNeg x1) fun s3 =>
  rd_let (x2 + 1) fun v4 =>
  k5 a0 x1 v4 x3 s3)
theorem yb_J7_fill_53178_5 (cx : rd_Cx) (w : rd_W) {k5 : Nat → Int32 → Int32 → Int32 → rd_S → Option (rd_S)} (hk5 : ∀ (a0 : Nat) (x1 : Int32) (x2 : Int32) (x3 : Int32) (ha0 : rd_ok w a0 13) (S : rd_S), rd_Y cx G_J7_fill_53178 (fun r => rd_P cx G_J7_fill_53178.2.2.2.2.2 0 w (rd_rV w r)) (k5 a0 x1 x2 x3 S) 5 [(0, .inr (some a0)), (1, .inl x1), (2, .inl x2), (3, .inl x3)] [] w S 0 0) (a0 : Nat) (x1 : Int32) (x2 : Int32) (x3 : Int32) (ha0 : rd_ok w a0 13) (S : rd_S) : rd_Y cx G_J7_fill_53178 (fun r => rd_P cx G_J7_fill_53178.2.2.2.2.2 0 w (rd_rV w r)) (B_J7_fill_53178_5 w k5 a0 x1 x2 x3 S) 5 [(0, .inr (some a0)), (1, .inl x1), (2, .inl x2), (3, .inl x3)] [] w S 0 0 := by
  unfold B_J7_fill_53178_5
  refine ry_iload_n dJ7_fill_53178_5 rfl ?_
  refine ry_iload_n dJ7_fill_53178_6 rfl ?_
  refine ry_icmp_ge 20 dJ7_fill_53178_7 (by decide) (fun c2 => ?_) (fun c2 => ?_)
  · exact ry_vret dJ7_fill_53178_20 rfl (Nat.le_of_ble_eq_true rfl) (Nat.le_of_ble_eq_true rfl)
  · refine ry_aload_n dJ7_fill_53178_10 rfl ?_
    refine ry_iload_n dJ7_fill_53178_11 rfl ?_
    refine ry_iload_n dJ7_fill_53178_12 rfl ?_
    refine ry_iast dJ7_fill_53178_13 ha0 ?_
    refine ry_letS (fun s3 => ?_)
    refine ry_iinc (v := 1) dJ7_fill_53178_14 rfl (by decide) (by decide) ?_
    refine ry_let (fun v4 => ?_)
    refine ry_goto 5 dJ7_fill_53178_17 (by decide) ?_
    exact ry_to (hk5 a0 x1 v4 x3 ha0 s3) ⟨rfl, rfl, rfl, rfl, trivial⟩
def F_J7_fill_53178_5 (w : rd_W) (n : Nat) : Nat → Int32 → Int32 → Int32 → rd_S → Option (rd_S) :=
  Nat.rec (motive := fun _ => Nat → Int32 → Int32 → Int32 → rd_S → Option (rd_S)) (fun _ _ _ _ _ => none) (fun _ ih => B_J7_fill_53178_5 w ih) n
theorem yl_J7_fill_53178_5 (cx : rd_Cx) (w : rd_W) : ∀ (n : Nat) (a0 : Nat) (x1 : Int32) (x2 : Int32) (x3 : Int32) (ha0 : rd_ok w a0 13) (S : rd_S), rd_Y cx G_J7_fill_53178 (fun r => rd_P cx G_J7_fill_53178.2.2.2.2.2 0 w (rd_rV w r)) (F_J7_fill_53178_5 w n a0 x1 x2 x3 S) 5 [(0, .inr (some a0)), (1, .inl x1), (2, .inl x2), (3, .inl x3)] [] w S 0 0 := by
  intro n
  induction n with
  | zero => intro a0 x1 x2 x3 ha0 S; exact ry_none
  | succ n ih => intro a0 x1 x2 x3 ha0 S; exact yb_J7_fill_53178_5 cx w ih a0 x1 x2 x3 ha0 S
def F_J7_fill_53178 (w : rd_W) (a0 : Nat) (x1 : Int32) (S : rd_S) : Option (rd_S) :=
  rd_let (nI (w.2.2 a0)) fun v1 =>
  F_J7_fill_53178_5 w rd_big a0 x1 0 v1 S
theorem ym_J7_fill_53178 (cx : rd_Cx) (w : rd_W) (a0 : Nat) (x1 : Int32) (ha0 : rd_ok w a0 13) (S : rd_S) : rd_Y cx G_J7_fill_53178 (fun r => rd_P cx G_J7_fill_53178.2.2.2.2.2 0 w (rd_rV w r)) (F_J7_fill_53178 w a0 x1 S) 0 (rd_as 0 [.inr (some a0), .inl x1]) [] w S 0 0 := by
  unfold F_J7_fill_53178
  refine ry_iconst (v := 0) dJ7_fill_53178_0 (by decide) ?_
  refine ry_istore_n dJ7_fill_53178_1 (by decide) ?_
  refine ry_aload_n dJ7_fill_53178_2 rfl ?_
  refine ry_alen dJ7_fill_53178_3 ha0 ?_
  refine ry_istore_n dJ7_fill_53178_4 (by decide) ?_
  refine ry_let (fun v1 => ?_)
  exact ry_to (yl_J7_fill_53178_5 cx w rd_big a0 x1 0 v1 ha0 S) ⟨rfl, rfl, rfl, rfl, trivial⟩
theorem cm_J7_fill_53178 (l : Launch) (cx : rd_Cx) (w : rd_W) (a0 : Nat) (x1 : Int32) (ha0 : rd_ok w a0 13) (S : rd_S) (r : rd_S) (h : F_J7_fill_53178 w a0 x1 S = some r) : rd_M l cx yJ7_fill_53178 G_J7_fill_53178 0 [.inr (some a0), .inl x1] w S (rd_rV w r) :=
  rd_enter (plainFor_of_name (by decide +kernel)) rfl (fun h => by cases h) (Nat.le_of_ble_eq_true rfl) (ym_J7_fill_53178 cx w a0 x1 ha0 S r h)
abbrev G_X3_clear : rd_G := (RX3, cX3_clear, 2, none, false, { frames := 1, cells := 0, slots := 0, locals := 23 })
theorem yf_X3_clear : rd_YL yX3_clear G_X3_clear 1 := ⟨rd_mem 101 (by decide +kernel) rfl, rd_mem 64 (by decide +kernel) rfl, by decide +kernel, by decide +kernel, by decide +kernel⟩
theorem mi_X3_clear : Cond.instanceMethod yX3_clear ∈ rd_gw := rd_mem 99 (by decide +kernel) rfl
theorem ms_X3_clear : Cond.selects (MethodName.cls yX3_clear) yX3_clear yX3_clear ∈ rd_gw := rd_mem 100 (by decide +kernel) rfl
theorem dX3_clear_0 : decode cX3_clear 0 = .ok (.aload_n 0, 1) := by decide +kernel
theorem dX3_clear_1 : decode cX3_clear 1 = .ok (.getfield 9, 3) := by decide +kernel
theorem dX3_clear_4 : decode cX3_clear 4 = .ok (.iconst (-1), 1) := by decide +kernel
theorem dX3_clear_5 : decode cX3_clear 5 = .ok (.invokestatic 22, 3) := by decide +kernel
theorem dX3_clear_8 : decode cX3_clear 8 = .ok (.aload_n 0, 1) := by decide +kernel
theorem dX3_clear_9 : decode cX3_clear 9 = .ok (.getfield 15, 3) := by decide +kernel
theorem dX3_clear_12 : decode cX3_clear 12 = .ok (.iload_n 1, 1) := by decide +kernel
theorem dX3_clear_13 : decode cX3_clear 13 = .ok (.invokestatic 22, 3) := by decide +kernel
theorem dX3_clear_16 : decode cX3_clear 16 = .ok (.aload_n 0, 1) := by decide +kernel
theorem dX3_clear_17 : decode cX3_clear 17 = .ok (.iconst 0, 1) := by decide +kernel
theorem dX3_clear_18 : decode cX3_clear 18 = .ok (.putfield 28, 3) := by decide +kernel
theorem dX3_clear_21 : decode cX3_clear 21 = .ok (.return_, 1) := by decide +kernel
def F_X3_clear (w : rd_W) (a0 : Nat) (x1 : Int32) (S : rd_S) : Option (rd_S) :=
  rd_c (gR S a0 0) fun b1 =>
  rd_c (F_J7_fill_53178 w b1 (-1) S) fun s2 =>
  rd_c (gR s2 a0 1) fun b3 =>
  rd_c (F_J7_fill_53178 w b3 x1 s2) fun s4 =>
  rd_let (pI s4 a0 2 0) fun s5 =>
  some s5
theorem ym_X3_clear (cx : rd_Cx) (w : rd_W) (a0 : Nat) (x1 : Int32) (ha0 : rd_ok w a0 3) (S : rd_S) : rd_Y cx G_X3_clear (fun r => rd_P cx G_X3_clear.2.2.2.2.2 0 w (rd_rV w r)) (F_X3_clear w a0 x1 S) 0 (rd_as 0 [.inr (some a0), .inl x1]) [] w S 0 0 := by
  unfold F_X3_clear
  refine ry_aload_n dX3_clear_0 rfl ?_
  refine ry_getr dX3_clear_1 ha0 fl_RX3_9 rfl (fun b1 hb1 => ?_)
  refine ry_iconst (v := (-1)) dX3_clear_4 (by decide) ?_
  refine ry_callv (fun l r9 h9 => cm_J7_fill_53178 l cx w b1 (-1) hb1 S r9 h9) (rd_runS (vs := [.inr (some b1), .inl (-1)]) dX3_clear_5 yf_J7_fill_53178 mt_J7_fill_53178 ml_RX3_22 ⟨Nat.le_of_ble_eq_true rfl, Nat.le_of_ble_eq_true rfl⟩ (Nat.le_of_ble_eq_true rfl) rfl) rfl rfl (Nat.le_of_ble_eq_true rfl) (Nat.le_of_ble_eq_true rfl) (fun s2 => ?_)
  refine ry_aload_n dX3_clear_8 rfl ?_
  refine ry_getr dX3_clear_9 ha0 fl_RX3_15 rfl (fun b3 hb3 => ?_)
  refine ry_iload_n dX3_clear_12 rfl ?_
  refine ry_callv (fun l r9 h9 => cm_J7_fill_53178 l cx w b3 x1 hb3 s2 r9 h9) (rd_runS (vs := [.inr (some b3), .inl x1]) dX3_clear_13 yf_J7_fill_53178 mt_J7_fill_53178 ml_RX3_22 ⟨Nat.le_of_ble_eq_true rfl, Nat.le_of_ble_eq_true rfl⟩ (Nat.le_of_ble_eq_true rfl) rfl) rfl rfl (Nat.le_of_ble_eq_true rfl) (Nat.le_of_ble_eq_true rfl) (fun s4 => ?_)
  refine ry_aload_n dX3_clear_16 rfl ?_
  refine ry_iconst (v := 0) dX3_clear_17 (by decide) ?_
  refine ry_putz dX3_clear_18 ha0 fl_RX3_28 rfl rfl rfl (by decide) ?_
  refine ry_letS (fun s5 => ?_)
  exact ry_vret dX3_clear_21 rfl (Nat.le_of_ble_eq_true rfl) (Nat.le_of_ble_eq_true rfl)
theorem cm_X3_clear (l : Launch) (cx : rd_Cx) (w : rd_W) (a0 : Nat) (x1 : Int32) (ha0 : rd_ok w a0 3) (S : rd_S) (r : rd_S) (h : F_X3_clear w a0 x1 S = some r) : rd_M l cx yX3_clear G_X3_clear 0 [.inr (some a0), .inl x1] w S (rd_rV w r) :=
  rd_enter (plainFor_of_name (by decide +kernel)) rfl (fun h => by cases h) (Nat.le_of_ble_eq_true rfl) (ym_X3_clear cx w a0 x1 ha0 S r h)
abbrev G_X12_unknown : rd_G := (RX12, cX12_unknown, 2, none, false, { frames := 0, cells := 0, slots := 0, locals := 0 })
theorem yf_X12_unknown : rd_YL yX12_unknown G_X12_unknown 0 := ⟨rd_mem 910 (by decide +kernel) rfl, rd_mem 75 (by decide +kernel) rfl, by decide +kernel, by decide +kernel, by decide +kernel⟩
theorem mi_X12_unknown : Cond.instanceMethod yX12_unknown ∈ rd_gw := rd_mem 909 (by decide +kernel) rfl
theorem ms_X12_unknown : Cond.selects (MethodName.cls yX12_unknown) yX12_unknown yX12_unknown ∈ rd_gw := rd_mem 43 (by decide +kernel) rfl
theorem dX12_unknown_0 : decode cX12_unknown 0 = .ok (.iconst 0, 1) := by decide +kernel
theorem dX12_unknown_1 : decode cX12_unknown 1 = .ok (.istore_n 1, 1) := by decide +kernel
theorem dX12_unknown_2 : decode cX12_unknown 2 = .ok (.iload_n 1, 1) := by decide +kernel
theorem dX12_unknown_3 : decode cX12_unknown 3 = .ok (.bipush 10, 2) := by decide +kernel
theorem dX12_unknown_5 : decode cX12_unknown 5 = .ok (.if_icmp .ge 16, 3) := by decide +kernel
theorem dX12_unknown_8 : decode cX12_unknown 8 = .ok (.aload_n 0, 1) := by decide +kernel
theorem dX12_unknown_9 : decode cX12_unknown 9 = .ok (.getfield 127, 3) := by decide +kernel
theorem dX12_unknown_12 : decode cX12_unknown 12 = .ok (.iload_n 1, 1) := by decide +kernel
theorem dX12_unknown_13 : decode cX12_unknown 13 = .ok (.iconst (-1), 1) := by decide +kernel
theorem dX12_unknown_14 : decode cX12_unknown 14 = .ok (.iastore, 1) := by decide +kernel
theorem dX12_unknown_15 : decode cX12_unknown 15 = .ok (.iinc 1 1, 3) := by decide +kernel
theorem dX12_unknown_18 : decode cX12_unknown 18 = .ok (.goto (-16), 3) := by decide +kernel
theorem dX12_unknown_21 : decode cX12_unknown 21 = .ok (.iconst 0, 1) := by decide +kernel
theorem dX12_unknown_22 : decode cX12_unknown 22 = .ok (.istore_n 1, 1) := by decide +kernel
theorem dX12_unknown_23 : decode cX12_unknown 23 = .ok (.iload_n 1, 1) := by decide +kernel
theorem dX12_unknown_24 : decode cX12_unknown 24 = .ok (.bipush 6, 2) := by decide +kernel
theorem dX12_unknown_26 : decode cX12_unknown 26 = .ok (.if_icmp .ge 16, 3) := by decide +kernel
theorem dX12_unknown_29 : decode cX12_unknown 29 = .ok (.aload_n 0, 1) := by decide +kernel
theorem dX12_unknown_30 : decode cX12_unknown 30 = .ok (.getfield 190, 3) := by decide +kernel
theorem dX12_unknown_33 : decode cX12_unknown 33 = .ok (.iload_n 1, 1) := by decide +kernel
theorem dX12_unknown_34 : decode cX12_unknown 34 = .ok (.iconst 0, 1) := by decide +kernel
theorem dX12_unknown_35 : decode cX12_unknown 35 = .ok (.iastore, 1) := by decide +kernel
theorem dX12_unknown_36 : decode cX12_unknown 36 = .ok (.iinc 1 1, 3) := by decide +kernel
theorem dX12_unknown_39 : decode cX12_unknown 39 = .ok (.goto (-16), 3) := by decide +kernel
theorem dX12_unknown_42 : decode cX12_unknown 42 = .ok (.iconst 0, 1) := by decide +kernel
theorem dX12_unknown_43 : decode cX12_unknown 43 = .ok (.istore_n 1, 1) := by decide +kernel
theorem dX12_unknown_44 : decode cX12_unknown 44 = .ok (.iload_n 1, 1) := by decide +kernel
theorem dX12_unknown_45 : decode cX12_unknown 45 = .ok (.bipush 11, 2) := by decide +kernel
theorem dX12_unknown_47 : decode cX12_unknown 47 = .ok (.if_icmp .ge 23, 3) := by decide +kernel
theorem dX12_unknown_50 : decode cX12_unknown 50 = .ok (.aload_n 0, 1) := by decide +kernel
theorem dX12_unknown_51 : decode cX12_unknown 51 = .ok (.getfield 178, 3) := by decide +kernel
theorem dX12_unknown_54 : decode cX12_unknown 54 = .ok (.iload_n 1, 1) := by decide +kernel
theorem dX12_unknown_55 : decode cX12_unknown 55 = .ok (.iconst 0, 1) := by decide +kernel
theorem dX12_unknown_56 : decode cX12_unknown 56 = .ok (.iastore, 1) := by decide +kernel
theorem dX12_unknown_57 : decode cX12_unknown 57 = .ok (.aload_n 0, 1) := by decide +kernel
theorem dX12_unknown_58 : decode cX12_unknown 58 = .ok (.getfield 187, 3) := by decide +kernel
theorem dX12_unknown_61 : decode cX12_unknown 61 = .ok (.iload_n 1, 1) := by decide +kernel
theorem dX12_unknown_62 : decode cX12_unknown 62 = .ok (.iconst (-1), 1) := by decide +kernel
theorem dX12_unknown_63 : decode cX12_unknown 63 = .ok (.iastore, 1) := by decide +kernel
theorem dX12_unknown_64 : decode cX12_unknown 64 = .ok (.iinc 1 1, 3) := by decide +kernel
theorem dX12_unknown_67 : decode cX12_unknown 67 = .ok (.goto (-23), 3) := by decide +kernel
theorem dX12_unknown_70 : decode cX12_unknown 70 = .ok (.iconst 0, 1) := by decide +kernel
theorem dX12_unknown_71 : decode cX12_unknown 71 = .ok (.istore_n 1, 1) := by decide +kernel
theorem dX12_unknown_72 : decode cX12_unknown 72 = .ok (.iload_n 1, 1) := by decide +kernel
theorem dX12_unknown_73 : decode cX12_unknown 73 = .ok (.aload_n 0, 1) := by decide +kernel
theorem dX12_unknown_74 : decode cX12_unknown 74 = .ok (.getfield 171, 3) := by decide +kernel
theorem dX12_unknown_77 : decode cX12_unknown 77 = .ok (.arraylength, 1) := by decide +kernel
theorem dX12_unknown_78 : decode cX12_unknown 78 = .ok (.if_icmp .ge 16, 3) := by decide +kernel
theorem dX12_unknown_81 : decode cX12_unknown 81 = .ok (.aload_n 0, 1) := by decide +kernel
theorem dX12_unknown_82 : decode cX12_unknown 82 = .ok (.getfield 171, 3) := by decide +kernel
theorem dX12_unknown_85 : decode cX12_unknown 85 = .ok (.iload_n 1, 1) := by decide +kernel
theorem dX12_unknown_86 : decode cX12_unknown 86 = .ok (.iconst 0, 1) := by decide +kernel
theorem dX12_unknown_87 : decode cX12_unknown 87 = .ok (.iastore, 1) := by decide +kernel
theorem dX12_unknown_88 : decode cX12_unknown 88 = .ok (.iinc 1 1, 3) := by decide +kernel
theorem dX12_unknown_91 : decode cX12_unknown 91 = .ok (.goto (-19), 3) := by decide +kernel
theorem dX12_unknown_94 : decode cX12_unknown 94 = .ok (.aload_n 0, 1) := by decide +kernel
theorem dX12_unknown_95 : decode cX12_unknown 95 = .ok (.iconst (-1), 1) := by decide +kernel
theorem dX12_unknown_96 : decode cX12_unknown 96 = .ok (.putfield 196, 3) := by decide +kernel
theorem dX12_unknown_99 : decode cX12_unknown 99 = .ok (.aload_n 0, 1) := by decide +kernel
theorem dX12_unknown_100 : decode cX12_unknown 100 = .ok (.iconst (-1), 1) := by decide +kernel
theorem dX12_unknown_101 : decode cX12_unknown 101 = .ok (.putfield 199, 3) := by decide +kernel
theorem dX12_unknown_104 : decode cX12_unknown 104 = .ok (.aload_n 0, 1) := by decide +kernel
theorem dX12_unknown_105 : decode cX12_unknown 105 = .ok (.iconst (-1), 1) := by decide +kernel
theorem dX12_unknown_106 : decode cX12_unknown 106 = .ok (.putfield 227, 3) := by decide +kernel
theorem dX12_unknown_109 : decode cX12_unknown 109 = .ok (.aload_n 0, 1) := by decide +kernel
theorem dX12_unknown_110 : decode cX12_unknown 110 = .ok (.iconst 0, 1) := by decide +kernel
theorem dX12_unknown_111 : decode cX12_unknown 111 = .ok (.putfield 202, 3) := by decide +kernel
theorem dX12_unknown_114 : decode cX12_unknown 114 = .ok (.aload_n 0, 1) := by decide +kernel
theorem dX12_unknown_115 : decode cX12_unknown 115 = .ok (.iconst 0, 1) := by decide +kernel
theorem dX12_unknown_116 : decode cX12_unknown 116 = .ok (.putfield 205, 3) := by decide +kernel
theorem dX12_unknown_119 : decode cX12_unknown 119 = .ok (.aload_n 0, 1) := by decide +kernel
theorem dX12_unknown_120 : decode cX12_unknown 120 = .ok (.iconst 0, 1) := by decide +kernel
theorem dX12_unknown_121 : decode cX12_unknown 121 = .ok (.putfield 230, 3) := by decide +kernel
theorem dX12_unknown_124 : decode cX12_unknown 124 = .ok (.aload_n 0, 1) := by decide +kernel
theorem dX12_unknown_125 : decode cX12_unknown 125 = .ok (.iconst 0, 1) := by decide +kernel
theorem dX12_unknown_126 : decode cX12_unknown 126 = .ok (.putfield 245, 3) := by decide +kernel
theorem dX12_unknown_129 : decode cX12_unknown 129 = .ok (.aload_n 0, 1) := by decide +kernel
theorem dX12_unknown_130 : decode cX12_unknown 130 = .ok (.iconst 0, 1) := by decide +kernel
theorem dX12_unknown_131 : decode cX12_unknown 131 = .ok (.putfield 260, 3) := by decide +kernel
theorem dX12_unknown_134 : decode cX12_unknown 134 = .ok (.aload_n 0, 1) := by decide +kernel
theorem dX12_unknown_135 : decode cX12_unknown 135 = .ok (.iconst 0, 1) := by decide +kernel
theorem dX12_unknown_136 : decode cX12_unknown 136 = .ok (.putfield 272, 3) := by decide +kernel
theorem dX12_unknown_139 : decode cX12_unknown 139 = .ok (.return_, 1) := by decide +kernel
def B_X12_unknown_72 (w : rd_W) (k72 : Nat → Int32 → rd_S → Option (rd_S)) (a0 : Nat) (x1 : Int32) (S : rd_S) : Option (rd_S) :=
  rd_c (gR S a0 27) fun b4 =>
  if (nI (w.2.2 b4)) ≤ x1 then
  (rd_let (pI S a0 31 (-1)) fun s6 =>
  rd_let (pI s6 a0 32 (-1)) fun s7 =>
  rd_let (pI s7 a0 35 (-1)) fun s8 =>
  rd_let (pI s8 a0 38 0) fun s9 =>
  rd_let (pI s9 a0 39 0) fun s10 =>
  rd_let (pI s10 a0 43 0) fun s11 =>
  rd_let (pI s11 a0 45 0) fun s12 =>
  rd_let (pI s12 a0 50 0) fun s13 =>
  rd_let (pI s13 a0 53 0) fun s14 =>
  some s14)
  else
  (rd_c (gR S a0 27) fun b15 =>
  rd_i x1 (w.2.2 b15) <|
  rd_let (pI S b15 x1.toNatClampNeg 0) fun s16 =>
  rd_let (x1 + 1) fun v17 =>
  k72 a0 v17 s16)
theorem yb_X12_unknown_72 (cx : rd_Cx) (w : rd_W) {k72 : Nat → Int32 → rd_S → Option (rd_S)} (hk72 : ∀ (a0 : Nat) (x1 : Int32) (ha0 : rd_ok w a0 12) (S : rd_S), rd_Y cx G_X12_unknown (fun r => rd_P cx G_X12_unknown.2.2.2.2.2 0 w (rd_rV w r)) (k72 a0 x1 S) 72 [(0, .inr (some a0)), (1, .inl x1)] [] w S 0 0) (a0 : Nat) (x1 : Int32) (ha0 : rd_ok w a0 12) (S : rd_S) : rd_Y cx G_X12_unknown (fun r => rd_P cx G_X12_unknown.2.2.2.2.2 0 w (rd_rV w r)) (B_X12_unknown_72 w k72 a0 x1 S) 72 [(0, .inr (some a0)), (1, .inl x1)] [] w S 0 0 := by
  unfold B_X12_unknown_72
  refine ry_iload_n dX12_unknown_72 rfl ?_
  refine ry_aload_n dX12_unknown_73 rfl ?_
  refine ry_getr dX12_unknown_74 ha0 fl_RX12_171 rfl (fun b4 hb4 => ?_)
  refine ry_alen dX12_unknown_77 hb4 ?_
  refine ry_icmp_ge 94 dX12_unknown_78 (by decide) (fun c5 => ?_) (fun c5 => ?_)
  · refine ry_aload_n dX12_unknown_94 rfl ?_
    refine ry_iconst (v := (-1)) dX12_unknown_95 (by decide) ?_
    refine ry_puti dX12_unknown_96 ha0 fl_RX12_196 rfl rfl rfl ?_
    refine ry_letS (fun s6 => ?_)
    refine ry_aload_n dX12_unknown_99 rfl ?_
    refine ry_iconst (v := (-1)) dX12_unknown_100 (by decide) ?_
    refine ry_puti dX12_unknown_101 ha0 fl_RX12_199 rfl rfl rfl ?_
    refine ry_letS (fun s7 => ?_)
    refine ry_aload_n dX12_unknown_104 rfl ?_
    refine ry_iconst (v := (-1)) dX12_unknown_105 (by decide) ?_
    refine ry_puti dX12_unknown_106 ha0 fl_RX12_227 rfl rfl rfl ?_
    refine ry_letS (fun s8 => ?_)
    refine ry_aload_n dX12_unknown_109 rfl ?_
    refine ry_iconst (v := 0) dX12_unknown_110 (by decide) ?_
    refine ry_putz dX12_unknown_111 ha0 fl_RX12_202 rfl rfl rfl (by decide) ?_
    refine ry_letS (fun s9 => ?_)
    refine ry_aload_n dX12_unknown_114 rfl ?_
    refine ry_iconst (v := 0) dX12_unknown_115 (by decide) ?_
    refine ry_putz dX12_unknown_116 ha0 fl_RX12_205 rfl rfl rfl (by decide) ?_
    refine ry_letS (fun s10 => ?_)
    refine ry_aload_n dX12_unknown_119 rfl ?_
    refine ry_iconst (v := 0) dX12_unknown_120 (by decide) ?_
    refine ry_puti dX12_unknown_121 ha0 fl_RX12_230 rfl rfl rfl ?_
    refine ry_letS (fun s11 => ?_)
    refine ry_aload_n dX12_unknown_124 rfl ?_
    refine ry_iconst (v := 0) dX12_unknown_125 (by decide) ?_
    refine ry_putz dX12_unknown_126 ha0 fl_RX12_245 rfl rfl rfl (by decide) ?_
    refine ry_letS (fun s12 => ?_)
    refine ry_aload_n dX12_unknown_129 rfl ?_
    refine ry_iconst (v := 0) dX12_unknown_130 (by decide) ?_
    refine ry_putz dX12_unknown_131 ha0 fl_RX12_260 rfl rfl rfl (by decide) ?_
    refine ry_letS (fun s13 => ?_)
    refine ry_aload_n dX12_unknown_134 rfl ?_
    refine ry_iconst (v := 0) dX12_unknown_135 (by decide) ?_
    refine ry_puti dX12_unknown_136 ha0 fl_RX12_272 rfl rfl rfl ?_
    refine ry_letS (fun s14 => ?_)
    exact ry_vret dX12_unknown_139 rfl (Nat.le_of_ble_eq_true rfl) (Nat.le_of_ble_eq_true rfl)
  · refine ry_aload_n dX12_unknown_81 rfl ?_
    refine ry_getr dX12_unknown_82 ha0 fl_RX12_171 rfl (fun b15 hb15 => ?_)
    refine ry_iload_n dX12_unknown_85 rfl ?_
    refine ry_iconst (v := 0) dX12_unknown_86 (by decide) ?_
    refine ry_iast dX12_unknown_87 hb15 ?_
    refine ry_letS (fun s16 => ?_)
    refine ry_iinc (v := 1) dX12_unknown_88 rfl (by decide) (by decide) ?_
    refine ry_let (fun v17 => ?_)
    refine ry_goto 72 dX12_unknown_91 (by decide) ?_
    exact ry_to (hk72 a0 v17 ha0 s16) ⟨rfl, rfl, trivial⟩
def F_X12_unknown_72 (w : rd_W) (n : Nat) : Nat → Int32 → rd_S → Option (rd_S) :=
  Nat.rec (motive := fun _ => Nat → Int32 → rd_S → Option (rd_S)) (fun _ _ _ => none) (fun _ ih => B_X12_unknown_72 w ih) n
theorem yl_X12_unknown_72 (cx : rd_Cx) (w : rd_W) : ∀ (n : Nat) (a0 : Nat) (x1 : Int32) (ha0 : rd_ok w a0 12) (S : rd_S), rd_Y cx G_X12_unknown (fun r => rd_P cx G_X12_unknown.2.2.2.2.2 0 w (rd_rV w r)) (F_X12_unknown_72 w n a0 x1 S) 72 [(0, .inr (some a0)), (1, .inl x1)] [] w S 0 0 := by
  intro n
  induction n with
  | zero => intro a0 x1 ha0 S; exact ry_none
  | succ n ih => intro a0 x1 ha0 S; exact yb_X12_unknown_72 cx w ih a0 x1 ha0 S
def B_X12_unknown_44 (w : rd_W) (k44 : Nat → Int32 → rd_S → Option (rd_S)) (a0 : Nat) (x1 : Int32) (S : rd_S) : Option (rd_S) :=
  if 11 ≤ x1 then
  (F_X12_unknown_72 w rd_big a0 0 S)
  else
  (rd_c (gR S a0 28) fun b18 =>
  rd_i x1 (w.2.2 b18) <|
  rd_let (pI S b18 x1.toNatClampNeg 0) fun s19 =>
  rd_c (gR s19 a0 30) fun b20 =>
  rd_i x1 (w.2.2 b20) <|
  rd_let (pI s19 b20 x1.toNatClampNeg (-1)) fun s21 =>
  rd_let (x1 + 1) fun v22 =>
  k44 a0 v22 s21)
theorem yb_X12_unknown_44 (cx : rd_Cx) (w : rd_W) {k44 : Nat → Int32 → rd_S → Option (rd_S)} (hk44 : ∀ (a0 : Nat) (x1 : Int32) (ha0 : rd_ok w a0 12) (S : rd_S), rd_Y cx G_X12_unknown (fun r => rd_P cx G_X12_unknown.2.2.2.2.2 0 w (rd_rV w r)) (k44 a0 x1 S) 44 [(0, .inr (some a0)), (1, .inl x1)] [] w S 0 0) (a0 : Nat) (x1 : Int32) (ha0 : rd_ok w a0 12) (S : rd_S) : rd_Y cx G_X12_unknown (fun r => rd_P cx G_X12_unknown.2.2.2.2.2 0 w (rd_rV w r)) (B_X12_unknown_44 w k44 a0 x1 S) 44 [(0, .inr (some a0)), (1, .inl x1)] [] w S 0 0 := by
  unfold B_X12_unknown_44
  refine ry_iload_n dX12_unknown_44 rfl ?_
  refine ry_bipush (v := 11) dX12_unknown_45 (by decide) ?_
  refine ry_icmp_ge 70 dX12_unknown_47 (by decide) (fun c3 => ?_) (fun c3 => ?_)
  · refine ry_iconst (v := 0) dX12_unknown_70 (by decide) ?_
    refine ry_istore_n dX12_unknown_71 (by decide) ?_
    exact ry_to (yl_X12_unknown_72 cx w rd_big a0 0 ha0 S) ⟨rfl, rfl, trivial⟩
  · refine ry_aload_n dX12_unknown_50 rfl ?_
    refine ry_getr dX12_unknown_51 ha0 fl_RX12_178 rfl (fun b18 hb18 => ?_)
    refine ry_iload_n dX12_unknown_54 rfl ?_
    refine ry_iconst (v := 0) dX12_unknown_55 (by decide) ?_
    refine ry_iast dX12_unknown_56 hb18 ?_
    refine ry_letS (fun s19 => ?_)
    refine ry_aload_n dX12_unknown_57 rfl ?_
    refine ry_getr dX12_unknown_58 ha0 fl_RX12_187 rfl (fun b20 hb20 => ?_)
    refine ry_iload_n dX12_unknown_61 rfl ?_
    refine ry_iconst (v := (-1)) dX12_unknown_62 (by decide) ?_
    refine ry_iast dX12_unknown_63 hb20 ?_
    refine ry_letS (fun s21 => ?_)
    refine ry_iinc (v := 1) dX12_unknown_64 rfl (by decide) (by decide) ?_
    refine ry_let (fun v22 => ?_)
    refine ry_goto 44 dX12_unknown_67 (by decide) ?_
    exact ry_to (hk44 a0 v22 ha0 s21) ⟨rfl, rfl, trivial⟩
def F_X12_unknown_44 (w : rd_W) (n : Nat) : Nat → Int32 → rd_S → Option (rd_S) :=
  Nat.rec (motive := fun _ => Nat → Int32 → rd_S → Option (rd_S)) (fun _ _ _ => none) (fun _ ih => B_X12_unknown_44 w ih) n
theorem yl_X12_unknown_44 (cx : rd_Cx) (w : rd_W) : ∀ (n : Nat) (a0 : Nat) (x1 : Int32) (ha0 : rd_ok w a0 12) (S : rd_S), rd_Y cx G_X12_unknown (fun r => rd_P cx G_X12_unknown.2.2.2.2.2 0 w (rd_rV w r)) (F_X12_unknown_44 w n a0 x1 S) 44 [(0, .inr (some a0)), (1, .inl x1)] [] w S 0 0 := by
  intro n
  induction n with
  | zero => intro a0 x1 ha0 S; exact ry_none
  | succ n ih => intro a0 x1 ha0 S; exact yb_X12_unknown_44 cx w ih a0 x1 ha0 S
def B_X12_unknown_23 (w : rd_W) (k23 : Nat → Int32 → rd_S → Option (rd_S)) (a0 : Nat) (x1 : Int32) (S : rd_S) : Option (rd_S) :=
  if 6 ≤ x1 then
  (F_X12_unknown_44 w rd_big a0 0 S)
  else
  (rd_c (gR S a0 26) fun b23 =>
  rd_i x1 (w.2.2 b23) <|
  rd_let (pI S b23 x1.toNatClampNeg 0) fun s24 =>
  rd_let (x1 + 1) fun v25 =>
  k23 a0 v25 s24)
theorem yb_X12_unknown_23 (cx : rd_Cx) (w : rd_W) {k23 : Nat → Int32 → rd_S → Option (rd_S)} (hk23 : ∀ (a0 : Nat) (x1 : Int32) (ha0 : rd_ok w a0 12) (S : rd_S), rd_Y cx G_X12_unknown (fun r => rd_P cx G_X12_unknown.2.2.2.2.2 0 w (rd_rV w r)) (k23 a0 x1 S) 23 [(0, .inr (some a0)), (1, .inl x1)] [] w S 0 0) (a0 : Nat) (x1 : Int32) (ha0 : rd_ok w a0 12) (S : rd_S) : rd_Y cx G_X12_unknown (fun r => rd_P cx G_X12_unknown.2.2.2.2.2 0 w (rd_rV w r)) (B_X12_unknown_23 w k23 a0 x1 S) 23 [(0, .inr (some a0)), (1, .inl x1)] [] w S 0 0 := by
  unfold B_X12_unknown_23
  refine ry_iload_n dX12_unknown_23 rfl ?_
  refine ry_bipush (v := 6) dX12_unknown_24 (by decide) ?_
  refine ry_icmp_ge 42 dX12_unknown_26 (by decide) (fun c2 => ?_) (fun c2 => ?_)
  · refine ry_iconst (v := 0) dX12_unknown_42 (by decide) ?_
    refine ry_istore_n dX12_unknown_43 (by decide) ?_
    exact ry_to (yl_X12_unknown_44 cx w rd_big a0 0 ha0 S) ⟨rfl, rfl, trivial⟩
  · refine ry_aload_n dX12_unknown_29 rfl ?_
    refine ry_getr dX12_unknown_30 ha0 fl_RX12_190 rfl (fun b23 hb23 => ?_)
    refine ry_iload_n dX12_unknown_33 rfl ?_
    refine ry_iconst (v := 0) dX12_unknown_34 (by decide) ?_
    refine ry_iast dX12_unknown_35 hb23 ?_
    refine ry_letS (fun s24 => ?_)
    refine ry_iinc (v := 1) dX12_unknown_36 rfl (by decide) (by decide) ?_
    refine ry_let (fun v25 => ?_)
    refine ry_goto 23 dX12_unknown_39 (by decide) ?_
    exact ry_to (hk23 a0 v25 ha0 s24) ⟨rfl, rfl, trivial⟩
def F_X12_unknown_23 (w : rd_W) (n : Nat) : Nat → Int32 → rd_S → Option (rd_S) :=
  Nat.rec (motive := fun _ => Nat → Int32 → rd_S → Option (rd_S)) (fun _ _ _ => none) (fun _ ih => B_X12_unknown_23 w ih) n
theorem yl_X12_unknown_23 (cx : rd_Cx) (w : rd_W) : ∀ (n : Nat) (a0 : Nat) (x1 : Int32) (ha0 : rd_ok w a0 12) (S : rd_S), rd_Y cx G_X12_unknown (fun r => rd_P cx G_X12_unknown.2.2.2.2.2 0 w (rd_rV w r)) (F_X12_unknown_23 w n a0 x1 S) 23 [(0, .inr (some a0)), (1, .inl x1)] [] w S 0 0 := by
  intro n
  induction n with
  | zero => intro a0 x1 ha0 S; exact ry_none
  | succ n ih => intro a0 x1 ha0 S; exact yb_X12_unknown_23 cx w ih a0 x1 ha0 S
def B_X12_unknown_2 (w : rd_W) (k2 : Nat → Int32 → rd_S → Option (rd_S)) (a0 : Nat) (x1 : Int32) (S : rd_S) : Option (rd_S) :=
  if 10 ≤ x1 then
  (F_X12_unknown_23 w rd_big a0 0 S)
  else
  (rd_c (gR S a0 25) fun b26 =>
  rd_i x1 (w.2.2 b26) <|
  rd_let (pI S b26 x1.toNatClampNeg (-1)) fun s27 =>
  rd_let (x1 + 1) fun v28 =>
  k2 a0 v28 s27)
theorem yb_X12_unknown_2 (cx : rd_Cx) (w : rd_W) {k2 : Nat → Int32 → rd_S → Option (rd_S)} (hk2 : ∀ (a0 : Nat) (x1 : Int32) (ha0 : rd_ok w a0 12) (S : rd_S), rd_Y cx G_X12_unknown (fun r => rd_P cx G_X12_unknown.2.2.2.2.2 0 w (rd_rV w r)) (k2 a0 x1 S) 2 [(0, .inr (some a0)), (1, .inl x1)] [] w S 0 0) (a0 : Nat) (x1 : Int32) (ha0 : rd_ok w a0 12) (S : rd_S) : rd_Y cx G_X12_unknown (fun r => rd_P cx G_X12_unknown.2.2.2.2.2 0 w (rd_rV w r)) (B_X12_unknown_2 w k2 a0 x1 S) 2 [(0, .inr (some a0)), (1, .inl x1)] [] w S 0 0 := by
  unfold B_X12_unknown_2
  refine ry_iload_n dX12_unknown_2 rfl ?_
  refine ry_bipush (v := 10) dX12_unknown_3 (by decide) ?_
  refine ry_icmp_ge 21 dX12_unknown_5 (by decide) (fun c1 => ?_) (fun c1 => ?_)
  · refine ry_iconst (v := 0) dX12_unknown_21 (by decide) ?_
    refine ry_istore_n dX12_unknown_22 (by decide) ?_
    exact ry_to (yl_X12_unknown_23 cx w rd_big a0 0 ha0 S) ⟨rfl, rfl, trivial⟩
  · refine ry_aload_n dX12_unknown_8 rfl ?_
    refine ry_getr dX12_unknown_9 ha0 fl_RX12_127 rfl (fun b26 hb26 => ?_)
    refine ry_iload_n dX12_unknown_12 rfl ?_
    refine ry_iconst (v := (-1)) dX12_unknown_13 (by decide) ?_
    refine ry_iast dX12_unknown_14 hb26 ?_
    refine ry_letS (fun s27 => ?_)
    refine ry_iinc (v := 1) dX12_unknown_15 rfl (by decide) (by decide) ?_
    refine ry_let (fun v28 => ?_)
    refine ry_goto 2 dX12_unknown_18 (by decide) ?_
    exact ry_to (hk2 a0 v28 ha0 s27) ⟨rfl, rfl, trivial⟩
def F_X12_unknown_2 (w : rd_W) (n : Nat) : Nat → Int32 → rd_S → Option (rd_S) :=
  Nat.rec (motive := fun _ => Nat → Int32 → rd_S → Option (rd_S)) (fun _ _ _ => none) (fun _ ih => B_X12_unknown_2 w ih) n
theorem yl_X12_unknown_2 (cx : rd_Cx) (w : rd_W) : ∀ (n : Nat) (a0 : Nat) (x1 : Int32) (ha0 : rd_ok w a0 12) (S : rd_S), rd_Y cx G_X12_unknown (fun r => rd_P cx G_X12_unknown.2.2.2.2.2 0 w (rd_rV w r)) (F_X12_unknown_2 w n a0 x1 S) 2 [(0, .inr (some a0)), (1, .inl x1)] [] w S 0 0 := by
  intro n
  induction n with
  | zero => intro a0 x1 ha0 S; exact ry_none
  | succ n ih => intro a0 x1 ha0 S; exact yb_X12_unknown_2 cx w ih a0 x1 ha0 S
def F_X12_unknown (w : rd_W) (a0 : Nat) (S : rd_S) : Option (rd_S) :=
  F_X12_unknown_2 w rd_big a0 0 S
theorem ym_X12_unknown (cx : rd_Cx) (w : rd_W) (a0 : Nat) (ha0 : rd_ok w a0 12) (S : rd_S) : rd_Y cx G_X12_unknown (fun r => rd_P cx G_X12_unknown.2.2.2.2.2 0 w (rd_rV w r)) (F_X12_unknown w a0 S) 0 (rd_as 0 [.inr (some a0)]) [] w S 0 0 := by
  unfold F_X12_unknown
  refine ry_iconst (v := 0) dX12_unknown_0 (by decide) ?_
  refine ry_istore_n dX12_unknown_1 (by decide) ?_
  exact ry_to (yl_X12_unknown_2 cx w rd_big a0 0 ha0 S) ⟨rfl, rfl, trivial⟩
theorem cm_X12_unknown (l : Launch) (cx : rd_Cx) (w : rd_W) (a0 : Nat) (ha0 : rd_ok w a0 12) (S : rd_S) (r : rd_S) (h : F_X12_unknown w a0 S = some r) : rd_M l cx yX12_unknown G_X12_unknown 0 [.inr (some a0)] w S (rd_rV w r) :=
  rd_enter (plainFor_of_name (by decide +kernel)) rfl (fun h => by cases h) (Nat.le_of_ble_eq_true rfl) (ym_X12_unknown cx w a0 ha0 S r h)
abbrev G_X11_rest : rd_G := (RX11, cX11_rest, 3, (some .int), false, { frames := 0, cells := 0, slots := 0, locals := 0 })
theorem yf_X11_rest : rd_YL yX11_rest G_X11_rest 1 := ⟨rd_mem 426 (by decide +kernel) rfl, rd_mem 62 (by decide +kernel) rfl, by decide +kernel, by decide +kernel, by decide +kernel⟩
theorem mt_X11_rest : Cond.static yX11_rest ∈ rd_gw := rd_mem 425 (by decide +kernel) rfl
theorem dX11_rest_0 : decode cX11_rest 0 = .ok (.iload_n 0, 1) := by decide +kernel
theorem dX11_rest_1 : decode cX11_rest 1 = .ok (.istore_n 1, 1) := by decide +kernel
theorem dX11_rest_2 : decode cX11_rest 2 = .ok (.bipush 25, 2) := by decide +kernel
theorem dX11_rest_4 : decode cX11_rest 4 = .ok (.istore_n 2, 1) := by decide +kernel
theorem dX11_rest_5 : decode cX11_rest 5 = .ok (.iload_n 2, 1) := by decide +kernel
theorem dX11_rest_6 : decode cX11_rest 6 = .ok (.bipush 10, 2) := by decide +kernel
theorem dX11_rest_8 : decode cX11_rest 8 = .ok (.if_icmp .lt 29, 3) := by decide +kernel
theorem dX11_rest_11 : decode cX11_rest 11 = .ok (.iload_n 1, 1) := by decide +kernel
theorem dX11_rest_12 : decode cX11_rest 12 = .ok (.iload_n 2, 1) := by decide +kernel
theorem dX11_rest_13 : decode cX11_rest 13 = .ok (.iushr, 1) := by decide +kernel
theorem dX11_rest_14 : decode cX11_rest 14 = .ok (.iconst 1, 1) := by decide +kernel
theorem dX11_rest_15 : decode cX11_rest 15 = .ok (.iand, 1) := by decide +kernel
theorem dX11_rest_16 : decode cX11_rest 16 = .ok (.iconst 1, 1) := by decide +kernel
theorem dX11_rest_17 : decode cX11_rest 17 = .ok (.if_icmp .ne 14, 3) := by decide +kernel
theorem dX11_rest_20 : decode cX11_rest 20 = .ok (.iload_n 1, 1) := by decide +kernel
theorem dX11_rest_21 : decode cX11_rest 21 = .ok (.sipush 1465, 3) := by decide +kernel
theorem dX11_rest_24 : decode cX11_rest 24 = .ok (.iload_n 2, 1) := by decide +kernel
theorem dX11_rest_25 : decode cX11_rest 25 = .ok (.bipush 10, 2) := by decide +kernel
theorem dX11_rest_27 : decode cX11_rest 27 = .ok (.isub, 1) := by decide +kernel
theorem dX11_rest_28 : decode cX11_rest 28 = .ok (.ishl, 1) := by decide +kernel
theorem dX11_rest_29 : decode cX11_rest 29 = .ok (.ixor, 1) := by decide +kernel
theorem dX11_rest_30 : decode cX11_rest 30 = .ok (.istore_n 1, 1) := by decide +kernel
theorem dX11_rest_31 : decode cX11_rest 31 = .ok (.iinc 2 (-1), 3) := by decide +kernel
theorem dX11_rest_34 : decode cX11_rest 34 = .ok (.goto (-29), 3) := by decide +kernel
theorem dX11_rest_37 : decode cX11_rest 37 = .ok (.iload_n 1, 1) := by decide +kernel
theorem dX11_rest_38 : decode cX11_rest 38 = .ok (.ireturn, 1) := by decide +kernel
def B_X11_rest_31 (w : rd_W) (k5 : Int32 → Int32 → rd_S → Option (Int32 × rd_S)) (x1 : Int32) (x2 : Int32) (S : rd_S) : Option (Int32 × rd_S) :=
  rd_let (x2 + (-1)) fun v4 =>
  k5 x1 v4 S
theorem yb_X11_rest_31 (cx : rd_Cx) (w : rd_W) {k5 : Int32 → Int32 → rd_S → Option (Int32 × rd_S)} (hk5 : ∀ (x1 : Int32) (x2 : Int32) (S : rd_S), rd_Y cx G_X11_rest (fun r => rd_P cx G_X11_rest.2.2.2.2.2 0 w (rd_rI w r)) (k5 x1 x2 S) 5 [(1, .inl x1), (2, .inl x2)] [] w S 0 0) (x1 : Int32) (x2 : Int32) (S : rd_S) : rd_Y cx G_X11_rest (fun r => rd_P cx G_X11_rest.2.2.2.2.2 0 w (rd_rI w r)) (B_X11_rest_31 w k5 x1 x2 S) 31 [(1, .inl x1), (2, .inl x2)] [] w S 0 0 := by
  unfold B_X11_rest_31
  refine ry_iinc (v := (-1)) dX11_rest_31 rfl (by decide) (by decide) ?_
  refine ry_let (fun v4 => ?_)
  refine ry_goto 5 dX11_rest_34 (by decide) ?_
  exact ry_to (hk5 x1 v4 S) ⟨rfl, rfl, trivial⟩
def B_X11_rest_5 (w : rd_W) (k5 : Int32 → Int32 → rd_S → Option (Int32 × rd_S)) (x1 : Int32) (x2 : Int32) (S : rd_S) : Option (Int32 × rd_S) :=
  if x2 < 10 then
  (some (x1, S))
  else
  (if ((rd_ush x1 x2) &&& 1) = 1 then
  (rd_let (x1 ^^^ (rd_shl 1465 (x2 - 10))) fun v3 =>
  B_X11_rest_31 w k5 v3 x2 S)
  else
  (B_X11_rest_31 w k5 x1 x2 S))
theorem yb_X11_rest_5 (cx : rd_Cx) (w : rd_W) {k5 : Int32 → Int32 → rd_S → Option (Int32 × rd_S)} (hk5 : ∀ (x1 : Int32) (x2 : Int32) (S : rd_S), rd_Y cx G_X11_rest (fun r => rd_P cx G_X11_rest.2.2.2.2.2 0 w (rd_rI w r)) (k5 x1 x2 S) 5 [(1, .inl x1), (2, .inl x2)] [] w S 0 0) (x1 : Int32) (x2 : Int32) (S : rd_S) : rd_Y cx G_X11_rest (fun r => rd_P cx G_X11_rest.2.2.2.2.2 0 w (rd_rI w r)) (B_X11_rest_5 w k5 x1 x2 S) 5 [(1, .inl x1), (2, .inl x2)] [] w S 0 0 := by
  unfold B_X11_rest_5
  refine ry_iload_n dX11_rest_5 rfl ?_
  refine ry_bipush (v := 10) dX11_rest_6 (by decide) ?_
  refine ry_icmp_lt 37 dX11_rest_8 (by decide) (fun c1 => ?_) (fun c1 => ?_)
  · refine ry_iload_n dX11_rest_37 rfl ?_
    exact ry_iret dX11_rest_38 rfl (Nat.le_of_ble_eq_true rfl) (Nat.le_of_ble_eq_true rfl)
  · refine ry_iload_n dX11_rest_11 rfl ?_
    refine ry_iload_n dX11_rest_12 rfl ?_
    refine ry_iushr dX11_rest_13 ?_
    refine ry_iconst (v := 1) dX11_rest_14 (by decide) ?_
    refine ry_iand dX11_rest_15 ?_
    refine ry_iconst (v := 1) dX11_rest_16 (by decide) ?_
    refine ry_icmp_ne 31 dX11_rest_17 (by decide) (fun c2 => ?_) (fun c2 => ?_)
    · refine ry_iload_n dX11_rest_20 rfl ?_
      refine ry_sipush (v := 1465) dX11_rest_21 (by decide) ?_
      refine ry_iload_n dX11_rest_24 rfl ?_
      refine ry_bipush (v := 10) dX11_rest_25 (by decide) ?_
      refine ry_isub dX11_rest_27 ?_
      refine ry_ishl dX11_rest_28 ?_
      refine ry_ixor dX11_rest_29 ?_
      refine ry_istore_n dX11_rest_30 (by decide) ?_
      refine ry_let (fun v3 => ?_)
      exact ry_to (yb_X11_rest_31 cx w (k5 := k5) hk5 v3 x2 S) ⟨rfl, rfl, trivial⟩
    · exact ry_to (yb_X11_rest_31 cx w (k5 := k5) hk5 x1 x2 S) ⟨rfl, rfl, trivial⟩
def F_X11_rest_5 (w : rd_W) (n : Nat) : Int32 → Int32 → rd_S → Option (Int32 × rd_S) :=
  Nat.rec (motive := fun _ => Int32 → Int32 → rd_S → Option (Int32 × rd_S)) (fun _ _ _ => none) (fun _ ih => B_X11_rest_5 w ih) n
theorem yl_X11_rest_5 (cx : rd_Cx) (w : rd_W) : ∀ (n : Nat) (x1 : Int32) (x2 : Int32) (S : rd_S), rd_Y cx G_X11_rest (fun r => rd_P cx G_X11_rest.2.2.2.2.2 0 w (rd_rI w r)) (F_X11_rest_5 w n x1 x2 S) 5 [(1, .inl x1), (2, .inl x2)] [] w S 0 0 := by
  intro n
  induction n with
  | zero => intro x1 x2 S; exact ry_none
  | succ n ih => intro x1 x2 S; exact yb_X11_rest_5 cx w ih x1 x2 S
def F_X11_rest (w : rd_W) (x0 : Int32) (S : rd_S) : Option (Int32 × rd_S) :=
  F_X11_rest_5 w rd_big x0 25 S
theorem ym_X11_rest (cx : rd_Cx) (w : rd_W) (x0 : Int32) (S : rd_S) : rd_Y cx G_X11_rest (fun r => rd_P cx G_X11_rest.2.2.2.2.2 0 w (rd_rI w r)) (F_X11_rest w x0 S) 0 (rd_as 0 [.inl x0]) [] w S 0 0 := by
  unfold F_X11_rest
  refine ry_iload_n dX11_rest_0 rfl ?_
  refine ry_istore_n dX11_rest_1 (by decide) ?_
  refine ry_bipush (v := 25) dX11_rest_2 (by decide) ?_
  refine ry_istore_n dX11_rest_4 (by decide) ?_
  exact ry_to (yl_X11_rest_5 cx w rd_big x0 25 S) ⟨rfl, rfl, trivial⟩
theorem cm_X11_rest (l : Launch) (cx : rd_Cx) (w : rd_W) (x0 : Int32) (S : rd_S) (r : Int32 × rd_S) (h : F_X11_rest w x0 S = some r) : rd_M l cx yX11_rest G_X11_rest 0 [.inl x0] w S (rd_rI w r) :=
  rd_enter (plainFor_of_name (by decide +kernel)) rfl (fun h => by cases h) (Nat.le_of_ble_eq_true rfl) (ym_X11_rest cx w x0 S r h)
abbrev G_X11_letterOf : rd_G := (RX11, cX11_letterOf, 3, (some .int), false, { frames := 1, cells := 0, slots := 0, locals := 22 })
theorem yf_X11_letterOf : rd_YL yX11_letterOf G_X11_letterOf 1 := ⟨rd_mem 423 (by decide +kernel) rfl, rd_mem 62 (by decide +kernel) rfl, by decide +kernel, by decide +kernel, by decide +kernel⟩
theorem mt_X11_letterOf : Cond.static yX11_letterOf ∈ rd_gw := rd_mem 422 (by decide +kernel) rfl
theorem dX11_letterOf_0 : decode cX11_letterOf 0 = .ok (.iload_n 0, 1) := by decide +kernel
theorem dX11_letterOf_1 : decode cX11_letterOf 1 = .ok (.invokestatic 49, 3) := by decide +kernel
theorem dX11_letterOf_4 : decode cX11_letterOf 4 = .ok (.istore_n 1, 1) := by decide +kernel
theorem dX11_letterOf_5 : decode cX11_letterOf 5 = .ok (.iconst 0, 1) := by decide +kernel
theorem dX11_letterOf_6 : decode cX11_letterOf 6 = .ok (.istore_n 2, 1) := by decide +kernel
theorem dX11_letterOf_7 : decode cX11_letterOf 7 = .ok (.iload_n 2, 1) := by decide +kernel
theorem dX11_letterOf_8 : decode cX11_letterOf 8 = .ok (.getstatic 152, 3) := by decide +kernel
theorem dX11_letterOf_11 : decode cX11_letterOf 11 = .ok (.arraylength, 1) := by decide +kernel
theorem dX11_letterOf_12 : decode cX11_letterOf 12 = .ok (.if_icmp .ge 20, 3) := by decide +kernel
theorem dX11_letterOf_15 : decode cX11_letterOf 15 = .ok (.getstatic 152, 3) := by decide +kernel
theorem dX11_letterOf_18 : decode cX11_letterOf 18 = .ok (.iload_n 2, 1) := by decide +kernel
theorem dX11_letterOf_19 : decode cX11_letterOf 19 = .ok (.iaload, 1) := by decide +kernel
theorem dX11_letterOf_20 : decode cX11_letterOf 20 = .ok (.iload_n 1, 1) := by decide +kernel
theorem dX11_letterOf_21 : decode cX11_letterOf 21 = .ok (.if_icmp .ne 5, 3) := by decide +kernel
theorem dX11_letterOf_24 : decode cX11_letterOf 24 = .ok (.iload_n 2, 1) := by decide +kernel
theorem dX11_letterOf_25 : decode cX11_letterOf 25 = .ok (.ireturn, 1) := by decide +kernel
theorem dX11_letterOf_26 : decode cX11_letterOf 26 = .ok (.iinc 2 1, 3) := by decide +kernel
theorem dX11_letterOf_29 : decode cX11_letterOf 29 = .ok (.goto (-22), 3) := by decide +kernel
theorem dX11_letterOf_32 : decode cX11_letterOf 32 = .ok (.iconst (-1), 1) := by decide +kernel
theorem dX11_letterOf_33 : decode cX11_letterOf 33 = .ok (.ireturn, 1) := by decide +kernel
def B_X11_letterOf_7 (w : rd_W) (k7 : Int32 → Int32 → rd_S → Option (Int32 × rd_S)) (x1 : Int32) (x2 : Int32) (S : rd_S) : Option (Int32 × rd_S) :=
  if 5 ≤ x2 then
  (some ((-1), S))
  else
  (rd_i x2 5 <|
  if (rd_ofs x2.toNatClampNeg) = x1 then
  (some (x2, S))
  else
  (rd_let (x2 + 1) fun v5 =>
  k7 x1 v5 S))
theorem yb_X11_letterOf_7 (cx : rd_Cx) (w : rd_W) {k7 : Int32 → Int32 → rd_S → Option (Int32 × rd_S)} (hk7 : ∀ (x1 : Int32) (x2 : Int32) (S : rd_S), rd_Y cx G_X11_letterOf (fun r => rd_P cx G_X11_letterOf.2.2.2.2.2 0 w (rd_rI w r)) (k7 x1 x2 S) 7 [(1, .inl x1), (2, .inl x2)] [] w S 0 0) (x1 : Int32) (x2 : Int32) (S : rd_S) : rd_Y cx G_X11_letterOf (fun r => rd_P cx G_X11_letterOf.2.2.2.2.2 0 w (rd_rI w r)) (B_X11_letterOf_7 w k7 x1 x2 S) 7 [(1, .inl x1), (2, .inl x2)] [] w S 0 0 := by
  unfold B_X11_letterOf_7
  refine ry_iload_n dX11_letterOf_7 rfl ?_
  refine ry_gets dX11_letterOf_8 st_RX11_152 ?_
  refine ry_alen0 dX11_letterOf_11 ?_
  refine ry_icmp_ge 32 dX11_letterOf_12 (by decide) (fun c3 => ?_) (fun c3 => ?_)
  · refine ry_iconst (v := (-1)) dX11_letterOf_32 (by decide) ?_
    exact ry_iret dX11_letterOf_33 rfl (Nat.le_of_ble_eq_true rfl) (Nat.le_of_ble_eq_true rfl)
  · refine ry_gets dX11_letterOf_15 st_RX11_152 ?_
    refine ry_iload_n dX11_letterOf_18 rfl ?_
    refine ry_ald0 dX11_letterOf_19 ?_
    refine ry_iload_n dX11_letterOf_20 rfl ?_
    refine ry_icmp_ne 26 dX11_letterOf_21 (by decide) (fun c4 => ?_) (fun c4 => ?_)
    · refine ry_iload_n dX11_letterOf_24 rfl ?_
      exact ry_iret dX11_letterOf_25 rfl (Nat.le_of_ble_eq_true rfl) (Nat.le_of_ble_eq_true rfl)
    · refine ry_iinc (v := 1) dX11_letterOf_26 rfl (by decide) (by decide) ?_
      refine ry_let (fun v5 => ?_)
      refine ry_goto 7 dX11_letterOf_29 (by decide) ?_
      exact ry_to (hk7 x1 v5 S) ⟨rfl, rfl, trivial⟩
def F_X11_letterOf_7 (w : rd_W) (n : Nat) : Int32 → Int32 → rd_S → Option (Int32 × rd_S) :=
  Nat.rec (motive := fun _ => Int32 → Int32 → rd_S → Option (Int32 × rd_S)) (fun _ _ _ => none) (fun _ ih => B_X11_letterOf_7 w ih) n
theorem yl_X11_letterOf_7 (cx : rd_Cx) (w : rd_W) : ∀ (n : Nat) (x1 : Int32) (x2 : Int32) (S : rd_S), rd_Y cx G_X11_letterOf (fun r => rd_P cx G_X11_letterOf.2.2.2.2.2 0 w (rd_rI w r)) (F_X11_letterOf_7 w n x1 x2 S) 7 [(1, .inl x1), (2, .inl x2)] [] w S 0 0 := by
  intro n
  induction n with
  | zero => intro x1 x2 S; exact ry_none
  | succ n ih => intro x1 x2 S; exact yb_X11_letterOf_7 cx w ih x1 x2 S
def F_X11_letterOf (w : rd_W) (x0 : Int32) (S : rd_S) : Option (Int32 × rd_S) :=
  rd_b (F_X11_rest w x0 S) fun v2 s1 =>
  F_X11_letterOf_7 w rd_big v2 0 s1
theorem ym_X11_letterOf (cx : rd_Cx) (w : rd_W) (x0 : Int32) (S : rd_S) : rd_Y cx G_X11_letterOf (fun r => rd_P cx G_X11_letterOf.2.2.2.2.2 0 w (rd_rI w r)) (F_X11_letterOf w x0 S) 0 (rd_as 0 [.inl x0]) [] w S 0 0 := by
  unfold F_X11_letterOf
  refine ry_iload_n dX11_letterOf_0 rfl ?_
  refine ry_callI (fun l r9 h9 => cm_X11_rest l cx w x0 S r9 h9) (rd_runS (vs := [.inl x0]) dX11_letterOf_1 yf_X11_rest mt_X11_rest ml_RX11_49 ⟨Nat.le_of_ble_eq_true rfl, Nat.le_of_ble_eq_true rfl⟩ (Nat.le_of_ble_eq_true rfl) rfl) rfl rfl (Nat.le_of_ble_eq_true rfl) (Nat.le_of_ble_eq_true rfl) (fun v2 s1 => ?_)
  refine ry_istore_n dX11_letterOf_4 (by decide) ?_
  refine ry_iconst (v := 0) dX11_letterOf_5 (by decide) ?_
  refine ry_istore_n dX11_letterOf_6 (by decide) ?_
  exact ry_to (yl_X11_letterOf_7 cx w rd_big v2 0 s1) ⟨rfl, rfl, trivial⟩
theorem cm_X11_letterOf (l : Launch) (cx : rd_Cx) (w : rd_W) (x0 : Int32) (S : rd_S) (r : Int32 × rd_S) (h : F_X11_letterOf w x0 S = some r) : rd_M l cx yX11_letterOf G_X11_letterOf 0 [.inl x0] w S (rd_rI w r) :=
  rd_enter (plainFor_of_name (by decide +kernel)) rfl (fun h => by cases h) (Nat.le_of_ble_eq_true rfl) (ym_X11_letterOf cx w x0 S r h)
abbrev G_X11_placeOf : rd_G := (RX11, cX11_placeOf, 1, (some .int), false, { frames := 0, cells := 0, slots := 0, locals := 0 })
theorem yf_X11_placeOf : rd_YL yX11_placeOf G_X11_placeOf 1 := ⟨rd_mem 431 (by decide +kernel) rfl, rd_mem 62 (by decide +kernel) rfl, by decide +kernel, by decide +kernel, by decide +kernel⟩
theorem mt_X11_placeOf : Cond.static yX11_placeOf ∈ rd_gw := rd_mem 430 (by decide +kernel) rfl
theorem dX11_placeOf_0 : decode cX11_placeOf 0 = .ok (.iload_n 0, 1) := by decide +kernel
theorem dX11_placeOf_1 : decode cX11_placeOf 1 = .ok (.iconst 4, 1) := by decide +kernel
theorem dX11_placeOf_2 : decode cX11_placeOf 2 = .ok (.if_icmp .ne 7, 3) := by decide +kernel
theorem dX11_placeOf_5 : decode cX11_placeOf 5 = .ok (.iconst 2, 1) := by decide +kernel
theorem dX11_placeOf_6 : decode cX11_placeOf 6 = .ok (.goto 4, 3) := by decide +kernel
theorem dX11_placeOf_9 : decode cX11_placeOf 9 = .ok (.iload_n 0, 1) := by decide +kernel
theorem dX11_placeOf_10 : decode cX11_placeOf 10 = .ok (.ireturn, 1) := by decide +kernel
def B_X11_placeOf_10 (w : rd_W) (t0 : Int32) (S : rd_S) : Option (Int32 × rd_S) :=
  some (t0, S)
theorem yb_X11_placeOf_10 (cx : rd_Cx) (w : rd_W) (t0 : Int32) (S : rd_S) : rd_Y cx G_X11_placeOf (fun r => rd_P cx G_X11_placeOf.2.2.2.2.2 0 w (rd_rI w r)) (B_X11_placeOf_10 w t0 S) 10 [] [.inl t0] w S 0 0 := by
  unfold B_X11_placeOf_10
  exact ry_iret dX11_placeOf_10 rfl (Nat.le_of_ble_eq_true rfl) (Nat.le_of_ble_eq_true rfl)
def F_X11_placeOf (w : rd_W) (x0 : Int32) (S : rd_S) : Option (Int32 × rd_S) :=
  if x0 = 4 then
  (B_X11_placeOf_10 w 2 S)
  else
  (B_X11_placeOf_10 w x0 S)
theorem ym_X11_placeOf (cx : rd_Cx) (w : rd_W) (x0 : Int32) (S : rd_S) : rd_Y cx G_X11_placeOf (fun r => rd_P cx G_X11_placeOf.2.2.2.2.2 0 w (rd_rI w r)) (F_X11_placeOf w x0 S) 0 (rd_as 0 [.inl x0]) [] w S 0 0 := by
  unfold F_X11_placeOf
  refine ry_iload_n dX11_placeOf_0 rfl ?_
  refine ry_iconst (v := 4) dX11_placeOf_1 (by decide) ?_
  refine ry_icmp_ne 9 dX11_placeOf_2 (by decide) (fun c1 => ?_) (fun c1 => ?_)
  · refine ry_iconst (v := 2) dX11_placeOf_5 (by decide) ?_
    refine ry_goto 10 dX11_placeOf_6 (by decide) ?_
    exact ry_to (yb_X11_placeOf_10 cx w 2 S) trivial
  · refine ry_iload_n dX11_placeOf_9 rfl ?_
    exact ry_to (yb_X11_placeOf_10 cx w x0 S) trivial
theorem cm_X11_placeOf (l : Launch) (cx : rd_Cx) (w : rd_W) (x0 : Int32) (S : rd_S) (r : Int32 × rd_S) (h : F_X11_placeOf w x0 S = some r) : rd_M l cx yX11_placeOf G_X11_placeOf 0 [.inl x0] w S (rd_rI w r) :=
  rd_enter (plainFor_of_name (by decide +kernel)) rfl (fun h => by cases h) (Nat.le_of_ble_eq_true rfl) (ym_X11_placeOf cx w x0 S r h)
abbrev G_X3_keep : rd_G := (RX3, cX3_keep, 5, (some .int), false, { frames := 0, cells := 0, slots := 0, locals := 0 })
theorem yf_X3_keep : rd_YL yX3_keep G_X3_keep 4 := ⟨rd_mem 435 (by decide +kernel) rfl, rd_mem 64 (by decide +kernel) rfl, by decide +kernel, by decide +kernel, by decide +kernel⟩
theorem mi_X3_keep : Cond.instanceMethod yX3_keep ∈ rd_gw := rd_mem 434 (by decide +kernel) rfl
theorem ms_X3_keep : Cond.selects (MethodName.cls yX3_keep) yX3_keep yX3_keep ∈ rd_gw := rd_mem 2 (by decide +kernel) rfl
theorem dX3_keep_0 : decode cX3_keep 0 = .ok (.iload_n 1, 1) := by decide +kernel
theorem dX3_keep_1 : decode cX3_keep 1 = .ok (.ifCond .lt 54, 3) := by decide +kernel
theorem dX3_keep_4 : decode cX3_keep 4 = .ok (.iload_n 1, 1) := by decide +kernel
theorem dX3_keep_5 : decode cX3_keep 5 = .ok (.iconst 4, 1) := by decide +kernel
theorem dX3_keep_6 : decode cX3_keep 6 = .ok (.if_icmp .ge 49, 3) := by decide +kernel
theorem dX3_keep_9 : decode cX3_keep 9 = .ok (.aload_n 0, 1) := by decide +kernel
theorem dX3_keep_10 : decode cX3_keep 10 = .ok (.getfield 9, 3) := by decide +kernel
theorem dX3_keep_13 : decode cX3_keep 13 = .ok (.iload_n 1, 1) := by decide +kernel
theorem dX3_keep_14 : decode cX3_keep 14 = .ok (.iload_n 2, 1) := by decide +kernel
theorem dX3_keep_15 : decode cX3_keep 15 = .ok (.iconst (-1), 1) := by decide +kernel
theorem dX3_keep_16 : decode cX3_keep 16 = .ok (.if_icmp .ne 7, 3) := by decide +kernel
theorem dX3_keep_19 : decode cX3_keep 19 = .ok (.iconst (-1), 1) := by decide +kernel
theorem dX3_keep_20 : decode cX3_keep 20 = .ok (.goto 7, 3) := by decide +kernel
theorem dX3_keep_23 : decode cX3_keep 23 = .ok (.iload_n 2, 1) := by decide +kernel
theorem dX3_keep_24 : decode cX3_keep 24 = .ok (.bipush 10, 2) := by decide +kernel
theorem dX3_keep_26 : decode cX3_keep 26 = .ok (.iushr, 1) := by decide +kernel
theorem dX3_keep_27 : decode cX3_keep 27 = .ok (.iastore, 1) := by decide +kernel
theorem dX3_keep_28 : decode cX3_keep 28 = .ok (.aload_n 0, 1) := by decide +kernel
theorem dX3_keep_29 : decode cX3_keep 29 = .ok (.getfield 15, 3) := by decide +kernel
theorem dX3_keep_32 : decode cX3_keep 32 = .ok (.iload_n 1, 1) := by decide +kernel
theorem dX3_keep_33 : decode cX3_keep 33 = .ok (.iload 4, 2) := by decide +kernel
theorem dX3_keep_35 : decode cX3_keep 35 = .ok (.iastore, 1) := by decide +kernel
theorem dX3_keep_36 : decode cX3_keep 36 = .ok (.aload_n 0, 1) := by decide +kernel
theorem dX3_keep_37 : decode cX3_keep 37 = .ok (.dup, 1) := by decide +kernel
theorem dX3_keep_38 : decode cX3_keep 38 = .ok (.getfield 28, 3) := by decide +kernel
theorem dX3_keep_41 : decode cX3_keep 41 = .ok (.iload_n 3, 1) := by decide +kernel
theorem dX3_keep_42 : decode cX3_keep 42 = .ok (.iconst 4, 1) := by decide +kernel
theorem dX3_keep_43 : decode cX3_keep 43 = .ok (.if_icmp .ne 7, 3) := by decide +kernel
theorem dX3_keep_46 : decode cX3_keep 46 = .ok (.iconst 1, 1) := by decide +kernel
theorem dX3_keep_47 : decode cX3_keep 47 = .ok (.goto 4, 3) := by decide +kernel
theorem dX3_keep_50 : decode cX3_keep 50 = .ok (.iconst 0, 1) := by decide +kernel
theorem dX3_keep_51 : decode cX3_keep 51 = .ok (.ior, 1) := by decide +kernel
theorem dX3_keep_52 : decode cX3_keep 52 = .ok (.putfield 28, 3) := by decide +kernel
theorem dX3_keep_55 : decode cX3_keep 55 = .ok (.iload 4, 2) := by decide +kernel
theorem dX3_keep_57 : decode cX3_keep 57 = .ok (.ireturn, 1) := by decide +kernel
def B_X3_keep_55 (w : rd_W) (x4 : Int32) (S : rd_S) : Option (Int32 × rd_S) :=
  some (x4, S)
theorem yb_X3_keep_55 (cx : rd_Cx) (w : rd_W) (x4 : Int32) (S : rd_S) : rd_Y cx G_X3_keep (fun r => rd_P cx G_X3_keep.2.2.2.2.2 0 w (rd_rI w r)) (B_X3_keep_55 w x4 S) 55 [(4, .inl x4)] [] w S 0 0 := by
  unfold B_X3_keep_55
  refine ry_iload dX3_keep_55 rfl ?_
  exact ry_iret dX3_keep_57 rfl (Nat.le_of_ble_eq_true rfl) (Nat.le_of_ble_eq_true rfl)
def B_X3_keep_51 (w : rd_W) (x4 : Int32) (t0 : Int32) (t1 : Int32) (e2 : Nat) (S : rd_S) : Option (Int32 × rd_S) :=
  rd_z (t1 ||| t0) <|
  rd_let (pI S e2 2 (t1 ||| t0)) fun s10 =>
  B_X3_keep_55 w x4 s10
theorem yb_X3_keep_51 (cx : rd_Cx) (w : rd_W) (x4 : Int32) (t0 : Int32) (t1 : Int32) (e2 : Nat) (he2 : rd_ok w e2 3) (S : rd_S) : rd_Y cx G_X3_keep (fun r => rd_P cx G_X3_keep.2.2.2.2.2 0 w (rd_rI w r)) (B_X3_keep_51 w x4 t0 t1 e2 S) 51 [(4, .inl x4)] [.inl t0, .inl t1, .inr (some e2)] w S 0 0 := by
  unfold B_X3_keep_51
  refine ry_ior dX3_keep_51 ?_
  refine ry_zg (fun z9 => ?_)
  refine ry_putz dX3_keep_52 he2 fl_RX3_28 rfl rfl rfl z9 ?_
  refine ry_letS (fun s10 => ?_)
  exact ry_to (yb_X3_keep_55 cx w x4 s10) ⟨rfl, trivial⟩
def B_X3_keep_27 (w : rd_W) (a0 : Nat) (x1 : Int32) (x3 : Int32) (x4 : Int32) (t0 : Int32) (t1 : Int32) (e2 : Nat) (S : rd_S) : Option (Int32 × rd_S) :=
  rd_i t1 (w.2.2 e2) <|
  rd_let (pI S e2 t1.toNatClampNeg t0) fun s5 =>
  rd_c (gR s5 a0 1) fun b6 =>
  rd_i x1 (w.2.2 b6) <|
  rd_let (pI s5 b6 x1.toNatClampNeg x4) fun s7 =>
  if x3 = 4 then
  (B_X3_keep_51 w x4 1 (gI s7 a0 2) a0 s7)
  else
  (B_X3_keep_51 w x4 0 (gI s7 a0 2) a0 s7)
theorem yb_X3_keep_27 (cx : rd_Cx) (w : rd_W) (a0 : Nat) (x1 : Int32) (x3 : Int32) (x4 : Int32) (t0 : Int32) (t1 : Int32) (e2 : Nat) (ha0 : rd_ok w a0 3) (he2 : rd_ok w e2 13) (S : rd_S) : rd_Y cx G_X3_keep (fun r => rd_P cx G_X3_keep.2.2.2.2.2 0 w (rd_rI w r)) (B_X3_keep_27 w a0 x1 x3 x4 t0 t1 e2 S) 27 [(0, .inr (some a0)), (1, .inl x1), (3, .inl x3), (4, .inl x4)] [.inl t0, .inl t1, .inr (some e2)] w S 0 0 := by
  unfold B_X3_keep_27
  refine ry_iast dX3_keep_27 he2 ?_
  refine ry_letS (fun s5 => ?_)
  refine ry_aload_n dX3_keep_28 rfl ?_
  refine ry_getr dX3_keep_29 ha0 fl_RX3_15 rfl (fun b6 hb6 => ?_)
  refine ry_iload_n dX3_keep_32 rfl ?_
  refine ry_iload dX3_keep_33 rfl ?_
  refine ry_iast dX3_keep_35 hb6 ?_
  refine ry_letS (fun s7 => ?_)
  refine ry_aload_n dX3_keep_36 rfl ?_
  refine ry_dup dX3_keep_37 ?_
  refine ry_geti dX3_keep_38 ha0 fl_RX3_28 rfl ?_
  refine ry_iload_n dX3_keep_41 rfl ?_
  refine ry_iconst (v := 4) dX3_keep_42 (by decide) ?_
  refine ry_icmp_ne 50 dX3_keep_43 (by decide) (fun c8 => ?_) (fun c8 => ?_)
  · refine ry_iconst (v := 1) dX3_keep_46 (by decide) ?_
    refine ry_goto 51 dX3_keep_47 (by decide) ?_
    exact ry_to (yb_X3_keep_51 cx w x4 1 (gI s7 a0 2) a0 ha0 s7) ⟨rfl, trivial⟩
  · refine ry_iconst (v := 0) dX3_keep_50 (by decide) ?_
    exact ry_to (yb_X3_keep_51 cx w x4 0 (gI s7 a0 2) a0 ha0 s7) ⟨rfl, trivial⟩
def F_X3_keep (w : rd_W) (a0 : Nat) (x1 : Int32) (x2 : Int32) (x3 : Int32) (x4 : Int32) (S : rd_S) : Option (Int32 × rd_S) :=
  if x1 < 0 then
  (B_X3_keep_55 w x4 S)
  else
  (if 4 ≤ x1 then
  (B_X3_keep_55 w x4 S)
  else
  (rd_c (gR S a0 0) fun b3 =>
  if x2 = (-1) then
  (B_X3_keep_27 w a0 x1 x3 x4 (-1) x1 b3 S)
  else
  (B_X3_keep_27 w a0 x1 x3 x4 (rd_ush x2 10) x1 b3 S)))
theorem ym_X3_keep (cx : rd_Cx) (w : rd_W) (a0 : Nat) (x1 : Int32) (x2 : Int32) (x3 : Int32) (x4 : Int32) (ha0 : rd_ok w a0 3) (S : rd_S) : rd_Y cx G_X3_keep (fun r => rd_P cx G_X3_keep.2.2.2.2.2 0 w (rd_rI w r)) (F_X3_keep w a0 x1 x2 x3 x4 S) 0 (rd_as 0 [.inr (some a0), .inl x1, .inl x2, .inl x3, .inl x4]) [] w S 0 0 := by
  unfold F_X3_keep
  refine ry_iload_n dX3_keep_0 rfl ?_
  refine ry_if_lt 55 dX3_keep_1 (by decide) (fun c1 => ?_) (fun c1 => ?_)
  · exact ry_to (yb_X3_keep_55 cx w x4 S) ⟨rfl, trivial⟩
  · refine ry_iload_n dX3_keep_4 rfl ?_
    refine ry_iconst (v := 4) dX3_keep_5 (by decide) ?_
    refine ry_icmp_ge 55 dX3_keep_6 (by decide) (fun c2 => ?_) (fun c2 => ?_)
    · exact ry_to (yb_X3_keep_55 cx w x4 S) ⟨rfl, trivial⟩
    · refine ry_aload_n dX3_keep_9 rfl ?_
      refine ry_getr dX3_keep_10 ha0 fl_RX3_9 rfl (fun b3 hb3 => ?_)
      refine ry_iload_n dX3_keep_13 rfl ?_
      refine ry_iload_n dX3_keep_14 rfl ?_
      refine ry_iconst (v := (-1)) dX3_keep_15 (by decide) ?_
      refine ry_icmp_ne 23 dX3_keep_16 (by decide) (fun c4 => ?_) (fun c4 => ?_)
      · refine ry_iconst (v := (-1)) dX3_keep_19 (by decide) ?_
        refine ry_goto 27 dX3_keep_20 (by decide) ?_
        exact ry_to (yb_X3_keep_27 cx w a0 x1 x3 x4 (-1) x1 b3 ha0 hb3 S) ⟨rfl, rfl, rfl, rfl, trivial⟩
      · refine ry_iload_n dX3_keep_23 rfl ?_
        refine ry_bipush (v := 10) dX3_keep_24 (by decide) ?_
        refine ry_iushr dX3_keep_26 ?_
        exact ry_to (yb_X3_keep_27 cx w a0 x1 x3 x4 (rd_ush x2 10) x1 b3 ha0 hb3 S) ⟨rfl, rfl, rfl, rfl, trivial⟩
theorem cm_X3_keep (l : Launch) (cx : rd_Cx) (w : rd_W) (a0 : Nat) (x1 : Int32) (x2 : Int32) (x3 : Int32) (x4 : Int32) (ha0 : rd_ok w a0 3) (S : rd_S) (r : Int32 × rd_S) (h : F_X3_keep w a0 x1 x2 x3 x4 S = some r) : rd_M l cx yX3_keep G_X3_keep 0 [.inr (some a0), .inl x1, .inl x2, .inl x3, .inl x4] w S (rd_rI w r) :=
  rd_enter (plainFor_of_name (by decide +kernel)) rfl (fun h => by cases h) (Nat.le_of_ble_eq_true rfl) (ym_X3_keep cx w a0 x1 x2 x3 x4 ha0 S r h)
abbrev G_X3_knows : rd_G := (RX3, cX3_knows, 2, (some .boolean), false, { frames := 0, cells := 0, slots := 0, locals := 0 })
theorem yf_X3_knows : rd_YL yX3_knows G_X3_knows 1 := ⟨rd_mem 443 (by decide +kernel) rfl, rd_mem 64 (by decide +kernel) rfl, by decide +kernel, by decide +kernel, by decide +kernel⟩
theorem mi_X3_knows : Cond.instanceMethod yX3_knows ∈ rd_gw := rd_mem 441 (by decide +kernel) rfl
theorem ms_X3_knows : Cond.selects (MethodName.cls yX3_knows) yX3_knows yX3_knows ∈ rd_gw := rd_mem 442 (by decide +kernel) rfl
theorem dX3_knows_0 : decode cX3_knows 0 = .ok (.iload_n 1, 1) := by decide +kernel
theorem dX3_knows_1 : decode cX3_knows 1 = .ok (.ifCond .lt 22, 3) := by decide +kernel
theorem dX3_knows_4 : decode cX3_knows 4 = .ok (.iload_n 1, 1) := by decide +kernel
theorem dX3_knows_5 : decode cX3_knows 5 = .ok (.iconst 4, 1) := by decide +kernel
theorem dX3_knows_6 : decode cX3_knows 6 = .ok (.if_icmp .ge 17, 3) := by decide +kernel
theorem dX3_knows_9 : decode cX3_knows 9 = .ok (.aload_n 0, 1) := by decide +kernel
theorem dX3_knows_10 : decode cX3_knows 10 = .ok (.getfield 9, 3) := by decide +kernel
theorem dX3_knows_13 : decode cX3_knows 13 = .ok (.iload_n 1, 1) := by decide +kernel
theorem dX3_knows_14 : decode cX3_knows 14 = .ok (.iaload, 1) := by decide +kernel
theorem dX3_knows_15 : decode cX3_knows 15 = .ok (.iconst (-1), 1) := by decide +kernel
theorem dX3_knows_16 : decode cX3_knows 16 = .ok (.if_icmp .eq 7, 3) := by decide +kernel
theorem dX3_knows_19 : decode cX3_knows 19 = .ok (.iconst 1, 1) := by decide +kernel
theorem dX3_knows_20 : decode cX3_knows 20 = .ok (.goto 4, 3) := by decide +kernel
theorem dX3_knows_23 : decode cX3_knows 23 = .ok (.iconst 0, 1) := by decide +kernel
theorem dX3_knows_24 : decode cX3_knows 24 = .ok (.ireturn, 1) := by decide +kernel
def B_X3_knows_24 (w : rd_W) (t0 : Int32) (S : rd_S) : Option (Int32 × rd_S) :=
  rd_z t0 <|
  some (t0, S)
theorem yb_X3_knows_24 (cx : rd_Cx) (w : rd_W) (t0 : Int32) (S : rd_S) : rd_Y cx G_X3_knows (fun r => rd_P cx G_X3_knows.2.2.2.2.2 0 w (rd_rI w r)) (B_X3_knows_24 w t0 S) 24 [] [.inl t0] w S 0 0 := by
  unfold B_X3_knows_24
  refine ry_zg (fun z2 => ?_)
  exact ry_zret dX3_knows_24 rfl z2 (Nat.le_of_ble_eq_true rfl) (Nat.le_of_ble_eq_true rfl)
def B_X3_knows_23 (w : rd_W) (S : rd_S) : Option (Int32 × rd_S) :=
  B_X3_knows_24 w 0 S
theorem yb_X3_knows_23 (cx : rd_Cx) (w : rd_W) (S : rd_S) : rd_Y cx G_X3_knows (fun r => rd_P cx G_X3_knows.2.2.2.2.2 0 w (rd_rI w r)) (B_X3_knows_23 w S) 23 [] [] w S 0 0 := by
  unfold B_X3_knows_23
  refine ry_iconst (v := 0) dX3_knows_23 (by decide) ?_
  exact ry_to (yb_X3_knows_24 cx w 0 S) trivial
def F_X3_knows (w : rd_W) (a0 : Nat) (x1 : Int32) (S : rd_S) : Option (Int32 × rd_S) :=
  if x1 < 0 then
  (B_X3_knows_23 w S)
  else
  (if 4 ≤ x1 then
  (B_X3_knows_23 w S)
  else
  (rd_c (gR S a0 0) fun b4 =>
  rd_i x1 (w.2.2 b4) <|
  if (gI S b4 x1.toNatClampNeg) = (-1) then
  (B_X3_knows_23 w S)
  else
  (B_X3_knows_24 w 1 S)))
theorem ym_X3_knows (cx : rd_Cx) (w : rd_W) (a0 : Nat) (x1 : Int32) (ha0 : rd_ok w a0 3) (S : rd_S) : rd_Y cx G_X3_knows (fun r => rd_P cx G_X3_knows.2.2.2.2.2 0 w (rd_rI w r)) (F_X3_knows w a0 x1 S) 0 (rd_as 0 [.inr (some a0), .inl x1]) [] w S 0 0 := by
  unfold F_X3_knows
  refine ry_iload_n dX3_knows_0 rfl ?_
  refine ry_if_lt 23 dX3_knows_1 (by decide) (fun c1 => ?_) (fun c1 => ?_)
  · exact ry_to (yb_X3_knows_23 cx w S) trivial
  · refine ry_iload_n dX3_knows_4 rfl ?_
    refine ry_iconst (v := 4) dX3_knows_5 (by decide) ?_
    refine ry_icmp_ge 23 dX3_knows_6 (by decide) (fun c3 => ?_) (fun c3 => ?_)
    · exact ry_to (yb_X3_knows_23 cx w S) trivial
    · refine ry_aload_n dX3_knows_9 rfl ?_
      refine ry_getr dX3_knows_10 ha0 fl_RX3_9 rfl (fun b4 hb4 => ?_)
      refine ry_iload_n dX3_knows_13 rfl ?_
      refine ry_iald dX3_knows_14 hb4 ?_
      refine ry_iconst (v := (-1)) dX3_knows_15 (by decide) ?_
      refine ry_icmp_eq 23 dX3_knows_16 (by decide) (fun c5 => ?_) (fun c5 => ?_)
      · exact ry_to (yb_X3_knows_23 cx w S) trivial
      · refine ry_iconst (v := 1) dX3_knows_19 (by decide) ?_
        refine ry_goto 24 dX3_knows_20 (by decide) ?_
        exact ry_to (yb_X3_knows_24 cx w 1 S) trivial
theorem cm_X3_knows (l : Launch) (cx : rd_Cx) (w : rd_W) (a0 : Nat) (x1 : Int32) (ha0 : rd_ok w a0 3) (S : rd_S) (r : Int32 × rd_S) (h : F_X3_knows w a0 x1 S = some r) : rd_M l cx yX3_knows G_X3_knows 0 [.inr (some a0), .inl x1] w S (rd_rI w r) :=
  rd_enter (plainFor_of_name (by decide +kernel)) rfl (fun h => by cases h) (Nat.le_of_ble_eq_true rfl) (ym_X3_knows cx w a0 x1 ha0 S r h)
abbrev G_X3_aimOf : rd_G := (RX3, cX3_aimOf, 2, (some .int), false, { frames := 1, cells := 0, slots := 0, locals := 21 })
theorem yf_X3_aimOf : rd_YL yX3_aimOf G_X3_aimOf 1 := ⟨rd_mem 439 (by decide +kernel) rfl, rd_mem 64 (by decide +kernel) rfl, by decide +kernel, by decide +kernel, by decide +kernel⟩
theorem mi_X3_aimOf : Cond.instanceMethod yX3_aimOf ∈ rd_gw := rd_mem 438 (by decide +kernel) rfl
theorem ms_X3_aimOf : Cond.selects (MethodName.cls yX3_aimOf) yX3_aimOf yX3_aimOf ∈ rd_gw := rd_mem 3 (by decide +kernel) rfl
theorem dX3_aimOf_0 : decode cX3_aimOf 0 = .ok (.iload_n 1, 1) := by decide +kernel
theorem dX3_aimOf_1 : decode cX3_aimOf 1 = .ok (.iconst 2, 1) := by decide +kernel
theorem dX3_aimOf_2 : decode cX3_aimOf 2 = .ok (.if_icmp .eq 5, 3) := by decide +kernel
theorem dX3_aimOf_5 : decode cX3_aimOf 5 = .ok (.iload_n 1, 1) := by decide +kernel
theorem dX3_aimOf_6 : decode cX3_aimOf 6 = .ok (.ireturn, 1) := by decide +kernel
theorem dX3_aimOf_7 : decode cX3_aimOf 7 = .ok (.aload_n 0, 1) := by decide +kernel
theorem dX3_aimOf_8 : decode cX3_aimOf 8 = .ok (.iconst 1, 1) := by decide +kernel
theorem dX3_aimOf_9 : decode cX3_aimOf 9 = .ok (.invokevirtual 56, 3) := by decide +kernel
theorem dX3_aimOf_12 : decode cX3_aimOf 12 = .ok (.ifCond .ne 5, 3) := by decide +kernel
theorem dX3_aimOf_15 : decode cX3_aimOf 15 = .ok (.iconst (-1), 1) := by decide +kernel
theorem dX3_aimOf_16 : decode cX3_aimOf 16 = .ok (.ireturn, 1) := by decide +kernel
theorem dX3_aimOf_17 : decode cX3_aimOf 17 = .ok (.aload_n 0, 1) := by decide +kernel
theorem dX3_aimOf_18 : decode cX3_aimOf 18 = .ok (.getfield 9, 3) := by decide +kernel
theorem dX3_aimOf_21 : decode cX3_aimOf 21 = .ok (.iconst 1, 1) := by decide +kernel
theorem dX3_aimOf_22 : decode cX3_aimOf 22 = .ok (.iaload, 1) := by decide +kernel
theorem dX3_aimOf_23 : decode cX3_aimOf 23 = .ok (.bipush 11, 2) := by decide +kernel
theorem dX3_aimOf_25 : decode cX3_aimOf 25 = .ok (.iushr, 1) := by decide +kernel
theorem dX3_aimOf_26 : decode cX3_aimOf 26 = .ok (.iconst 1, 1) := by decide +kernel
theorem dX3_aimOf_27 : decode cX3_aimOf 27 = .ok (.iand, 1) := by decide +kernel
theorem dX3_aimOf_28 : decode cX3_aimOf 28 = .ok (.iconst 1, 1) := by decide +kernel
theorem dX3_aimOf_29 : decode cX3_aimOf 29 = .ok (.if_icmp .ne 7, 3) := by decide +kernel
theorem dX3_aimOf_32 : decode cX3_aimOf 32 = .ok (.iconst 4, 1) := by decide +kernel
theorem dX3_aimOf_33 : decode cX3_aimOf 33 = .ok (.goto 4, 3) := by decide +kernel
theorem dX3_aimOf_36 : decode cX3_aimOf 36 = .ok (.iconst 2, 1) := by decide +kernel
theorem dX3_aimOf_37 : decode cX3_aimOf 37 = .ok (.ireturn, 1) := by decide +kernel
def B_X3_aimOf_37 (w : rd_W) (t0 : Int32) (S : rd_S) : Option (Int32 × rd_S) :=
  some (t0, S)
theorem yb_X3_aimOf_37 (cx : rd_Cx) (w : rd_W) (t0 : Int32) (S : rd_S) : rd_Y cx G_X3_aimOf (fun r => rd_P cx G_X3_aimOf.2.2.2.2.2 0 w (rd_rI w r)) (B_X3_aimOf_37 w t0 S) 37 [] [.inl t0] w S 0 0 := by
  unfold B_X3_aimOf_37
  exact ry_iret dX3_aimOf_37 rfl (Nat.le_of_ble_eq_true rfl) (Nat.le_of_ble_eq_true rfl)
def F_X3_aimOf (w : rd_W) (a0 : Nat) (x1 : Int32) (S : rd_S) : Option (Int32 × rd_S) :=
  if x1 = 2 then
  (rd_b (F_X3_knows w a0 1 S) fun v3 s2 =>
  if v3 = 0 then
  (some ((-1), s2))
  else
  (rd_c (gR s2 a0 0) fun b5 =>
  rd_i 1 (w.2.2 b5) <|
  if ((rd_ush (gI s2 b5 (1 : Int32).toNatClampNeg) 11) &&& 1) = 1 then
  (B_X3_aimOf_37 w 4 s2)
  else
  (B_X3_aimOf_37 w 2 s2)))
  else
  (some (x1, S))
theorem ym_X3_aimOf (cx : rd_Cx) (w : rd_W) (a0 : Nat) (x1 : Int32) (ha0 : rd_ok w a0 3) (S : rd_S) : rd_Y cx G_X3_aimOf (fun r => rd_P cx G_X3_aimOf.2.2.2.2.2 0 w (rd_rI w r)) (F_X3_aimOf w a0 x1 S) 0 (rd_as 0 [.inr (some a0), .inl x1]) [] w S 0 0 := by
  unfold F_X3_aimOf
  refine ry_iload_n dX3_aimOf_0 rfl ?_
  refine ry_iconst (v := 2) dX3_aimOf_1 (by decide) ?_
  refine ry_icmp_eq 7 dX3_aimOf_2 (by decide) (fun c1 => ?_) (fun c1 => ?_)
  · refine ry_aload_n dX3_aimOf_7 rfl ?_
    refine ry_iconst (v := 1) dX3_aimOf_8 (by decide) ?_
    refine ry_callI (fun l r9 h9 => cm_X3_knows l cx w a0 1 ha0 S r9 h9) (rd_runV (vs := [.inl 1]) dX3_aimOf_9 ha0 rfl rfl yf_X3_knows mi_X3_knows ms_X3_knows ml_RX3_56 ⟨Nat.le_of_ble_eq_true rfl, Nat.le_of_ble_eq_true rfl⟩ (Nat.le_of_ble_eq_true rfl) rfl) rfl rfl (Nat.le_of_ble_eq_true rfl) (Nat.le_of_ble_eq_true rfl) (fun v3 s2 => ?_)
    refine ry_if_ne 17 dX3_aimOf_12 (by decide) (fun c4 => ?_) (fun c4 => ?_)
    · refine ry_iconst (v := (-1)) dX3_aimOf_15 (by decide) ?_
      exact ry_iret dX3_aimOf_16 rfl (Nat.le_of_ble_eq_true rfl) (Nat.le_of_ble_eq_true rfl)
    · refine ry_aload_n dX3_aimOf_17 rfl ?_
      refine ry_getr dX3_aimOf_18 ha0 fl_RX3_9 rfl (fun b5 hb5 => ?_)
      refine ry_iconst (v := 1) dX3_aimOf_21 (by decide) ?_
      refine ry_iald dX3_aimOf_22 hb5 ?_
      refine ry_bipush (v := 11) dX3_aimOf_23 (by decide) ?_
      refine ry_iushr dX3_aimOf_25 ?_
      refine ry_iconst (v := 1) dX3_aimOf_26 (by decide) ?_
      refine ry_iand dX3_aimOf_27 ?_
      refine ry_iconst (v := 1) dX3_aimOf_28 (by decide) ?_
      refine ry_icmp_ne 36 dX3_aimOf_29 (by decide) (fun c6 => ?_) (fun c6 => ?_)
      · refine ry_iconst (v := 4) dX3_aimOf_32 (by decide) ?_
        refine ry_goto 37 dX3_aimOf_33 (by decide) ?_
        exact ry_to (yb_X3_aimOf_37 cx w 4 s2) trivial
      · refine ry_iconst (v := 2) dX3_aimOf_36 (by decide) ?_
        exact ry_to (yb_X3_aimOf_37 cx w 2 s2) trivial
  · refine ry_iload_n dX3_aimOf_5 rfl ?_
    exact ry_iret dX3_aimOf_6 rfl (Nat.le_of_ble_eq_true rfl) (Nat.le_of_ble_eq_true rfl)
theorem cm_X3_aimOf (l : Launch) (cx : rd_Cx) (w : rd_W) (a0 : Nat) (x1 : Int32) (ha0 : rd_ok w a0 3) (S : rd_S) (r : Int32 × rd_S) (h : F_X3_aimOf w a0 x1 S = some r) : rd_M l cx yX3_aimOf G_X3_aimOf 0 [.inr (some a0), .inl x1] w S (rd_rI w r) :=
  rd_enter (plainFor_of_name (by decide +kernel)) rfl (fun h => by cases h) (Nat.le_of_ble_eq_true rfl) (ym_X3_aimOf cx w a0 x1 ha0 S r h)
abbrev G_X11_offsetOf : rd_G := (RX11, cX11_offsetOf, 1, (some .int), false, { frames := 0, cells := 0, slots := 0, locals := 0 })
theorem yf_X11_offsetOf : rd_YL yX11_offsetOf G_X11_offsetOf 1 := ⟨rd_mem 449 (by decide +kernel) rfl, rd_mem 62 (by decide +kernel) rfl, by decide +kernel, by decide +kernel, by decide +kernel⟩
theorem mt_X11_offsetOf : Cond.static yX11_offsetOf ∈ rd_gw := rd_mem 448 (by decide +kernel) rfl
theorem dX11_offsetOf_0 : decode cX11_offsetOf 0 = .ok (.iload_n 0, 1) := by decide +kernel
theorem dX11_offsetOf_1 : decode cX11_offsetOf 1 = .ok (.ifCond .lt 11, 3) := by decide +kernel
theorem dX11_offsetOf_4 : decode cX11_offsetOf 4 = .ok (.iload_n 0, 1) := by decide +kernel
theorem dX11_offsetOf_5 : decode cX11_offsetOf 5 = .ok (.getstatic 152, 3) := by decide +kernel
theorem dX11_offsetOf_8 : decode cX11_offsetOf 8 = .ok (.arraylength, 1) := by decide +kernel
theorem dX11_offsetOf_9 : decode cX11_offsetOf 9 = .ok (.if_icmp .lt 7, 3) := by decide +kernel
theorem dX11_offsetOf_12 : decode cX11_offsetOf 12 = .ok (.iconst (-1), 1) := by decide +kernel
theorem dX11_offsetOf_13 : decode cX11_offsetOf 13 = .ok (.goto 8, 3) := by decide +kernel
theorem dX11_offsetOf_16 : decode cX11_offsetOf 16 = .ok (.getstatic 152, 3) := by decide +kernel
theorem dX11_offsetOf_19 : decode cX11_offsetOf 19 = .ok (.iload_n 0, 1) := by decide +kernel
theorem dX11_offsetOf_20 : decode cX11_offsetOf 20 = .ok (.iaload, 1) := by decide +kernel
theorem dX11_offsetOf_21 : decode cX11_offsetOf 21 = .ok (.ireturn, 1) := by decide +kernel
def B_X11_offsetOf_21 (w : rd_W) (t0 : Int32) (S : rd_S) : Option (Int32 × rd_S) :=
  some (t0, S)
theorem yb_X11_offsetOf_21 (cx : rd_Cx) (w : rd_W) (t0 : Int32) (S : rd_S) : rd_Y cx G_X11_offsetOf (fun r => rd_P cx G_X11_offsetOf.2.2.2.2.2 0 w (rd_rI w r)) (B_X11_offsetOf_21 w t0 S) 21 [] [.inl t0] w S 0 0 := by
  unfold B_X11_offsetOf_21
  exact ry_iret dX11_offsetOf_21 rfl (Nat.le_of_ble_eq_true rfl) (Nat.le_of_ble_eq_true rfl)
def B_X11_offsetOf_12 (w : rd_W) (S : rd_S) : Option (Int32 × rd_S) :=
  B_X11_offsetOf_21 w (-1) S
theorem yb_X11_offsetOf_12 (cx : rd_Cx) (w : rd_W) (S : rd_S) : rd_Y cx G_X11_offsetOf (fun r => rd_P cx G_X11_offsetOf.2.2.2.2.2 0 w (rd_rI w r)) (B_X11_offsetOf_12 w S) 12 [] [] w S 0 0 := by
  unfold B_X11_offsetOf_12
  refine ry_iconst (v := (-1)) dX11_offsetOf_12 (by decide) ?_
  refine ry_goto 21 dX11_offsetOf_13 (by decide) ?_
  exact ry_to (yb_X11_offsetOf_21 cx w (-1) S) trivial
def F_X11_offsetOf (w : rd_W) (x0 : Int32) (S : rd_S) : Option (Int32 × rd_S) :=
  if x0 < 0 then
  (B_X11_offsetOf_12 w S)
  else
  (if x0 < 5 then
  (rd_i x0 5 <|
  B_X11_offsetOf_21 w (rd_ofs x0.toNatClampNeg) S)
  else
  (B_X11_offsetOf_12 w S))
theorem ym_X11_offsetOf (cx : rd_Cx) (w : rd_W) (x0 : Int32) (S : rd_S) : rd_Y cx G_X11_offsetOf (fun r => rd_P cx G_X11_offsetOf.2.2.2.2.2 0 w (rd_rI w r)) (F_X11_offsetOf w x0 S) 0 (rd_as 0 [.inl x0]) [] w S 0 0 := by
  unfold F_X11_offsetOf
  refine ry_iload_n dX11_offsetOf_0 rfl ?_
  refine ry_if_lt 12 dX11_offsetOf_1 (by decide) (fun c1 => ?_) (fun c1 => ?_)
  · exact ry_to (yb_X11_offsetOf_12 cx w S) trivial
  · refine ry_iload_n dX11_offsetOf_4 rfl ?_
    refine ry_gets dX11_offsetOf_5 st_RX11_152 ?_
    refine ry_alen0 dX11_offsetOf_8 ?_
    refine ry_icmp_lt 16 dX11_offsetOf_9 (by decide) (fun c2 => ?_) (fun c2 => ?_)
    · refine ry_gets dX11_offsetOf_16 st_RX11_152 ?_
      refine ry_iload_n dX11_offsetOf_19 rfl ?_
      refine ry_ald0 dX11_offsetOf_20 ?_
      exact ry_to (yb_X11_offsetOf_21 cx w (rd_ofs x0.toNatClampNeg) S) trivial
    · exact ry_to (yb_X11_offsetOf_12 cx w S) trivial
theorem cm_X11_offsetOf (l : Launch) (cx : rd_Cx) (w : rd_W) (x0 : Int32) (S : rd_S) (r : Int32 × rd_S) (h : F_X11_offsetOf w x0 S = some r) : rd_M l cx yX11_offsetOf G_X11_offsetOf 0 [.inl x0] w S (rd_rI w r) :=
  rd_enter (plainFor_of_name (by decide +kernel)) rfl (fun h => by cases h) (Nat.le_of_ble_eq_true rfl) (ym_X11_offsetOf cx w x0 S r h)
abbrev G_X11_timesX : rd_G := (RX11, cX11_timesX, 2, (some .int), false, { frames := 0, cells := 0, slots := 0, locals := 0 })
theorem yf_X11_timesX : rd_YL yX11_timesX G_X11_timesX 1 := ⟨rd_mem 453 (by decide +kernel) rfl, rd_mem 62 (by decide +kernel) rfl, by decide +kernel, by decide +kernel, by decide +kernel⟩
theorem mt_X11_timesX : Cond.static yX11_timesX ∈ rd_gw := rd_mem 452 (by decide +kernel) rfl
theorem dX11_timesX_0 : decode cX11_timesX 0 = .ok (.iload_n 0, 1) := by decide +kernel
theorem dX11_timesX_1 : decode cX11_timesX 1 = .ok (.iconst 1, 1) := by decide +kernel
theorem dX11_timesX_2 : decode cX11_timesX 2 = .ok (.ishl, 1) := by decide +kernel
theorem dX11_timesX_3 : decode cX11_timesX 3 = .ok (.istore_n 1, 1) := by decide +kernel
theorem dX11_timesX_4 : decode cX11_timesX 4 = .ok (.iload_n 1, 1) := by decide +kernel
theorem dX11_timesX_5 : decode cX11_timesX 5 = .ok (.bipush 10, 2) := by decide +kernel
theorem dX11_timesX_7 : decode cX11_timesX 7 = .ok (.iushr, 1) := by decide +kernel
theorem dX11_timesX_8 : decode cX11_timesX 8 = .ok (.ifCond .ne 7, 3) := by decide +kernel
theorem dX11_timesX_11 : decode cX11_timesX 11 = .ok (.iload_n 1, 1) := by decide +kernel
theorem dX11_timesX_12 : decode cX11_timesX 12 = .ok (.goto 8, 3) := by decide +kernel
theorem dX11_timesX_15 : decode cX11_timesX 15 = .ok (.iload_n 1, 1) := by decide +kernel
theorem dX11_timesX_16 : decode cX11_timesX 16 = .ok (.sipush 1465, 3) := by decide +kernel
theorem dX11_timesX_19 : decode cX11_timesX 19 = .ok (.ixor, 1) := by decide +kernel
theorem dX11_timesX_20 : decode cX11_timesX 20 = .ok (.ireturn, 1) := by decide +kernel
def B_X11_timesX_20 (w : rd_W) (t0 : Int32) (S : rd_S) : Option (Int32 × rd_S) :=
  some (t0, S)
theorem yb_X11_timesX_20 (cx : rd_Cx) (w : rd_W) (t0 : Int32) (S : rd_S) : rd_Y cx G_X11_timesX (fun r => rd_P cx G_X11_timesX.2.2.2.2.2 0 w (rd_rI w r)) (B_X11_timesX_20 w t0 S) 20 [] [.inl t0] w S 0 0 := by
  unfold B_X11_timesX_20
  exact ry_iret dX11_timesX_20 rfl (Nat.le_of_ble_eq_true rfl) (Nat.le_of_ble_eq_true rfl)
def F_X11_timesX (w : rd_W) (x0 : Int32) (S : rd_S) : Option (Int32 × rd_S) :=
  rd_let (rd_shl x0 1) fun v1 =>
  if (rd_ush v1 10) = 0 then
  (B_X11_timesX_20 w v1 S)
  else
  (B_X11_timesX_20 w (v1 ^^^ 1465) S)
theorem ym_X11_timesX (cx : rd_Cx) (w : rd_W) (x0 : Int32) (S : rd_S) : rd_Y cx G_X11_timesX (fun r => rd_P cx G_X11_timesX.2.2.2.2.2 0 w (rd_rI w r)) (F_X11_timesX w x0 S) 0 (rd_as 0 [.inl x0]) [] w S 0 0 := by
  unfold F_X11_timesX
  refine ry_iload_n dX11_timesX_0 rfl ?_
  refine ry_iconst (v := 1) dX11_timesX_1 (by decide) ?_
  refine ry_ishl dX11_timesX_2 ?_
  refine ry_istore_n dX11_timesX_3 (by decide) ?_
  refine ry_let (fun v1 => ?_)
  refine ry_iload_n dX11_timesX_4 rfl ?_
  refine ry_bipush (v := 10) dX11_timesX_5 (by decide) ?_
  refine ry_iushr dX11_timesX_7 ?_
  refine ry_if_ne 15 dX11_timesX_8 (by decide) (fun c2 => ?_) (fun c2 => ?_)
  · refine ry_iload_n dX11_timesX_11 rfl ?_
    refine ry_goto 20 dX11_timesX_12 (by decide) ?_
    exact ry_to (yb_X11_timesX_20 cx w v1 S) trivial
  · refine ry_iload_n dX11_timesX_15 rfl ?_
    refine ry_sipush (v := 1465) dX11_timesX_16 (by decide) ?_
    refine ry_ixor dX11_timesX_19 ?_
    exact ry_to (yb_X11_timesX_20 cx w (v1 ^^^ 1465) S) trivial
theorem cm_X11_timesX (l : Launch) (cx : rd_Cx) (w : rd_W) (x0 : Int32) (S : rd_S) (r : Int32 × rd_S) (h : F_X11_timesX w x0 S = some r) : rd_M l cx yX11_timesX G_X11_timesX 0 [.inl x0] w S (rd_rI w r) :=
  rd_enter (plainFor_of_name (by decide +kernel)) rfl (fun h => by cases h) (Nat.le_of_ble_eq_true rfl) (ym_X11_timesX cx w x0 S r h)
abbrev G_X11_corrected : rd_G := (RX11, cX11_corrected, 10, (some .int), false, { frames := 1, cells := 0, slots := 0, locals := 22 })
theorem yf_X11_corrected : rd_YL yX11_corrected G_X11_corrected 3 := ⟨rd_mem 446 (by decide +kernel) rfl, rd_mem 62 (by decide +kernel) rfl, by decide +kernel, by decide +kernel, by decide +kernel⟩
theorem mt_X11_corrected : Cond.static yX11_corrected ∈ rd_gw := rd_mem 445 (by decide +kernel) rfl
theorem dX11_corrected_0 : decode cX11_corrected 0 = .ok (.iload_n 1, 1) := by decide +kernel
theorem dX11_corrected_1 : decode cX11_corrected 1 = .ok (.invokestatic 44, 3) := by decide +kernel
theorem dX11_corrected_4 : decode cX11_corrected 4 = .ok (.istore_n 3, 1) := by decide +kernel
theorem dX11_corrected_5 : decode cX11_corrected 5 = .ok (.iload_n 3, 1) := by decide +kernel
theorem dX11_corrected_6 : decode cX11_corrected 6 = .ok (.iconst (-1), 1) := by decide +kernel
theorem dX11_corrected_7 : decode cX11_corrected 7 = .ok (.if_icmp .ne 5, 3) := by decide +kernel
theorem dX11_corrected_10 : decode cX11_corrected 10 = .ok (.iconst (-1), 1) := by decide +kernel
theorem dX11_corrected_11 : decode cX11_corrected 11 = .ok (.ireturn, 1) := by decide +kernel
theorem dX11_corrected_12 : decode cX11_corrected 12 = .ok (.iload_n 0, 1) := by decide +kernel
theorem dX11_corrected_13 : decode cX11_corrected 13 = .ok (.invokestatic 49, 3) := by decide +kernel
theorem dX11_corrected_16 : decode cX11_corrected 16 = .ok (.iload_n 3, 1) := by decide +kernel
theorem dX11_corrected_17 : decode cX11_corrected 17 = .ok (.ixor, 1) := by decide +kernel
theorem dX11_corrected_18 : decode cX11_corrected 18 = .ok (.istore 4, 2) := by decide +kernel
theorem dX11_corrected_20 : decode cX11_corrected 20 = .ok (.iconst 0, 1) := by decide +kernel
theorem dX11_corrected_21 : decode cX11_corrected 21 = .ok (.istore 5, 2) := by decide +kernel
theorem dX11_corrected_23 : decode cX11_corrected 23 = .ok (.iconst 0, 1) := by decide +kernel
theorem dX11_corrected_24 : decode cX11_corrected 24 = .ok (.istore 6, 2) := by decide +kernel
theorem dX11_corrected_26 : decode cX11_corrected 26 = .ok (.iconst 1, 1) := by decide +kernel
theorem dX11_corrected_27 : decode cX11_corrected 27 = .ok (.istore 7, 2) := by decide +kernel
theorem dX11_corrected_29 : decode cX11_corrected 29 = .ok (.iload 7, 2) := by decide +kernel
theorem dX11_corrected_31 : decode cX11_corrected 31 = .ok (.iconst 1, 1) := by decide +kernel
theorem dX11_corrected_32 : decode cX11_corrected 32 = .ok (.iload_n 2, 1) := by decide +kernel
theorem dX11_corrected_33 : decode cX11_corrected 33 = .ok (.ishl, 1) := by decide +kernel
theorem dX11_corrected_34 : decode cX11_corrected 34 = .ok (.if_icmp .ge 63, 3) := by decide +kernel
theorem dX11_corrected_37 : decode cX11_corrected 37 = .ok (.iload 7, 2) := by decide +kernel
theorem dX11_corrected_39 : decode cX11_corrected 39 = .ok (.istore 8, 2) := by decide +kernel
theorem dX11_corrected_41 : decode cX11_corrected 41 = .ok (.iconst 0, 1) := by decide +kernel
theorem dX11_corrected_42 : decode cX11_corrected 42 = .ok (.istore 9, 2) := by decide +kernel
theorem dX11_corrected_44 : decode cX11_corrected 44 = .ok (.iload 9, 2) := by decide +kernel
theorem dX11_corrected_46 : decode cX11_corrected 46 = .ok (.bipush 26, 2) := by decide +kernel
theorem dX11_corrected_48 : decode cX11_corrected 48 = .ok (.if_icmp .ge 43, 3) := by decide +kernel
theorem dX11_corrected_51 : decode cX11_corrected 51 = .ok (.iload 7, 2) := by decide +kernel
theorem dX11_corrected_53 : decode cX11_corrected 53 = .ok (.iload 9, 2) := by decide +kernel
theorem dX11_corrected_55 : decode cX11_corrected 55 = .ok (.ishl, 1) := by decide +kernel
theorem dX11_corrected_56 : decode cX11_corrected 56 = .ok (.ldc 155, 2) := by decide +kernel
theorem dX11_corrected_58 : decode cX11_corrected 58 = .ok (.if_icmp .gt 33, 3) := by decide +kernel
theorem dX11_corrected_61 : decode cX11_corrected 61 = .ok (.iload 8, 2) := by decide +kernel
theorem dX11_corrected_63 : decode cX11_corrected 63 = .ok (.iload 4, 2) := by decide +kernel
theorem dX11_corrected_65 : decode cX11_corrected 65 = .ok (.if_icmp .ne 13, 3) := by decide +kernel
theorem dX11_corrected_68 : decode cX11_corrected 68 = .ok (.iinc 5 1, 3) := by decide +kernel
theorem dX11_corrected_71 : decode cX11_corrected 71 = .ok (.iload 7, 2) := by decide +kernel
theorem dX11_corrected_73 : decode cX11_corrected 73 = .ok (.iload 9, 2) := by decide +kernel
theorem dX11_corrected_75 : decode cX11_corrected 75 = .ok (.ishl, 1) := by decide +kernel
theorem dX11_corrected_76 : decode cX11_corrected 76 = .ok (.istore 6, 2) := by decide +kernel
theorem dX11_corrected_78 : decode cX11_corrected 78 = .ok (.iload 8, 2) := by decide +kernel
theorem dX11_corrected_80 : decode cX11_corrected 80 = .ok (.invokestatic 156, 3) := by decide +kernel
theorem dX11_corrected_83 : decode cX11_corrected 83 = .ok (.istore 8, 2) := by decide +kernel
theorem dX11_corrected_85 : decode cX11_corrected 85 = .ok (.iinc 9 1, 3) := by decide +kernel
theorem dX11_corrected_88 : decode cX11_corrected 88 = .ok (.goto (-44), 3) := by decide +kernel
theorem dX11_corrected_91 : decode cX11_corrected 91 = .ok (.iinc 7 2, 3) := by decide +kernel
theorem dX11_corrected_94 : decode cX11_corrected 94 = .ok (.goto (-65), 3) := by decide +kernel
theorem dX11_corrected_97 : decode cX11_corrected 97 = .ok (.iload 5, 2) := by decide +kernel
theorem dX11_corrected_99 : decode cX11_corrected 99 = .ok (.iconst 1, 1) := by decide +kernel
theorem dX11_corrected_100 : decode cX11_corrected 100 = .ok (.if_icmp .ne 10, 3) := by decide +kernel
theorem dX11_corrected_103 : decode cX11_corrected 103 = .ok (.iload_n 0, 1) := by decide +kernel
theorem dX11_corrected_104 : decode cX11_corrected 104 = .ok (.iload 6, 2) := by decide +kernel
theorem dX11_corrected_106 : decode cX11_corrected 106 = .ok (.ixor, 1) := by decide +kernel
theorem dX11_corrected_107 : decode cX11_corrected 107 = .ok (.goto 4, 3) := by decide +kernel
theorem dX11_corrected_110 : decode cX11_corrected 110 = .ok (.iconst (-1), 1) := by decide +kernel
theorem dX11_corrected_111 : decode cX11_corrected 111 = .ok (.ireturn, 1) := by decide +kernel
def B_X11_corrected_111 (w : rd_W) (t0 : Int32) (S : rd_S) : Option (Int32 × rd_S) :=
  some (t0, S)
theorem yb_X11_corrected_111 (cx : rd_Cx) (w : rd_W) (t0 : Int32) (S : rd_S) : rd_Y cx G_X11_corrected (fun r => rd_P cx G_X11_corrected.2.2.2.2.2 0 w (rd_rI w r)) (B_X11_corrected_111 w t0 S) 111 [] [.inl t0] w S 0 0 := by
  unfold B_X11_corrected_111
  exact ry_iret dX11_corrected_111 rfl (Nat.le_of_ble_eq_true rfl) (Nat.le_of_ble_eq_true rfl)
def B_X11_corrected_91 (w : rd_W) (k29 : Int32 → Int32 → Int32 → Int32 → Int32 → Int32 → rd_S → Option (Int32 × rd_S)) (x0 : Int32) (x2 : Int32) (x4 : Int32) (x5 : Int32) (x6 : Int32) (x7 : Int32) (S : rd_S) : Option (Int32 × rd_S) :=
  rd_let (x7 + 2) fun v10 =>
  k29 x0 x2 x4 x5 x6 v10 S
theorem yb_X11_corrected_91 (cx : rd_Cx) (w : rd_W) {k29 : Int32 → Int32 → Int32 → Int32 → Int32 → Int32 → rd_S → Option (Int32 × rd_S)} (hk29 : ∀ (x0 : Int32) (x2 : Int32) (x4 : Int32) (x5 : Int32) (x6 : Int32) (x7 : Int32) (S : rd_S), rd_Y cx G_X11_corrected (fun r => rd_P cx G_X11_corrected.2.2.2.2.2 0 w (rd_rI w r)) (k29 x0 x2 x4 x5 x6 x7 S) 29 [(0, .inl x0), (2, .inl x2), (4, .inl x4), (5, .inl x5), (6, .inl x6), (7, .inl x7)] [] w S 0 0) (x0 : Int32) (x2 : Int32) (x4 : Int32) (x5 : Int32) (x6 : Int32) (x7 : Int32) (S : rd_S) : rd_Y cx G_X11_corrected (fun r => rd_P cx G_X11_corrected.2.2.2.2.2 0 w (rd_rI w r)) (B_X11_corrected_91 w k29 x0 x2 x4 x5 x6 x7 S) 91 [(0, .inl x0), (2, .inl x2), (4, .inl x4), (5, .inl x5), (6, .inl x6), (7, .inl x7)] [] w S 0 0 := by
  unfold B_X11_corrected_91
  refine ry_iinc (v := 2) dX11_corrected_91 rfl (by decide) (by decide) ?_
  refine ry_let (fun v10 => ?_)
  refine ry_goto 29 dX11_corrected_94 (by decide) ?_
  exact ry_to (hk29 x0 x2 x4 x5 x6 v10 S) ⟨rfl, rfl, rfl, rfl, rfl, rfl, trivial⟩
def B_X11_corrected_78 (w : rd_W) (k44 : Int32 → Int32 → Int32 → Int32 → Int32 → Int32 → Int32 → Int32 → rd_S → Option (Int32 × rd_S)) (x0 : Int32) (x2 : Int32) (x4 : Int32) (x5 : Int32) (x6 : Int32) (x7 : Int32) (x8 : Int32) (x9 : Int32) (S : rd_S) : Option (Int32 × rd_S) :=
  rd_b (F_X11_timesX w x8 S) fun v16 s15 =>
  rd_let (x9 + 1) fun v17 =>
  k44 x0 x2 x4 x5 x6 x7 v16 v17 s15
theorem yb_X11_corrected_78 (cx : rd_Cx) (w : rd_W) {k44 : Int32 → Int32 → Int32 → Int32 → Int32 → Int32 → Int32 → Int32 → rd_S → Option (Int32 × rd_S)} (hk44 : ∀ (x0 : Int32) (x2 : Int32) (x4 : Int32) (x5 : Int32) (x6 : Int32) (x7 : Int32) (x8 : Int32) (x9 : Int32) (S : rd_S), rd_Y cx G_X11_corrected (fun r => rd_P cx G_X11_corrected.2.2.2.2.2 0 w (rd_rI w r)) (k44 x0 x2 x4 x5 x6 x7 x8 x9 S) 44 [(0, .inl x0), (2, .inl x2), (4, .inl x4), (5, .inl x5), (6, .inl x6), (7, .inl x7), (8, .inl x8), (9, .inl x9)] [] w S 0 0) (x0 : Int32) (x2 : Int32) (x4 : Int32) (x5 : Int32) (x6 : Int32) (x7 : Int32) (x8 : Int32) (x9 : Int32) (S : rd_S) : rd_Y cx G_X11_corrected (fun r => rd_P cx G_X11_corrected.2.2.2.2.2 0 w (rd_rI w r)) (B_X11_corrected_78 w k44 x0 x2 x4 x5 x6 x7 x8 x9 S) 78 [(0, .inl x0), (2, .inl x2), (4, .inl x4), (5, .inl x5), (6, .inl x6), (7, .inl x7), (8, .inl x8), (9, .inl x9)] [] w S 0 0 := by
  unfold B_X11_corrected_78
  refine ry_iload dX11_corrected_78 rfl ?_
  refine ry_callI (fun l r9 h9 => cm_X11_timesX l cx w x8 S r9 h9) (rd_runS (vs := [.inl x8]) dX11_corrected_80 yf_X11_timesX mt_X11_timesX ml_RX11_156 ⟨Nat.le_of_ble_eq_true rfl, Nat.le_of_ble_eq_true rfl⟩ (Nat.le_of_ble_eq_true rfl) rfl) rfl rfl (Nat.le_of_ble_eq_true rfl) (Nat.le_of_ble_eq_true rfl) (fun v16 s15 => ?_)
  refine ry_istore dX11_corrected_83 (by decide) ?_
  refine ry_iinc (v := 1) dX11_corrected_85 rfl (by decide) (by decide) ?_
  refine ry_let (fun v17 => ?_)
  refine ry_goto 44 dX11_corrected_88 (by decide) ?_
  exact ry_to (hk44 x0 x2 x4 x5 x6 x7 v16 v17 s15) ⟨rfl, rfl, rfl, rfl, rfl, rfl, rfl, rfl, trivial⟩
def B_X11_corrected_44 (w : rd_W) (k29 : Int32 → Int32 → Int32 → Int32 → Int32 → Int32 → rd_S → Option (Int32 × rd_S)) (k44 : Int32 → Int32 → Int32 → Int32 → Int32 → Int32 → Int32 → Int32 → rd_S → Option (Int32 × rd_S)) (x0 : Int32) (x2 : Int32) (x4 : Int32) (x5 : Int32) (x6 : Int32) (x7 : Int32) (x8 : Int32) (x9 : Int32) (S : rd_S) : Option (Int32 × rd_S) :=
  if 26 ≤ x9 then
  (B_X11_corrected_91 w k29 x0 x2 x4 x5 x6 x7 S)
  else
  (if 67108863 < (rd_shl x7 x9) then
  (B_X11_corrected_91 w k29 x0 x2 x4 x5 x6 x7 S)
  else
  (if x8 = x4 then
  (rd_let (x5 + 1) fun v13 =>
  rd_let (rd_shl x7 x9) fun v14 =>
  B_X11_corrected_78 w k44 x0 x2 x4 v13 v14 x7 x8 x9 S)
  else
  (B_X11_corrected_78 w k44 x0 x2 x4 x5 x6 x7 x8 x9 S)))
theorem yb_X11_corrected_44 (cx : rd_Cx) (w : rd_W) {k29 : Int32 → Int32 → Int32 → Int32 → Int32 → Int32 → rd_S → Option (Int32 × rd_S)} {k44 : Int32 → Int32 → Int32 → Int32 → Int32 → Int32 → Int32 → Int32 → rd_S → Option (Int32 × rd_S)} (hk29 : ∀ (x0 : Int32) (x2 : Int32) (x4 : Int32) (x5 : Int32) (x6 : Int32) (x7 : Int32) (S : rd_S), rd_Y cx G_X11_corrected (fun r => rd_P cx G_X11_corrected.2.2.2.2.2 0 w (rd_rI w r)) (k29 x0 x2 x4 x5 x6 x7 S) 29 [(0, .inl x0), (2, .inl x2), (4, .inl x4), (5, .inl x5), (6, .inl x6), (7, .inl x7)] [] w S 0 0) (hk44 : ∀ (x0 : Int32) (x2 : Int32) (x4 : Int32) (x5 : Int32) (x6 : Int32) (x7 : Int32) (x8 : Int32) (x9 : Int32) (S : rd_S), rd_Y cx G_X11_corrected (fun r => rd_P cx G_X11_corrected.2.2.2.2.2 0 w (rd_rI w r)) (k44 x0 x2 x4 x5 x6 x7 x8 x9 S) 44 [(0, .inl x0), (2, .inl x2), (4, .inl x4), (5, .inl x5), (6, .inl x6), (7, .inl x7), (8, .inl x8), (9, .inl x9)] [] w S 0 0) (x0 : Int32) (x2 : Int32) (x4 : Int32) (x5 : Int32) (x6 : Int32) (x7 : Int32) (x8 : Int32) (x9 : Int32) (S : rd_S) : rd_Y cx G_X11_corrected (fun r => rd_P cx G_X11_corrected.2.2.2.2.2 0 w (rd_rI w r)) (B_X11_corrected_44 w k29 k44 x0 x2 x4 x5 x6 x7 x8 x9 S) 44 [(0, .inl x0), (2, .inl x2), (4, .inl x4), (5, .inl x5), (6, .inl x6), (7, .inl x7), (8, .inl x8), (9, .inl x9)] [] w S 0 0 := by
  unfold B_X11_corrected_44
  refine ry_iload dX11_corrected_44 rfl ?_
  refine ry_bipush (v := 26) dX11_corrected_46 (by decide) ?_
  refine ry_icmp_ge 91 dX11_corrected_48 (by decide) (fun c9 => ?_) (fun c9 => ?_)
  · exact ry_to (yb_X11_corrected_91 cx w (k29 := k29) hk29 x0 x2 x4 x5 x6 x7 S) ⟨rfl, rfl, rfl, rfl, rfl, rfl, trivial⟩
  · refine ry_iload dX11_corrected_51 rfl ?_
    refine ry_iload dX11_corrected_53 rfl ?_
    refine ry_ishl dX11_corrected_55 ?_
    refine ry_ldc (v := 67108863) dX11_corrected_56 co_RX11_155 ?_
    refine ry_icmp_gt 91 dX11_corrected_58 (by decide) (fun c11 => ?_) (fun c11 => ?_)
    · exact ry_to (yb_X11_corrected_91 cx w (k29 := k29) hk29 x0 x2 x4 x5 x6 x7 S) ⟨rfl, rfl, rfl, rfl, rfl, rfl, trivial⟩
    · refine ry_iload dX11_corrected_61 rfl ?_
      refine ry_iload dX11_corrected_63 rfl ?_
      refine ry_icmp_ne 78 dX11_corrected_65 (by decide) (fun c12 => ?_) (fun c12 => ?_)
      · refine ry_iinc (v := 1) dX11_corrected_68 rfl (by decide) (by decide) ?_
        refine ry_let (fun v13 => ?_)
        refine ry_iload dX11_corrected_71 rfl ?_
        refine ry_iload dX11_corrected_73 rfl ?_
        refine ry_ishl dX11_corrected_75 ?_
        refine ry_istore dX11_corrected_76 (by decide) ?_
        refine ry_let (fun v14 => ?_)
        exact ry_to (yb_X11_corrected_78 cx w (k44 := k44) hk44 x0 x2 x4 v13 v14 x7 x8 x9 S) ⟨rfl, rfl, rfl, rfl, rfl, rfl, rfl, rfl, trivial⟩
      · exact ry_to (yb_X11_corrected_78 cx w (k44 := k44) hk44 x0 x2 x4 x5 x6 x7 x8 x9 S) ⟨rfl, rfl, rfl, rfl, rfl, rfl, rfl, rfl, trivial⟩
def F_X11_corrected_44 (w : rd_W) (k29 : Int32 → Int32 → Int32 → Int32 → Int32 → Int32 → rd_S → Option (Int32 × rd_S)) (n : Nat) : Int32 → Int32 → Int32 → Int32 → Int32 → Int32 → Int32 → Int32 → rd_S → Option (Int32 × rd_S) :=
  Nat.rec (motive := fun _ => Int32 → Int32 → Int32 → Int32 → Int32 → Int32 → Int32 → Int32 → rd_S → Option (Int32 × rd_S)) (fun _ _ _ _ _ _ _ _ _ => none) (fun _ ih => B_X11_corrected_44 w k29 ih) n
theorem yl_X11_corrected_44 (cx : rd_Cx) (w : rd_W) {k29 : Int32 → Int32 → Int32 → Int32 → Int32 → Int32 → rd_S → Option (Int32 × rd_S)} (hk29 : ∀ (x0 : Int32) (x2 : Int32) (x4 : Int32) (x5 : Int32) (x6 : Int32) (x7 : Int32) (S : rd_S), rd_Y cx G_X11_corrected (fun r => rd_P cx G_X11_corrected.2.2.2.2.2 0 w (rd_rI w r)) (k29 x0 x2 x4 x5 x6 x7 S) 29 [(0, .inl x0), (2, .inl x2), (4, .inl x4), (5, .inl x5), (6, .inl x6), (7, .inl x7)] [] w S 0 0) : ∀ (n : Nat) (x0 : Int32) (x2 : Int32) (x4 : Int32) (x5 : Int32) (x6 : Int32) (x7 : Int32) (x8 : Int32) (x9 : Int32) (S : rd_S), rd_Y cx G_X11_corrected (fun r => rd_P cx G_X11_corrected.2.2.2.2.2 0 w (rd_rI w r)) (F_X11_corrected_44 w k29 n x0 x2 x4 x5 x6 x7 x8 x9 S) 44 [(0, .inl x0), (2, .inl x2), (4, .inl x4), (5, .inl x5), (6, .inl x6), (7, .inl x7), (8, .inl x8), (9, .inl x9)] [] w S 0 0 := by
  intro n
  induction n with
  | zero => intro x0 x2 x4 x5 x6 x7 x8 x9 S; exact ry_none
  | succ n ih => intro x0 x2 x4 x5 x6 x7 x8 x9 S; exact yb_X11_corrected_44 cx w hk29 ih x0 x2 x4 x5 x6 x7 x8 x9 S
def B_X11_corrected_29 (w : rd_W) (k29 : Int32 → Int32 → Int32 → Int32 → Int32 → Int32 → rd_S → Option (Int32 × rd_S)) (x0 : Int32) (x2 : Int32) (x4 : Int32) (x5 : Int32) (x6 : Int32) (x7 : Int32) (S : rd_S) : Option (Int32 × rd_S) :=
  if (rd_shl 1 x2) ≤ x7 then
  (if x5 = 1 then
  (B_X11_corrected_111 w (x0 ^^^ x6) S)
  else
  (B_X11_corrected_111 w (-1) S))
  else
  (F_X11_corrected_44 w k29 rd_big x0 x2 x4 x5 x6 x7 x7 0 S)
theorem yb_X11_corrected_29 (cx : rd_Cx) (w : rd_W) {k29 : Int32 → Int32 → Int32 → Int32 → Int32 → Int32 → rd_S → Option (Int32 × rd_S)} (hk29 : ∀ (x0 : Int32) (x2 : Int32) (x4 : Int32) (x5 : Int32) (x6 : Int32) (x7 : Int32) (S : rd_S), rd_Y cx G_X11_corrected (fun r => rd_P cx G_X11_corrected.2.2.2.2.2 0 w (rd_rI w r)) (k29 x0 x2 x4 x5 x6 x7 S) 29 [(0, .inl x0), (2, .inl x2), (4, .inl x4), (5, .inl x5), (6, .inl x6), (7, .inl x7)] [] w S 0 0) (x0 : Int32) (x2 : Int32) (x4 : Int32) (x5 : Int32) (x6 : Int32) (x7 : Int32) (S : rd_S) : rd_Y cx G_X11_corrected (fun r => rd_P cx G_X11_corrected.2.2.2.2.2 0 w (rd_rI w r)) (B_X11_corrected_29 w k29 x0 x2 x4 x5 x6 x7 S) 29 [(0, .inl x0), (2, .inl x2), (4, .inl x4), (5, .inl x5), (6, .inl x6), (7, .inl x7)] [] w S 0 0 := by
  unfold B_X11_corrected_29
  refine ry_iload dX11_corrected_29 rfl ?_
  refine ry_iconst (v := 1) dX11_corrected_31 (by decide) ?_
  refine ry_iload_n dX11_corrected_32 rfl ?_
  refine ry_ishl dX11_corrected_33 ?_
  refine ry_icmp_ge 97 dX11_corrected_34 (by decide) (fun c7 => ?_) (fun c7 => ?_)
  · refine ry_iload dX11_corrected_97 rfl ?_
    refine ry_iconst (v := 1) dX11_corrected_99 (by decide) ?_
    refine ry_icmp_ne 110 dX11_corrected_100 (by decide) (fun c8 => ?_) (fun c8 => ?_)
    · refine ry_iload_n dX11_corrected_103 rfl ?_
      refine ry_iload dX11_corrected_104 rfl ?_
      refine ry_ixor dX11_corrected_106 ?_
      refine ry_goto 111 dX11_corrected_107 (by decide) ?_
      exact ry_to (yb_X11_corrected_111 cx w (x0 ^^^ x6) S) trivial
    · refine ry_iconst (v := (-1)) dX11_corrected_110 (by decide) ?_
      exact ry_to (yb_X11_corrected_111 cx w (-1) S) trivial
  · refine ry_iload dX11_corrected_37 rfl ?_
    refine ry_istore dX11_corrected_39 (by decide) ?_
    refine ry_iconst (v := 0) dX11_corrected_41 (by decide) ?_
    refine ry_istore dX11_corrected_42 (by decide) ?_
    exact ry_to (yl_X11_corrected_44 cx w (k29 := k29) hk29 rd_big x0 x2 x4 x5 x6 x7 x7 0 S) ⟨rfl, rfl, rfl, rfl, rfl, rfl, rfl, rfl, trivial⟩
def F_X11_corrected_29 (w : rd_W) (n : Nat) : Int32 → Int32 → Int32 → Int32 → Int32 → Int32 → rd_S → Option (Int32 × rd_S) :=
  Nat.rec (motive := fun _ => Int32 → Int32 → Int32 → Int32 → Int32 → Int32 → rd_S → Option (Int32 × rd_S)) (fun _ _ _ _ _ _ _ => none) (fun _ ih => B_X11_corrected_29 w ih) n
theorem yl_X11_corrected_29 (cx : rd_Cx) (w : rd_W) : ∀ (n : Nat) (x0 : Int32) (x2 : Int32) (x4 : Int32) (x5 : Int32) (x6 : Int32) (x7 : Int32) (S : rd_S), rd_Y cx G_X11_corrected (fun r => rd_P cx G_X11_corrected.2.2.2.2.2 0 w (rd_rI w r)) (F_X11_corrected_29 w n x0 x2 x4 x5 x6 x7 S) 29 [(0, .inl x0), (2, .inl x2), (4, .inl x4), (5, .inl x5), (6, .inl x6), (7, .inl x7)] [] w S 0 0 := by
  intro n
  induction n with
  | zero => intro x0 x2 x4 x5 x6 x7 S; exact ry_none
  | succ n ih => intro x0 x2 x4 x5 x6 x7 S; exact yb_X11_corrected_29 cx w ih x0 x2 x4 x5 x6 x7 S
def F_X11_corrected (w : rd_W) (x0 : Int32) (x1 : Int32) (x2 : Int32) (S : rd_S) : Option (Int32 × rd_S) :=
  rd_b (F_X11_offsetOf w x1 S) fun v2 s1 =>
  if v2 = (-1) then
  (some ((-1), s1))
  else
  (rd_b (F_X11_rest w x0 s1) fun v5 s4 =>
  rd_let (v5 ^^^ v2) fun v6 =>
  F_X11_corrected_29 w rd_big x0 x2 v6 0 0 1 s4)
theorem ym_X11_corrected (cx : rd_Cx) (w : rd_W) (x0 : Int32) (x1 : Int32) (x2 : Int32) (S : rd_S) : rd_Y cx G_X11_corrected (fun r => rd_P cx G_X11_corrected.2.2.2.2.2 0 w (rd_rI w r)) (F_X11_corrected w x0 x1 x2 S) 0 (rd_as 0 [.inl x0, .inl x1, .inl x2]) [] w S 0 0 := by
  unfold F_X11_corrected
  refine ry_iload_n dX11_corrected_0 rfl ?_
  refine ry_callI (fun l r9 h9 => cm_X11_offsetOf l cx w x1 S r9 h9) (rd_runS (vs := [.inl x1]) dX11_corrected_1 yf_X11_offsetOf mt_X11_offsetOf ml_RX11_44 ⟨Nat.le_of_ble_eq_true rfl, Nat.le_of_ble_eq_true rfl⟩ (Nat.le_of_ble_eq_true rfl) rfl) rfl rfl (Nat.le_of_ble_eq_true rfl) (Nat.le_of_ble_eq_true rfl) (fun v2 s1 => ?_)
  refine ry_istore_n dX11_corrected_4 (by decide) ?_
  refine ry_iload_n dX11_corrected_5 rfl ?_
  refine ry_iconst (v := (-1)) dX11_corrected_6 (by decide) ?_
  refine ry_icmp_ne 12 dX11_corrected_7 (by decide) (fun c3 => ?_) (fun c3 => ?_)
  · refine ry_iconst (v := (-1)) dX11_corrected_10 (by decide) ?_
    exact ry_iret dX11_corrected_11 rfl (Nat.le_of_ble_eq_true rfl) (Nat.le_of_ble_eq_true rfl)
  · refine ry_iload_n dX11_corrected_12 rfl ?_
    refine ry_callI (fun l r9 h9 => cm_X11_rest l cx w x0 s1 r9 h9) (rd_runS (vs := [.inl x0]) dX11_corrected_13 yf_X11_rest mt_X11_rest ml_RX11_49 ⟨Nat.le_of_ble_eq_true rfl, Nat.le_of_ble_eq_true rfl⟩ (Nat.le_of_ble_eq_true rfl) rfl) rfl rfl (Nat.le_of_ble_eq_true rfl) (Nat.le_of_ble_eq_true rfl) (fun v5 s4 => ?_)
    refine ry_iload_n dX11_corrected_16 rfl ?_
    refine ry_ixor dX11_corrected_17 ?_
    refine ry_istore dX11_corrected_18 (by decide) ?_
    refine ry_let (fun v6 => ?_)
    refine ry_iconst (v := 0) dX11_corrected_20 (by decide) ?_
    refine ry_istore dX11_corrected_21 (by decide) ?_
    refine ry_iconst (v := 0) dX11_corrected_23 (by decide) ?_
    refine ry_istore dX11_corrected_24 (by decide) ?_
    refine ry_iconst (v := 1) dX11_corrected_26 (by decide) ?_
    refine ry_istore dX11_corrected_27 (by decide) ?_
    exact ry_to (yl_X11_corrected_29 cx w rd_big x0 x2 v6 0 0 1 s4) ⟨rfl, rfl, rfl, rfl, rfl, rfl, trivial⟩
theorem cm_X11_corrected (l : Launch) (cx : rd_Cx) (w : rd_W) (x0 : Int32) (x1 : Int32) (x2 : Int32) (S : rd_S) (r : Int32 × rd_S) (h : F_X11_corrected w x0 x1 x2 S = some r) : rd_M l cx yX11_corrected G_X11_corrected 0 [.inl x0, .inl x1, .inl x2] w S (rd_rI w r) :=
  rd_enter (plainFor_of_name (by decide +kernel)) rfl (fun h => by cases h) (Nat.le_of_ble_eq_true rfl) (ym_X11_corrected cx w x0 x1 x2 S r h)
abbrev G_X3_lookAt : rd_G := (RX3, cX3_lookAt, 7, (some .int), false, { frames := 2, cells := 0, slots := 0, locals := 51 })
theorem yf_X3_lookAt : rd_YL yX3_lookAt G_X3_lookAt 3 := ⟨rd_mem 420 (by decide +kernel) rfl, rd_mem 64 (by decide +kernel) rfl, by decide +kernel, by decide +kernel, by decide +kernel⟩
theorem mi_X3_lookAt : Cond.instanceMethod yX3_lookAt ∈ rd_gw := rd_mem 418 (by decide +kernel) rfl
theorem ms_X3_lookAt : Cond.selects (MethodName.cls yX3_lookAt) yX3_lookAt yX3_lookAt ∈ rd_gw := rd_mem 419 (by decide +kernel) rfl
theorem dX3_lookAt_0 : decode cX3_lookAt 0 = .ok (.iload_n 2, 1) := by decide +kernel
theorem dX3_lookAt_1 : decode cX3_lookAt 1 = .ok (.invokestatic 38, 3) := by decide +kernel
theorem dX3_lookAt_4 : decode cX3_lookAt 4 = .ok (.istore 4, 2) := by decide +kernel
theorem dX3_lookAt_6 : decode cX3_lookAt 6 = .ok (.iload 4, 2) := by decide +kernel
theorem dX3_lookAt_8 : decode cX3_lookAt 8 = .ok (.invokestatic 42, 3) := by decide +kernel
theorem dX3_lookAt_11 : decode cX3_lookAt 11 = .ok (.iload_n 1, 1) := by decide +kernel
theorem dX3_lookAt_12 : decode cX3_lookAt 12 = .ok (.if_icmp .ne 13, 3) := by decide +kernel
theorem dX3_lookAt_15 : decode cX3_lookAt 15 = .ok (.aload_n 0, 1) := by decide +kernel
theorem dX3_lookAt_16 : decode cX3_lookAt 16 = .ok (.iload_n 1, 1) := by decide +kernel
theorem dX3_lookAt_17 : decode cX3_lookAt 17 = .ok (.iload_n 2, 1) := by decide +kernel
theorem dX3_lookAt_18 : decode cX3_lookAt 18 = .ok (.iload 4, 2) := by decide +kernel
theorem dX3_lookAt_20 : decode cX3_lookAt 20 = .ok (.iconst 0, 1) := by decide +kernel
theorem dX3_lookAt_21 : decode cX3_lookAt 21 = .ok (.invokevirtual 45, 3) := by decide +kernel
theorem dX3_lookAt_24 : decode cX3_lookAt 24 = .ok (.ireturn, 1) := by decide +kernel
theorem dX3_lookAt_25 : decode cX3_lookAt 25 = .ok (.aload_n 0, 1) := by decide +kernel
theorem dX3_lookAt_26 : decode cX3_lookAt 26 = .ok (.iload_n 1, 1) := by decide +kernel
theorem dX3_lookAt_27 : decode cX3_lookAt 27 = .ok (.invokevirtual 49, 3) := by decide +kernel
theorem dX3_lookAt_30 : decode cX3_lookAt 30 = .ok (.istore 5, 2) := by decide +kernel
theorem dX3_lookAt_32 : decode cX3_lookAt 32 = .ok (.iload_n 2, 1) := by decide +kernel
theorem dX3_lookAt_33 : decode cX3_lookAt 33 = .ok (.iload 5, 2) := by decide +kernel
theorem dX3_lookAt_35 : decode cX3_lookAt 35 = .ok (.iload_n 3, 1) := by decide +kernel
theorem dX3_lookAt_36 : decode cX3_lookAt 36 = .ok (.invokestatic 52, 3) := by decide +kernel
theorem dX3_lookAt_39 : decode cX3_lookAt 39 = .ok (.istore 6, 2) := by decide +kernel
theorem dX3_lookAt_41 : decode cX3_lookAt 41 = .ok (.iload 6, 2) := by decide +kernel
theorem dX3_lookAt_43 : decode cX3_lookAt 43 = .ok (.iconst (-1), 1) := by decide +kernel
theorem dX3_lookAt_44 : decode cX3_lookAt 44 = .ok (.if_icmp .eq 14, 3) := by decide +kernel
theorem dX3_lookAt_47 : decode cX3_lookAt 47 = .ok (.aload_n 0, 1) := by decide +kernel
theorem dX3_lookAt_48 : decode cX3_lookAt 48 = .ok (.iload_n 1, 1) := by decide +kernel
theorem dX3_lookAt_49 : decode cX3_lookAt 49 = .ok (.iload 6, 2) := by decide +kernel
theorem dX3_lookAt_51 : decode cX3_lookAt 51 = .ok (.iload 5, 2) := by decide +kernel
theorem dX3_lookAt_53 : decode cX3_lookAt 53 = .ok (.iconst 1, 1) := by decide +kernel
theorem dX3_lookAt_54 : decode cX3_lookAt 54 = .ok (.invokevirtual 45, 3) := by decide +kernel
theorem dX3_lookAt_57 : decode cX3_lookAt 57 = .ok (.ireturn, 1) := by decide +kernel
theorem dX3_lookAt_58 : decode cX3_lookAt 58 = .ok (.aload_n 0, 1) := by decide +kernel
theorem dX3_lookAt_59 : decode cX3_lookAt 59 = .ok (.iload_n 1, 1) := by decide +kernel
theorem dX3_lookAt_60 : decode cX3_lookAt 60 = .ok (.iconst (-1), 1) := by decide +kernel
theorem dX3_lookAt_61 : decode cX3_lookAt 61 = .ok (.iconst (-1), 1) := by decide +kernel
theorem dX3_lookAt_62 : decode cX3_lookAt 62 = .ok (.iconst 2, 1) := by decide +kernel
theorem dX3_lookAt_63 : decode cX3_lookAt 63 = .ok (.invokevirtual 45, 3) := by decide +kernel
theorem dX3_lookAt_66 : decode cX3_lookAt 66 = .ok (.ireturn, 1) := by decide +kernel
def F_X3_lookAt (w : rd_W) (a0 : Nat) (x1 : Int32) (x2 : Int32) (x3 : Int32) (S : rd_S) : Option (Int32 × rd_S) :=
  rd_b (F_X11_letterOf w x2 S) fun v2 s1 =>
  rd_b (F_X11_placeOf w v2 s1) fun v4 s3 =>
  if v4 = x1 then
  (rd_b (F_X3_keep w a0 x1 x2 v2 0 s3) fun v7 s6 =>
  some (v7, s6))
  else
  (rd_b (F_X3_aimOf w a0 x1 s3) fun v9 s8 =>
  rd_b (F_X11_corrected w x2 v9 x3 s8) fun v11 s10 =>
  if v11 = (-1) then
  (rd_b (F_X3_keep w a0 x1 (-1) (-1) 2 s10) fun v14 s13 =>
  some (v14, s13))
  else
  (rd_b (F_X3_keep w a0 x1 v11 v9 1 s10) fun v16 s15 =>
  some (v16, s15)))
theorem ym_X3_lookAt (cx : rd_Cx) (w : rd_W) (a0 : Nat) (x1 : Int32) (x2 : Int32) (x3 : Int32) (ha0 : rd_ok w a0 3) (S : rd_S) : rd_Y cx G_X3_lookAt (fun r => rd_P cx G_X3_lookAt.2.2.2.2.2 0 w (rd_rI w r)) (F_X3_lookAt w a0 x1 x2 x3 S) 0 (rd_as 0 [.inr (some a0), .inl x1, .inl x2, .inl x3]) [] w S 0 0 := by
  unfold F_X3_lookAt
  refine ry_iload_n dX3_lookAt_0 rfl ?_
  refine ry_callI (fun l r9 h9 => cm_X11_letterOf l cx w x2 S r9 h9) (rd_runSN (vs := [.inl x2]) dX3_lookAt_1 yf_X11_letterOf mt_X11_letterOf mn_RX3_38 ⟨Nat.le_of_ble_eq_true rfl, Nat.le_of_ble_eq_true rfl⟩ (Nat.le_of_ble_eq_true rfl) rfl) rfl rfl (Nat.le_of_ble_eq_true rfl) (Nat.le_of_ble_eq_true rfl) (fun v2 s1 => ?_)
  refine ry_istore dX3_lookAt_4 (by decide) ?_
  refine ry_iload dX3_lookAt_6 rfl ?_
  refine ry_callI (fun l r9 h9 => cm_X11_placeOf l cx w v2 s1 r9 h9) (rd_runSN (vs := [.inl v2]) dX3_lookAt_8 yf_X11_placeOf mt_X11_placeOf mn_RX3_42 ⟨Nat.le_of_ble_eq_true rfl, Nat.le_of_ble_eq_true rfl⟩ (Nat.le_of_ble_eq_true rfl) rfl) rfl rfl (Nat.le_of_ble_eq_true rfl) (Nat.le_of_ble_eq_true rfl) (fun v4 s3 => ?_)
  refine ry_iload_n dX3_lookAt_11 rfl ?_
  refine ry_icmp_ne 25 dX3_lookAt_12 (by decide) (fun c5 => ?_) (fun c5 => ?_)
  · refine ry_aload_n dX3_lookAt_15 rfl ?_
    refine ry_iload_n dX3_lookAt_16 rfl ?_
    refine ry_iload_n dX3_lookAt_17 rfl ?_
    refine ry_iload dX3_lookAt_18 rfl ?_
    refine ry_iconst (v := 0) dX3_lookAt_20 (by decide) ?_
    refine ry_callI (fun l r9 h9 => cm_X3_keep l cx w a0 x1 x2 v2 0 ha0 s3 r9 h9) (rd_runV (vs := [.inl x1, .inl x2, .inl v2, .inl 0]) dX3_lookAt_21 ha0 rfl rfl yf_X3_keep mi_X3_keep ms_X3_keep ml_RX3_45 ⟨Nat.le_of_ble_eq_true rfl, Nat.le_of_ble_eq_true rfl⟩ (Nat.le_of_ble_eq_true rfl) rfl) rfl rfl (Nat.le_of_ble_eq_true rfl) (Nat.le_of_ble_eq_true rfl) (fun v7 s6 => ?_)
    exact ry_iret dX3_lookAt_24 rfl (Nat.le_of_ble_eq_true rfl) (Nat.le_of_ble_eq_true rfl)
  · refine ry_aload_n dX3_lookAt_25 rfl ?_
    refine ry_iload_n dX3_lookAt_26 rfl ?_
    refine ry_callI (fun l r9 h9 => cm_X3_aimOf l cx w a0 x1 ha0 s3 r9 h9) (rd_runV (vs := [.inl x1]) dX3_lookAt_27 ha0 rfl rfl yf_X3_aimOf mi_X3_aimOf ms_X3_aimOf ml_RX3_49 ⟨Nat.le_of_ble_eq_true rfl, Nat.le_of_ble_eq_true rfl⟩ (Nat.le_of_ble_eq_true rfl) rfl) rfl rfl (Nat.le_of_ble_eq_true rfl) (Nat.le_of_ble_eq_true rfl) (fun v9 s8 => ?_)
    refine ry_istore dX3_lookAt_30 (by decide) ?_
    refine ry_iload_n dX3_lookAt_32 rfl ?_
    refine ry_iload dX3_lookAt_33 rfl ?_
    refine ry_iload_n dX3_lookAt_35 rfl ?_
    refine ry_callI (fun l r9 h9 => cm_X11_corrected l cx w x2 v9 x3 s8 r9 h9) (rd_runSN (vs := [.inl x2, .inl v9, .inl x3]) dX3_lookAt_36 yf_X11_corrected mt_X11_corrected mn_RX3_52 ⟨Nat.le_of_ble_eq_true rfl, Nat.le_of_ble_eq_true rfl⟩ (Nat.le_of_ble_eq_true rfl) rfl) rfl rfl (Nat.le_of_ble_eq_true rfl) (Nat.le_of_ble_eq_true rfl) (fun v11 s10 => ?_)
    refine ry_istore dX3_lookAt_39 (by decide) ?_
    refine ry_iload dX3_lookAt_41 rfl ?_
    refine ry_iconst (v := (-1)) dX3_lookAt_43 (by decide) ?_
    refine ry_icmp_eq 58 dX3_lookAt_44 (by decide) (fun c12 => ?_) (fun c12 => ?_)
    · refine ry_aload_n dX3_lookAt_58 rfl ?_
      refine ry_iload_n dX3_lookAt_59 rfl ?_
      refine ry_iconst (v := (-1)) dX3_lookAt_60 (by decide) ?_
      refine ry_iconst (v := (-1)) dX3_lookAt_61 (by decide) ?_
      refine ry_iconst (v := 2) dX3_lookAt_62 (by decide) ?_
      refine ry_callI (fun l r9 h9 => cm_X3_keep l cx w a0 x1 (-1) (-1) 2 ha0 s10 r9 h9) (rd_runV (vs := [.inl x1, .inl (-1), .inl (-1), .inl 2]) dX3_lookAt_63 ha0 rfl rfl yf_X3_keep mi_X3_keep ms_X3_keep ml_RX3_45 ⟨Nat.le_of_ble_eq_true rfl, Nat.le_of_ble_eq_true rfl⟩ (Nat.le_of_ble_eq_true rfl) rfl) rfl rfl (Nat.le_of_ble_eq_true rfl) (Nat.le_of_ble_eq_true rfl) (fun v14 s13 => ?_)
      exact ry_iret dX3_lookAt_66 rfl (Nat.le_of_ble_eq_true rfl) (Nat.le_of_ble_eq_true rfl)
    · refine ry_aload_n dX3_lookAt_47 rfl ?_
      refine ry_iload_n dX3_lookAt_48 rfl ?_
      refine ry_iload dX3_lookAt_49 rfl ?_
      refine ry_iload dX3_lookAt_51 rfl ?_
      refine ry_iconst (v := 1) dX3_lookAt_53 (by decide) ?_
      refine ry_callI (fun l r9 h9 => cm_X3_keep l cx w a0 x1 v11 v9 1 ha0 s10 r9 h9) (rd_runV (vs := [.inl x1, .inl v11, .inl v9, .inl 1]) dX3_lookAt_54 ha0 rfl rfl yf_X3_keep mi_X3_keep ms_X3_keep ml_RX3_45 ⟨Nat.le_of_ble_eq_true rfl, Nat.le_of_ble_eq_true rfl⟩ (Nat.le_of_ble_eq_true rfl) rfl) rfl rfl (Nat.le_of_ble_eq_true rfl) (Nat.le_of_ble_eq_true rfl) (fun v16 s15 => ?_)
      exact ry_iret dX3_lookAt_57 rfl (Nat.le_of_ble_eq_true rfl) (Nat.le_of_ble_eq_true rfl)
theorem cm_X3_lookAt (l : Launch) (cx : rd_Cx) (w : rd_W) (a0 : Nat) (x1 : Int32) (x2 : Int32) (x3 : Int32) (ha0 : rd_ok w a0 3) (S : rd_S) (r : Int32 × rd_S) (h : F_X3_lookAt w a0 x1 x2 x3 S = some r) : rd_M l cx yX3_lookAt G_X3_lookAt 0 [.inr (some a0), .inl x1, .inl x2, .inl x3] w S (rd_rI w r) :=
  rd_enter (plainFor_of_name (by decide +kernel)) rfl (fun h => by cases h) (Nat.le_of_ble_eq_true rfl) (ym_X3_lookAt cx w a0 x1 x2 x3 ha0 S r h)
abbrev G_X10_add : rd_G := (RX10, cX10_add, 2, none, false, { frames := 0, cells := 0, slots := 0, locals := 0 })
theorem yf_X10_add : rd_YL yX10_add G_X10_add 1 := ⟨rd_mem 457 (by decide +kernel) rfl, rd_mem 66 (by decide +kernel) rfl, by decide +kernel, by decide +kernel, by decide +kernel⟩
theorem mi_X10_add : Cond.instanceMethod yX10_add ∈ rd_gw := rd_mem 455 (by decide +kernel) rfl
theorem ms_X10_add : Cond.selects (MethodName.cls yX10_add) yX10_add yX10_add ∈ rd_gw := rd_mem 456 (by decide +kernel) rfl
theorem dX10_add_0 : decode cX10_add 0 = .ok (.aload_n 0, 1) := by decide +kernel
theorem dX10_add_1 : decode cX10_add 1 = .ok (.getfield 17, 3) := by decide +kernel
theorem dX10_add_4 : decode cX10_add 4 = .ok (.ifCond .lt 12, 3) := by decide +kernel
theorem dX10_add_7 : decode cX10_add 7 = .ok (.aload_n 0, 1) := by decide +kernel
theorem dX10_add_8 : decode cX10_add 8 = .ok (.getfield 17, 3) := by decide +kernel
theorem dX10_add_11 : decode cX10_add 11 = .ok (.bipush 50, 2) := by decide +kernel
theorem dX10_add_13 : decode cX10_add 13 = .ok (.if_icmp .lt 4, 3) := by decide +kernel
theorem dX10_add_16 : decode cX10_add 16 = .ok (.return_, 1) := by decide +kernel
theorem dX10_add_17 : decode cX10_add 17 = .ok (.aload_n 0, 1) := by decide +kernel
theorem dX10_add_18 : decode cX10_add 18 = .ok (.getfield 13, 3) := by decide +kernel
theorem dX10_add_21 : decode cX10_add 21 = .ok (.bipush 50, 2) := by decide +kernel
theorem dX10_add_23 : decode cX10_add 23 = .ok (.if_icmp .ge 16, 3) := by decide +kernel
theorem dX10_add_26 : decode cX10_add 26 = .ok (.aload_n 0, 1) := by decide +kernel
theorem dX10_add_27 : decode cX10_add 27 = .ok (.dup, 1) := by decide +kernel
theorem dX10_add_28 : decode cX10_add 28 = .ok (.getfield 13, 3) := by decide +kernel
theorem dX10_add_31 : decode cX10_add 31 = .ok (.iconst 1, 1) := by decide +kernel
theorem dX10_add_32 : decode cX10_add 32 = .ok (.iadd, 1) := by decide +kernel
theorem dX10_add_33 : decode cX10_add 33 = .ok (.putfield 13, 3) := by decide +kernel
theorem dX10_add_36 : decode cX10_add 36 = .ok (.goto 21, 3) := by decide +kernel
theorem dX10_add_39 : decode cX10_add 39 = .ok (.aload_n 0, 1) := by decide +kernel
theorem dX10_add_40 : decode cX10_add 40 = .ok (.dup, 1) := by decide +kernel
theorem dX10_add_41 : decode cX10_add 41 = .ok (.getfield 20, 3) := by decide +kernel
theorem dX10_add_44 : decode cX10_add 44 = .ok (.aload_n 0, 1) := by decide +kernel
theorem dX10_add_45 : decode cX10_add 45 = .ok (.getfield 9, 3) := by decide +kernel
theorem dX10_add_48 : decode cX10_add 48 = .ok (.aload_n 0, 1) := by decide +kernel
theorem dX10_add_49 : decode cX10_add 49 = .ok (.getfield 17, 3) := by decide +kernel
theorem dX10_add_52 : decode cX10_add 52 = .ok (.iaload, 1) := by decide +kernel
theorem dX10_add_53 : decode cX10_add 53 = .ok (.isub, 1) := by decide +kernel
theorem dX10_add_54 : decode cX10_add 54 = .ok (.putfield 20, 3) := by decide +kernel
theorem dX10_add_57 : decode cX10_add 57 = .ok (.aload_n 0, 1) := by decide +kernel
theorem dX10_add_58 : decode cX10_add 58 = .ok (.getfield 9, 3) := by decide +kernel
theorem dX10_add_61 : decode cX10_add 61 = .ok (.aload_n 0, 1) := by decide +kernel
theorem dX10_add_62 : decode cX10_add 62 = .ok (.getfield 17, 3) := by decide +kernel
theorem dX10_add_65 : decode cX10_add 65 = .ok (.iload_n 1, 1) := by decide +kernel
theorem dX10_add_66 : decode cX10_add 66 = .ok (.iastore, 1) := by decide +kernel
theorem dX10_add_67 : decode cX10_add 67 = .ok (.aload_n 0, 1) := by decide +kernel
theorem dX10_add_68 : decode cX10_add 68 = .ok (.dup, 1) := by decide +kernel
theorem dX10_add_69 : decode cX10_add 69 = .ok (.getfield 20, 3) := by decide +kernel
theorem dX10_add_72 : decode cX10_add 72 = .ok (.iload_n 1, 1) := by decide +kernel
theorem dX10_add_73 : decode cX10_add 73 = .ok (.iadd, 1) := by decide +kernel
theorem dX10_add_74 : decode cX10_add 74 = .ok (.putfield 20, 3) := by decide +kernel
theorem dX10_add_77 : decode cX10_add 77 = .ok (.aload_n 0, 1) := by decide +kernel
theorem dX10_add_78 : decode cX10_add 78 = .ok (.aload_n 0, 1) := by decide +kernel
theorem dX10_add_79 : decode cX10_add 79 = .ok (.getfield 17, 3) := by decide +kernel
theorem dX10_add_82 : decode cX10_add 82 = .ok (.iconst 1, 1) := by decide +kernel
theorem dX10_add_83 : decode cX10_add 83 = .ok (.iadd, 1) := by decide +kernel
theorem dX10_add_84 : decode cX10_add 84 = .ok (.bipush 50, 2) := by decide +kernel
theorem dX10_add_86 : decode cX10_add 86 = .ok (.if_icmp .ge 12, 3) := by decide +kernel
theorem dX10_add_89 : decode cX10_add 89 = .ok (.aload_n 0, 1) := by decide +kernel
theorem dX10_add_90 : decode cX10_add 90 = .ok (.getfield 17, 3) := by decide +kernel
theorem dX10_add_93 : decode cX10_add 93 = .ok (.iconst 1, 1) := by decide +kernel
theorem dX10_add_94 : decode cX10_add 94 = .ok (.iadd, 1) := by decide +kernel
theorem dX10_add_95 : decode cX10_add 95 = .ok (.goto 4, 3) := by decide +kernel
theorem dX10_add_98 : decode cX10_add 98 = .ok (.iconst 0, 1) := by decide +kernel
theorem dX10_add_99 : decode cX10_add 99 = .ok (.putfield 17, 3) := by decide +kernel
theorem dX10_add_102 : decode cX10_add 102 = .ok (.return_, 1) := by decide +kernel
def B_X10_add_16 (w : rd_W) (S : rd_S) : Option (rd_S) :=
  some S
theorem yb_X10_add_16 (cx : rd_Cx) (w : rd_W) (S : rd_S) : rd_Y cx G_X10_add (fun r => rd_P cx G_X10_add.2.2.2.2.2 0 w (rd_rV w r)) (B_X10_add_16 w S) 16 [] [] w S 0 0 := by
  unfold B_X10_add_16
  exact ry_vret dX10_add_16 rfl (Nat.le_of_ble_eq_true rfl) (Nat.le_of_ble_eq_true rfl)
def B_X10_add_99 (w : rd_W) (t0 : Int32) (e1 : Nat) (S : rd_S) : Option (rd_S) :=
  rd_let (pI S e1 2 t0) fun s11 =>
  some s11
theorem yb_X10_add_99 (cx : rd_Cx) (w : rd_W) (t0 : Int32) (e1 : Nat) (he1 : rd_ok w e1 10) (S : rd_S) : rd_Y cx G_X10_add (fun r => rd_P cx G_X10_add.2.2.2.2.2 0 w (rd_rV w r)) (B_X10_add_99 w t0 e1 S) 99 [] [.inl t0, .inr (some e1)] w S 0 0 := by
  unfold B_X10_add_99
  refine ry_puti dX10_add_99 he1 fl_RX10_17 rfl rfl rfl ?_
  refine ry_letS (fun s11 => ?_)
  exact ry_vret dX10_add_102 rfl (Nat.le_of_ble_eq_true rfl) (Nat.le_of_ble_eq_true rfl)
def B_X10_add_57 (w : rd_W) (a0 : Nat) (x1 : Int32) (S : rd_S) : Option (rd_S) :=
  rd_c (gR S a0 0) fun b7 =>
  rd_i (gI S a0 2) (w.2.2 b7) <|
  rd_let (pI S b7 (gI S a0 2).toNatClampNeg x1) fun s8 =>
  rd_let (pI s8 a0 3 ((gI s8 a0 3) + x1)) fun s9 =>
  if 50 ≤ ((gI s9 a0 2) + 1) then
  (B_X10_add_99 w 0 a0 s9)
  else
  (B_X10_add_99 w ((gI s9 a0 2) + 1) a0 s9)
theorem yb_X10_add_57 (cx : rd_Cx) (w : rd_W) (a0 : Nat) (x1 : Int32) (ha0 : rd_ok w a0 10) (S : rd_S) : rd_Y cx G_X10_add (fun r => rd_P cx G_X10_add.2.2.2.2.2 0 w (rd_rV w r)) (B_X10_add_57 w a0 x1 S) 57 [(0, .inr (some a0)), (1, .inl x1)] [] w S 0 0 := by
  unfold B_X10_add_57
  refine ry_aload_n dX10_add_57 rfl ?_
  refine ry_getr dX10_add_58 ha0 fl_RX10_9 rfl (fun b7 hb7 => ?_)
  refine ry_aload_n dX10_add_61 rfl ?_
  refine ry_geti dX10_add_62 ha0 fl_RX10_17 rfl ?_
  refine ry_iload_n dX10_add_65 rfl ?_
  refine ry_iast dX10_add_66 hb7 ?_
  refine ry_letS (fun s8 => ?_)
  refine ry_aload_n dX10_add_67 rfl ?_
  refine ry_dup dX10_add_68 ?_
  refine ry_geti dX10_add_69 ha0 fl_RX10_20 rfl ?_
  refine ry_iload_n dX10_add_72 rfl ?_
  refine ry_iadd dX10_add_73 ?_
  refine ry_puti dX10_add_74 ha0 fl_RX10_20 rfl rfl rfl ?_
  refine ry_letS (fun s9 => ?_)
  refine ry_aload_n dX10_add_77 rfl ?_
  refine ry_aload_n dX10_add_78 rfl ?_
  refine ry_geti dX10_add_79 ha0 fl_RX10_17 rfl ?_
  refine ry_iconst (v := 1) dX10_add_82 (by decide) ?_
  refine ry_iadd dX10_add_83 ?_
  refine ry_bipush (v := 50) dX10_add_84 (by decide) ?_
  refine ry_icmp_ge 98 dX10_add_86 (by decide) (fun c10 => ?_) (fun c10 => ?_)
  · refine ry_iconst (v := 0) dX10_add_98 (by decide) ?_
    exact ry_to (yb_X10_add_99 cx w 0 a0 ha0 s9) trivial
  · refine ry_aload_n dX10_add_89 rfl ?_
    refine ry_geti dX10_add_90 ha0 fl_RX10_17 rfl ?_
    refine ry_iconst (v := 1) dX10_add_93 (by decide) ?_
    refine ry_iadd dX10_add_94 ?_
    refine ry_goto 99 dX10_add_95 (by decide) ?_
    exact ry_to (yb_X10_add_99 cx w ((gI s9 a0 2) + 1) a0 ha0 s9) trivial
def F_X10_add (w : rd_W) (a0 : Nat) (x1 : Int32) (S : rd_S) : Option (rd_S) :=
  if (gI S a0 2) < 0 then
  (B_X10_add_16 w S)
  else
  (if (gI S a0 2) < 50 then
  (if 50 ≤ (gI S a0 1) then
  (rd_c (gR S a0 0) fun b4 =>
  rd_let (gI S a0 2) fun v5 =>
  rd_i v5 (w.2.2 b4) <|
  rd_let (pI S a0 3 ((gI S a0 3) - (gI S b4 v5.toNatClampNeg))) fun s6 =>
  B_X10_add_57 w a0 x1 s6)
  else
  (rd_let (pI S a0 1 ((gI S a0 1) + 1)) fun s12 =>
  B_X10_add_57 w a0 x1 s12))
  else
  (B_X10_add_16 w S))
theorem ym_X10_add (cx : rd_Cx) (w : rd_W) (a0 : Nat) (x1 : Int32) (ha0 : rd_ok w a0 10) (S : rd_S) : rd_Y cx G_X10_add (fun r => rd_P cx G_X10_add.2.2.2.2.2 0 w (rd_rV w r)) (F_X10_add w a0 x1 S) 0 (rd_as 0 [.inr (some a0), .inl x1]) [] w S 0 0 := by
  unfold F_X10_add
  refine ry_aload_n dX10_add_0 rfl ?_
  refine ry_geti dX10_add_1 ha0 fl_RX10_17 rfl ?_
  refine ry_if_lt 16 dX10_add_4 (by decide) (fun c1 => ?_) (fun c1 => ?_)
  · exact ry_to (yb_X10_add_16 cx w S) trivial
  · refine ry_aload_n dX10_add_7 rfl ?_
    refine ry_geti dX10_add_8 ha0 fl_RX10_17 rfl ?_
    refine ry_bipush (v := 50) dX10_add_11 (by decide) ?_
    refine ry_icmp_lt 17 dX10_add_13 (by decide) (fun c2 => ?_) (fun c2 => ?_)
    · refine ry_aload_n dX10_add_17 rfl ?_
      refine ry_geti dX10_add_18 ha0 fl_RX10_13 rfl ?_
      refine ry_bipush (v := 50) dX10_add_21 (by decide) ?_
      refine ry_icmp_ge 39 dX10_add_23 (by decide) (fun c3 => ?_) (fun c3 => ?_)
      · refine ry_aload_n dX10_add_39 rfl ?_
        refine ry_dup dX10_add_40 ?_
        refine ry_geti dX10_add_41 ha0 fl_RX10_20 rfl ?_
        refine ry_aload_n dX10_add_44 rfl ?_
        refine ry_getr dX10_add_45 ha0 fl_RX10_9 rfl (fun b4 hb4 => ?_)
        refine ry_aload_n dX10_add_48 rfl ?_
        refine ry_geti dX10_add_49 ha0 fl_RX10_17 rfl ?_
        refine ry_lets (fun v5 => ?_)
        refine ry_iald dX10_add_52 hb4 ?_
        refine ry_isub dX10_add_53 ?_
        refine ry_puti dX10_add_54 ha0 fl_RX10_20 rfl rfl rfl ?_
        refine ry_letS (fun s6 => ?_)
        exact ry_to (yb_X10_add_57 cx w a0 x1 ha0 s6) ⟨rfl, rfl, trivial⟩
      · refine ry_aload_n dX10_add_26 rfl ?_
        refine ry_dup dX10_add_27 ?_
        refine ry_geti dX10_add_28 ha0 fl_RX10_13 rfl ?_
        refine ry_iconst (v := 1) dX10_add_31 (by decide) ?_
        refine ry_iadd dX10_add_32 ?_
        refine ry_puti dX10_add_33 ha0 fl_RX10_13 rfl rfl rfl ?_
        refine ry_letS (fun s12 => ?_)
        refine ry_goto 57 dX10_add_36 (by decide) ?_
        exact ry_to (yb_X10_add_57 cx w a0 x1 ha0 s12) ⟨rfl, rfl, trivial⟩
    · exact ry_to (yb_X10_add_16 cx w S) trivial
theorem cm_X10_add (l : Launch) (cx : rd_Cx) (w : rd_W) (a0 : Nat) (x1 : Int32) (ha0 : rd_ok w a0 10) (S : rd_S) (r : rd_S) (h : F_X10_add w a0 x1 S = some r) : rd_M l cx yX10_add G_X10_add 0 [.inr (some a0), .inl x1] w S (rd_rV w r) :=
  rd_enter (plainFor_of_name (by decide +kernel)) rfl (fun h => by cases h) (Nat.le_of_ble_eq_true rfl) (ym_X10_add cx w a0 x1 ha0 S r h)
