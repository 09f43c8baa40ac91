abbrev G_X1_take : rd_G := (RX1, cX1_take, 6, none, false, { frames := 2, cells := 0, slots := 0, locals := 61 })
theorem yf_X1_take : rd_YL yX1_take G_X1_take 3 := ⟨rd_mem 594 (by decide +kernel) rfl, rd_mem 68 (by decide +kernel) rfl, by decide +kernel, by decide +kernel, by decide +kernel⟩
theorem mi_X1_take : Cond.instanceMethod yX1_take ∈ rd_gw := rd_mem 592 (by decide +kernel) rfl
theorem ms_X1_take : Cond.selects (MethodName.cls yX1_take) yX1_take yX1_take ∈ rd_gw := rd_mem 593 (by decide +kernel) rfl
theorem dX1_take_0 : decode cX1_take 0 = .ok (.iload_n 1, 1) := by decide +kernel
theorem dX1_take_1 : decode cX1_take 1 = .ok (.iload_n 2, 1) := by decide +kernel
theorem dX1_take_2 : decode cX1_take 2 = .ok (.imul, 1) := by decide +kernel
theorem dX1_take_3 : decode cX1_take 3 = .ok (.istore 4, 2) := by decide +kernel
theorem dX1_take_5 : decode cX1_take 5 = .ok (.iload_n 1, 1) := by decide +kernel
theorem dX1_take_6 : decode cX1_take 6 = .ok (.ifCond .lt 28, 3) := by decide +kernel
theorem dX1_take_9 : decode cX1_take 9 = .ok (.iload_n 1, 1) := by decide +kernel
theorem dX1_take_10 : decode cX1_take 10 = .ok (.aload_n 0, 1) := by decide +kernel
theorem dX1_take_11 : decode cX1_take 11 = .ok (.getfield 9, 3) := by decide +kernel
theorem dX1_take_14 : decode cX1_take 14 = .ok (.if_icmp .ge 20, 3) := by decide +kernel
theorem dX1_take_17 : decode cX1_take 17 = .ok (.iload_n 2, 1) := by decide +kernel
theorem dX1_take_18 : decode cX1_take 18 = .ok (.iconst 1, 1) := by decide +kernel
theorem dX1_take_19 : decode cX1_take 19 = .ok (.if_icmp .lt 15, 3) := by decide +kernel
theorem dX1_take_22 : decode cX1_take 22 = .ok (.iload 4, 2) := by decide +kernel
theorem dX1_take_24 : decode cX1_take 24 = .ok (.iload_n 2, 1) := by decide +kernel
theorem dX1_take_25 : decode cX1_take 25 = .ok (.iadd, 1) := by decide +kernel
theorem dX1_take_26 : decode cX1_take 26 = .ok (.aload_n 0, 1) := by decide +kernel
theorem dX1_take_27 : decode cX1_take 27 = .ok (.getfield 18, 3) := by decide +kernel
theorem dX1_take_30 : decode cX1_take 30 = .ok (.arraylength, 1) := by decide +kernel
theorem dX1_take_31 : decode cX1_take 31 = .ok (.if_icmp .le 4, 3) := by decide +kernel
theorem dX1_take_34 : decode cX1_take 34 = .ok (.return_, 1) := by decide +kernel
theorem dX1_take_35 : decode cX1_take 35 = .ok (.aload_n 0, 1) := by decide +kernel
theorem dX1_take_36 : decode cX1_take 36 = .ok (.iload_n 1, 1) := by decide +kernel
theorem dX1_take_37 : decode cX1_take 37 = .ok (.invokevirtual 37, 3) := by decide +kernel
theorem dX1_take_40 : decode cX1_take 40 = .ok (.ifCond .eq 19, 3) := by decide +kernel
theorem dX1_take_43 : decode cX1_take 43 = .ok (.aload_n 0, 1) := by decide +kernel
theorem dX1_take_44 : decode cX1_take 44 = .ok (.iload 4, 2) := by decide +kernel
theorem dX1_take_46 : decode cX1_take 46 = .ok (.iload_n 2, 1) := by decide +kernel
theorem dX1_take_47 : decode cX1_take 47 = .ok (.iload_n 3, 1) := by decide +kernel
theorem dX1_take_48 : decode cX1_take 48 = .ok (.invokevirtual 41, 3) := by decide +kernel
theorem dX1_take_51 : decode cX1_take 51 = .ok (.ifCond .ne 8, 3) := by decide +kernel
theorem dX1_take_54 : decode cX1_take 54 = .ok (.aload_n 0, 1) := by decide +kernel
theorem dX1_take_55 : decode cX1_take 55 = .ok (.iconst 0, 1) := by decide +kernel
theorem dX1_take_56 : decode cX1_take 56 = .ok (.putfield 28, 3) := by decide +kernel
theorem dX1_take_59 : decode cX1_take 59 = .ok (.iconst 0, 1) := by decide +kernel
theorem dX1_take_60 : decode cX1_take 60 = .ok (.istore 5, 2) := by decide +kernel
theorem dX1_take_62 : decode cX1_take 62 = .ok (.iload 5, 2) := by decide +kernel
theorem dX1_take_64 : decode cX1_take 64 = .ok (.iload_n 2, 1) := by decide +kernel
theorem dX1_take_65 : decode cX1_take 65 = .ok (.if_icmp .ge 26, 3) := by decide +kernel
theorem dX1_take_68 : decode cX1_take 68 = .ok (.aload_n 0, 1) := by decide +kernel
theorem dX1_take_69 : decode cX1_take 69 = .ok (.getfield 18, 3) := by decide +kernel
theorem dX1_take_72 : decode cX1_take 72 = .ok (.iload 4, 2) := by decide +kernel
theorem dX1_take_74 : decode cX1_take 74 = .ok (.iload 5, 2) := by decide +kernel
theorem dX1_take_76 : decode cX1_take 76 = .ok (.iadd, 1) := by decide +kernel
theorem dX1_take_77 : decode cX1_take 77 = .ok (.iload_n 3, 1) := by decide +kernel
theorem dX1_take_78 : decode cX1_take 78 = .ok (.iload_n 2, 1) := by decide +kernel
theorem dX1_take_79 : decode cX1_take 79 = .ok (.iload 5, 2) := by decide +kernel
theorem dX1_take_81 : decode cX1_take 81 = .ok (.invokestatic 45, 3) := by decide +kernel
theorem dX1_take_84 : decode cX1_take 84 = .ok (.iastore, 1) := by decide +kernel
theorem dX1_take_85 : decode cX1_take 85 = .ok (.iinc 5 1, 3) := by decide +kernel
theorem dX1_take_88 : decode cX1_take 88 = .ok (.goto (-26), 3) := by decide +kernel
theorem dX1_take_91 : decode cX1_take 91 = .ok (.aload_n 0, 1) := by decide +kernel
theorem dX1_take_92 : decode cX1_take 92 = .ok (.dup, 1) := by decide +kernel
theorem dX1_take_93 : decode cX1_take 93 = .ok (.getfield 28, 3) := by decide +kernel
theorem dX1_take_96 : decode cX1_take 96 = .ok (.iconst 1, 1) := by decide +kernel
theorem dX1_take_97 : decode cX1_take 97 = .ok (.iload_n 1, 1) := by decide +kernel
theorem dX1_take_98 : decode cX1_take 98 = .ok (.ishl, 1) := by decide +kernel
theorem dX1_take_99 : decode cX1_take 99 = .ok (.ior, 1) := by decide +kernel
theorem dX1_take_100 : decode cX1_take 100 = .ok (.putfield 28, 3) := by decide +kernel
theorem dX1_take_103 : decode cX1_take 103 = .ok (.aload_n 0, 1) := by decide +kernel
theorem dX1_take_104 : decode cX1_take 104 = .ok (.aload_n 0, 1) := by decide +kernel
theorem dX1_take_105 : decode cX1_take 105 = .ok (.iload_n 2, 1) := by decide +kernel
theorem dX1_take_106 : decode cX1_take 106 = .ok (.invokevirtual 49, 3) := by decide +kernel
theorem dX1_take_109 : decode cX1_take 109 = .ok (.invokevirtual 53, 3) := by decide +kernel
theorem dX1_take_112 : decode cX1_take 112 = .ok (.return_, 1) := by decide +kernel
def B_X1_take_34 (w : rd_W) (S : rd_S) : Option (rd_S) :=
  some S
theorem yb_X1_take_34 (cx : rd_Cx) (w : rd_W) (S : rd_S) : rd_Y cx G_X1_take (fun r => rd_P cx G_X1_take.2.2.2.2.2 0 w (rd_rV w r)) (B_X1_take_34 w S) 34 [] [] w S 0 0 := by
  unfold B_X1_take_34
  exact ry_vret dX1_take_34 rfl (Nat.le_of_ble_eq_true rfl) (Nat.le_of_ble_eq_true rfl)
def B_X1_take_62 (w : rd_W) (k62 : Nat → Int32 → Int32 → Int32 → Int32 → Int32 → rd_S → Option (rd_S)) (a0 : Nat) (x1 : Int32) (x2 : Int32) (x3 : Int32) (x4 : Int32) (x5 : Int32) (S : rd_S) : Option (rd_S) :=
  if x2 ≤ x5 then
  (rd_let (pI S a0 4 ((gI S a0 4) ||| (rd_shl 1 x1))) fun s11 =>
  rd_b (F_X1_fullLength w a0 x2 s11) fun v13 s12 =>
  rd_c (F_X1_finish w a0 v13 s12) fun s14 =>
  some s14)
  else
  (rd_c (gR S a0 2) fun b15 =>
  rd_b (F_X1_unpacked w x3 x2 x5 S) fun v17 s16 =>
  rd_i (x4 + x5) (w.2.2 b15) <|
  rd_let (pI s16 b15 (x4 + x5).toNatClampNeg v17) fun s18 =>
  rd_let (x5 + 1) fun v19 =>
  k62 a0 x1 x2 x3 x4 v19 s18)
theorem yb_X1_take_62 (cx : rd_Cx) (w : rd_W) {k62 : Nat → Int32 → Int32 → Int32 → Int32 → Int32 → rd_S → Option (rd_S)} (hk62 : ∀ (a0 : Nat) (x1 : Int32) (x2 : Int32) (x3 : Int32) (x4 : Int32) (x5 : Int32) (ha0 : rd_ok w a0 1) (S : rd_S), rd_Y cx G_X1_take (fun r => rd_P cx G_X1_take.2.2.2.2.2 0 w (rd_rV w r)) (k62 a0 x1 x2 x3 x4 x5 S) 62 [(0, .inr (some a0)), (1, .inl x1), (2, .inl x2), (3, .inl x3), (4, .inl x4), (5, .inl x5)] [] w S 0 0) (a0 : Nat) (x1 : Int32) (x2 : Int32) (x3 : Int32) (x4 : Int32) (x5 : Int32) (ha0 : rd_ok w a0 1) (S : rd_S) : rd_Y cx G_X1_take (fun r => rd_P cx G_X1_take.2.2.2.2.2 0 w (rd_rV w r)) (B_X1_take_62 w k62 a0 x1 x2 x3 x4 x5 S) 62 [(0, .inr (some a0)), (1, .inl x1), (2, .inl x2), (3, .inl x3), (4, .inl x4), (5, .inl x5)] [] w S 0 0 := by
  unfold B_X1_take_62
  refine ry_iload dX1_take_62 rfl ?_
  refine ry_iload_n dX1_take_64 rfl ?_
  refine ry_icmp_ge 91 dX1_take_65 (by decide) (fun c10 => ?_) (fun c10 => ?_)
  · refine ry_aload_n dX1_take_91 rfl ?_
    refine ry_dup dX1_take_92 ?_
    refine ry_geti dX1_take_93 ha0 fl_RX1_28 rfl ?_
    refine ry_iconst (v := 1) dX1_take_96 (by decide) ?_
    refine ry_iload_n dX1_take_97 rfl ?_
    refine ry_ishl dX1_take_98 ?_
    refine ry_ior dX1_take_99 ?_
    refine ry_puti dX1_take_100 ha0 fl_RX1_28 rfl rfl rfl ?_
    refine ry_letS (fun s11 => ?_)
    refine ry_aload_n dX1_take_103 rfl ?_
    refine ry_aload_n dX1_take_104 rfl ?_
    refine ry_iload_n dX1_take_105 rfl ?_
    refine ry_callI (fun l r9 h9 => cm_X1_fullLength l cx w a0 x2 ha0 s11 r9 h9) (rd_runV (vs := [.inl x2]) dX1_take_106 ha0 rfl rfl yf_X1_fullLength mi_X1_fullLength ms_X1_fullLength ml_RX1_49 ⟨Nat.le_of_ble_eq_true rfl, Nat.le_of_ble_eq_true rfl⟩ (Nat.le_of_ble_eq_true rfl) rfl) rfl rfl (Nat.le_of_ble_eq_true rfl) (Nat.le_of_ble_eq_true rfl) (fun v13 s12 => ?_)
    refine ry_callv (fun l r9 h9 => cm_X1_finish l cx w a0 v13 ha0 s12 r9 h9) (rd_runV (vs := [.inl v13]) dX1_take_109 ha0 rfl rfl yf_X1_finish mi_X1_finish ms_X1_finish ml_RX1_53 ⟨Nat.le_of_ble_eq_true rfl, Nat.le_of_ble_eq_true rfl⟩ (Nat.le_of_ble_eq_true rfl) rfl) rfl rfl (Nat.le_of_ble_eq_true rfl) (Nat.le_of_ble_eq_true rfl) (fun s14 => ?_)
    exact ry_vret dX1_take_112 rfl (Nat.le_of_ble_eq_true rfl) (Nat.le_of_ble_eq_true rfl)
  · refine ry_aload_n dX1_take_68 rfl ?_
    refine ry_getr dX1_take_69 ha0 fl_RX1_18 rfl (fun b15 hb15 => ?_)
    refine ry_iload dX1_take_72 rfl ?_
    refine ry_iload dX1_take_74 rfl ?_
    refine ry_iadd dX1_take_76 ?_
    refine ry_iload_n dX1_take_77 rfl ?_
    refine ry_iload_n dX1_take_78 rfl ?_
    refine ry_iload dX1_take_79 rfl ?_
    refine ry_callI (fun l r9 h9 => cm_X1_unpacked l cx w x3 x2 x5 S r9 h9) (rd_runS (vs := [.inl x3, .inl x2, .inl x5]) dX1_take_81 yf_X1_unpacked mt_X1_unpacked ml_RX1_45 ⟨Nat.le_of_ble_eq_true rfl, Nat.le_of_ble_eq_true rfl⟩ (Nat.le_of_ble_eq_true rfl) rfl) rfl rfl (Nat.le_of_ble_eq_true rfl) (Nat.le_of_ble_eq_true rfl) (fun v17 s16 => ?_)
    refine ry_iast dX1_take_84 hb15 ?_
    refine ry_letS (fun s18 => ?_)
    refine ry_iinc (v := 1) dX1_take_85 rfl (by decide) (by decide) ?_
    refine ry_let (fun v19 => ?_)
    refine ry_goto 62 dX1_take_88 (by decide) ?_
    exact ry_to (hk62 a0 x1 x2 x3 x4 v19 ha0 s18) ⟨rfl, rfl, rfl, rfl, rfl, rfl, trivial⟩
def F_X1_take_62 (w : rd_W) (n : Nat) : Nat → Int32 → Int32 → Int32 → Int32 → Int32 → rd_S → Option (rd_S) :=
  Nat.rec (motive := fun _ => Nat → Int32 → Int32 → Int32 → Int32 → Int32 → rd_S → Option (rd_S)) (fun _ _ _ _ _ _ _ => none) (fun _ ih => B_X1_take_62 w ih) n
theorem yl_X1_take_62 (cx : rd_Cx) (w : rd_W) : ∀ (n : Nat) (a0 : Nat) (x1 : Int32) (x2 : Int32) (x3 : Int32) (x4 : Int32) (x5 : Int32) (ha0 : rd_ok w a0 1) (S : rd_S), rd_Y cx G_X1_take (fun r => rd_P cx G_X1_take.2.2.2.2.2 0 w (rd_rV w r)) (F_X1_take_62 w n a0 x1 x2 x3 x4 x5 S) 62 [(0, .inr (some a0)), (1, .inl x1), (2, .inl x2), (3, .inl x3), (4, .inl x4), (5, .inl x5)] [] w S 0 0 := by
  intro n
  induction n with
  | zero => intro a0 x1 x2 x3 x4 x5 ha0 S; exact ry_none
  | succ n ih => intro a0 x1 x2 x3 x4 x5 ha0 S; exact yb_X1_take_62 cx w ih a0 x1 x2 x3 x4 x5 ha0 S
def B_X1_take_59 (w : rd_W) (a0 : Nat) (x1 : Int32) (x2 : Int32) (x3 : Int32) (x4 : Int32) (S : rd_S) : Option (rd_S) :=
  F_X1_take_62 w rd_big a0 x1 x2 x3 x4 0 S
theorem yb_X1_take_59 (cx : rd_Cx) (w : rd_W) (a0 : Nat) (x1 : Int32) (x2 : Int32) (x3 : Int32) (x4 : Int32) (ha0 : rd_ok w a0 1) (S : rd_S) : rd_Y cx G_X1_take (fun r => rd_P cx G_X1_take.2.2.2.2.2 0 w (rd_rV w r)) (B_X1_take_59 w a0 x1 x2 x3 x4 S) 59 [(0, .inr (some a0)), (1, .inl x1), (2, .inl x2), (3, .inl x3), (4, .inl x4)] [] w S 0 0 := by
  unfold B_X1_take_59
  refine ry_iconst (v := 0) dX1_take_59 (by decide) ?_
  refine ry_istore dX1_take_60 (by decide) ?_
  exact ry_to (yl_X1_take_62 cx w rd_big a0 x1 x2 x3 x4 0 ha0 S) ⟨rfl, rfl, rfl, rfl, rfl, rfl, trivial⟩
def F_X1_take (w : rd_W) (a0 : Nat) (x1 : Int32) (x2 : Int32) (x3 : Int32) (S : rd_S) : Option (rd_S) :=
  rd_let (x1 * x2) fun v1 =>
  if x1 < 0 then
  (B_X1_take_34 w S)
  else
  (if (gI S a0 0) ≤ x1 then
  (B_X1_take_34 w S)
  else
  (if x2 < 1 then
  (B_X1_take_34 w S)
  else
  (rd_c (gR S a0 2) fun b5 =>
  if (v1 + x2) ≤ (nI (w.2.2 b5)) then
  (rd_b (F_X1_isMarked w a0 x1 S) fun v8 s7 =>
  if v8 = 0 then
  (B_X1_take_59 w a0 x1 x2 x3 v1 s7)
  else
  (rd_b (F_X1_holds w a0 v1 x2 x3 s7) fun v21 s20 =>
  if v21 = 0 then
  (rd_let (pI s20 a0 4 0) fun s23 =>
  B_X1_take_59 w a0 x1 x2 x3 v1 s23)
  else
  (B_X1_take_59 w a0 x1 x2 x3 v1 s20)))
  else
  (B_X1_take_34 w S))))
theorem ym_X1_take (cx : rd_Cx) (w : rd_W) (a0 : Nat) (x1 : Int32) (x2 : Int32) (x3 : Int32) (ha0 : rd_ok w a0 1) (S : rd_S) : rd_Y cx G_X1_take (fun r => rd_P cx G_X1_take.2.2.2.2.2 0 w (rd_rV w r)) (F_X1_take w a0 x1 x2 x3 S) 0 (rd_as 0 [.inr (some a0), .inl x1, .inl x2, .inl x3]) [] w S 0 0 := by
  unfold F_X1_take
  refine ry_iload_n dX1_take_0 rfl ?_
  refine ry_iload_n dX1_take_1 rfl ?_
  refine ry_imul dX1_take_2 ?_
  refine ry_istore dX1_take_3 (by decide) ?_
  refine ry_let (fun v1 => ?_)
  refine ry_iload_n dX1_take_5 rfl ?_
  refine ry_if_lt 34 dX1_take_6 (by decide) (fun c2 => ?_) (fun c2 => ?_)
  · exact ry_to (yb_X1_take_34 cx w S) trivial
  · refine ry_iload_n dX1_take_9 rfl ?_
    refine ry_aload_n dX1_take_10 rfl ?_
    refine ry_geti dX1_take_11 ha0 fl_RX1_9 rfl ?_
    refine ry_icmp_ge 34 dX1_take_14 (by decide) (fun c3 => ?_) (fun c3 => ?_)
    · exact ry_to (yb_X1_take_34 cx w S) trivial
    · refine ry_iload_n dX1_take_17 rfl ?_
      refine ry_iconst (v := 1) dX1_take_18 (by decide) ?_
      refine ry_icmp_lt 34 dX1_take_19 (by decide) (fun c4 => ?_) (fun c4 => ?_)
      · exact ry_to (yb_X1_take_34 cx w S) trivial
      · refine ry_iload dX1_take_22 rfl ?_
        refine ry_iload_n dX1_take_24 rfl ?_
        refine ry_iadd dX1_take_25 ?_
        refine ry_aload_n dX1_take_26 rfl ?_
        refine ry_getr dX1_take_27 ha0 fl_RX1_18 rfl (fun b5 hb5 => ?_)
        refine ry_alen dX1_take_30 hb5 ?_
        refine ry_icmp_le 35 dX1_take_31 (by decide) (fun c6 => ?_) (fun c6 => ?_)
        · refine ry_aload_n dX1_take_35 rfl ?_
          refine ry_iload_n dX1_take_36 rfl ?_
          refine ry_callI (fun l r9 h9 => cm_X1_isMarked l cx w a0 x1 ha0 S r9 h9) (rd_runV (vs := [.inl x1]) dX1_take_37 ha0 rfl rfl yf_X1_isMarked mi_X1_isMarked ms_X1_isMarked ml_RX1_37 ⟨Nat.le_of_ble_eq_true rfl, Nat.le_of_ble_eq_true rfl⟩ (Nat.le_of_ble_eq_true rfl) rfl) rfl rfl (Nat.le_of_ble_eq_true rfl) (Nat.le_of_ble_eq_true rfl) (fun v8 s7 => ?_)
          refine ry_if_eq 59 dX1_take_40 (by decide) (fun c9 => ?_) (fun c9 => ?_)
          · exact ry_to (yb_X1_take_59 cx w a0 x1 x2 x3 v1 ha0 s7) ⟨rfl, rfl, rfl, rfl, rfl, trivial⟩
          · refine ry_aload_n dX1_take_43 rfl ?_
            refine ry_iload dX1_take_44 rfl ?_
            refine ry_iload_n dX1_take_46 rfl ?_
            refine ry_iload_n dX1_take_47 rfl ?_
            refine ry_callI (fun l r9 h9 => cm_X1_holds l cx w a0 v1 x2 x3 ha0 s7 r9 h9) (rd_runV (vs := [.inl v1, .inl x2, .inl x3]) dX1_take_48 ha0 rfl rfl yf_X1_holds mi_X1_holds ms_X1_holds ml_RX1_41 ⟨Nat.le_of_ble_eq_true rfl, Nat.le_of_ble_eq_true rfl⟩ (Nat.le_of_ble_eq_true rfl) rfl) rfl rfl (Nat.le_of_ble_eq_true rfl) (Nat.le_of_ble_eq_true rfl) (fun v21 s20 => ?_)
            refine ry_if_ne 59 dX1_take_51 (by decide) (fun c22 => ?_) (fun c22 => ?_)
            · refine ry_aload_n dX1_take_54 rfl ?_
              refine ry_iconst (v := 0) dX1_take_55 (by decide) ?_
              refine ry_puti dX1_take_56 ha0 fl_RX1_28 rfl rfl rfl ?_
              refine ry_letS (fun s23 => ?_)
              exact ry_to (yb_X1_take_59 cx w a0 x1 x2 x3 v1 ha0 s23) ⟨rfl, rfl, rfl, rfl, rfl, trivial⟩
            · exact ry_to (yb_X1_take_59 cx w a0 x1 x2 x3 v1 ha0 s20) ⟨rfl, rfl, rfl, rfl, rfl, trivial⟩
        · exact ry_to (yb_X1_take_34 cx w S) trivial
theorem cm_X1_take (l : Launch) (cx : rd_Cx) (w : rd_W) (a0 : Nat) (x1 : Int32) (x2 : Int32) (x3 : Int32) (ha0 : rd_ok w a0 1) (S : rd_S) (r : rd_S) (h : F_X1_take w a0 x1 x2 x3 S = some r) : rd_M l cx yX1_take G_X1_take 0 [.inr (some a0), .inl x1, .inl x2, .inl x3] w S (rd_rV w r) :=
  rd_enter (plainFor_of_name (by decide +kernel)) rfl (fun h => by cases h) (Nat.le_of_ble_eq_true rfl) (ym_X1_take cx w a0 x1 x2 x3 ha0 S r h)
abbrev G_X2_lowWave : rd_G := (RX2, cX2_lowWave, 1, (some .int), false, { frames := 0, cells := 0, slots := 0, locals := 0 })
theorem yf_X2_lowWave : rd_YL yX2_lowWave G_X2_lowWave 1 := ⟨rd_mem 626 (by decide +kernel) rfl, rd_mem 69 (by decide +kernel) rfl, by decide +kernel, by decide +kernel, by decide +kernel⟩
theorem mt_X2_lowWave : Cond.static yX2_lowWave ∈ rd_gw := rd_mem 625 (by decide +kernel) rfl
theorem dX2_lowWave_0 : decode cX2_lowWave 0 = .ok (.iload_n 0, 1) := by decide +kernel
theorem dX2_lowWave_1 : decode cX2_lowWave 1 = .ok (.iconst 1, 1) := by decide +kernel
theorem dX2_lowWave_2 : decode cX2_lowWave 2 = .ok (.if_icmp .lt 18, 3) := by decide +kernel
theorem dX2_lowWave_5 : decode cX2_lowWave 5 = .ok (.iload_n 0, 1) := by decide +kernel
theorem dX2_lowWave_6 : decode cX2_lowWave 6 = .ok (.bipush 15, 2) := by decide +kernel
theorem dX2_lowWave_8 : decode cX2_lowWave 8 = .ok (.if_icmp .gt 12, 3) := by decide +kernel
theorem dX2_lowWave_11 : decode cX2_lowWave 11 = .ok (.sipush 144, 3) := by decide +kernel
theorem dX2_lowWave_14 : decode cX2_lowWave 14 = .ok (.bipush 9, 2) := by decide +kernel
theorem dX2_lowWave_16 : decode cX2_lowWave 16 = .ok (.iload_n 0, 1) := by decide +kernel
theorem dX2_lowWave_17 : decode cX2_lowWave 17 = .ok (.imul, 1) := by decide +kernel
theorem dX2_lowWave_18 : decode cX2_lowWave 18 = .ok (.iadd, 1) := by decide +kernel
theorem dX2_lowWave_19 : decode cX2_lowWave 19 = .ok (.ireturn, 1) := by decide +kernel
theorem dX2_lowWave_20 : decode cX2_lowWave 20 = .ok (.iload_n 0, 1) := by decide +kernel
theorem dX2_lowWave_21 : decode cX2_lowWave 21 = .ok (.bipush 16, 2) := by decide +kernel
theorem dX2_lowWave_23 : decode cX2_lowWave 23 = .ok (.if_icmp .lt 21, 3) := by decide +kernel
theorem dX2_lowWave_26 : decode cX2_lowWave 26 = .ok (.iload_n 0, 1) := by decide +kernel
theorem dX2_lowWave_27 : decode cX2_lowWave 27 = .ok (.sipush 135, 3) := by decide +kernel
theorem dX2_lowWave_30 : decode cX2_lowWave 30 = .ok (.if_icmp .gt 14, 3) := by decide +kernel
theorem dX2_lowWave_33 : decode cX2_lowWave 33 = .ok (.sipush 387, 3) := by decide +kernel
theorem dX2_lowWave_36 : decode cX2_lowWave 36 = .ok (.bipush 9, 2) := by decide +kernel
theorem dX2_lowWave_38 : decode cX2_lowWave 38 = .ok (.iload_n 0, 1) := by decide +kernel
theorem dX2_lowWave_39 : decode cX2_lowWave 39 = .ok (.imul, 1) := by decide +kernel
theorem dX2_lowWave_40 : decode cX2_lowWave 40 = .ok (.iadd, 1) := by decide +kernel
theorem dX2_lowWave_41 : decode cX2_lowWave 41 = .ok (.goto 4, 3) := by decide +kernel
theorem dX2_lowWave_44 : decode cX2_lowWave 44 = .ok (.iconst 0, 1) := by decide +kernel
theorem dX2_lowWave_45 : decode cX2_lowWave 45 = .ok (.ireturn, 1) := by decide +kernel
def B_X2_lowWave_45 (w : rd_W) (t0 : Int32) (S : rd_S) : Option (Int32 × rd_S) :=
  some (t0, S)
theorem yb_X2_lowWave_45 (cx : rd_Cx) (w : rd_W) (t0 : Int32) (S : rd_S) : rd_Y cx G_X2_lowWave (fun r => rd_P cx G_X2_lowWave.2.2.2.2.2 0 w (rd_rI w r)) (B_X2_lowWave_45 w t0 S) 45 [] [.inl t0] w S 0 0 := by
  unfold B_X2_lowWave_45
  exact ry_iret dX2_lowWave_45 rfl (Nat.le_of_ble_eq_true rfl) (Nat.le_of_ble_eq_true rfl)
def B_X2_lowWave_44 (w : rd_W) (S : rd_S) : Option (Int32 × rd_S) :=
  B_X2_lowWave_45 w 0 S
theorem yb_X2_lowWave_44 (cx : rd_Cx) (w : rd_W) (S : rd_S) : rd_Y cx G_X2_lowWave (fun r => rd_P cx G_X2_lowWave.2.2.2.2.2 0 w (rd_rI w r)) (B_X2_lowWave_44 w S) 44 [] [] w S 0 0 := by
  unfold B_X2_lowWave_44
  refine ry_iconst (v := 0) dX2_lowWave_44 (by decide) ?_
  exact ry_to (yb_X2_lowWave_45 cx w 0 S) trivial
def B_X2_lowWave_20 (w : rd_W) (x0 : Int32) (S : rd_S) : Option (Int32 × rd_S) :=
  if x0 < 16 then
  (B_X2_lowWave_44 w S)
  else
  (if 135 < x0 then
  (B_X2_lowWave_44 w S)
  else
  (B_X2_lowWave_45 w (387 + (9 * x0)) S))
theorem yb_X2_lowWave_20 (cx : rd_Cx) (w : rd_W) (x0 : Int32) (S : rd_S) : rd_Y cx G_X2_lowWave (fun r => rd_P cx G_X2_lowWave.2.2.2.2.2 0 w (rd_rI w r)) (B_X2_lowWave_20 w x0 S) 20 [(0, .inl x0)] [] w S 0 0 := by
  unfold B_X2_lowWave_20
  refine ry_iload_n dX2_lowWave_20 rfl ?_
  refine ry_bipush (v := 16) dX2_lowWave_21 (by decide) ?_
  refine ry_icmp_lt 44 dX2_lowWave_23 (by decide) (fun c2 => ?_) (fun c2 => ?_)
  · exact ry_to (yb_X2_lowWave_44 cx w S) trivial
  · refine ry_iload_n dX2_lowWave_26 rfl ?_
    refine ry_sipush (v := 135) dX2_lowWave_27 (by decide) ?_
    refine ry_icmp_gt 44 dX2_lowWave_30 (by decide) (fun c3 => ?_) (fun c3 => ?_)
    · exact ry_to (yb_X2_lowWave_44 cx w S) trivial
    · refine ry_sipush (v := 387) dX2_lowWave_33 (by decide) ?_
      refine ry_bipush (v := 9) dX2_lowWave_36 (by decide) ?_
      refine ry_iload_n dX2_lowWave_38 rfl ?_
      refine ry_imul dX2_lowWave_39 ?_
      refine ry_iadd dX2_lowWave_40 ?_
      refine ry_goto 45 dX2_lowWave_41 (by decide) ?_
      exact ry_to (yb_X2_lowWave_45 cx w (387 + (9 * x0)) S) trivial
def F_X2_lowWave (w : rd_W) (x0 : Int32) (S : rd_S) : Option (Int32 × rd_S) :=
  if x0 < 1 then
  (B_X2_lowWave_20 w x0 S)
  else
  (if 15 < x0 then
  (B_X2_lowWave_20 w x0 S)
  else
  (some (144 + (9 * x0), S)))
theorem ym_X2_lowWave (cx : rd_Cx) (w : rd_W) (x0 : Int32) (S : rd_S) : rd_Y cx G_X2_lowWave (fun r => rd_P cx G_X2_lowWave.2.2.2.2.2 0 w (rd_rI w r)) (F_X2_lowWave w x0 S) 0 (rd_as 0 [.inl x0]) [] w S 0 0 := by
  unfold F_X2_lowWave
  refine ry_iload_n dX2_lowWave_0 rfl ?_
  refine ry_iconst (v := 1) dX2_lowWave_1 (by decide) ?_
  refine ry_icmp_lt 20 dX2_lowWave_2 (by decide) (fun c1 => ?_) (fun c1 => ?_)
  · exact ry_to (yb_X2_lowWave_20 cx w x0 S) ⟨rfl, trivial⟩
  · refine ry_iload_n dX2_lowWave_5 rfl ?_
    refine ry_bipush (v := 15) dX2_lowWave_6 (by decide) ?_
    refine ry_icmp_gt 20 dX2_lowWave_8 (by decide) (fun c4 => ?_) (fun c4 => ?_)
    · exact ry_to (yb_X2_lowWave_20 cx w x0 S) ⟨rfl, trivial⟩
    · refine ry_sipush (v := 144) dX2_lowWave_11 (by decide) ?_
      refine ry_bipush (v := 9) dX2_lowWave_14 (by decide) ?_
      refine ry_iload_n dX2_lowWave_16 rfl ?_
      refine ry_imul dX2_lowWave_17 ?_
      refine ry_iadd dX2_lowWave_18 ?_
      exact ry_iret dX2_lowWave_19 rfl (Nat.le_of_ble_eq_true rfl) (Nat.le_of_ble_eq_true rfl)
theorem cm_X2_lowWave (l : Launch) (cx : rd_Cx) (w : rd_W) (x0 : Int32) (S : rd_S) (r : Int32 × rd_S) (h : F_X2_lowWave w x0 S = some r) : rd_M l cx yX2_lowWave G_X2_lowWave 0 [.inl x0] w S (rd_rI w r) :=
  rd_enter (plainFor_of_name (by decide +kernel)) rfl (fun h => by cases h) (Nat.le_of_ble_eq_true rfl) (ym_X2_lowWave cx w x0 S r h)
abbrev G_X2_finishIfFull : rd_G := (RX2, cX2_finishIfFull, 1, none, false, { frames := 1, cells := 0, slots := 0, locals := 40 })
theorem yf_X2_finishIfFull : rd_YL yX2_finishIfFull G_X2_finishIfFull 0 := ⟨rd_mem 634 (by decide +kernel) rfl, rd_mem 69 (by decide +kernel) rfl, by decide +kernel, by decide +kernel, by decide +kernel⟩
theorem mi_X2_finishIfFull : Cond.instanceMethod yX2_finishIfFull ∈ rd_gw := rd_mem 633 (by decide +kernel) rfl
theorem ms_X2_finishIfFull : Cond.selects (MethodName.cls yX2_finishIfFull) yX2_finishIfFull yX2_finishIfFull ∈ rd_gw := rd_mem 21 (by decide +kernel) rfl
theorem dX2_finishIfFull_0 : decode cX2_finishIfFull 0 = .ok (.aload_n 0, 1) := by decide +kernel
theorem dX2_finishIfFull_1 : decode cX2_finishIfFull 1 = .ok (.getfield 49, 3) := by decide +kernel
theorem dX2_finishIfFull_4 : decode cX2_finishIfFull 4 = .ok (.aload_n 0, 1) := by decide +kernel
theorem dX2_finishIfFull_5 : decode cX2_finishIfFull 5 = .ok (.getfield 46, 3) := by decide +kernel
theorem dX2_finishIfFull_8 : decode cX2_finishIfFull 8 = .ok (.if_icmp .ge 4, 3) := by decide +kernel
theorem dX2_finishIfFull_11 : decode cX2_finishIfFull 11 = .ok (.return_, 1) := by decide +kernel
theorem dX2_finishIfFull_12 : decode cX2_finishIfFull 12 = .ok (.aload_n 0, 1) := by decide +kernel
theorem dX2_finishIfFull_13 : decode cX2_finishIfFull 13 = .ok (.getfield 11, 3) := by decide +kernel
theorem dX2_finishIfFull_16 : decode cX2_finishIfFull 16 = .ok (.iconst 0, 1) := by decide +kernel
theorem dX2_finishIfFull_17 : decode cX2_finishIfFull 17 = .ok (.aload_n 0, 1) := by decide +kernel
theorem dX2_finishIfFull_18 : decode cX2_finishIfFull 18 = .ok (.getfield 15, 3) := by decide +kernel
theorem dX2_finishIfFull_21 : decode cX2_finishIfFull 21 = .ok (.iconst 0, 1) := by decide +kernel
theorem dX2_finishIfFull_22 : decode cX2_finishIfFull 22 = .ok (.bipush 25, 2) := by decide +kernel
theorem dX2_finishIfFull_24 : decode cX2_finishIfFull 24 = .ok (.invokestatic 55, 3) := by decide +kernel
theorem dX2_finishIfFull_27 : decode cX2_finishIfFull 27 = .ok (.aload_n 0, 1) := by decide +kernel
theorem dX2_finishIfFull_28 : decode cX2_finishIfFull 28 = .ok (.aload_n 0, 1) := by decide +kernel
theorem dX2_finishIfFull_29 : decode cX2_finishIfFull 29 = .ok (.getfield 49, 3) := by decide +kernel
theorem dX2_finishIfFull_32 : decode cX2_finishIfFull 32 = .ok (.putfield 25, 3) := by decide +kernel
theorem dX2_finishIfFull_35 : decode cX2_finishIfFull 35 = .ok (.aload_n 0, 1) := by decide +kernel
theorem dX2_finishIfFull_36 : decode cX2_finishIfFull 36 = .ok (.dup, 1) := by decide +kernel
theorem dX2_finishIfFull_37 : decode cX2_finishIfFull 37 = .ok (.getfield 29, 3) := by decide +kernel
theorem dX2_finishIfFull_40 : decode cX2_finishIfFull 40 = .ok (.iconst 1, 1) := by decide +kernel
theorem dX2_finishIfFull_41 : decode cX2_finishIfFull 41 = .ok (.iadd, 1) := by decide +kernel
theorem dX2_finishIfFull_42 : decode cX2_finishIfFull 42 = .ok (.putfield 29, 3) := by decide +kernel
theorem dX2_finishIfFull_45 : decode cX2_finishIfFull 45 = .ok (.aload_n 0, 1) := by decide +kernel
theorem dX2_finishIfFull_46 : decode cX2_finishIfFull 46 = .ok (.iconst 0, 1) := by decide +kernel
theorem dX2_finishIfFull_47 : decode cX2_finishIfFull 47 = .ok (.putfield 18, 3) := by decide +kernel
theorem dX2_finishIfFull_50 : decode cX2_finishIfFull 50 = .ok (.return_, 1) := by decide +kernel
def F_X2_finishIfFull (w : rd_W) (a0 : Nat) (S : rd_S) : Option (rd_S) :=
  if (gI S a0 4) ≤ (gI S a0 5) then
  (rd_c (gR S a0 0) fun b2 =>
  rd_c (gR S a0 1) fun b3 =>
  rd_cp 0 0 25 (w.2.2 b2) (w.2.2 b3) <|
  rd_let (rd_cpy S b2 b3 0 0 25) fun s4 =>
  rd_let (pI s4 a0 6 (gI s4 a0 5)) fun s5 =>
  rd_let (pI s5 a0 7 ((gI s5 a0 7) + 1)) fun s6 =>
  rd_let (pI s6 a0 2 0) fun s7 =>
  some s7)
  else
  (some S)
theorem ym_X2_finishIfFull (cx : rd_Cx) (w : rd_W) (a0 : Nat) (ha0 : rd_ok w a0 2) (S : rd_S) : rd_Y cx G_X2_finishIfFull (fun r => rd_P cx G_X2_finishIfFull.2.2.2.2.2 0 w (rd_rV w r)) (F_X2_finishIfFull w a0 S) 0 (rd_as 0 [.inr (some a0)]) [] w S 0 0 := by
  unfold F_X2_finishIfFull
  refine ry_aload_n dX2_finishIfFull_0 rfl ?_
  refine ry_geti dX2_finishIfFull_1 ha0 fl_RX2_49 rfl ?_
  refine ry_aload_n dX2_finishIfFull_4 rfl ?_
  refine ry_geti dX2_finishIfFull_5 ha0 fl_RX2_46 rfl ?_
  refine ry_icmp_ge 12 dX2_finishIfFull_8 (by decide) (fun c1 => ?_) (fun c1 => ?_)
  · refine ry_aload_n dX2_finishIfFull_12 rfl ?_
    refine ry_getr dX2_finishIfFull_13 ha0 fl_RX2_11 rfl (fun b2 hb2 => ?_)
    refine ry_iconst (v := 0) dX2_finishIfFull_16 (by decide) ?_
    refine ry_aload_n dX2_finishIfFull_17 rfl ?_
    refine ry_getr dX2_finishIfFull_18 ha0 fl_RX2_15 rfl (fun b3 hb3 => ?_)
    refine ry_iconst (v := 0) dX2_finishIfFull_21 (by decide) ?_
    refine ry_bipush (v := 25) dX2_finishIfFull_22 (by decide) ?_
    refine ry_copy dX2_finishIfFull_24 ml_RX2_55 ac_native ac_static ac_init hb2 hb3 (by decide) (by decide) ?_
    refine ry_letS (fun s4 => ?_)
    refine ry_aload_n dX2_finishIfFull_27 rfl ?_
    refine ry_aload_n dX2_finishIfFull_28 rfl ?_
    refine ry_geti dX2_finishIfFull_29 ha0 fl_RX2_49 rfl ?_
    refine ry_puti dX2_finishIfFull_32 ha0 fl_RX2_25 rfl rfl rfl ?_
    refine ry_letS (fun s5 => ?_)
    refine ry_aload_n dX2_finishIfFull_35 rfl ?_
    refine ry_dup dX2_finishIfFull_36 ?_
    refine ry_geti dX2_finishIfFull_37 ha0 fl_RX2_29 rfl ?_
    refine ry_iconst (v := 1) dX2_finishIfFull_40 (by decide) ?_
    refine ry_iadd dX2_finishIfFull_41 ?_
    refine ry_puti dX2_finishIfFull_42 ha0 fl_RX2_29 rfl rfl rfl ?_
    refine ry_letS (fun s6 => ?_)
    refine ry_aload_n dX2_finishIfFull_45 rfl ?_
    refine ry_iconst (v := 0) dX2_finishIfFull_46 (by decide) ?_
    refine ry_putz dX2_finishIfFull_47 ha0 fl_RX2_18 rfl rfl rfl (by decide) ?_
    refine ry_letS (fun s7 => ?_)
    exact ry_vret dX2_finishIfFull_50 rfl (Nat.le_of_ble_eq_true rfl) (Nat.le_of_ble_eq_true rfl)
  · exact ry_vret dX2_finishIfFull_11 rfl (Nat.le_of_ble_eq_true rfl) (Nat.le_of_ble_eq_true rfl)
theorem cm_X2_finishIfFull (l : Launch) (cx : rd_Cx) (w : rd_W) (a0 : Nat) (ha0 : rd_ok w a0 2) (S : rd_S) (r : rd_S) (h : F_X2_finishIfFull w a0 S = some r) : rd_M l cx yX2_finishIfFull G_X2_finishIfFull 0 [.inr (some a0)] w S (rd_rV w r) :=
  rd_enter (plainFor_of_name (by decide +kernel)) rfl (fun h => by cases h) (Nat.le_of_ble_eq_true rfl) (ym_X2_finishIfFull cx w a0 ha0 S r h)
abbrev G_X2_add : rd_G := (RX2, cX2_add, 2, none, false, { frames := 2, cells := 0, slots := 0, locals := 60 })
theorem yf_X2_add : rd_YL yX2_add G_X2_add 1 := ⟨rd_mem 630 (by decide +kernel) rfl, rd_mem 69 (by decide +kernel) rfl, by decide +kernel, by decide +kernel, by decide +kernel⟩
theorem mi_X2_add : Cond.instanceMethod yX2_add ∈ rd_gw := rd_mem 629 (by decide +kernel) rfl
theorem ms_X2_add : Cond.selects (MethodName.cls yX2_add) yX2_add yX2_add ∈ rd_gw := rd_mem 20 (by decide +kernel) rfl
theorem dX2_add_0 : decode cX2_add 0 = .ok (.aload_n 0, 1) := by decide +kernel
theorem dX2_add_1 : decode cX2_add 1 = .ok (.getfield 49, 3) := by decide +kernel
theorem dX2_add_4 : decode cX2_add 4 = .ok (.ifCond .lt 35, 3) := by decide +kernel
theorem dX2_add_7 : decode cX2_add 7 = .ok (.aload_n 0, 1) := by decide +kernel
theorem dX2_add_8 : decode cX2_add 8 = .ok (.getfield 49, 3) := by decide +kernel
theorem dX2_add_11 : decode cX2_add 11 = .ok (.aload_n 0, 1) := by decide +kernel
theorem dX2_add_12 : decode cX2_add 12 = .ok (.getfield 11, 3) := by decide +kernel
theorem dX2_add_15 : decode cX2_add 15 = .ok (.arraylength, 1) := by decide +kernel
theorem dX2_add_16 : decode cX2_add 16 = .ok (.if_icmp .ge 23, 3) := by decide +kernel
theorem dX2_add_19 : decode cX2_add 19 = .ok (.aload_n 0, 1) := by decide +kernel
theorem dX2_add_20 : decode cX2_add 20 = .ok (.getfield 11, 3) := by decide +kernel
theorem dX2_add_23 : decode cX2_add 23 = .ok (.aload_n 0, 1) := by decide +kernel
theorem dX2_add_24 : decode cX2_add 24 = .ok (.getfield 49, 3) := by decide +kernel
theorem dX2_add_27 : decode cX2_add 27 = .ok (.iload_n 1, 1) := by decide +kernel
theorem dX2_add_28 : decode cX2_add 28 = .ok (.iastore, 1) := by decide +kernel
theorem dX2_add_29 : decode cX2_add 29 = .ok (.aload_n 0, 1) := by decide +kernel
theorem dX2_add_30 : decode cX2_add 30 = .ok (.dup, 1) := by decide +kernel
theorem dX2_add_31 : decode cX2_add 31 = .ok (.getfield 49, 3) := by decide +kernel
theorem dX2_add_34 : decode cX2_add 34 = .ok (.iconst 1, 1) := by decide +kernel
theorem dX2_add_35 : decode cX2_add 35 = .ok (.iadd, 1) := by decide +kernel
theorem dX2_add_36 : decode cX2_add 36 = .ok (.putfield 49, 3) := by decide +kernel
theorem dX2_add_39 : decode cX2_add 39 = .ok (.aload_n 0, 1) := by decide +kernel
theorem dX2_add_40 : decode cX2_add 40 = .ok (.invokevirtual 52, 3) := by decide +kernel
theorem dX2_add_43 : decode cX2_add 43 = .ok (.return_, 1) := by decide +kernel
def B_X2_add_39 (w : rd_W) (a0 : Nat) (S : rd_S) : Option (rd_S) :=
  rd_c (F_X2_finishIfFull w a0 S) fun s2 =>
  some s2
theorem yb_X2_add_39 (cx : rd_Cx) (w : rd_W) (a0 : Nat) (ha0 : rd_ok w a0 2) (S : rd_S) : rd_Y cx G_X2_add (fun r => rd_P cx G_X2_add.2.2.2.2.2 0 w (rd_rV w r)) (B_X2_add_39 w a0 S) 39 [(0, .inr (some a0))] [] w S 0 0 := by
  unfold B_X2_add_39
  refine ry_aload_n dX2_add_39 rfl ?_
  refine ry_callv (fun l r9 h9 => cm_X2_finishIfFull l cx w a0 ha0 S r9 h9) (rd_runV (vs := []) dX2_add_40 ha0 rfl rfl yf_X2_finishIfFull mi_X2_finishIfFull ms_X2_finishIfFull ml_RX2_52 ⟨Nat.le_of_ble_eq_true rfl, Nat.le_of_ble_eq_true rfl⟩ (Nat.le_of_ble_eq_true rfl) rfl) rfl rfl (Nat.le_of_ble_eq_true rfl) (Nat.le_of_ble_eq_true rfl) (fun s2 => ?_)
  exact ry_vret dX2_add_43 rfl (Nat.le_of_ble_eq_true rfl) (Nat.le_of_ble_eq_true rfl)
def F_X2_add (w : rd_W) (a0 : Nat) (x1 : Int32) (S : rd_S) : Option (rd_S) :=
  if (gI S a0 5) < 0 then
  (B_X2_add_39 w a0 S)
  else
  (rd_c (gR S a0 0) fun b3 =>
  if (nI (w.2.2 b3)) ≤ (gI S a0 5) then
  (B_X2_add_39 w a0 S)
  else
  (rd_c (gR S a0 0) fun b5 =>
  rd_i (gI S a0 5) (w.2.2 b5) <|
  rd_let (pI S b5 (gI S a0 5).toNatClampNeg x1) fun s6 =>
  rd_let (pI s6 a0 5 ((gI s6 a0 5) + 1)) fun s7 =>
  B_X2_add_39 w a0 s7))
theorem ym_X2_add (cx : rd_Cx) (w : rd_W) (a0 : Nat) (x1 : Int32) (ha0 : rd_ok w a0 2) (S : rd_S) : rd_Y cx G_X2_add (fun r => rd_P cx G_X2_add.2.2.2.2.2 0 w (rd_rV w r)) (F_X2_add w a0 x1 S) 0 (rd_as 0 [.inr (some a0), .inl x1]) [] w S 0 0 := by
  unfold F_X2_add
  refine ry_aload_n dX2_add_0 rfl ?_
  refine ry_geti dX2_add_1 ha0 fl_RX2_49 rfl ?_
  refine ry_if_lt 39 dX2_add_4 (by decide) (fun c1 => ?_) (fun c1 => ?_)
  · exact ry_to (yb_X2_add_39 cx w a0 ha0 S) ⟨rfl, trivial⟩
  · refine ry_aload_n dX2_add_7 rfl ?_
    refine ry_geti dX2_add_8 ha0 fl_RX2_49 rfl ?_
    refine ry_aload_n dX2_add_11 rfl ?_
    refine ry_getr dX2_add_12 ha0 fl_RX2_11 rfl (fun b3 hb3 => ?_)
    refine ry_alen dX2_add_15 hb3 ?_
    refine ry_icmp_ge 39 dX2_add_16 (by decide) (fun c4 => ?_) (fun c4 => ?_)
    · exact ry_to (yb_X2_add_39 cx w a0 ha0 S) ⟨rfl, trivial⟩
    · refine ry_aload_n dX2_add_19 rfl ?_
      refine ry_getr dX2_add_20 ha0 fl_RX2_11 rfl (fun b5 hb5 => ?_)
      refine ry_aload_n dX2_add_23 rfl ?_
      refine ry_geti dX2_add_24 ha0 fl_RX2_49 rfl ?_
      refine ry_iload_n dX2_add_27 rfl ?_
      refine ry_iast dX2_add_28 hb5 ?_
      refine ry_letS (fun s6 => ?_)
      refine ry_aload_n dX2_add_29 rfl ?_
      refine ry_dup dX2_add_30 ?_
      refine ry_geti dX2_add_31 ha0 fl_RX2_49 rfl ?_
      refine ry_iconst (v := 1) dX2_add_34 (by decide) ?_
      refine ry_iadd dX2_add_35 ?_
      refine ry_puti dX2_add_36 ha0 fl_RX2_49 rfl rfl rfl ?_
      refine ry_letS (fun s7 => ?_)
      exact ry_to (yb_X2_add_39 cx w a0 ha0 s7) ⟨rfl, trivial⟩
theorem cm_X2_add (l : Launch) (cx : rd_Cx) (w : rd_W) (a0 : Nat) (x1 : Int32) (ha0 : rd_ok w a0 2) (S : rd_S) (r : rd_S) (h : F_X2_add w a0 x1 S = some r) : rd_M l cx yX2_add G_X2_add 0 [.inr (some a0), .inl x1] w S (rd_rV w r) :=
  rd_enter (plainFor_of_name (by decide +kernel)) rfl (fun h => by cases h) (Nat.le_of_ble_eq_true rfl) (ym_X2_add cx w a0 x1 ha0 S r h)
abbrev G_X2_begin : rd_G := (RX2, cX2_begin, 2, none, false, { frames := 2, cells := 0, slots := 0, locals := 60 })
theorem yf_X2_begin : rd_YL yX2_begin G_X2_begin 1 := ⟨rd_mem 639 (by decide +kernel) rfl, rd_mem 69 (by decide +kernel) rfl, by decide +kernel, by decide +kernel, by decide +kernel⟩
theorem mi_X2_begin : Cond.instanceMethod yX2_begin ∈ rd_gw := rd_mem 638 (by decide +kernel) rfl
theorem ms_X2_begin : Cond.selects (MethodName.cls yX2_begin) yX2_begin yX2_begin ∈ rd_gw := rd_mem 22 (by decide +kernel) rfl
theorem dX2_begin_0 : decode cX2_begin 0 = .ok (.aload_n 0, 1) := by decide +kernel
theorem dX2_begin_1 : decode cX2_begin 1 = .ok (.iconst 1, 1) := by decide +kernel
theorem dX2_begin_2 : decode cX2_begin 2 = .ok (.putfield 18, 3) := by decide +kernel
theorem dX2_begin_5 : decode cX2_begin 5 = .ok (.aload_n 0, 1) := by decide +kernel
theorem dX2_begin_6 : decode cX2_begin 6 = .ok (.iload_n 1, 1) := by decide +kernel
theorem dX2_begin_7 : decode cX2_begin 7 = .ok (.putfield 46, 3) := by decide +kernel
theorem dX2_begin_10 : decode cX2_begin 10 = .ok (.aload_n 0, 1) := by decide +kernel
theorem dX2_begin_11 : decode cX2_begin 11 = .ok (.iconst 0, 1) := by decide +kernel
theorem dX2_begin_12 : decode cX2_begin 12 = .ok (.putfield 49, 3) := by decide +kernel
theorem dX2_begin_15 : decode cX2_begin 15 = .ok (.aload_n 0, 1) := by decide +kernel
theorem dX2_begin_16 : decode cX2_begin 16 = .ok (.invokevirtual 52, 3) := by decide +kernel
theorem dX2_begin_19 : decode cX2_begin 19 = .ok (.return_, 1) := by decide +kernel
def F_X2_begin (w : rd_W) (a0 : Nat) (x1 : Int32) (S : rd_S) : Option (rd_S) :=
  rd_let (pI S a0 2 1) fun s1 =>
  rd_let (pI s1 a0 4 x1) fun s2 =>
  rd_let (pI s2 a0 5 0) fun s3 =>
  rd_c (F_X2_finishIfFull w a0 s3) fun s4 =>
  some s4
theorem ym_X2_begin (cx : rd_Cx) (w : rd_W) (a0 : Nat) (x1 : Int32) (ha0 : rd_ok w a0 2) (S : rd_S) : rd_Y cx G_X2_begin (fun r => rd_P cx G_X2_begin.2.2.2.2.2 0 w (rd_rV w r)) (F_X2_begin w a0 x1 S) 0 (rd_as 0 [.inr (some a0), .inl x1]) [] w S 0 0 := by
  unfold F_X2_begin
  refine ry_aload_n dX2_begin_0 rfl ?_
  refine ry_iconst (v := 1) dX2_begin_1 (by decide) ?_
  refine ry_putz dX2_begin_2 ha0 fl_RX2_18 rfl rfl rfl (by decide) ?_
  refine ry_letS (fun s1 => ?_)
  refine ry_aload_n dX2_begin_5 rfl ?_
  refine ry_iload_n dX2_begin_6 rfl ?_
  refine ry_puti dX2_begin_7 ha0 fl_RX2_46 rfl rfl rfl ?_
  refine ry_letS (fun s2 => ?_)
  refine ry_aload_n dX2_begin_10 rfl ?_
  refine ry_iconst (v := 0) dX2_begin_11 (by decide) ?_
  refine ry_puti dX2_begin_12 ha0 fl_RX2_49 rfl rfl rfl ?_
  refine ry_letS (fun s3 => ?_)
  refine ry_aload_n dX2_begin_15 rfl ?_
  refine ry_callv (fun l r9 h9 => cm_X2_finishIfFull l cx w a0 ha0 s3 r9 h9) (rd_runV (vs := []) dX2_begin_16 ha0 rfl rfl yf_X2_finishIfFull mi_X2_finishIfFull ms_X2_finishIfFull ml_RX2_52 ⟨Nat.le_of_ble_eq_true rfl, Nat.le_of_ble_eq_true rfl⟩ (Nat.le_of_ble_eq_true rfl) rfl) rfl rfl (Nat.le_of_ble_eq_true rfl) (Nat.le_of_ble_eq_true rfl) (fun s4 => ?_)
  exact ry_vret dX2_begin_19 rfl (Nat.le_of_ble_eq_true rfl) (Nat.le_of_ble_eq_true rfl)
theorem cm_X2_begin (l : Launch) (cx : rd_Cx) (w : rd_W) (a0 : Nat) (x1 : Int32) (ha0 : rd_ok w a0 2) (S : rd_S) (r : rd_S) (h : F_X2_begin w a0 x1 S = some r) : rd_M l cx yX2_begin G_X2_begin 0 [.inr (some a0), .inl x1] w S (rd_rV w r) :=
  rd_enter (plainFor_of_name (by decide +kernel)) rfl (fun h => by cases h) (Nat.le_of_ble_eq_true rfl) (ym_X2_begin cx w a0 x1 ha0 S r h)
abbrev G_X2_veryHighWave : rd_G := (RX2, cX2_veryHighWave, 1, (some .int), false, { frames := 0, cells := 0, slots := 0, locals := 0 })
theorem yf_X2_veryHighWave : rd_YL yX2_veryHighWave G_X2_veryHighWave 1 := ⟨rd_mem 642 (by decide +kernel) rfl, rd_mem 69 (by decide +kernel) rfl, by decide +kernel, by decide +kernel, by decide +kernel⟩
theorem mt_X2_veryHighWave : Cond.static yX2_veryHighWave ∈ rd_gw := rd_mem 641 (by decide +kernel) rfl
theorem dX2_veryHighWave_0 : decode cX2_veryHighWave 0 = .ok (.iload_n 0, 1) := by decide +kernel
theorem dX2_veryHighWave_1 : decode cX2_veryHighWave 1 = .ok (.iconst 1, 1) := by decide +kernel
theorem dX2_veryHighWave_2 : decode cX2_veryHighWave 2 = .ok (.if_icmp .lt 20, 3) := by decide +kernel
theorem dX2_veryHighWave_5 : decode cX2_veryHighWave 5 = .ok (.iload_n 0, 1) := by decide +kernel
theorem dX2_veryHighWave_6 : decode cX2_veryHighWave 6 = .ok (.sipush 204, 3) := by decide +kernel
theorem dX2_veryHighWave_9 : decode cX2_veryHighWave 9 = .ok (.if_icmp .gt 13, 3) := by decide +kernel
theorem dX2_veryHighWave_12 : decode cX2_veryHighWave 12 = .ok (.ldc 61, 2) := by decide +kernel
theorem dX2_veryHighWave_14 : decode cX2_veryHighWave 14 = .ok (.bipush 100, 2) := by decide +kernel
theorem dX2_veryHighWave_16 : decode cX2_veryHighWave 16 = .ok (.iload_n 0, 1) := by decide +kernel
theorem dX2_veryHighWave_17 : decode cX2_veryHighWave 17 = .ok (.imul, 1) := by decide +kernel
theorem dX2_veryHighWave_18 : decode cX2_veryHighWave 18 = .ok (.iadd, 1) := by decide +kernel
theorem dX2_veryHighWave_19 : decode cX2_veryHighWave 19 = .ok (.goto 4, 3) := by decide +kernel
theorem dX2_veryHighWave_22 : decode cX2_veryHighWave 22 = .ok (.iconst 0, 1) := by decide +kernel
theorem dX2_veryHighWave_23 : decode cX2_veryHighWave 23 = .ok (.ireturn, 1) := by decide +kernel
def B_X2_veryHighWave_23 (w : rd_W) (t0 : Int32) (S : rd_S) : Option (Int32 × rd_S) :=
  some (t0, S)
theorem yb_X2_veryHighWave_23 (cx : rd_Cx) (w : rd_W) (t0 : Int32) (S : rd_S) : rd_Y cx G_X2_veryHighWave (fun r => rd_P cx G_X2_veryHighWave.2.2.2.2.2 0 w (rd_rI w r)) (B_X2_veryHighWave_23 w t0 S) 23 [] [.inl t0] w S 0 0 := by
  unfold B_X2_veryHighWave_23
  exact ry_iret dX2_veryHighWave_23 rfl (Nat.le_of_ble_eq_true rfl) (Nat.le_of_ble_eq_true rfl)
def B_X2_veryHighWave_22 (w : rd_W) (S : rd_S) : Option (Int32 × rd_S) :=
  B_X2_veryHighWave_23 w 0 S
theorem yb_X2_veryHighWave_22 (cx : rd_Cx) (w : rd_W) (S : rd_S) : rd_Y cx G_X2_veryHighWave (fun r => rd_P cx G_X2_veryHighWave.2.2.2.2.2 0 w (rd_rI w r)) (B_X2_veryHighWave_22 w S) 22 [] [] w S 0 0 := by
  unfold B_X2_veryHighWave_22
  refine ry_iconst (v := 0) dX2_veryHighWave_22 (by decide) ?_
  exact ry_to (yb_X2_veryHighWave_23 cx w 0 S) trivial
def F_X2_veryHighWave (w : rd_W) (x0 : Int32) (S : rd_S) : Option (Int32 × rd_S) :=
  if x0 < 1 then
  (B_X2_veryHighWave_22 w S)
  else
  (if 204 < x0 then
  (B_X2_veryHighWave_22 w S)
  else
  (B_X2_veryHighWave_23 w (87500 + (100 * x0)) S))
theorem ym_X2_veryHighWave (cx : rd_Cx) (w : rd_W) (x0 : Int32) (S : rd_S) : rd_Y cx G_X2_veryHighWave (fun r => rd_P cx G_X2_veryHighWave.2.2.2.2.2 0 w (rd_rI w r)) (F_X2_veryHighWave w x0 S) 0 (rd_as 0 [.inl x0]) [] w S 0 0 := by
  unfold F_X2_veryHighWave
  refine ry_iload_n dX2_veryHighWave_0 rfl ?_
  refine ry_iconst (v := 1) dX2_veryHighWave_1 (by decide) ?_
  refine ry_icmp_lt 22 dX2_veryHighWave_2 (by decide) (fun c1 => ?_) (fun c1 => ?_)
  · exact ry_to (yb_X2_veryHighWave_22 cx w S) trivial
  · refine ry_iload_n dX2_veryHighWave_5 rfl ?_
    refine ry_sipush (v := 204) dX2_veryHighWave_6 (by decide) ?_
    refine ry_icmp_gt 22 dX2_veryHighWave_9 (by decide) (fun c2 => ?_) (fun c2 => ?_)
    · exact ry_to (yb_X2_veryHighWave_22 cx w S) trivial
    · refine ry_ldc (v := 87500) dX2_veryHighWave_12 co_RX2_61 ?_
      refine ry_bipush (v := 100) dX2_veryHighWave_14 (by decide) ?_
      refine ry_iload_n dX2_veryHighWave_16 rfl ?_
      refine ry_imul dX2_veryHighWave_17 ?_
      refine ry_iadd dX2_veryHighWave_18 ?_
      refine ry_goto 23 dX2_veryHighWave_19 (by decide) ?_
      exact ry_to (yb_X2_veryHighWave_23 cx w (87500 + (100 * x0)) S) trivial
theorem cm_X2_veryHighWave (l : Launch) (cx : rd_Cx) (w : rd_W) (x0 : Int32) (S : rd_S) (r : Int32 × rd_S) (h : F_X2_veryHighWave w x0 S = some r) : rd_M l cx yX2_veryHighWave G_X2_veryHighWave 0 [.inl x0] w S (rd_rI w r) :=
  rd_enter (plainFor_of_name (by decide +kernel)) rfl (fun h => by cases h) (Nat.le_of_ble_eq_true rfl) (ym_X2_veryHighWave cx w x0 S r h)
abbrev G_X2_take : rd_G := (RX2, cX2_take, 2, none, false, { frames := 3, cells := 0, slots := 0, locals := 81 })
theorem yf_X2_take : rd_YL yX2_take G_X2_take 1 := ⟨rd_mem 623 (by decide +kernel) rfl, rd_mem 69 (by decide +kernel) rfl, by decide +kernel, by decide +kernel, by decide +kernel⟩
theorem mi_X2_take : Cond.instanceMethod yX2_take ∈ rd_gw := rd_mem 621 (by decide +kernel) rfl
theorem ms_X2_take : Cond.selects (MethodName.cls yX2_take) yX2_take yX2_take ∈ rd_gw := rd_mem 622 (by decide +kernel) rfl
theorem dX2_take_0 : decode cX2_take 0 = .ok (.aload_n 0, 1) := by decide +kernel
theorem dX2_take_1 : decode cX2_take 1 = .ok (.getfield 22, 3) := by decide +kernel
theorem dX2_take_4 : decode cX2_take 4 = .ok (.ifCond .eq 19, 3) := by decide +kernel
theorem dX2_take_7 : decode cX2_take 7 = .ok (.aload_n 0, 1) := by decide +kernel
theorem dX2_take_8 : decode cX2_take 8 = .ok (.iconst 0, 1) := by decide +kernel
theorem dX2_take_9 : decode cX2_take 9 = .ok (.putfield 22, 3) := by decide +kernel
theorem dX2_take_12 : decode cX2_take 12 = .ok (.aload_n 0, 1) := by decide +kernel
theorem dX2_take_13 : decode cX2_take 13 = .ok (.iload_n 1, 1) := by decide +kernel
theorem dX2_take_14 : decode cX2_take 14 = .ok (.invokestatic 32, 3) := by decide +kernel
theorem dX2_take_17 : decode cX2_take 17 = .ok (.invokevirtual 36, 3) := by decide +kernel
theorem dX2_take_20 : decode cX2_take 20 = .ok (.goto 73, 3) := by decide +kernel
theorem dX2_take_23 : decode cX2_take 23 = .ok (.iload_n 1, 1) := by decide +kernel
theorem dX2_take_24 : decode cX2_take 24 = .ok (.sipush 224, 3) := by decide +kernel
theorem dX2_take_27 : decode cX2_take 27 = .ok (.if_icmp .lt 22, 3) := by decide +kernel
theorem dX2_take_30 : decode cX2_take 30 = .ok (.iload_n 1, 1) := by decide +kernel
theorem dX2_take_31 : decode cX2_take 31 = .ok (.sipush 249, 3) := by decide +kernel
theorem dX2_take_34 : decode cX2_take 34 = .ok (.if_icmp .gt 15, 3) := by decide +kernel
theorem dX2_take_37 : decode cX2_take 37 = .ok (.aload_n 0, 1) := by decide +kernel
theorem dX2_take_38 : decode cX2_take 38 = .ok (.iload_n 1, 1) := by decide +kernel
theorem dX2_take_39 : decode cX2_take 39 = .ok (.sipush 224, 3) := by decide +kernel
theorem dX2_take_42 : decode cX2_take 42 = .ok (.isub, 1) := by decide +kernel
theorem dX2_take_43 : decode cX2_take 43 = .ok (.invokevirtual 40, 3) := by decide +kernel
theorem dX2_take_46 : decode cX2_take 46 = .ok (.goto 47, 3) := by decide +kernel
theorem dX2_take_49 : decode cX2_take 49 = .ok (.aload_n 0, 1) := by decide +kernel
theorem dX2_take_50 : decode cX2_take 50 = .ok (.getfield 18, 3) := by decide +kernel
theorem dX2_take_53 : decode cX2_take 53 = .ok (.ifCond .eq 18, 3) := by decide +kernel
theorem dX2_take_56 : decode cX2_take 56 = .ok (.iload_n 1, 1) := by decide +kernel
theorem dX2_take_57 : decode cX2_take 57 = .ok (.sipush 250, 3) := by decide +kernel
theorem dX2_take_60 : decode cX2_take 60 = .ok (.if_icmp .ne 11, 3) := by decide +kernel
theorem dX2_take_63 : decode cX2_take 63 = .ok (.aload_n 0, 1) := by decide +kernel
theorem dX2_take_64 : decode cX2_take 64 = .ok (.iconst 1, 1) := by decide +kernel
theorem dX2_take_65 : decode cX2_take 65 = .ok (.putfield 22, 3) := by decide +kernel
theorem dX2_take_68 : decode cX2_take 68 = .ok (.goto 25, 3) := by decide +kernel
theorem dX2_take_71 : decode cX2_take 71 = .ok (.aload_n 0, 1) := by decide +kernel
theorem dX2_take_72 : decode cX2_take 72 = .ok (.getfield 18, 3) := by decide +kernel
theorem dX2_take_75 : decode cX2_take 75 = .ok (.ifCond .eq 18, 3) := by decide +kernel
theorem dX2_take_78 : decode cX2_take 78 = .ok (.iload_n 1, 1) := by decide +kernel
theorem dX2_take_79 : decode cX2_take 79 = .ok (.sipush 205, 3) := by decide +kernel
theorem dX2_take_82 : decode cX2_take 82 = .ok (.if_icmp .eq 11, 3) := by decide +kernel
theorem dX2_take_85 : decode cX2_take 85 = .ok (.aload_n 0, 1) := by decide +kernel
theorem dX2_take_86 : decode cX2_take 86 = .ok (.iload_n 1, 1) := by decide +kernel
theorem dX2_take_87 : decode cX2_take 87 = .ok (.invokestatic 43, 3) := by decide +kernel
theorem dX2_take_90 : decode cX2_take 90 = .ok (.invokevirtual 36, 3) := by decide +kernel
theorem dX2_take_93 : decode cX2_take 93 = .ok (.return_, 1) := by decide +kernel
def B_X2_take_93 (w : rd_W) (S : rd_S) : Option (rd_S) :=
  some S
theorem yb_X2_take_93 (cx : rd_Cx) (w : rd_W) (S : rd_S) : rd_Y cx G_X2_take (fun r => rd_P cx G_X2_take.2.2.2.2.2 0 w (rd_rV w r)) (B_X2_take_93 w S) 93 [] [] w S 0 0 := by
  unfold B_X2_take_93
  exact ry_vret dX2_take_93 rfl (Nat.le_of_ble_eq_true rfl) (Nat.le_of_ble_eq_true rfl)
def B_X2_take_71 (w : rd_W) (a0 : Nat) (x1 : Int32) (S : rd_S) : Option (rd_S) :=
  if (gI S a0 2) = 0 then
  (B_X2_take_93 w S)
  else
  (if x1 = 205 then
  (B_X2_take_93 w S)
  else
  (rd_b (F_X2_veryHighWave w x1 S) fun v7 s6 =>
  rd_c (F_X2_add w a0 v7 s6) fun s8 =>
  B_X2_take_93 w s8))
theorem yb_X2_take_71 (cx : rd_Cx) (w : rd_W) (a0 : Nat) (x1 : Int32) (ha0 : rd_ok w a0 2) (S : rd_S) : rd_Y cx G_X2_take (fun r => rd_P cx G_X2_take.2.2.2.2.2 0 w (rd_rV w r)) (B_X2_take_71 w a0 x1 S) 71 [(0, .inr (some a0)), (1, .inl x1)] [] w S 0 0 := by
  unfold B_X2_take_71
  refine ry_aload_n dX2_take_71 rfl ?_
  refine ry_geti dX2_take_72 ha0 fl_RX2_18 rfl ?_
  refine ry_if_eq 93 dX2_take_75 (by decide) (fun c4 => ?_) (fun c4 => ?_)
  · exact ry_to (yb_X2_take_93 cx w S) trivial
  · refine ry_iload_n dX2_take_78 rfl ?_
    refine ry_sipush (v := 205) dX2_take_79 (by decide) ?_
    refine ry_icmp_eq 93 dX2_take_82 (by decide) (fun c5 => ?_) (fun c5 => ?_)
    · exact ry_to (yb_X2_take_93 cx w S) trivial
    · refine ry_aload_n dX2_take_85 rfl ?_
      refine ry_iload_n dX2_take_86 rfl ?_
      refine ry_callI (fun l r9 h9 => cm_X2_veryHighWave l cx w x1 S r9 h9) (rd_runS (vs := [.inl x1]) dX2_take_87 yf_X2_veryHighWave mt_X2_veryHighWave ml_RX2_43 ⟨Nat.le_of_ble_eq_true rfl, Nat.le_of_ble_eq_true rfl⟩ (Nat.le_of_ble_eq_true rfl) rfl) rfl rfl (Nat.le_of_ble_eq_true rfl) (Nat.le_of_ble_eq_true rfl) (fun v7 s6 => ?_)
      refine ry_callv (fun l r9 h9 => cm_X2_add l cx w a0 v7 ha0 s6 r9 h9) (rd_runV (vs := [.inl v7]) dX2_take_90 ha0 rfl rfl yf_X2_add mi_X2_add ms_X2_add ml_RX2_36 ⟨Nat.le_of_ble_eq_true rfl, Nat.le_of_ble_eq_true rfl⟩ (Nat.le_of_ble_eq_true rfl) rfl) rfl rfl (Nat.le_of_ble_eq_true rfl) (Nat.le_of_ble_eq_true rfl) (fun s8 => ?_)
      exact ry_to (yb_X2_take_93 cx w s8) trivial
def B_X2_take_49 (w : rd_W) (a0 : Nat) (x1 : Int32) (S : rd_S) : Option (rd_S) :=
  if (gI S a0 2) = 0 then
  (B_X2_take_71 w a0 x1 S)
  else
  (if x1 = 250 then
  (rd_let (pI S a0 3 1) fun s10 =>
  B_X2_take_93 w s10)
  else
  (B_X2_take_71 w a0 x1 S))
theorem yb_X2_take_49 (cx : rd_Cx) (w : rd_W) (a0 : Nat) (x1 : Int32) (ha0 : rd_ok w a0 2) (S : rd_S) : rd_Y cx G_X2_take (fun r => rd_P cx G_X2_take.2.2.2.2.2 0 w (rd_rV w r)) (B_X2_take_49 w a0 x1 S) 49 [(0, .inr (some a0)), (1, .inl x1)] [] w S 0 0 := by
  unfold B_X2_take_49
  refine ry_aload_n dX2_take_49 rfl ?_
  refine ry_geti dX2_take_50 ha0 fl_RX2_18 rfl ?_
  refine ry_if_eq 71 dX2_take_53 (by decide) (fun c3 => ?_) (fun c3 => ?_)
  · exact ry_to (yb_X2_take_71 cx w a0 x1 ha0 S) ⟨rfl, rfl, trivial⟩
  · refine ry_iload_n dX2_take_56 rfl ?_
    refine ry_sipush (v := 250) dX2_take_57 (by decide) ?_
    refine ry_icmp_ne 71 dX2_take_60 (by decide) (fun c9 => ?_) (fun c9 => ?_)
    · refine ry_aload_n dX2_take_63 rfl ?_
      refine ry_iconst (v := 1) dX2_take_64 (by decide) ?_
      refine ry_putz dX2_take_65 ha0 fl_RX2_22 rfl rfl rfl (by decide) ?_
      refine ry_letS (fun s10 => ?_)
      refine ry_goto 93 dX2_take_68 (by decide) ?_
      exact ry_to (yb_X2_take_93 cx w s10) trivial
    · exact ry_to (yb_X2_take_71 cx w a0 x1 ha0 S) ⟨rfl, rfl, trivial⟩
def F_X2_take (w : rd_W) (a0 : Nat) (x1 : Int32) (S : rd_S) : Option (rd_S) :=
  if (gI S a0 3) = 0 then
  (if x1 < 224 then
  (B_X2_take_49 w a0 x1 S)
  else
  (if 249 < x1 then
  (B_X2_take_49 w a0 x1 S)
  else
  (rd_c (F_X2_begin w a0 (x1 - 224) S) fun s12 =>
  B_X2_take_93 w s12)))
  else
  (rd_let (pI S a0 3 0) fun s13 =>
  rd_b (F_X2_lowWave w x1 s13) fun v15 s14 =>
  rd_c (F_X2_add w a0 v15 s14) fun s16 =>
  B_X2_take_93 w s16)
theorem ym_X2_take (cx : rd_Cx) (w : rd_W) (a0 : Nat) (x1 : Int32) (ha0 : rd_ok w a0 2) (S : rd_S) : rd_Y cx G_X2_take (fun r => rd_P cx G_X2_take.2.2.2.2.2 0 w (rd_rV w r)) (F_X2_take w a0 x1 S) 0 (rd_as 0 [.inr (some a0), .inl x1]) [] w S 0 0 := by
  unfold F_X2_take
  refine ry_aload_n dX2_take_0 rfl ?_
  refine ry_geti dX2_take_1 ha0 fl_RX2_22 rfl ?_
  refine ry_if_eq 23 dX2_take_4 (by decide) (fun c1 => ?_) (fun c1 => ?_)
  · refine ry_iload_n dX2_take_23 rfl ?_
    refine ry_sipush (v := 224) dX2_take_24 (by decide) ?_
    refine ry_icmp_lt 49 dX2_take_27 (by decide) (fun c2 => ?_) (fun c2 => ?_)
    · exact ry_to (yb_X2_take_49 cx w a0 x1 ha0 S) ⟨rfl, rfl, trivial⟩
    · refine ry_iload_n dX2_take_30 rfl ?_
      refine ry_sipush (v := 249) dX2_take_31 (by decide) ?_
      refine ry_icmp_gt 49 dX2_take_34 (by decide) (fun c11 => ?_) (fun c11 => ?_)
      · exact ry_to (yb_X2_take_49 cx w a0 x1 ha0 S) ⟨rfl, rfl, trivial⟩
      · refine ry_aload_n dX2_take_37 rfl ?_
        refine ry_iload_n dX2_take_38 rfl ?_
        refine ry_sipush (v := 224) dX2_take_39 (by decide) ?_
        refine ry_isub dX2_take_42 ?_
        refine ry_callv (fun l r9 h9 => cm_X2_begin l cx w a0 (x1 - 224) ha0 S r9 h9) (rd_runV (vs := [.inl (x1 - 224)]) dX2_take_43 ha0 rfl rfl yf_X2_begin mi_X2_begin ms_X2_begin ml_RX2_40 ⟨Nat.le_of_ble_eq_true rfl, Nat.le_of_ble_eq_true rfl⟩ (Nat.le_of_ble_eq_true rfl) rfl) rfl rfl (Nat.le_of_ble_eq_true rfl) (Nat.le_of_ble_eq_true rfl) (fun s12 => ?_)
        refine ry_goto 93 dX2_take_46 (by decide) ?_
        exact ry_to (yb_X2_take_93 cx w s12) trivial
  · refine ry_aload_n dX2_take_7 rfl ?_
    refine ry_iconst (v := 0) dX2_take_8 (by decide) ?_
    refine ry_putz dX2_take_9 ha0 fl_RX2_22 rfl rfl rfl (by decide) ?_
    refine ry_letS (fun s13 => ?_)
    refine ry_aload_n dX2_take_12 rfl ?_
    refine ry_iload_n dX2_take_13 rfl ?_
    refine ry_callI (fun l r9 h9 => cm_X2_lowWave l cx w x1 s13 r9 h9) (rd_runS (vs := [.inl x1]) dX2_take_14 yf_X2_lowWave mt_X2_lowWave ml_RX2_32 ⟨Nat.le_of_ble_eq_true rfl, Nat.le_of_ble_eq_true rfl⟩ (Nat.le_of_ble_eq_true rfl) rfl) rfl rfl (Nat.le_of_ble_eq_true rfl) (Nat.le_of_ble_eq_true rfl) (fun v15 s14 => ?_)
    refine ry_callv (fun l r9 h9 => cm_X2_add l cx w a0 v15 ha0 s14 r9 h9) (rd_runV (vs := [.inl v15]) dX2_take_17 ha0 rfl rfl yf_X2_add mi_X2_add ms_X2_add ml_RX2_36 ⟨Nat.le_of_ble_eq_true rfl, Nat.le_of_ble_eq_true rfl⟩ (Nat.le_of_ble_eq_true rfl) rfl) rfl rfl (Nat.le_of_ble_eq_true rfl) (Nat.le_of_ble_eq_true rfl) (fun s16 => ?_)
    refine ry_goto 93 dX2_take_20 (by decide) ?_
    exact ry_to (yb_X2_take_93 cx w s16) trivial
theorem cm_X2_take (l : Launch) (cx : rd_Cx) (w : rd_W) (a0 : Nat) (x1 : Int32) (ha0 : rd_ok w a0 2) (S : rd_S) (r : rd_S) (h : F_X2_take w a0 x1 S = some r) : rd_M l cx yX2_take G_X2_take 0 [.inr (some a0), .inl x1] w S (rd_rV w r) :=
  rd_enter (plainFor_of_name (by decide +kernel)) rfl (fun h => by cases h) (Nat.le_of_ble_eq_true rfl) (ym_X2_take cx w a0 x1 ha0 S r h)
abbrev G_X8_takeTuning : rd_G := (RX8, cX8_takeTuning, 4, none, false, { frames := 4, cells := 0, slots := 0, locals := 102 })
theorem yf_X8_takeTuning : rd_YL yX8_takeTuning G_X8_takeTuning 3 := ⟨rd_mem 586 (by decide +kernel) rfl, rd_mem 67 (by decide +kernel) rfl, by decide +kernel, by decide +kernel, by decide +kernel⟩
theorem mi_X8_takeTuning : Cond.instanceMethod yX8_takeTuning ∈ rd_gw := rd_mem 585 (by decide +kernel) rfl
theorem ms_X8_takeTuning : Cond.selects (MethodName.cls yX8_takeTuning) yX8_takeTuning yX8_takeTuning ∈ rd_gw := rd_mem 13 (by decide +kernel) rfl
theorem dX8_takeTuning_0 : decode cX8_takeTuning 0 = .ok (.aload_n 0, 1) := by decide +kernel
theorem dX8_takeTuning_1 : decode cX8_takeTuning 1 = .ok (.iload_n 2, 1) := by decide +kernel
theorem dX8_takeTuning_2 : decode cX8_takeTuning 2 = .ok (.invokevirtual 138, 3) := by decide +kernel
theorem dX8_takeTuning_5 : decode cX8_takeTuning 5 = .ok (.aload_n 1, 1) := by decide +kernel
theorem dX8_takeTuning_6 : decode cX8_takeTuning 6 = .ok (.iconst 3, 1) := by decide +kernel
theorem dX8_takeTuning_7 : decode cX8_takeTuning 7 = .ok (.invokevirtual 89, 3) := by decide +kernel
theorem dX8_takeTuning_10 : decode cX8_takeTuning 10 = .ok (.ifCond .eq 22, 3) := by decide +kernel
theorem dX8_takeTuning_13 : decode cX8_takeTuning 13 = .ok (.aload_n 0, 1) := by decide +kernel
theorem dX8_takeTuning_14 : decode cX8_takeTuning 14 = .ok (.getfield 20, 3) := by decide +kernel
theorem dX8_takeTuning_17 : decode cX8_takeTuning 17 = .ok (.iload_n 2, 1) := by decide +kernel
theorem dX8_takeTuning_18 : decode cX8_takeTuning 18 = .ok (.iconst 0, 1) := by decide +kernel
theorem dX8_takeTuning_19 : decode cX8_takeTuning 19 = .ok (.iconst 2, 1) := by decide +kernel
theorem dX8_takeTuning_20 : decode cX8_takeTuning 20 = .ok (.invokestatic 97, 3) := by decide +kernel
theorem dX8_takeTuning_23 : decode cX8_takeTuning 23 = .ok (.iconst 2, 1) := by decide +kernel
theorem dX8_takeTuning_24 : decode cX8_takeTuning 24 = .ok (.aload_n 1, 1) := by decide +kernel
theorem dX8_takeTuning_25 : decode cX8_takeTuning 25 = .ok (.iconst 3, 1) := by decide +kernel
theorem dX8_takeTuning_26 : decode cX8_takeTuning 26 = .ok (.invokevirtual 93, 3) := by decide +kernel
theorem dX8_takeTuning_29 : decode cX8_takeTuning 29 = .ok (.invokevirtual 149, 3) := by decide +kernel
theorem dX8_takeTuning_32 : decode cX8_takeTuning 32 = .ok (.iload_n 3, 1) := by decide +kernel
theorem dX8_takeTuning_33 : decode cX8_takeTuning 33 = .ok (.ifCond .eq 48, 3) := by decide +kernel
theorem dX8_takeTuning_36 : decode cX8_takeTuning 36 = .ok (.aload_n 1, 1) := by decide +kernel
theorem dX8_takeTuning_37 : decode cX8_takeTuning 37 = .ok (.iconst 2, 1) := by decide +kernel
theorem dX8_takeTuning_38 : decode cX8_takeTuning 38 = .ok (.invokevirtual 89, 3) := by decide +kernel
theorem dX8_takeTuning_41 : decode cX8_takeTuning 41 = .ok (.ifCond .eq 40, 3) := by decide +kernel
theorem dX8_takeTuning_44 : decode cX8_takeTuning 44 = .ok (.aload_n 0, 1) := by decide +kernel
theorem dX8_takeTuning_45 : decode cX8_takeTuning 45 = .ok (.getfield 33, 3) := by decide +kernel
theorem dX8_takeTuning_48 : decode cX8_takeTuning 48 = .ok (.aload_n 1, 1) := by decide +kernel
theorem dX8_takeTuning_49 : decode cX8_takeTuning 49 = .ok (.iconst 2, 1) := by decide +kernel
theorem dX8_takeTuning_50 : decode cX8_takeTuning 50 = .ok (.invokevirtual 93, 3) := by decide +kernel
theorem dX8_takeTuning_53 : decode cX8_takeTuning 53 = .ok (.bipush 8, 2) := by decide +kernel
theorem dX8_takeTuning_55 : decode cX8_takeTuning 55 = .ok (.bipush 8, 2) := by decide +kernel
theorem dX8_takeTuning_57 : decode cX8_takeTuning 57 = .ok (.invokestatic 97, 3) := by decide +kernel
theorem dX8_takeTuning_60 : decode cX8_takeTuning 60 = .ok (.invokevirtual 150, 3) := by decide +kernel
theorem dX8_takeTuning_63 : decode cX8_takeTuning 63 = .ok (.aload_n 0, 1) := by decide +kernel
theorem dX8_takeTuning_64 : decode cX8_takeTuning 64 = .ok (.getfield 33, 3) := by decide +kernel
theorem dX8_takeTuning_67 : decode cX8_takeTuning 67 = .ok (.aload_n 1, 1) := by decide +kernel
theorem dX8_takeTuning_68 : decode cX8_takeTuning 68 = .ok (.iconst 2, 1) := by decide +kernel
theorem dX8_takeTuning_69 : decode cX8_takeTuning 69 = .ok (.invokevirtual 93, 3) := by decide +kernel
theorem dX8_takeTuning_72 : decode cX8_takeTuning 72 = .ok (.iconst 0, 1) := by decide +kernel
theorem dX8_takeTuning_73 : decode cX8_takeTuning 73 = .ok (.bipush 8, 2) := by decide +kernel
theorem dX8_takeTuning_75 : decode cX8_takeTuning 75 = .ok (.invokestatic 97, 3) := by decide +kernel
theorem dX8_takeTuning_78 : decode cX8_takeTuning 78 = .ok (.invokevirtual 150, 3) := by decide +kernel
theorem dX8_takeTuning_81 : decode cX8_takeTuning 81 = .ok (.return_, 1) := by decide +kernel
def B_X8_takeTuning_81 (w : rd_W) (S : rd_S) : Option (rd_S) :=
  some S
theorem yb_X8_takeTuning_81 (cx : rd_Cx) (w : rd_W) (S : rd_S) : rd_Y cx G_X8_takeTuning (fun r => rd_P cx G_X8_takeTuning.2.2.2.2.2 0 w (rd_rV w r)) (B_X8_takeTuning_81 w S) 81 [] [] w S 0 0 := by
  unfold B_X8_takeTuning_81
  exact ry_vret dX8_takeTuning_81 rfl (Nat.le_of_ble_eq_true rfl) (Nat.le_of_ble_eq_true rfl)
def B_X8_takeTuning_32 (w : rd_W) (a0 : Nat) (a1 : Nat) (x3 : Int32) (S : rd_S) : Option (rd_S) :=
  if x3 = 0 then
  (B_X8_takeTuning_81 w S)
  else
  (rd_b (F_X3_knows w a1 2 S) fun v7 s6 =>
  if v7 = 0 then
  (B_X8_takeTuning_81 w s6)
  else
  (rd_c (gR s6 a0 4) fun b9 =>
  rd_b (F_X3_what w a1 2 s6) fun v11 s10 =>
  rd_b (F_X11_field w v11 8 8 s10) fun v13 s12 =>
  rd_c (F_X2_take w b9 v13 s12) fun s14 =>
  rd_c (gR s14 a0 4) fun b15 =>
  rd_b (F_X3_what w a1 2 s14) fun v17 s16 =>
  rd_b (F_X11_field w v17 0 8 s16) fun v19 s18 =>
  rd_c (F_X2_take w b15 v19 s18) fun s20 =>
  B_X8_takeTuning_81 w s20))
theorem yb_X8_takeTuning_32 (cx : rd_Cx) (w : rd_W) (a0 : Nat) (a1 : Nat) (x3 : Int32) (ha0 : rd_ok w a0 8) (ha1 : rd_ok w a1 3) (S : rd_S) : rd_Y cx G_X8_takeTuning (fun r => rd_P cx G_X8_takeTuning.2.2.2.2.2 0 w (rd_rV w r)) (B_X8_takeTuning_32 w a0 a1 x3 S) 32 [(0, .inr (some a0)), (1, .inr (some a1)), (3, .inl x3)] [] w S 0 0 := by
  unfold B_X8_takeTuning_32
  refine ry_iload_n dX8_takeTuning_32 rfl ?_
  refine ry_if_eq 81 dX8_takeTuning_33 (by decide) (fun c5 => ?_) (fun c5 => ?_)
  · exact ry_to (yb_X8_takeTuning_81 cx w S) trivial
  · refine ry_aload_n dX8_takeTuning_36 rfl ?_
    refine ry_iconst (v := 2) dX8_takeTuning_37 (by decide) ?_
    refine ry_callI (fun l r9 h9 => cm_X3_knows l cx w a1 2 ha1 S r9 h9) (rd_runV (vs := [.inl 2]) dX8_takeTuning_38 ha1 rfl rfl yf_X3_knows mi_X3_knows ms_X3_knows ml_RX8_89 ⟨Nat.le_of_ble_eq_true rfl, Nat.le_of_ble_eq_true rfl⟩ (Nat.le_of_ble_eq_true rfl) rfl) rfl rfl (Nat.le_of_ble_eq_true rfl) (Nat.le_of_ble_eq_true rfl) (fun v7 s6 => ?_)
    refine ry_if_eq 81 dX8_takeTuning_41 (by decide) (fun c8 => ?_) (fun c8 => ?_)
    · exact ry_to (yb_X8_takeTuning_81 cx w s6) trivial
    · refine ry_aload_n dX8_takeTuning_44 rfl ?_
      refine ry_getr dX8_takeTuning_45 ha0 fl_RX8_33 rfl (fun b9 hb9 => ?_)
      refine ry_aload_n dX8_takeTuning_48 rfl ?_
      refine ry_iconst (v := 2) dX8_takeTuning_49 (by decide) ?_
      refine ry_callI (fun l r9 h9 => cm_X3_what l cx w a1 2 ha1 s6 r9 h9) (rd_runV (vs := [.inl 2]) dX8_takeTuning_50 ha1 rfl rfl yf_X3_what mi_X3_what ms_X3_what ml_RX8_93 ⟨Nat.le_of_ble_eq_true rfl, Nat.le_of_ble_eq_true rfl⟩ (Nat.le_of_ble_eq_true rfl) rfl) rfl rfl (Nat.le_of_ble_eq_true rfl) (Nat.le_of_ble_eq_true rfl) (fun v11 s10 => ?_)
      refine ry_bipush (v := 8) dX8_takeTuning_53 (by decide) ?_
      refine ry_bipush (v := 8) dX8_takeTuning_55 (by decide) ?_
      refine ry_callI (fun l r9 h9 => cm_X11_field l cx w v11 8 8 s10 r9 h9) (rd_runSN (vs := [.inl v11, .inl 8, .inl 8]) dX8_takeTuning_57 yf_X11_field mt_X11_field mn_RX8_97 ⟨Nat.le_of_ble_eq_true rfl, Nat.le_of_ble_eq_true rfl⟩ (Nat.le_of_ble_eq_true rfl) rfl) rfl rfl (Nat.le_of_ble_eq_true rfl) (Nat.le_of_ble_eq_true rfl) (fun v13 s12 => ?_)
      refine ry_callv (fun l r9 h9 => cm_X2_take l cx w b9 v13 hb9 s12 r9 h9) (rd_runV (vs := [.inl v13]) dX8_takeTuning_60 hb9 rfl rfl yf_X2_take mi_X2_take ms_X2_take ml_RX8_150 ⟨Nat.le_of_ble_eq_true rfl, Nat.le_of_ble_eq_true rfl⟩ (Nat.le_of_ble_eq_true rfl) rfl) rfl rfl (Nat.le_of_ble_eq_true rfl) (Nat.le_of_ble_eq_true rfl) (fun s14 => ?_)
      refine ry_aload_n dX8_takeTuning_63 rfl ?_
      refine ry_getr dX8_takeTuning_64 ha0 fl_RX8_33 rfl (fun b15 hb15 => ?_)
      refine ry_aload_n dX8_takeTuning_67 rfl ?_
      refine ry_iconst (v := 2) dX8_takeTuning_68 (by decide) ?_
      refine ry_callI (fun l r9 h9 => cm_X3_what l cx w a1 2 ha1 s14 r9 h9) (rd_runV (vs := [.inl 2]) dX8_takeTuning_69 ha1 rfl rfl yf_X3_what mi_X3_what ms_X3_what ml_RX8_93 ⟨Nat.le_of_ble_eq_true rfl, Nat.le_of_ble_eq_true rfl⟩ (Nat.le_of_ble_eq_true rfl) rfl) rfl rfl (Nat.le_of_ble_eq_true rfl) (Nat.le_of_ble_eq_true rfl) (fun v17 s16 => ?_)
      refine ry_iconst (v := 0) dX8_takeTuning_72 (by decide) ?_
      refine ry_bipush (v := 8) dX8_takeTuning_73 (by decide) ?_
      refine ry_callI (fun l r9 h9 => cm_X11_field l cx w v17 0 8 s16 r9 h9) (rd_runSN (vs := [.inl v17, .inl 0, .inl 8]) dX8_takeTuning_75 yf_X11_field mt_X11_field mn_RX8_97 ⟨Nat.le_of_ble_eq_true rfl, Nat.le_of_ble_eq_true rfl⟩ (Nat.le_of_ble_eq_true rfl) rfl) rfl rfl (Nat.le_of_ble_eq_true rfl) (Nat.le_of_ble_eq_true rfl) (fun v19 s18 => ?_)
      refine ry_callv (fun l r9 h9 => cm_X2_take l cx w b15 v19 hb15 s18 r9 h9) (rd_runV (vs := [.inl v19]) dX8_takeTuning_78 hb15 rfl rfl yf_X2_take mi_X2_take ms_X2_take ml_RX8_150 ⟨Nat.le_of_ble_eq_true rfl, Nat.le_of_ble_eq_true rfl⟩ (Nat.le_of_ble_eq_true rfl) rfl) rfl rfl (Nat.le_of_ble_eq_true rfl) (Nat.le_of_ble_eq_true rfl) (fun s20 => ?_)
      exact ry_to (yb_X8_takeTuning_81 cx w s20) trivial
def F_X8_takeTuning (w : rd_W) (a0 : Nat) (a1 : Nat) (x2 : Int32) (x3 : Int32) (S : rd_S) : Option (rd_S) :=
  rd_c (F_X8_takeSwitches w a0 x2 S) fun s1 =>
  rd_b (F_X3_knows w a1 3 s1) fun v3 s2 =>
  if v3 = 0 then
  (B_X8_takeTuning_32 w a0 a1 x3 s2)
  else
  (rd_c (gR s2 a0 1) fun b21 =>
  rd_b (F_X11_field w x2 0 2 s2) fun v23 s22 =>
  rd_b (F_X3_what w a1 3 s22) fun v25 s24 =>
  rd_c (F_X1_take w b21 v23 2 v25 s24) fun s26 =>
  B_X8_takeTuning_32 w a0 a1 x3 s26)
theorem ym_X8_takeTuning (cx : rd_Cx) (w : rd_W) (a0 : Nat) (a1 : Nat) (x2 : Int32) (x3 : Int32) (ha0 : rd_ok w a0 8) (ha1 : rd_ok w a1 3) (S : rd_S) : rd_Y cx G_X8_takeTuning (fun r => rd_P cx G_X8_takeTuning.2.2.2.2.2 0 w (rd_rV w r)) (F_X8_takeTuning w a0 a1 x2 x3 S) 0 (rd_as 0 [.inr (some a0), .inr (some a1), .inl x2, .inl x3]) [] w S 0 0 := by
  unfold F_X8_takeTuning
  refine ry_aload_n dX8_takeTuning_0 rfl ?_
  refine ry_iload_n dX8_takeTuning_1 rfl ?_
  refine ry_callv (fun l r9 h9 => cm_X8_takeSwitches l cx w a0 x2 ha0 S r9 h9) (rd_runV (vs := [.inl x2]) dX8_takeTuning_2 ha0 rfl rfl yf_X8_takeSwitches mi_X8_takeSwitches ms_X8_takeSwitches ml_RX8_138 ⟨Nat.le_of_ble_eq_true rfl, Nat.le_of_ble_eq_true rfl⟩ (Nat.le_of_ble_eq_true rfl) rfl) rfl rfl (Nat.le_of_ble_eq_true rfl) (Nat.le_of_ble_eq_true rfl) (fun s1 => ?_)
  refine ry_aload_n dX8_takeTuning_5 rfl ?_
  refine ry_iconst (v := 3) dX8_takeTuning_6 (by decide) ?_
  refine ry_callI (fun l r9 h9 => cm_X3_knows l cx w a1 3 ha1 s1 r9 h9) (rd_runV (vs := [.inl 3]) dX8_takeTuning_7 ha1 rfl rfl yf_X3_knows mi_X3_knows ms_X3_knows ml_RX8_89 ⟨Nat.le_of_ble_eq_true rfl, Nat.le_of_ble_eq_true rfl⟩ (Nat.le_of_ble_eq_true rfl) rfl) rfl rfl (Nat.le_of_ble_eq_true rfl) (Nat.le_of_ble_eq_true rfl) (fun v3 s2 => ?_)
  refine ry_if_eq 32 dX8_takeTuning_10 (by decide) (fun c4 => ?_) (fun c4 => ?_)
  · exact ry_to (yb_X8_takeTuning_32 cx w a0 a1 x3 ha0 ha1 s2) ⟨rfl, rfl, rfl, trivial⟩
  · refine ry_aload_n dX8_takeTuning_13 rfl ?_
    refine ry_getr dX8_takeTuning_14 ha0 fl_RX8_20 rfl (fun b21 hb21 => ?_)
    refine ry_iload_n dX8_takeTuning_17 rfl ?_
    refine ry_iconst (v := 0) dX8_takeTuning_18 (by decide) ?_
    refine ry_iconst (v := 2) dX8_takeTuning_19 (by decide) ?_
    refine ry_callI (fun l r9 h9 => cm_X11_field l cx w x2 0 2 s2 r9 h9) (rd_runSN (vs := [.inl x2, .inl 0, .inl 2]) dX8_takeTuning_20 yf_X11_field mt_X11_field mn_RX8_97 ⟨Nat.le_of_ble_eq_true rfl, Nat.le_of_ble_eq_true rfl⟩ (Nat.le_of_ble_eq_true rfl) rfl) rfl rfl (Nat.le_of_ble_eq_true rfl) (Nat.le_of_ble_eq_true rfl) (fun v23 s22 => ?_)
    refine ry_iconst (v := 2) dX8_takeTuning_23 (by decide) ?_
    refine ry_aload_n dX8_takeTuning_24 rfl ?_
    refine ry_iconst (v := 3) dX8_takeTuning_25 (by decide) ?_
    refine ry_callI (fun l r9 h9 => cm_X3_what l cx w a1 3 ha1 s22 r9 h9) (rd_runV (vs := [.inl 3]) dX8_takeTuning_26 ha1 rfl rfl yf_X3_what mi_X3_what ms_X3_what ml_RX8_93 ⟨Nat.le_of_ble_eq_true rfl, Nat.le_of_ble_eq_true rfl⟩ (Nat.le_of_ble_eq_true rfl) rfl) rfl rfl (Nat.le_of_ble_eq_true rfl) (Nat.le_of_ble_eq_true rfl) (fun v25 s24 => ?_)
    refine ry_callv (fun l r9 h9 => cm_X1_take l cx w b21 v23 2 v25 hb21 s24 r9 h9) (rd_runV (vs := [.inl v23, .inl 2, .inl v25]) dX8_takeTuning_29 hb21 rfl rfl yf_X1_take mi_X1_take ms_X1_take ml_RX8_149 ⟨Nat.le_of_ble_eq_true rfl, Nat.le_of_ble_eq_true rfl⟩ (Nat.le_of_ble_eq_true rfl) rfl) rfl rfl (Nat.le_of_ble_eq_true rfl) (Nat.le_of_ble_eq_true rfl) (fun s26 => ?_)
    exact ry_to (yb_X8_takeTuning_32 cx w a0 a1 x3 ha0 ha1 s26) ⟨rfl, rfl, rfl, trivial⟩
theorem cm_X8_takeTuning (l : Launch) (cx : rd_Cx) (w : rd_W) (a0 : Nat) (a1 : Nat) (x2 : Int32) (x3 : Int32) (ha0 : rd_ok w a0 8) (ha1 : rd_ok w a1 3) (S : rd_S) (r : rd_S) (h : F_X8_takeTuning w a0 a1 x2 x3 S = some r) : rd_M l cx yX8_takeTuning G_X8_takeTuning 0 [.inr (some a0), .inr (some a1), .inl x2, .inl x3] w S (rd_rV w r) :=
  rd_enter (plainFor_of_name (by decide +kernel)) rfl (fun h => by cases h) (Nat.le_of_ble_eq_true rfl) (ym_X8_takeTuning cx w a0 a1 x2 x3 ha0 ha1 S r h)
abbrev G_X8_takeSlow : rd_G := (RX8, cX8_takeSlow, 2, none, false, { frames := 1, cells := 0, slots := 0, locals := 22 })
theorem yf_X8_takeSlow : rd_YL yX8_takeSlow G_X8_takeSlow 1 := ⟨rd_mem 651 (by decide +kernel) rfl, rd_mem 67 (by decide +kernel) rfl, by decide +kernel, by decide +kernel, by decide +kernel⟩
theorem mi_X8_takeSlow : Cond.instanceMethod yX8_takeSlow ∈ rd_gw := rd_mem 650 (by decide +kernel) rfl
theorem ms_X8_takeSlow : Cond.selects (MethodName.cls yX8_takeSlow) yX8_takeSlow yX8_takeSlow ∈ rd_gw := rd_mem 24 (by decide +kernel) rfl
theorem dX8_takeSlow_0 : decode cX8_takeSlow 0 = .ok (.iload_n 1, 1) := by decide +kernel
theorem dX8_takeSlow_1 : decode cX8_takeSlow 1 = .ok (.bipush 12, 2) := by decide +kernel
theorem dX8_takeSlow_3 : decode cX8_takeSlow 3 = .ok (.iconst 3, 1) := by decide +kernel
theorem dX8_takeSlow_4 : decode cX8_takeSlow 4 = .ok (.invokestatic 97, 3) := by decide +kernel
theorem dX8_takeSlow_7 : decode cX8_takeSlow 7 = .ok (.lookupswitch 84 #[(0, 33), (3, 50), (7, 67)], 33) := by decide +kernel
theorem dX8_takeSlow_40 : decode cX8_takeSlow 40 = .ok (.aload_n 0, 1) := by decide +kernel
theorem dX8_takeSlow_41 : decode cX8_takeSlow 41 = .ok (.getfield 11, 3) := by decide +kernel
theorem dX8_takeSlow_44 : decode cX8_takeSlow 44 = .ok (.bipush 7, 2) := by decide +kernel
theorem dX8_takeSlow_46 : decode cX8_takeSlow 46 = .ok (.iload_n 1, 1) := by decide +kernel
theorem dX8_takeSlow_47 : decode cX8_takeSlow 47 = .ok (.iconst 0, 1) := by decide +kernel
theorem dX8_takeSlow_48 : decode cX8_takeSlow 48 = .ok (.bipush 8, 2) := by decide +kernel
theorem dX8_takeSlow_50 : decode cX8_takeSlow 50 = .ok (.invokestatic 97, 3) := by decide +kernel
theorem dX8_takeSlow_53 : decode cX8_takeSlow 53 = .ok (.iastore, 1) := by decide +kernel
theorem dX8_takeSlow_54 : decode cX8_takeSlow 54 = .ok (.goto 37, 3) := by decide +kernel
theorem dX8_takeSlow_57 : decode cX8_takeSlow 57 = .ok (.aload_n 0, 1) := by decide +kernel
theorem dX8_takeSlow_58 : decode cX8_takeSlow 58 = .ok (.getfield 11, 3) := by decide +kernel
theorem dX8_takeSlow_61 : decode cX8_takeSlow 61 = .ok (.bipush 8, 2) := by decide +kernel
theorem dX8_takeSlow_63 : decode cX8_takeSlow 63 = .ok (.iload_n 1, 1) := by decide +kernel
theorem dX8_takeSlow_64 : decode cX8_takeSlow 64 = .ok (.iconst 0, 1) := by decide +kernel
theorem dX8_takeSlow_65 : decode cX8_takeSlow 65 = .ok (.bipush 8, 2) := by decide +kernel
theorem dX8_takeSlow_67 : decode cX8_takeSlow 67 = .ok (.invokestatic 97, 3) := by decide +kernel
theorem dX8_takeSlow_70 : decode cX8_takeSlow 70 = .ok (.iastore, 1) := by decide +kernel
theorem dX8_takeSlow_71 : decode cX8_takeSlow 71 = .ok (.goto 20, 3) := by decide +kernel
theorem dX8_takeSlow_74 : decode cX8_takeSlow 74 = .ok (.aload_n 0, 1) := by decide +kernel
theorem dX8_takeSlow_75 : decode cX8_takeSlow 75 = .ok (.getfield 11, 3) := by decide +kernel
theorem dX8_takeSlow_78 : decode cX8_takeSlow 78 = .ok (.bipush 9, 2) := by decide +kernel
theorem dX8_takeSlow_80 : decode cX8_takeSlow 80 = .ok (.iload_n 1, 1) := by decide +kernel
theorem dX8_takeSlow_81 : decode cX8_takeSlow 81 = .ok (.iconst 0, 1) := by decide +kernel
theorem dX8_takeSlow_82 : decode cX8_takeSlow 82 = .ok (.bipush 12, 2) := by decide +kernel
theorem dX8_takeSlow_84 : decode cX8_takeSlow 84 = .ok (.invokestatic 97, 3) := by decide +kernel
theorem dX8_takeSlow_87 : decode cX8_takeSlow 87 = .ok (.iastore, 1) := by decide +kernel
theorem dX8_takeSlow_88 : decode cX8_takeSlow 88 = .ok (.goto 3, 3) := by decide +kernel
theorem dX8_takeSlow_91 : decode cX8_takeSlow 91 = .ok (.return_, 1) := by decide +kernel
def B_X8_takeSlow_91 (w : rd_W) (S : rd_S) : Option (rd_S) :=
  some S
theorem yb_X8_takeSlow_91 (cx : rd_Cx) (w : rd_W) (S : rd_S) : rd_Y cx G_X8_takeSlow (fun r => rd_P cx G_X8_takeSlow.2.2.2.2.2 0 w (rd_rV w r)) (B_X8_takeSlow_91 w S) 91 [] [] w S 0 0 := by
  unfold B_X8_takeSlow_91
  exact ry_vret dX8_takeSlow_91 rfl (Nat.le_of_ble_eq_true rfl) (Nat.le_of_ble_eq_true rfl)
def F_X8_takeSlow (w : rd_W) (a0 : Nat) (x1 : Int32) (S : rd_S) : Option (rd_S) :=
  rd_b (F_X11_field w x1 12 3 S) fun v2 s1 =>
  if v2 = 0 then
  (rd_c (gR s1 a0 0) fun b4 =>
  rd_b (F_X11_field w x1 0 8 s1) fun v6 s5 =>
  rd_i 7 (w.2.2 b4) <|
  rd_let (pI s5 b4 (7 : Int32).toNatClampNeg v6) fun s7 =>
  B_X8_takeSlow_91 w s7)
  else
  if v2 = 3 then
  (rd_c (gR s1 a0 0) fun b9 =>
  rd_b (F_X11_field w x1 0 8 s1) fun v11 s10 =>
  rd_i 8 (w.2.2 b9) <|
  rd_let (pI s10 b9 (8 : Int32).toNatClampNeg v11) fun s12 =>
  B_X8_takeSlow_91 w s12)
  else
  if v2 = 7 then
  (rd_c (gR s1 a0 0) fun b14 =>
  rd_b (F_X11_field w x1 0 12 s1) fun v16 s15 =>
  rd_i 9 (w.2.2 b14) <|
  rd_let (pI s15 b14 (9 : Int32).toNatClampNeg v16) fun s17 =>
  B_X8_takeSlow_91 w s17)
  else
  (B_X8_takeSlow_91 w s1)
theorem ym_X8_takeSlow (cx : rd_Cx) (w : rd_W) (a0 : Nat) (x1 : Int32) (ha0 : rd_ok w a0 8) (S : rd_S) : rd_Y cx G_X8_takeSlow (fun r => rd_P cx G_X8_takeSlow.2.2.2.2.2 0 w (rd_rV w r)) (F_X8_takeSlow w a0 x1 S) 0 (rd_as 0 [.inr (some a0), .inl x1]) [] w S 0 0 := by
  unfold F_X8_takeSlow
  refine ry_iload_n dX8_takeSlow_0 rfl ?_
  refine ry_bipush (v := 12) dX8_takeSlow_1 (by decide) ?_
  refine ry_iconst (v := 3) dX8_takeSlow_3 (by decide) ?_
  refine ry_callI (fun l r9 h9 => cm_X11_field l cx w x1 12 3 S r9 h9) (rd_runSN (vs := [.inl x1, .inl 12, .inl 3]) dX8_takeSlow_4 yf_X11_field mt_X11_field mn_RX8_97 ⟨Nat.le_of_ble_eq_true rfl, Nat.le_of_ble_eq_true rfl⟩ (Nat.le_of_ble_eq_true rfl) rfl) rfl rfl (Nat.le_of_ble_eq_true rfl) (Nat.le_of_ble_eq_true rfl) (fun v2 s1 => ?_)
  refine ry_split _ (fun c3 => ?_) (fun c3 => ?_)
  · refine ry_lsw (off := 33) 40 dX8_takeSlow_7 (by decide) (by rw [c3]; decide) (by decide) ?_
    refine ry_aload_n dX8_takeSlow_40 rfl ?_
    refine ry_getr dX8_takeSlow_41 ha0 fl_RX8_11 rfl (fun b4 hb4 => ?_)
    refine ry_bipush (v := 7) dX8_takeSlow_44 (by decide) ?_
    refine ry_iload_n dX8_takeSlow_46 rfl ?_
    refine ry_iconst (v := 0) dX8_takeSlow_47 (by decide) ?_
    refine ry_bipush (v := 8) dX8_takeSlow_48 (by decide) ?_
    refine ry_callI (fun l r9 h9 => cm_X11_field l cx w x1 0 8 s1 r9 h9) (rd_runSN (vs := [.inl x1, .inl 0, .inl 8]) dX8_takeSlow_50 yf_X11_field mt_X11_field mn_RX8_97 ⟨Nat.le_of_ble_eq_true rfl, Nat.le_of_ble_eq_true rfl⟩ (Nat.le_of_ble_eq_true rfl) rfl) rfl rfl (Nat.le_of_ble_eq_true rfl) (Nat.le_of_ble_eq_true rfl) (fun v6 s5 => ?_)
    refine ry_iast dX8_takeSlow_53 hb4 ?_
    refine ry_letS (fun s7 => ?_)
    refine ry_goto 91 dX8_takeSlow_54 (by decide) ?_
    exact ry_to (yb_X8_takeSlow_91 cx w s7) trivial
  refine ry_split _ (fun c8 => ?_) (fun c8 => ?_)
  · refine ry_lsw (off := 50) 57 dX8_takeSlow_7 (by decide) (by rw [c8]; decide) (by decide) ?_
    refine ry_aload_n dX8_takeSlow_57 rfl ?_
    refine ry_getr dX8_takeSlow_58 ha0 fl_RX8_11 rfl (fun b9 hb9 => ?_)
    refine ry_bipush (v := 8) dX8_takeSlow_61 (by decide) ?_
    refine ry_iload_n dX8_takeSlow_63 rfl ?_
    refine ry_iconst (v := 0) dX8_takeSlow_64 (by decide) ?_
    refine ry_bipush (v := 8) dX8_takeSlow_65 (by decide) ?_
    refine ry_callI (fun l r9 h9 => cm_X11_field l cx w x1 0 8 s1 r9 h9) (rd_runSN (vs := [.inl x1, .inl 0, .inl 8]) dX8_takeSlow_67 yf_X11_field mt_X11_field mn_RX8_97 ⟨Nat.le_of_ble_eq_true rfl, Nat.le_of_ble_eq_true rfl⟩ (Nat.le_of_ble_eq_true rfl) rfl) rfl rfl (Nat.le_of_ble_eq_true rfl) (Nat.le_of_ble_eq_true rfl) (fun v11 s10 => ?_)
    refine ry_iast dX8_takeSlow_70 hb9 ?_
    refine ry_letS (fun s12 => ?_)
    refine ry_goto 91 dX8_takeSlow_71 (by decide) ?_
    exact ry_to (yb_X8_takeSlow_91 cx w s12) trivial
  refine ry_split _ (fun c13 => ?_) (fun c13 => ?_)
  · refine ry_lsw (off := 67) 74 dX8_takeSlow_7 (by decide) (by rw [c13]; decide) (by decide) ?_
    refine ry_aload_n dX8_takeSlow_74 rfl ?_
    refine ry_getr dX8_takeSlow_75 ha0 fl_RX8_11 rfl (fun b14 hb14 => ?_)
    refine ry_bipush (v := 9) dX8_takeSlow_78 (by decide) ?_
    refine ry_iload_n dX8_takeSlow_80 rfl ?_
    refine ry_iconst (v := 0) dX8_takeSlow_81 (by decide) ?_
    refine ry_bipush (v := 12) dX8_takeSlow_82 (by decide) ?_
    refine ry_callI (fun l r9 h9 => cm_X11_field l cx w x1 0 12 s1 r9 h9) (rd_runSN (vs := [.inl x1, .inl 0, .inl 12]) dX8_takeSlow_84 yf_X11_field mt_X11_field mn_RX8_97 ⟨Nat.le_of_ble_eq_true rfl, Nat.le_of_ble_eq_true rfl⟩ (Nat.le_of_ble_eq_true rfl) rfl) rfl rfl (Nat.le_of_ble_eq_true rfl) (Nat.le_of_ble_eq_true rfl) (fun v16 s15 => ?_)
    refine ry_iast dX8_takeSlow_87 hb14 ?_
    refine ry_letS (fun s17 => ?_)
    refine ry_goto 91 dX8_takeSlow_88 (by decide) ?_
    exact ry_to (yb_X8_takeSlow_91 cx w s17) trivial
  refine ry_lsw (off := 84) 91 dX8_takeSlow_7 (by decide) (by show Op.lookupswitch.offset [(0, 33), (3, 50), (7, 67)] _ _ = _; rw [lv_osw c3 (by decide), lv_osw c8 (by decide), lv_osw c13 (by decide)]; rfl) (by decide) ?_
  exact ry_to (yb_X8_takeSlow_91 cx w s1) trivial
theorem cm_X8_takeSlow (l : Launch) (cx : rd_Cx) (w : rd_W) (a0 : Nat) (x1 : Int32) (ha0 : rd_ok w a0 8) (S : rd_S) (r : rd_S) (h : F_X8_takeSlow w a0 x1 S = some r) : rd_M l cx yX8_takeSlow G_X8_takeSlow 0 [.inr (some a0), .inl x1] w S (rd_rV w r) :=
  rd_enter (plainFor_of_name (by decide +kernel)) rfl (fun h => by cases h) (Nat.le_of_ble_eq_true rfl) (ym_X8_takeSlow cx w a0 x1 ha0 S r h)
abbrev G_X8_takeItem : rd_G := (RX8, cX8_takeItem, 3, none, false, { frames := 2, cells := 0, slots := 0, locals := 43 })
theorem yf_X8_takeItem : rd_YL yX8_takeItem G_X8_takeItem 2 := ⟨rd_mem 647 (by decide +kernel) rfl, rd_mem 67 (by decide +kernel) rfl, by decide +kernel, by decide +kernel, by decide +kernel⟩
theorem mi_X8_takeItem : Cond.instanceMethod yX8_takeItem ∈ rd_gw := rd_mem 646 (by decide +kernel) rfl
theorem ms_X8_takeItem : Cond.selects (MethodName.cls yX8_takeItem) yX8_takeItem yX8_takeItem ∈ rd_gw := rd_mem 23 (by decide +kernel) rfl
theorem dX8_takeItem_0 : decode cX8_takeItem 0 = .ok (.aload_n 1, 1) := by decide +kernel
theorem dX8_takeItem_1 : decode cX8_takeItem 1 = .ok (.iconst 3, 1) := by decide +kernel
theorem dX8_takeItem_2 : decode cX8_takeItem 2 = .ok (.invokevirtual 89, 3) := by decide +kernel
theorem dX8_takeItem_5 : decode cX8_takeItem 5 = .ok (.ifCond .eq 15, 3) := by decide +kernel
theorem dX8_takeItem_8 : decode cX8_takeItem 8 = .ok (.aload_n 0, 1) := by decide +kernel
theorem dX8_takeItem_9 : decode cX8_takeItem 9 = .ok (.getfield 11, 3) := by decide +kernel
theorem dX8_takeItem_12 : decode cX8_takeItem 12 = .ok (.bipush 6, 2) := by decide +kernel
theorem dX8_takeItem_14 : decode cX8_takeItem 14 = .ok (.aload_n 1, 1) := by decide +kernel
theorem dX8_takeItem_15 : decode cX8_takeItem 15 = .ok (.iconst 3, 1) := by decide +kernel
theorem dX8_takeItem_16 : decode cX8_takeItem 16 = .ok (.invokevirtual 93, 3) := by decide +kernel
theorem dX8_takeItem_19 : decode cX8_takeItem 19 = .ok (.iastore, 1) := by decide +kernel
theorem dX8_takeItem_20 : decode cX8_takeItem 20 = .ok (.iload_n 2, 1) := by decide +kernel
theorem dX8_takeItem_21 : decode cX8_takeItem 21 = .ok (.ifCond .eq 20, 3) := by decide +kernel
theorem dX8_takeItem_24 : decode cX8_takeItem 24 = .ok (.aload_n 1, 1) := by decide +kernel
theorem dX8_takeItem_25 : decode cX8_takeItem 25 = .ok (.iconst 2, 1) := by decide +kernel
theorem dX8_takeItem_26 : decode cX8_takeItem 26 = .ok (.invokevirtual 89, 3) := by decide +kernel
theorem dX8_takeItem_29 : decode cX8_takeItem 29 = .ok (.ifCond .eq 12, 3) := by decide +kernel
theorem dX8_takeItem_32 : decode cX8_takeItem 32 = .ok (.aload_n 0, 1) := by decide +kernel
theorem dX8_takeItem_33 : decode cX8_takeItem 33 = .ok (.aload_n 1, 1) := by decide +kernel
theorem dX8_takeItem_34 : decode cX8_takeItem 34 = .ok (.iconst 2, 1) := by decide +kernel
theorem dX8_takeItem_35 : decode cX8_takeItem 35 = .ok (.invokevirtual 93, 3) := by decide +kernel
theorem dX8_takeItem_38 : decode cX8_takeItem 38 = .ok (.invokevirtual 152, 3) := by decide +kernel
theorem dX8_takeItem_41 : decode cX8_takeItem 41 = .ok (.return_, 1) := by decide +kernel
def B_X8_takeItem_41 (w : rd_W) (S : rd_S) : Option (rd_S) :=
  some S
theorem yb_X8_takeItem_41 (cx : rd_Cx) (w : rd_W) (S : rd_S) : rd_Y cx G_X8_takeItem (fun r => rd_P cx G_X8_takeItem.2.2.2.2.2 0 w (rd_rV w r)) (B_X8_takeItem_41 w S) 41 [] [] w S 0 0 := by
  unfold B_X8_takeItem_41
  exact ry_vret dX8_takeItem_41 rfl (Nat.le_of_ble_eq_true rfl) (Nat.le_of_ble_eq_true rfl)
def B_X8_takeItem_20 (w : rd_W) (a0 : Nat) (a1 : Nat) (x2 : Int32) (S : rd_S) : Option (rd_S) :=
  if x2 = 0 then
  (B_X8_takeItem_41 w S)
  else
  (rd_b (F_X3_knows w a1 2 S) fun v6 s5 =>
  if v6 = 0 then
  (B_X8_takeItem_41 w s5)
  else
  (rd_b (F_X3_what w a1 2 s5) fun v9 s8 =>
  rd_c (F_X8_takeSlow w a0 v9 s8) fun s10 =>
  B_X8_takeItem_41 w s10))
theorem yb_X8_takeItem_20 (cx : rd_Cx) (w : rd_W) (a0 : Nat) (a1 : Nat) (x2 : Int32) (ha0 : rd_ok w a0 8) (ha1 : rd_ok w a1 3) (S : rd_S) : rd_Y cx G_X8_takeItem (fun r => rd_P cx G_X8_takeItem.2.2.2.2.2 0 w (rd_rV w r)) (B_X8_takeItem_20 w a0 a1 x2 S) 20 [(0, .inr (some a0)), (1, .inr (some a1)), (2, .inl x2)] [] w S 0 0 := by
  unfold B_X8_takeItem_20
  refine ry_iload_n dX8_takeItem_20 rfl ?_
  refine ry_if_eq 41 dX8_takeItem_21 (by decide) (fun c4 => ?_) (fun c4 => ?_)
  · exact ry_to (yb_X8_takeItem_41 cx w S) trivial
  · refine ry_aload_n dX8_takeItem_24 rfl ?_
    refine ry_iconst (v := 2) dX8_takeItem_25 (by decide) ?_
    refine ry_callI (fun l r9 h9 => cm_X3_knows l cx w a1 2 ha1 S r9 h9) (rd_runV (vs := [.inl 2]) dX8_takeItem_26 ha1 rfl rfl yf_X3_knows mi_X3_knows ms_X3_knows ml_RX8_89 ⟨Nat.le_of_ble_eq_true rfl, Nat.le_of_ble_eq_true rfl⟩ (Nat.le_of_ble_eq_true rfl) rfl) rfl rfl (Nat.le_of_ble_eq_true rfl) (Nat.le_of_ble_eq_true rfl) (fun v6 s5 => ?_)
    refine ry_if_eq 41 dX8_takeItem_29 (by decide) (fun c7 => ?_) (fun c7 => ?_)
    · exact ry_to (yb_X8_takeItem_41 cx w s5) trivial
    · refine ry_aload_n dX8_takeItem_32 rfl ?_
      refine ry_aload_n dX8_takeItem_33 rfl ?_
      refine ry_iconst (v := 2) dX8_takeItem_34 (by decide) ?_
      refine ry_callI (fun l r9 h9 => cm_X3_what l cx w a1 2 ha1 s5 r9 h9) (rd_runV (vs := [.inl 2]) dX8_takeItem_35 ha1 rfl rfl yf_X3_what mi_X3_what ms_X3_what ml_RX8_93 ⟨Nat.le_of_ble_eq_true rfl, Nat.le_of_ble_eq_true rfl⟩ (Nat.le_of_ble_eq_true rfl) rfl) rfl rfl (Nat.le_of_ble_eq_true rfl) (Nat.le_of_ble_eq_true rfl) (fun v9 s8 => ?_)
      refine ry_callv (fun l r9 h9 => cm_X8_takeSlow l cx w a0 v9 ha0 s8 r9 h9) (rd_runV (vs := [.inl v9]) dX8_takeItem_38 ha0 rfl rfl yf_X8_takeSlow mi_X8_takeSlow ms_X8_takeSlow ml_RX8_152 ⟨Nat.le_of_ble_eq_true rfl, Nat.le_of_ble_eq_true rfl⟩ (Nat.le_of_ble_eq_true rfl) rfl) rfl rfl (Nat.le_of_ble_eq_true rfl) (Nat.le_of_ble_eq_true rfl) (fun s10 => ?_)
      exact ry_to (yb_X8_takeItem_41 cx w s10) trivial
def F_X8_takeItem (w : rd_W) (a0 : Nat) (a1 : Nat) (x2 : Int32) (S : rd_S) : Option (rd_S) :=
  rd_b (F_X3_knows w a1 3 S) fun v2 s1 =>
  if v2 = 0 then
  (B_X8_takeItem_20 w a0 a1 x2 s1)
  else
  (rd_c (gR s1 a0 0) fun b11 =>
  rd_b (F_X3_what w a1 3 s1) fun v13 s12 =>
  rd_i 6 (w.2.2 b11) <|
  rd_let (pI s12 b11 (6 : Int32).toNatClampNeg v13) fun s14 =>
  B_X8_takeItem_20 w a0 a1 x2 s14)
theorem ym_X8_takeItem (cx : rd_Cx) (w : rd_W) (a0 : Nat) (a1 : Nat) (x2 : Int32) (ha0 : rd_ok w a0 8) (ha1 : rd_ok w a1 3) (S : rd_S) : rd_Y cx G_X8_takeItem (fun r => rd_P cx G_X8_takeItem.2.2.2.2.2 0 w (rd_rV w r)) (F_X8_takeItem w a0 a1 x2 S) 0 (rd_as 0 [.inr (some a0), .inr (some a1), .inl x2]) [] w S 0 0 := by
  unfold F_X8_takeItem
  refine ry_aload_n dX8_takeItem_0 rfl ?_
  refine ry_iconst (v := 3) dX8_takeItem_1 (by decide) ?_
  refine ry_callI (fun l r9 h9 => cm_X3_knows l cx w a1 3 ha1 S r9 h9) (rd_runV (vs := [.inl 3]) dX8_takeItem_2 ha1 rfl rfl yf_X3_knows mi_X3_knows ms_X3_knows ml_RX8_89 ⟨Nat.le_of_ble_eq_true rfl, Nat.le_of_ble_eq_true rfl⟩ (Nat.le_of_ble_eq_true rfl) rfl) rfl rfl (Nat.le_of_ble_eq_true rfl) (Nat.le_of_ble_eq_true rfl) (fun v2 s1 => ?_)
  refine ry_if_eq 20 dX8_takeItem_5 (by decide) (fun c3 => ?_) (fun c3 => ?_)
  · exact ry_to (yb_X8_takeItem_20 cx w a0 a1 x2 ha0 ha1 s1) ⟨rfl, rfl, rfl, trivial⟩
  · refine ry_aload_n dX8_takeItem_8 rfl ?_
    refine ry_getr dX8_takeItem_9 ha0 fl_RX8_11 rfl (fun b11 hb11 => ?_)
    refine ry_bipush (v := 6) dX8_takeItem_12 (by decide) ?_
    refine ry_aload_n dX8_takeItem_14 rfl ?_
    refine ry_iconst (v := 3) dX8_takeItem_15 (by decide) ?_
    refine ry_callI (fun l r9 h9 => cm_X3_what l cx w a1 3 ha1 s1 r9 h9) (rd_runV (vs := [.inl 3]) dX8_takeItem_16 ha1 rfl rfl yf_X3_what mi_X3_what ms_X3_what ml_RX8_93 ⟨Nat.le_of_ble_eq_true rfl, Nat.le_of_ble_eq_true rfl⟩ (Nat.le_of_ble_eq_true rfl) rfl) rfl rfl (Nat.le_of_ble_eq_true rfl) (Nat.le_of_ble_eq_true rfl) (fun v13 s12 => ?_)
    refine ry_iast dX8_takeItem_19 hb11 ?_
    refine ry_letS (fun s14 => ?_)
    exact ry_to (yb_X8_takeItem_20 cx w a0 a1 x2 ha0 ha1 s14) ⟨rfl, rfl, rfl, trivial⟩
theorem cm_X8_takeItem (l : Launch) (cx : rd_Cx) (w : rd_W) (a0 : Nat) (a1 : Nat) (x2 : Int32) (ha0 : rd_ok w a0 8) (ha1 : rd_ok w a1 3) (S : rd_S) (r : rd_S) (h : F_X8_takeItem w a0 a1 x2 S = some r) : rd_M l cx yX8_takeItem G_X8_takeItem 0 [.inr (some a0), .inr (some a1), .inl x2] w S (rd_rV w r) :=
  rd_enter (plainFor_of_name (by decide +kernel)) rfl (fun h => by cases h) (Nat.le_of_ble_eq_true rfl) (ym_X8_takeItem cx w a0 a1 x2 ha0 ha1 S r h)
abbrev G_X1_turn : rd_G := (RX1, cX1_turn, 2, none, false, { frames := 0, cells := 0, slots := 0, locals := 0 })
theorem yf_X1_turn : rd_YL yX1_turn G_X1_turn 1 := ⟨rd_mem 659 (by decide +kernel) rfl, rd_mem 68 (by decide +kernel) rfl, by decide +kernel, by decide +kernel, by decide +kernel⟩
theorem mi_X1_turn : Cond.instanceMethod yX1_turn ∈ rd_gw := rd_mem 657 (by decide +kernel) rfl
theorem ms_X1_turn : Cond.selects (MethodName.cls yX1_turn) yX1_turn yX1_turn ∈ rd_gw := rd_mem 658 (by decide +kernel) rfl
theorem dX1_turn_0 : decode cX1_turn 0 = .ok (.iload_n 1, 1) := by decide +kernel
theorem dX1_turn_1 : decode cX1_turn 1 = .ok (.aload_n 0, 1) := by decide +kernel
theorem dX1_turn_2 : decode cX1_turn 2 = .ok (.getfield 25, 3) := by decide +kernel
theorem dX1_turn_5 : decode cX1_turn 5 = .ok (.if_icmp .eq 8, 3) := by decide +kernel
theorem dX1_turn_8 : decode cX1_turn 8 = .ok (.aload_n 0, 1) := by decide +kernel
theorem dX1_turn_9 : decode cX1_turn 9 = .ok (.iconst 0, 1) := by decide +kernel
theorem dX1_turn_10 : decode cX1_turn 10 = .ok (.putfield 28, 3) := by decide +kernel
theorem dX1_turn_13 : decode cX1_turn 13 = .ok (.aload_n 0, 1) := by decide +kernel
theorem dX1_turn_14 : decode cX1_turn 14 = .ok (.iload_n 1, 1) := by decide +kernel
theorem dX1_turn_15 : decode cX1_turn 15 = .ok (.putfield 25, 3) := by decide +kernel
theorem dX1_turn_18 : decode cX1_turn 18 = .ok (.return_, 1) := by decide +kernel
def B_X1_turn_13 (w : rd_W) (a0 : Nat) (x1 : Int32) (S : rd_S) : Option (rd_S) :=
  rd_let (pI S a0 5 x1) fun s2 =>
  some s2
theorem yb_X1_turn_13 (cx : rd_Cx) (w : rd_W) (a0 : Nat) (x1 : Int32) (ha0 : rd_ok w a0 1) (S : rd_S) : rd_Y cx G_X1_turn (fun r => rd_P cx G_X1_turn.2.2.2.2.2 0 w (rd_rV w r)) (B_X1_turn_13 w a0 x1 S) 13 [(0, .inr (some a0)), (1, .inl x1)] [] w S 0 0 := by
  unfold B_X1_turn_13
  refine ry_aload_n dX1_turn_13 rfl ?_
  refine ry_iload_n dX1_turn_14 rfl ?_
  refine ry_puti dX1_turn_15 ha0 fl_RX1_25 rfl rfl rfl ?_
  refine ry_letS (fun s2 => ?_)
  exact ry_vret dX1_turn_18 rfl (Nat.le_of_ble_eq_true rfl) (Nat.le_of_ble_eq_true rfl)
def F_X1_turn (w : rd_W) (a0 : Nat) (x1 : Int32) (S : rd_S) : Option (rd_S) :=
  if x1 = (gI S a0 5) then
  (B_X1_turn_13 w a0 x1 S)
  else
  (rd_let (pI S a0 4 0) fun s3 =>
  B_X1_turn_13 w a0 x1 s3)
theorem ym_X1_turn (cx : rd_Cx) (w : rd_W) (a0 : Nat) (x1 : Int32) (ha0 : rd_ok w a0 1) (S : rd_S) : rd_Y cx G_X1_turn (fun r => rd_P cx G_X1_turn.2.2.2.2.2 0 w (rd_rV w r)) (F_X1_turn w a0 x1 S) 0 (rd_as 0 [.inr (some a0), .inl x1]) [] w S 0 0 := by
  unfold F_X1_turn
  refine ry_iload_n dX1_turn_0 rfl ?_
  refine ry_aload_n dX1_turn_1 rfl ?_
  refine ry_geti dX1_turn_2 ha0 fl_RX1_25 rfl ?_
  refine ry_icmp_eq 13 dX1_turn_5 (by decide) (fun c1 => ?_) (fun c1 => ?_)
  · exact ry_to (yb_X1_turn_13 cx w a0 x1 ha0 S) ⟨rfl, rfl, trivial⟩
  · refine ry_aload_n dX1_turn_8 rfl ?_
    refine ry_iconst (v := 0) dX1_turn_9 (by decide) ?_
    refine ry_puti dX1_turn_10 ha0 fl_RX1_28 rfl rfl rfl ?_
    refine ry_letS (fun s3 => ?_)
    exact ry_to (yb_X1_turn_13 cx w a0 x1 ha0 s3) ⟨rfl, rfl, trivial⟩
theorem cm_X1_turn (l : Launch) (cx : rd_Cx) (w : rd_W) (a0 : Nat) (x1 : Int32) (ha0 : rd_ok w a0 1) (S : rd_S) (r : rd_S) (h : F_X1_turn w a0 x1 S = some r) : rd_M l cx yX1_turn G_X1_turn 0 [.inr (some a0), .inl x1] w S (rd_rV w r) :=
  rd_enter (plainFor_of_name (by decide +kernel)) rfl (fun h => by cases h) (Nat.le_of_ble_eq_true rfl) (ym_X1_turn cx w a0 x1 ha0 S r h)
abbrev G_X8_joined : rd_G := (RX8, cX8_joined, 1, (some .int), false, { frames := 1, cells := 0, slots := 0, locals := 21 })
theorem yf_X8_joined : rd_YL yX8_joined G_X8_joined 1 := ⟨rd_mem 662 (by decide +kernel) rfl, rd_mem 67 (by decide +kernel) rfl, by decide +kernel, by decide +kernel, by decide +kernel⟩
theorem mt_X8_joined : Cond.static yX8_joined ∈ rd_gw := rd_mem 661 (by decide +kernel) rfl
theorem dX8_joined_0 : decode cX8_joined 0 = .ok (.aload_n 0, 1) := by decide +kernel
theorem dX8_joined_1 : decode cX8_joined 1 = .ok (.iconst 2, 1) := by decide +kernel
theorem dX8_joined_2 : decode cX8_joined 2 = .ok (.invokevirtual 93, 3) := by decide +kernel
theorem dX8_joined_5 : decode cX8_joined 5 = .ok (.bipush 16, 2) := by decide +kernel
theorem dX8_joined_7 : decode cX8_joined 7 = .ok (.ishl, 1) := by decide +kernel
theorem dX8_joined_8 : decode cX8_joined 8 = .ok (.aload_n 0, 1) := by decide +kernel
theorem dX8_joined_9 : decode cX8_joined 9 = .ok (.iconst 3, 1) := by decide +kernel
theorem dX8_joined_10 : decode cX8_joined 10 = .ok (.invokevirtual 93, 3) := by decide +kernel
theorem dX8_joined_13 : decode cX8_joined 13 = .ok (.ior, 1) := by decide +kernel
theorem dX8_joined_14 : decode cX8_joined 14 = .ok (.ireturn, 1) := by decide +kernel
def F_X8_joined (w : rd_W) (a0 : Nat) (S : rd_S) : Option (Int32 × rd_S) :=
  rd_b (F_X3_what w a0 2 S) fun v2 s1 =>
  rd_b (F_X3_what w a0 3 s1) fun v4 s3 =>
  some ((rd_shl v2 16) ||| v4, s3)
theorem ym_X8_joined (cx : rd_Cx) (w : rd_W) (a0 : Nat) (ha0 : rd_ok w a0 3) (S : rd_S) : rd_Y cx G_X8_joined (fun r => rd_P cx G_X8_joined.2.2.2.2.2 0 w (rd_rI w r)) (F_X8_joined w a0 S) 0 (rd_as 0 [.inr (some a0)]) [] w S 0 0 := by
  unfold F_X8_joined
  refine ry_aload_n dX8_joined_0 rfl ?_
  refine ry_iconst (v := 2) dX8_joined_1 (by decide) ?_
  refine ry_callI (fun l r9 h9 => cm_X3_what l cx w a0 2 ha0 S r9 h9) (rd_runV (vs := [.inl 2]) dX8_joined_2 ha0 rfl rfl yf_X3_what mi_X3_what ms_X3_what ml_RX8_93 ⟨Nat.le_of_ble_eq_true rfl, Nat.le_of_ble_eq_true rfl⟩ (Nat.le_of_ble_eq_true rfl) rfl) rfl rfl (Nat.le_of_ble_eq_true rfl) (Nat.le_of_ble_eq_true rfl) (fun v2 s1 => ?_)
  refine ry_bipush (v := 16) dX8_joined_5 (by decide) ?_
  refine ry_ishl dX8_joined_7 ?_
  refine ry_aload_n dX8_joined_8 rfl ?_
  refine ry_iconst (v := 3) dX8_joined_9 (by decide) ?_
  refine ry_callI (fun l r9 h9 => cm_X3_what l cx w a0 3 ha0 s1 r9 h9) (rd_runV (vs := [.inl 3]) dX8_joined_10 ha0 rfl rfl yf_X3_what mi_X3_what ms_X3_what ml_RX8_93 ⟨Nat.le_of_ble_eq_true rfl, Nat.le_of_ble_eq_true rfl⟩ (Nat.le_of_ble_eq_true rfl) rfl) rfl rfl (Nat.le_of_ble_eq_true rfl) (Nat.le_of_ble_eq_true rfl) (fun v4 s3 => ?_)
  refine ry_ior dX8_joined_13 ?_
  exact ry_iret dX8_joined_14 rfl (Nat.le_of_ble_eq_true rfl) (Nat.le_of_ble_eq_true rfl)
theorem cm_X8_joined (l : Launch) (cx : rd_Cx) (w : rd_W) (a0 : Nat) (ha0 : rd_ok w a0 3) (S : rd_S) (r : Int32 × rd_S) (h : F_X8_joined w a0 S = some r) : rd_M l cx yX8_joined G_X8_joined 0 [.inr (some a0)] w S (rd_rI w r) :=
  rd_enter (plainFor_of_name (by decide +kernel)) rfl (fun h => by cases h) (Nat.le_of_ble_eq_true rfl) (ym_X8_joined cx w a0 ha0 S r h)
abbrev G_X8_takeLongText : rd_G := (RX8, cX8_takeLongText, 3, none, false, { frames := 3, cells := 0, slots := 0, locals := 86 })
theorem yf_X8_takeLongText : rd_YL yX8_takeLongText G_X8_takeLongText 2 := ⟨rd_mem 655 (by decide +kernel) rfl, rd_mem 67 (by decide +kernel) rfl, by decide +kernel, by decide +kernel, by decide +kernel⟩
theorem mi_X8_takeLongText : Cond.instanceMethod yX8_takeLongText ∈ rd_gw := rd_mem 654 (by decide +kernel) rfl
theorem ms_X8_takeLongText : Cond.selects (MethodName.cls yX8_takeLongText) yX8_takeLongText yX8_takeLongText ∈ rd_gw := rd_mem 25 (by decide +kernel) rfl
theorem dX8_takeLongText_0 : decode cX8_takeLongText 0 = .ok (.aload_n 1, 1) := by decide +kernel
theorem dX8_takeLongText_1 : decode cX8_takeLongText 1 = .ok (.invokevirtual 145, 3) := by decide +kernel
theorem dX8_takeLongText_4 : decode cX8_takeLongText 4 = .ok (.ifCond .eq 34, 3) := by decide +kernel
theorem dX8_takeLongText_7 : decode cX8_takeLongText 7 = .ok (.aload_n 0, 1) := by decide +kernel
theorem dX8_takeLongText_8 : decode cX8_takeLongText 8 = .ok (.getfield 24, 3) := by decide +kernel
theorem dX8_takeLongText_11 : decode cX8_takeLongText 11 = .ok (.iload_n 2, 1) := by decide +kernel
theorem dX8_takeLongText_12 : decode cX8_takeLongText 12 = .ok (.iconst 4, 1) := by decide +kernel
theorem dX8_takeLongText_13 : decode cX8_takeLongText 13 = .ok (.iconst 1, 1) := by decide +kernel
theorem dX8_takeLongText_14 : decode cX8_takeLongText 14 = .ok (.invokestatic 97, 3) := by decide +kernel
theorem dX8_takeLongText_17 : decode cX8_takeLongText 17 = .ok (.invokevirtual 155, 3) := by decide +kernel
theorem dX8_takeLongText_20 : decode cX8_takeLongText 20 = .ok (.aload_n 0, 1) := by decide +kernel
theorem dX8_takeLongText_21 : decode cX8_takeLongText 21 = .ok (.getfield 24, 3) := by decide +kernel
theorem dX8_takeLongText_24 : decode cX8_takeLongText 24 = .ok (.iload_n 2, 1) := by decide +kernel
theorem dX8_takeLongText_25 : decode cX8_takeLongText 25 = .ok (.iconst 0, 1) := by decide +kernel
theorem dX8_takeLongText_26 : decode cX8_takeLongText 26 = .ok (.iconst 4, 1) := by decide +kernel
theorem dX8_takeLongText_27 : decode cX8_takeLongText 27 = .ok (.invokestatic 97, 3) := by decide +kernel
theorem dX8_takeLongText_30 : decode cX8_takeLongText 30 = .ok (.iconst 4, 1) := by decide +kernel
theorem dX8_takeLongText_31 : decode cX8_takeLongText 31 = .ok (.aload_n 1, 1) := by decide +kernel
theorem dX8_takeLongText_32 : decode cX8_takeLongText 32 = .ok (.invokestatic 158, 3) := by decide +kernel
theorem dX8_takeLongText_35 : decode cX8_takeLongText 35 = .ok (.invokevirtual 149, 3) := by decide +kernel
theorem dX8_takeLongText_38 : decode cX8_takeLongText 38 = .ok (.return_, 1) := by decide +kernel
def B_X8_takeLongText_38 (w : rd_W) (S : rd_S) : Option (rd_S) :=
  some S
theorem yb_X8_takeLongText_38 (cx : rd_Cx) (w : rd_W) (S : rd_S) : rd_Y cx G_X8_takeLongText (fun r => rd_P cx G_X8_takeLongText.2.2.2.2.2 0 w (rd_rV w r)) (B_X8_takeLongText_38 w S) 38 [] [] w S 0 0 := by
  unfold B_X8_takeLongText_38
  exact ry_vret dX8_takeLongText_38 rfl (Nat.le_of_ble_eq_true rfl) (Nat.le_of_ble_eq_true rfl)
def F_X8_takeLongText (w : rd_W) (a0 : Nat) (a1 : Nat) (x2 : Int32) (S : rd_S) : Option (rd_S) :=
  rd_b (F_X3_knowsCAndD w a1 S) fun v2 s1 =>
  if v2 = 0 then
  (B_X8_takeLongText_38 w s1)
  else
  (rd_c (gR s1 a0 2) fun b4 =>
  rd_b (F_X11_field w x2 4 1 s1) fun v6 s5 =>
  rd_c (F_X1_turn w b4 v6 s5) fun s7 =>
  rd_c (gR s7 a0 2) fun b8 =>
  rd_b (F_X11_field w x2 0 4 s7) fun v10 s9 =>
  rd_b (F_X8_joined w a1 s9) fun v12 s11 =>
  rd_c (F_X1_take w b8 v10 4 v12 s11) fun s13 =>
  B_X8_takeLongText_38 w s13)
theorem ym_X8_takeLongText (cx : rd_Cx) (w : rd_W) (a0 : Nat) (a1 : Nat) (x2 : Int32) (ha0 : rd_ok w a0 8) (ha1 : rd_ok w a1 3) (S : rd_S) : rd_Y cx G_X8_takeLongText (fun r => rd_P cx G_X8_takeLongText.2.2.2.2.2 0 w (rd_rV w r)) (F_X8_takeLongText w a0 a1 x2 S) 0 (rd_as 0 [.inr (some a0), .inr (some a1), .inl x2]) [] w S 0 0 := by
  unfold F_X8_takeLongText
  refine ry_aload_n dX8_takeLongText_0 rfl ?_
  refine ry_callI (fun l r9 h9 => cm_X3_knowsCAndD l cx w a1 ha1 S r9 h9) (rd_runV (vs := []) dX8_takeLongText_1 ha1 rfl rfl yf_X3_knowsCAndD mi_X3_knowsCAndD ms_X3_knowsCAndD ml_RX8_145 ⟨Nat.le_of_ble_eq_true rfl, Nat.le_of_ble_eq_true rfl⟩ (Nat.le_of_ble_eq_true rfl) rfl) rfl rfl (Nat.le_of_ble_eq_true rfl) (Nat.le_of_ble_eq_true rfl) (fun v2 s1 => ?_)
  refine ry_if_eq 38 dX8_takeLongText_4 (by decide) (fun c3 => ?_) (fun c3 => ?_)
  · exact ry_to (yb_X8_takeLongText_38 cx w s1) trivial
  · refine ry_aload_n dX8_takeLongText_7 rfl ?_
    refine ry_getr dX8_takeLongText_8 ha0 fl_RX8_24 rfl (fun b4 hb4 => ?_)
    refine ry_iload_n dX8_takeLongText_11 rfl ?_
    refine ry_iconst (v := 4) dX8_takeLongText_12 (by decide) ?_
    refine ry_iconst (v := 1) dX8_takeLongText_13 (by decide) ?_
    refine ry_callI (fun l r9 h9 => cm_X11_field l cx w x2 4 1 s1 r9 h9) (rd_runSN (vs := [.inl x2, .inl 4, .inl 1]) dX8_takeLongText_14 yf_X11_field mt_X11_field mn_RX8_97 ⟨Nat.le_of_ble_eq_true rfl, Nat.le_of_ble_eq_true rfl⟩ (Nat.le_of_ble_eq_true rfl) rfl) rfl rfl (Nat.le_of_ble_eq_true rfl) (Nat.le_of_ble_eq_true rfl) (fun v6 s5 => ?_)
    refine ry_callv (fun l r9 h9 => cm_X1_turn l cx w b4 v6 hb4 s5 r9 h9) (rd_runV (vs := [.inl v6]) dX8_takeLongText_17 hb4 rfl rfl yf_X1_turn mi_X1_turn ms_X1_turn ml_RX8_155 ⟨Nat.le_of_ble_eq_true rfl, Nat.le_of_ble_eq_true rfl⟩ (Nat.le_of_ble_eq_true rfl) rfl) rfl rfl (Nat.le_of_ble_eq_true rfl) (Nat.le_of_ble_eq_true rfl) (fun s7 => ?_)
    refine ry_aload_n dX8_takeLongText_20 rfl ?_
    refine ry_getr dX8_takeLongText_21 ha0 fl_RX8_24 rfl (fun b8 hb8 => ?_)
    refine ry_iload_n dX8_takeLongText_24 rfl ?_
    refine ry_iconst (v := 0) dX8_takeLongText_25 (by decide) ?_
    refine ry_iconst (v := 4) dX8_takeLongText_26 (by decide) ?_
    refine ry_callI (fun l r9 h9 => cm_X11_field l cx w x2 0 4 s7 r9 h9) (rd_runSN (vs := [.inl x2, .inl 0, .inl 4]) dX8_takeLongText_27 yf_X11_field mt_X11_field mn_RX8_97 ⟨Nat.le_of_ble_eq_true rfl, Nat.le_of_ble_eq_true rfl⟩ (Nat.le_of_ble_eq_true rfl) rfl) rfl rfl (Nat.le_of_ble_eq_true rfl) (Nat.le_of_ble_eq_true rfl) (fun v10 s9 => ?_)
    refine ry_iconst (v := 4) dX8_takeLongText_30 (by decide) ?_
    refine ry_aload_n dX8_takeLongText_31 rfl ?_
    refine ry_callI (fun l r9 h9 => cm_X8_joined l cx w a1 ha1 s9 r9 h9) (rd_runS (vs := [.inr (some a1)]) dX8_takeLongText_32 yf_X8_joined mt_X8_joined ml_RX8_158 ⟨Nat.le_of_ble_eq_true rfl, Nat.le_of_ble_eq_true rfl⟩ (Nat.le_of_ble_eq_true rfl) rfl) rfl rfl (Nat.le_of_ble_eq_true rfl) (Nat.le_of_ble_eq_true rfl) (fun v12 s11 => ?_)
    refine ry_callv (fun l r9 h9 => cm_X1_take l cx w b8 v10 4 v12 hb8 s11 r9 h9) (rd_runV (vs := [.inl v10, .inl 4, .inl v12]) dX8_takeLongText_35 hb8 rfl rfl yf_X1_take mi_X1_take ms_X1_take ml_RX8_149 ⟨Nat.le_of_ble_eq_true rfl, Nat.le_of_ble_eq_true rfl⟩ (Nat.le_of_ble_eq_true rfl) rfl) rfl rfl (Nat.le_of_ble_eq_true rfl) (Nat.le_of_ble_eq_true rfl) (fun s13 => ?_)
    exact ry_to (yb_X8_takeLongText_38 cx w s13) trivial
theorem cm_X8_takeLongText (l : Launch) (cx : rd_Cx) (w : rd_W) (a0 : Nat) (a1 : Nat) (x2 : Int32) (ha0 : rd_ok w a0 8) (ha1 : rd_ok w a1 3) (S : rd_S) (r : rd_S) (h : F_X8_takeLongText w a0 a1 x2 S = some r) : rd_M l cx yX8_takeLongText G_X8_takeLongText 0 [.inr (some a0), .inr (some a1), .inl x2] w S (rd_rV w r) :=
  rd_enter (plainFor_of_name (by decide +kernel)) rfl (fun h => by cases h) (Nat.le_of_ble_eq_true rfl) (ym_X8_takeLongText cx w a0 a1 x2 ha0 ha1 S r h)
abbrev G_X8_takeShortText : rd_G := (RX8, cX8_takeShortText, 3, none, false, { frames := 3, cells := 0, slots := 0, locals := 86 })
theorem yf_X8_takeShortText : rd_YL yX8_takeShortText G_X8_takeShortText 2 := ⟨rd_mem 666 (by decide +kernel) rfl, rd_mem 67 (by decide +kernel) rfl, by decide +kernel, by decide +kernel, by decide +kernel⟩
theorem mi_X8_takeShortText : Cond.instanceMethod yX8_takeShortText ∈ rd_gw := rd_mem 665 (by decide +kernel) rfl
theorem ms_X8_takeShortText : Cond.selects (MethodName.cls yX8_takeShortText) yX8_takeShortText yX8_takeShortText ∈ rd_gw := rd_mem 26 (by decide +kernel) rfl
theorem dX8_takeShortText_0 : decode cX8_takeShortText 0 = .ok (.aload_n 1, 1) := by decide +kernel
theorem dX8_takeShortText_1 : decode cX8_takeShortText 1 = .ok (.iconst 3, 1) := by decide +kernel
theorem dX8_takeShortText_2 : decode cX8_takeShortText 2 = .ok (.invokevirtual 89, 3) := by decide +kernel
theorem dX8_takeShortText_5 : decode cX8_takeShortText 5 = .ok (.ifCond .eq 37, 3) := by decide +kernel
theorem dX8_takeShortText_8 : decode cX8_takeShortText 8 = .ok (.aload_n 0, 1) := by decide +kernel
theorem dX8_takeShortText_9 : decode cX8_takeShortText 9 = .ok (.getfield 24, 3) := by decide +kernel
theorem dX8_takeShortText_12 : decode cX8_takeShortText 12 = .ok (.iconst 2, 1) := by decide +kernel
theorem dX8_takeShortText_13 : decode cX8_takeShortText 13 = .ok (.iload_n 2, 1) := by decide +kernel
theorem dX8_takeShortText_14 : decode cX8_takeShortText 14 = .ok (.iconst 4, 1) := by decide +kernel
theorem dX8_takeShortText_15 : decode cX8_takeShortText 15 = .ok (.iconst 1, 1) := by decide +kernel
theorem dX8_takeShortText_16 : decode cX8_takeShortText 16 = .ok (.invokestatic 97, 3) := by decide +kernel
theorem dX8_takeShortText_19 : decode cX8_takeShortText 19 = .ok (.iadd, 1) := by decide +kernel
theorem dX8_takeShortText_20 : decode cX8_takeShortText 20 = .ok (.invokevirtual 155, 3) := by decide +kernel
theorem dX8_takeShortText_23 : decode cX8_takeShortText 23 = .ok (.aload_n 0, 1) := by decide +kernel
theorem dX8_takeShortText_24 : decode cX8_takeShortText 24 = .ok (.getfield 24, 3) := by decide +kernel
theorem dX8_takeShortText_27 : decode cX8_takeShortText 27 = .ok (.iload_n 2, 1) := by decide +kernel
theorem dX8_takeShortText_28 : decode cX8_takeShortText 28 = .ok (.iconst 0, 1) := by decide +kernel
theorem dX8_takeShortText_29 : decode cX8_takeShortText 29 = .ok (.iconst 4, 1) := by decide +kernel
theorem dX8_takeShortText_30 : decode cX8_takeShortText 30 = .ok (.invokestatic 97, 3) := by decide +kernel
theorem dX8_takeShortText_33 : decode cX8_takeShortText 33 = .ok (.iconst 2, 1) := by decide +kernel
theorem dX8_takeShortText_34 : decode cX8_takeShortText 34 = .ok (.aload_n 1, 1) := by decide +kernel
theorem dX8_takeShortText_35 : decode cX8_takeShortText 35 = .ok (.iconst 3, 1) := by decide +kernel
theorem dX8_takeShortText_36 : decode cX8_takeShortText 36 = .ok (.invokevirtual 93, 3) := by decide +kernel
theorem dX8_takeShortText_39 : decode cX8_takeShortText 39 = .ok (.invokevirtual 149, 3) := by decide +kernel
theorem dX8_takeShortText_42 : decode cX8_takeShortText 42 = .ok (.return_, 1) := by decide +kernel
def B_X8_takeShortText_42 (w : rd_W) (S : rd_S) : Option (rd_S) :=
  some S
theorem yb_X8_takeShortText_42 (cx : rd_Cx) (w : rd_W) (S : rd_S) : rd_Y cx G_X8_takeShortText (fun r => rd_P cx G_X8_takeShortText.2.2.2.2.2 0 w (rd_rV w r)) (B_X8_takeShortText_42 w S) 42 [] [] w S 0 0 := by
  unfold B_X8_takeShortText_42
  exact ry_vret dX8_takeShortText_42 rfl (Nat.le_of_ble_eq_true rfl) (Nat.le_of_ble_eq_true rfl)
def F_X8_takeShortText (w : rd_W) (a0 : Nat) (a1 : Nat) (x2 : Int32) (S : rd_S) : Option (rd_S) :=
  rd_b (F_X3_knows w a1 3 S) fun v2 s1 =>
  if v2 = 0 then
  (B_X8_takeShortText_42 w s1)
  else
  (rd_c (gR s1 a0 2) fun b4 =>
  rd_b (F_X11_field w x2 4 1 s1) fun v6 s5 =>
  rd_c (F_X1_turn w b4 (2 + v6) s5) fun s7 =>
  rd_c (gR s7 a0 2) fun b8 =>
  rd_b (F_X11_field w x2 0 4 s7) fun v10 s9 =>
  rd_b (F_X3_what w a1 3 s9) fun v12 s11 =>
  rd_c (F_X1_take w b8 v10 2 v12 s11) fun s13 =>
  B_X8_takeShortText_42 w s13)
theorem ym_X8_takeShortText (cx : rd_Cx) (w : rd_W) (a0 : Nat) (a1 : Nat) (x2 : Int32) (ha0 : rd_ok w a0 8) (ha1 : rd_ok w a1 3) (S : rd_S) : rd_Y cx G_X8_takeShortText (fun r => rd_P cx G_X8_takeShortText.2.2.2.2.2 0 w (rd_rV w r)) (F_X8_takeShortText w a0 a1 x2 S) 0 (rd_as 0 [.inr (some a0), .inr (some a1), .inl x2]) [] w S 0 0 := by
  unfold F_X8_takeShortText
  refine ry_aload_n dX8_takeShortText_0 rfl ?_
  refine ry_iconst (v := 3) dX8_takeShortText_1 (by decide) ?_
  refine ry_callI (fun l r9 h9 => cm_X3_knows l cx w a1 3 ha1 S r9 h9) (rd_runV (vs := [.inl 3]) dX8_takeShortText_2 ha1 rfl rfl yf_X3_knows mi_X3_knows ms_X3_knows ml_RX8_89 ⟨Nat.le_of_ble_eq_true rfl, Nat.le_of_ble_eq_true rfl⟩ (Nat.le_of_ble_eq_true rfl) rfl) rfl rfl (Nat.le_of_ble_eq_true rfl) (Nat.le_of_ble_eq_true rfl) (fun v2 s1 => ?_)
  refine ry_if_eq 42 dX8_takeShortText_5 (by decide) (fun c3 => ?_) (fun c3 => ?_)
  · exact ry_to (yb_X8_takeShortText_42 cx w s1) trivial
  · refine ry_aload_n dX8_takeShortText_8 rfl ?_
    refine ry_getr dX8_takeShortText_9 ha0 fl_RX8_24 rfl (fun b4 hb4 => ?_)
    refine ry_iconst (v := 2) dX8_takeShortText_12 (by decide) ?_
    refine ry_iload_n dX8_takeShortText_13 rfl ?_
    refine ry_iconst (v := 4) dX8_takeShortText_14 (by decide) ?_
    refine ry_iconst (v := 1) dX8_takeShortText_15 (by decide) ?_
    refine ry_callI (fun l r9 h9 => cm_X11_field l cx w x2 4 1 s1 r9 h9) (rd_runSN (vs := [.inl x2, .inl 4, .inl 1]) dX8_takeShortText_16 yf_X11_field mt_X11_field mn_RX8_97 ⟨Nat.le_of_ble_eq_true rfl, Nat.le_of_ble_eq_true rfl⟩ (Nat.le_of_ble_eq_true rfl) rfl) rfl rfl (Nat.le_of_ble_eq_true rfl) (Nat.le_of_ble_eq_true rfl) (fun v6 s5 => ?_)
    refine ry_iadd dX8_takeShortText_19 ?_
    refine ry_callv (fun l r9 h9 => cm_X1_turn l cx w b4 (2 + v6) hb4 s5 r9 h9) (rd_runV (vs := [.inl (2 + v6)]) dX8_takeShortText_20 hb4 rfl rfl yf_X1_turn mi_X1_turn ms_X1_turn ml_RX8_155 ⟨Nat.le_of_ble_eq_true rfl, Nat.le_of_ble_eq_true rfl⟩ (Nat.le_of_ble_eq_true rfl) rfl) rfl rfl (Nat.le_of_ble_eq_true rfl) (Nat.le_of_ble_eq_true rfl) (fun s7 => ?_)
    refine ry_aload_n dX8_takeShortText_23 rfl ?_
    refine ry_getr dX8_takeShortText_24 ha0 fl_RX8_24 rfl (fun b8 hb8 => ?_)
    refine ry_iload_n dX8_takeShortText_27 rfl ?_
    refine ry_iconst (v := 0) dX8_takeShortText_28 (by decide) ?_
    refine ry_iconst (v := 4) dX8_takeShortText_29 (by decide) ?_
    refine ry_callI (fun l r9 h9 => cm_X11_field l cx w x2 0 4 s7 r9 h9) (rd_runSN (vs := [.inl x2, .inl 0, .inl 4]) dX8_takeShortText_30 yf_X11_field mt_X11_field mn_RX8_97 ⟨Nat.le_of_ble_eq_true rfl, Nat.le_of_ble_eq_true rfl⟩ (Nat.le_of_ble_eq_true rfl) rfl) rfl rfl (Nat.le_of_ble_eq_true rfl) (Nat.le_of_ble_eq_true rfl) (fun v10 s9 => ?_)
    refine ry_iconst (v := 2) dX8_takeShortText_33 (by decide) ?_
    refine ry_aload_n dX8_takeShortText_34 rfl ?_
    refine ry_iconst (v := 3) dX8_takeShortText_35 (by decide) ?_
    refine ry_callI (fun l r9 h9 => cm_X3_what l cx w a1 3 ha1 s9 r9 h9) (rd_runV (vs := [.inl 3]) dX8_takeShortText_36 ha1 rfl rfl yf_X3_what mi_X3_what ms_X3_what ml_RX8_93 ⟨Nat.le_of_ble_eq_true rfl, Nat.le_of_ble_eq_true rfl⟩ (Nat.le_of_ble_eq_true rfl) rfl) rfl rfl (Nat.le_of_ble_eq_true rfl) (Nat.le_of_ble_eq_true rfl) (fun v12 s11 => ?_)
    refine ry_callv (fun l r9 h9 => cm_X1_take l cx w b8 v10 2 v12 hb8 s11 r9 h9) (rd_runV (vs := [.inl v10, .inl 2, .inl v12]) dX8_takeShortText_39 hb8 rfl rfl yf_X1_take mi_X1_take ms_X1_take ml_RX8_149 ⟨Nat.le_of_ble_eq_true rfl, Nat.le_of_ble_eq_true rfl⟩ (Nat.le_of_ble_eq_true rfl) rfl) rfl rfl (Nat.le_of_ble_eq_true rfl) (Nat.le_of_ble_eq_true rfl) (fun s13 => ?_)
    exact ry_to (yb_X8_takeShortText_42 cx w s13) trivial
theorem cm_X8_takeShortText (l : Launch) (cx : rd_Cx) (w : rd_W) (a0 : Nat) (a1 : Nat) (x2 : Int32) (ha0 : rd_ok w a0 8) (ha1 : rd_ok w a1 3) (S : rd_S) (r : rd_S) (h : F_X8_takeShortText w a0 a1 x2 S = some r) : rd_M l cx yX8_takeShortText G_X8_takeShortText 0 [.inr (some a0), .inr (some a1), .inl x2] w S (rd_rV w r) :=
  rd_enter (plainFor_of_name (by decide +kernel)) rfl (fun h => by cases h) (Nat.le_of_ble_eq_true rfl) (ym_X8_takeShortText cx w a0 a1 x2 ha0 ha1 S r h)
abbrev G_X4_append : rd_G := (RX4, cX4_append, 1, (some .int), false, { frames := 1, cells := 0, slots := 0, locals := 40 })
theorem yf_X4_append : rd_YL yX4_append G_X4_append 0 := ⟨rd_mem 678 (by decide +kernel) rfl, rd_mem 71 (by decide +kernel) rfl, by decide +kernel, by decide +kernel, by decide +kernel⟩
theorem mi_X4_append : Cond.instanceMethod yX4_append ∈ rd_gw := rd_mem 677 (by decide +kernel) rfl
theorem ms_X4_append : Cond.selects (MethodName.cls yX4_append) yX4_append yX4_append ∈ rd_gw := rd_mem 28 (by decide +kernel) rfl
theorem dX4_append_0 : decode cX4_append 0 = .ok (.aload_n 0, 1) := by decide +kernel
theorem dX4_append_1 : decode cX4_append 1 = .ok (.getfield 21, 3) := by decide +kernel
theorem dX4_append_4 : decode cX4_append 4 = .ok (.bipush 8, 2) := by decide +kernel
theorem dX4_append_6 : decode cX4_append 6 = .ok (.if_icmp .lt 51, 3) := by decide +kernel
theorem dX4_append_9 : decode cX4_append 9 = .ok (.aload_n 0, 1) := by decide +kernel
theorem dX4_append_10 : decode cX4_append 10 = .ok (.getfield 11, 3) := by decide +kernel
theorem dX4_append_13 : decode cX4_append 13 = .ok (.iconst 1, 1) := by decide +kernel
theorem dX4_append_14 : decode cX4_append 14 = .ok (.aload_n 0, 1) := by decide +kernel
theorem dX4_append_15 : decode cX4_append 15 = .ok (.getfield 11, 3) := by decide +kernel
theorem dX4_append_18 : decode cX4_append 18 = .ok (.iconst 0, 1) := by decide +kernel
theorem dX4_append_19 : decode cX4_append 19 = .ok (.bipush 7, 2) := by decide +kernel
theorem dX4_append_21 : decode cX4_append 21 = .ok (.invokestatic 33, 3) := by decide +kernel
theorem dX4_append_24 : decode cX4_append 24 = .ok (.aload_n 0, 1) := by decide +kernel
theorem dX4_append_25 : decode cX4_append 25 = .ok (.getfield 15, 3) := by decide +kernel
theorem dX4_append_28 : decode cX4_append 28 = .ok (.iconst 1, 1) := by decide +kernel
theorem dX4_append_29 : decode cX4_append 29 = .ok (.aload_n 0, 1) := by decide +kernel
theorem dX4_append_30 : decode cX4_append 30 = .ok (.getfield 15, 3) := by decide +kernel
theorem dX4_append_33 : decode cX4_append 33 = .ok (.iconst 0, 1) := by decide +kernel
theorem dX4_append_34 : decode cX4_append 34 = .ok (.bipush 7, 2) := by decide +kernel
theorem dX4_append_36 : decode cX4_append 36 = .ok (.invokestatic 33, 3) := by decide +kernel
theorem dX4_append_39 : decode cX4_append 39 = .ok (.aload_n 0, 1) := by decide +kernel
theorem dX4_append_40 : decode cX4_append 40 = .ok (.getfield 18, 3) := by decide +kernel
theorem dX4_append_43 : decode cX4_append 43 = .ok (.iconst 1, 1) := by decide +kernel
theorem dX4_append_44 : decode cX4_append 44 = .ok (.aload_n 0, 1) := by decide +kernel
theorem dX4_append_45 : decode cX4_append 45 = .ok (.getfield 18, 3) := by decide +kernel
theorem dX4_append_48 : decode cX4_append 48 = .ok (.iconst 0, 1) := by decide +kernel
theorem dX4_append_49 : decode cX4_append 49 = .ok (.bipush 7, 2) := by decide +kernel
theorem dX4_append_51 : decode cX4_append 51 = .ok (.invokestatic 33, 3) := by decide +kernel
theorem dX4_append_54 : decode cX4_append 54 = .ok (.bipush 7, 2) := by decide +kernel
theorem dX4_append_56 : decode cX4_append 56 = .ok (.ireturn, 1) := by decide +kernel
theorem dX4_append_57 : decode cX4_append 57 = .ok (.aload_n 0, 1) := by decide +kernel
theorem dX4_append_58 : decode cX4_append 58 = .ok (.dup, 1) := by decide +kernel
theorem dX4_append_59 : decode cX4_append 59 = .ok (.getfield 21, 3) := by decide +kernel
theorem dX4_append_62 : decode cX4_append 62 = .ok (.iconst 1, 1) := by decide +kernel
theorem dX4_append_63 : decode cX4_append 63 = .ok (.iadd, 1) := by decide +kernel
theorem dX4_append_64 : decode cX4_append 64 = .ok (.putfield 21, 3) := by decide +kernel
theorem dX4_append_67 : decode cX4_append 67 = .ok (.aload_n 0, 1) := by decide +kernel
theorem dX4_append_68 : decode cX4_append 68 = .ok (.getfield 21, 3) := by decide +kernel
theorem dX4_append_71 : decode cX4_append 71 = .ok (.iconst 1, 1) := by decide +kernel
theorem dX4_append_72 : decode cX4_append 72 = .ok (.isub, 1) := by decide +kernel
theorem dX4_append_73 : decode cX4_append 73 = .ok (.ireturn, 1) := by decide +kernel
def F_X4_append (w : rd_W) (a0 : Nat) (S : rd_S) : Option (Int32 × rd_S) :=
  if (gI S a0 3) < 8 then
  (rd_let (pI S a0 3 ((gI S a0 3) + 1)) fun s2 =>
  some ((gI s2 a0 3) - 1, s2))
  else
  (rd_c (gR S a0 0) fun b3 =>
  rd_c (gR S a0 0) fun b4 =>
  rd_cp 1 0 7 (w.2.2 b3) (w.2.2 b4) <|
  rd_let (rd_cpy S b3 b4 1 0 7) fun s5 =>
  rd_c (gR s5 a0 1) fun b6 =>
  rd_c (gR s5 a0 1) fun b7 =>
  rd_cp 1 0 7 (w.2.2 b6) (w.2.2 b7) <|
  rd_let (rd_cpy s5 b6 b7 1 0 7) fun s8 =>
  rd_c (gR s8 a0 2) fun b9 =>
  rd_c (gR s8 a0 2) fun b10 =>
  rd_cp 1 0 7 (w.2.2 b9) (w.2.2 b10) <|
  rd_let (rd_cpy s8 b9 b10 1 0 7) fun s11 =>
  some (7, s11))
theorem ym_X4_append (cx : rd_Cx) (w : rd_W) (a0 : Nat) (ha0 : rd_ok w a0 4) (S : rd_S) : rd_Y cx G_X4_append (fun r => rd_P cx G_X4_append.2.2.2.2.2 0 w (rd_rI w r)) (F_X4_append w a0 S) 0 (rd_as 0 [.inr (some a0)]) [] w S 0 0 := by
  unfold F_X4_append
  refine ry_aload_n dX4_append_0 rfl ?_
  refine ry_geti dX4_append_1 ha0 fl_RX4_21 rfl ?_
  refine ry_bipush (v := 8) dX4_append_4 (by decide) ?_
  refine ry_icmp_lt 57 dX4_append_6 (by decide) (fun c1 => ?_) (fun c1 => ?_)
  · refine ry_aload_n dX4_append_57 rfl ?_
    refine ry_dup dX4_append_58 ?_
    refine ry_geti dX4_append_59 ha0 fl_RX4_21 rfl ?_
    refine ry_iconst (v := 1) dX4_append_62 (by decide) ?_
    refine ry_iadd dX4_append_63 ?_
    refine ry_puti dX4_append_64 ha0 fl_RX4_21 rfl rfl rfl ?_
    refine ry_letS (fun s2 => ?_)
    refine ry_aload_n dX4_append_67 rfl ?_
    refine ry_geti dX4_append_68 ha0 fl_RX4_21 rfl ?_
    refine ry_iconst (v := 1) dX4_append_71 (by decide) ?_
    refine ry_isub dX4_append_72 ?_
    exact ry_iret dX4_append_73 rfl (Nat.le_of_ble_eq_true rfl) (Nat.le_of_ble_eq_true rfl)
  · refine ry_aload_n dX4_append_9 rfl ?_
    refine ry_getr dX4_append_10 ha0 fl_RX4_11 rfl (fun b3 hb3 => ?_)
    refine ry_iconst (v := 1) dX4_append_13 (by decide) ?_
    refine ry_aload_n dX4_append_14 rfl ?_
    refine ry_getr dX4_append_15 ha0 fl_RX4_11 rfl (fun b4 hb4 => ?_)
    refine ry_iconst (v := 0) dX4_append_18 (by decide) ?_
    refine ry_bipush (v := 7) dX4_append_19 (by decide) ?_
    refine ry_copy dX4_append_21 ml_RX4_33 ac_native ac_static ac_init hb3 hb4 (by decide) (by decide) ?_
    refine ry_letS (fun s5 => ?_)
    refine ry_aload_n dX4_append_24 rfl ?_
    refine ry_getr dX4_append_25 ha0 fl_RX4_15 rfl (fun b6 hb6 => ?_)
    refine ry_iconst (v := 1) dX4_append_28 (by decide) ?_
    refine ry_aload_n dX4_append_29 rfl ?_
    refine ry_getr dX4_append_30 ha0 fl_RX4_15 rfl (fun b7 hb7 => ?_)
    refine ry_iconst (v := 0) dX4_append_33 (by decide) ?_
    refine ry_bipush (v := 7) dX4_append_34 (by decide) ?_
    refine ry_copy dX4_append_36 ml_RX4_33 ac_native ac_static ac_init hb6 hb7 (by decide) (by decide) ?_
    refine ry_letS (fun s8 => ?_)
    refine ry_aload_n dX4_append_39 rfl ?_
    refine ry_getr dX4_append_40 ha0 fl_RX4_18 rfl (fun b9 hb9 => ?_)
    refine ry_iconst (v := 1) dX4_append_43 (by decide) ?_
    refine ry_aload_n dX4_append_44 rfl ?_
    refine ry_getr dX4_append_45 ha0 fl_RX4_18 rfl (fun b10 hb10 => ?_)
    refine ry_iconst (v := 0) dX4_append_48 (by decide) ?_
    refine ry_bipush (v := 7) dX4_append_49 (by decide) ?_
    refine ry_copy dX4_append_51 ml_RX4_33 ac_native ac_static ac_init hb9 hb10 (by decide) (by decide) ?_
    refine ry_letS (fun s11 => ?_)
    refine ry_bipush (v := 7) dX4_append_54 (by decide) ?_
    exact ry_iret dX4_append_56 rfl (Nat.le_of_ble_eq_true rfl) (Nat.le_of_ble_eq_true rfl)
theorem cm_X4_append (l : Launch) (cx : rd_Cx) (w : rd_W) (a0 : Nat) (ha0 : rd_ok w a0 4) (S : rd_S) (r : Int32 × rd_S) (h : F_X4_append w a0 S = some r) : rd_M l cx yX4_append G_X4_append 0 [.inr (some a0)] w S (rd_rI w r) :=
  rd_enter (plainFor_of_name (by decide +kernel)) rfl (fun h => by cases h) (Nat.le_of_ble_eq_true rfl) (ym_X4_append cx w a0 ha0 S r h)
abbrev G_X4_take : rd_G := (RX4, cX4_take, 5, none, false, { frames := 2, cells := 0, slots := 0, locals := 60 })
theorem yf_X4_take : rd_YL yX4_take G_X4_take 3 := ⟨rd_mem 674 (by decide +kernel) rfl, rd_mem 71 (by decide +kernel) rfl, by decide +kernel, by decide +kernel, by decide +kernel⟩
theorem mi_X4_take : Cond.instanceMethod yX4_take ∈ rd_gw := rd_mem 672 (by decide +kernel) rfl
theorem ms_X4_take : Cond.selects (MethodName.cls yX4_take) yX4_take yX4_take ∈ rd_gw := rd_mem 673 (by decide +kernel) rfl
theorem dX4_take_0 : decode cX4_take 0 = .ok (.aload_n 0, 1) := by decide +kernel
theorem dX4_take_1 : decode cX4_take 1 = .ok (.iload_n 1, 1) := by decide +kernel
theorem dX4_take_2 : decode cX4_take 2 = .ok (.invokevirtual 25, 3) := by decide +kernel
theorem dX4_take_5 : decode cX4_take 5 = .ok (.istore 4, 2) := by decide +kernel
theorem dX4_take_7 : decode cX4_take 7 = .ok (.iload 4, 2) := by decide +kernel
theorem dX4_take_9 : decode cX4_take 9 = .ok (.iconst (-1), 1) := by decide +kernel
theorem dX4_take_10 : decode cX4_take 10 = .ok (.if_icmp .ne 9, 3) := by decide +kernel
theorem dX4_take_13 : decode cX4_take 13 = .ok (.aload_n 0, 1) := by decide +kernel
theorem dX4_take_14 : decode cX4_take 14 = .ok (.invokevirtual 29, 3) := by decide +kernel
theorem dX4_take_17 : decode cX4_take 17 = .ok (.istore 4, 2) := by decide +kernel
theorem dX4_take_19 : decode cX4_take 19 = .ok (.iload 4, 2) := by decide +kernel
theorem dX4_take_21 : decode cX4_take 21 = .ok (.ifCond .lt 34, 3) := by decide +kernel
theorem dX4_take_24 : decode cX4_take 24 = .ok (.iload 4, 2) := by decide +kernel
theorem dX4_take_26 : decode cX4_take 26 = .ok (.bipush 8, 2) := by decide +kernel
theorem dX4_take_28 : decode cX4_take 28 = .ok (.if_icmp .ge 27, 3) := by decide +kernel
theorem dX4_take_31 : decode cX4_take 31 = .ok (.aload_n 0, 1) := by decide +kernel
theorem dX4_take_32 : decode cX4_take 32 = .ok (.getfield 11, 3) := by decide +kernel
theorem dX4_take_35 : decode cX4_take 35 = .ok (.iload 4, 2) := by decide +kernel
theorem dX4_take_37 : decode cX4_take 37 = .ok (.iload_n 1, 1) := by decide +kernel
theorem dX4_take_38 : decode cX4_take 38 = .ok (.iastore, 1) := by decide +kernel
theorem dX4_take_39 : decode cX4_take 39 = .ok (.aload_n 0, 1) := by decide +kernel
theorem dX4_take_40 : decode cX4_take 40 = .ok (.getfield 15, 3) := by decide +kernel
theorem dX4_take_43 : decode cX4_take 43 = .ok (.iload 4, 2) := by decide +kernel
theorem dX4_take_45 : decode cX4_take 45 = .ok (.iload_n 2, 1) := by decide +kernel
theorem dX4_take_46 : decode cX4_take 46 = .ok (.iastore, 1) := by decide +kernel
theorem dX4_take_47 : decode cX4_take 47 = .ok (.aload_n 0, 1) := by decide +kernel
theorem dX4_take_48 : decode cX4_take 48 = .ok (.getfield 18, 3) := by decide +kernel
theorem dX4_take_51 : decode cX4_take 51 = .ok (.iload 4, 2) := by decide +kernel
theorem dX4_take_53 : decode cX4_take 53 = .ok (.iload_n 3, 1) := by decide +kernel
theorem dX4_take_54 : decode cX4_take 54 = .ok (.iastore, 1) := by decide +kernel
theorem dX4_take_55 : decode cX4_take 55 = .ok (.return_, 1) := by decide +kernel
def B_X4_take_55 (w : rd_W) (S : rd_S) : Option (rd_S) :=
  some S
theorem yb_X4_take_55 (cx : rd_Cx) (w : rd_W) (S : rd_S) : rd_Y cx G_X4_take (fun r => rd_P cx G_X4_take.2.2.2.2.2 0 w (rd_rV w r)) (B_X4_take_55 w S) 55 [] [] w S 0 0 := by
  unfold B_X4_take_55
  exact ry_vret dX4_take_55 rfl (Nat.le_of_ble_eq_true rfl) (Nat.le_of_ble_eq_true rfl)
def B_X4_take_19 (w : rd_W) (a0 : Nat) (x1 : Int32) (x2 : Int32) (x3 : Int32) (x4 : Int32) (S : rd_S) : Option (rd_S) :=
  if x4 < 0 then
  (B_X4_take_55 w S)
  else
  (if 8 ≤ x4 then
  (B_X4_take_55 w S)
  else
  (rd_c (gR S a0 0) fun b8 =>
  rd_i x4 (w.2.2 b8) <|
  rd_let (pI S b8 x4.toNatClampNeg x1) fun s9 =>
  rd_c (gR s9 a0 1) fun b10 =>
  rd_i x4 (w.2.2 b10) <|
  rd_let (pI s9 b10 x4.toNatClampNeg x2) fun s11 =>
  rd_c (gR s11 a0 2) fun b12 =>
  rd_i x4 (w.2.2 b12) <|
  rd_let (pI s11 b12 x4.toNatClampNeg x3) fun s13 =>
  B_X4_take_55 w s13))
theorem yb_X4_take_19 (cx : rd_Cx) (w : rd_W) (a0 : Nat) (x1 : Int32) (x2 : Int32) (x3 : Int32) (x4 : Int32) (ha0 : rd_ok w a0 4) (S : rd_S) : rd_Y cx G_X4_take (fun r => rd_P cx G_X4_take.2.2.2.2.2 0 w (rd_rV w r)) (B_X4_take_19 w a0 x1 x2 x3 x4 S) 19 [(0, .inr (some a0)), (1, .inl x1), (2, .inl x2), (3, .inl x3), (4, .inl x4)] [] w S 0 0 := by
  unfold B_X4_take_19
  refine ry_iload dX4_take_19 rfl ?_
  refine ry_if_lt 55 dX4_take_21 (by decide) (fun c6 => ?_) (fun c6 => ?_)
  · exact ry_to (yb_X4_take_55 cx w S) trivial
  · refine ry_iload dX4_take_24 rfl ?_
    refine ry_bipush (v := 8) dX4_take_26 (by decide) ?_
    refine ry_icmp_ge 55 dX4_take_28 (by decide) (fun c7 => ?_) (fun c7 => ?_)
    · exact ry_to (yb_X4_take_55 cx w S) trivial
    · refine ry_aload_n dX4_take_31 rfl ?_
      refine ry_getr dX4_take_32 ha0 fl_RX4_11 rfl (fun b8 hb8 => ?_)
      refine ry_iload dX4_take_35 rfl ?_
      refine ry_iload_n dX4_take_37 rfl ?_
      refine ry_iast dX4_take_38 hb8 ?_
      refine ry_letS (fun s9 => ?_)
      refine ry_aload_n dX4_take_39 rfl ?_
      refine ry_getr dX4_take_40 ha0 fl_RX4_15 rfl (fun b10 hb10 => ?_)
      refine ry_iload dX4_take_43 rfl ?_
      refine ry_iload_n dX4_take_45 rfl ?_
      refine ry_iast dX4_take_46 hb10 ?_
      refine ry_letS (fun s11 => ?_)
      refine ry_aload_n dX4_take_47 rfl ?_
      refine ry_getr dX4_take_48 ha0 fl_RX4_18 rfl (fun b12 hb12 => ?_)
      refine ry_iload dX4_take_51 rfl ?_
      refine ry_iload_n dX4_take_53 rfl ?_
      refine ry_iast dX4_take_54 hb12 ?_
      refine ry_letS (fun s13 => ?_)
      exact ry_to (yb_X4_take_55 cx w s13) trivial
def F_X4_take (w : rd_W) (a0 : Nat) (x1 : Int32) (x2 : Int32) (x3 : Int32) (S : rd_S) : Option (rd_S) :=
  rd_b (F_X4_indexOf w a0 x1 S) fun v2 s1 =>
  if v2 = (-1) then
  (rd_b (F_X4_append w a0 s1) fun v5 s4 =>
  B_X4_take_19 w a0 x1 x2 x3 v5 s4)
  else
  (B_X4_take_19 w a0 x1 x2 x3 v2 s1)
theorem ym_X4_take (cx : rd_Cx) (w : rd_W) (a0 : Nat) (x1 : Int32) (x2 : Int32) (x3 : Int32) (ha0 : rd_ok w a0 4) (S : rd_S) : rd_Y cx G_X4_take (fun r => rd_P cx G_X4_take.2.2.2.2.2 0 w (rd_rV w r)) (F_X4_take w a0 x1 x2 x3 S) 0 (rd_as 0 [.inr (some a0), .inl x1, .inl x2, .inl x3]) [] w S 0 0 := by
  unfold F_X4_take
  refine ry_aload_n dX4_take_0 rfl ?_
  refine ry_iload_n dX4_take_1 rfl ?_
  refine ry_callI (fun l r9 h9 => cm_X4_indexOf l cx w a0 x1 ha0 S r9 h9) (rd_runV (vs := [.inl x1]) dX4_take_2 ha0 rfl rfl yf_X4_indexOf mi_X4_indexOf ms_X4_indexOf ml_RX4_25 ⟨Nat.le_of_ble_eq_true rfl, Nat.le_of_ble_eq_true rfl⟩ (Nat.le_of_ble_eq_true rfl) rfl) rfl rfl (Nat.le_of_ble_eq_true rfl) (Nat.le_of_ble_eq_true rfl) (fun v2 s1 => ?_)
  refine ry_istore dX4_take_5 (by decide) ?_
  refine ry_iload dX4_take_7 rfl ?_
  refine ry_iconst (v := (-1)) dX4_take_9 (by decide) ?_
  refine ry_icmp_ne 19 dX4_take_10 (by decide) (fun c3 => ?_) (fun c3 => ?_)
  · refine ry_aload_n dX4_take_13 rfl ?_
    refine ry_callI (fun l r9 h9 => cm_X4_append l cx w a0 ha0 s1 r9 h9) (rd_runV (vs := []) dX4_take_14 ha0 rfl rfl yf_X4_append mi_X4_append ms_X4_append ml_RX4_29 ⟨Nat.le_of_ble_eq_true rfl, Nat.le_of_ble_eq_true rfl⟩ (Nat.le_of_ble_eq_true rfl) rfl) rfl rfl (Nat.le_of_ble_eq_true rfl) (Nat.le_of_ble_eq_true rfl) (fun v5 s4 => ?_)
    refine ry_istore dX4_take_17 (by decide) ?_
    exact ry_to (yb_X4_take_19 cx w a0 x1 x2 x3 v5 ha0 s4) ⟨rfl, rfl, rfl, rfl, rfl, trivial⟩
  · exact ry_to (yb_X4_take_19 cx w a0 x1 x2 x3 v2 ha0 s1) ⟨rfl, rfl, rfl, rfl, rfl, trivial⟩
theorem cm_X4_take (l : Launch) (cx : rd_Cx) (w : rd_W) (a0 : Nat) (x1 : Int32) (x2 : Int32) (x3 : Int32) (ha0 : rd_ok w a0 4) (S : rd_S) (r : rd_S) (h : F_X4_take w a0 x1 x2 x3 S = some r) : rd_M l cx yX4_take G_X4_take 0 [.inr (some a0), .inl x1, .inl x2, .inl x3] w S (rd_rV w r) :=
  rd_enter (plainFor_of_name (by decide +kernel)) rfl (fun h => by cases h) (Nat.le_of_ble_eq_true rfl) (ym_X4_take cx w a0 x1 x2 x3 ha0 S r h)
