abbrev G_X12_oda : rd_G := (RX12, cX12_oda, 3, (some .int), false, { frames := 0, cells := 0, slots := 0, locals := 0 })
theorem yf_X12_oda : rd_YL yX12_oda G_X12_oda 2 := ⟨rd_mem 1199 (by decide +kernel) rfl, rd_mem 75 (by decide +kernel) rfl, by decide +kernel, by decide +kernel, by decide +kernel⟩
theorem mi_X12_oda : Cond.instanceMethod yX12_oda ∈ rd_gw := rd_mem 1197 (by decide +kernel) rfl
theorem ms_X12_oda : Cond.selects (MethodName.cls yX12_oda) yX12_oda yX12_oda ∈ rd_gw := rd_mem 1198 (by decide +kernel) rfl
theorem dX12_oda_0 : decode cX12_oda 0 = .ok (.aload_n 0, 1) := by decide +kernel
theorem dX12_oda_1 : decode cX12_oda 1 = .ok (.iconst 0, 1) := by decide +kernel
theorem dX12_oda_2 : decode cX12_oda 2 = .ok (.putfield 1, 3) := by decide +kernel
theorem dX12_oda_5 : decode cX12_oda 5 = .ok (.iload_n 1, 1) := by decide +kernel
theorem dX12_oda_6 : decode cX12_oda 6 = .ok (.ifCond .lt 11, 3) := by decide +kernel
theorem dX12_oda_9 : decode cX12_oda 9 = .ok (.iload_n 1, 1) := by decide +kernel
theorem dX12_oda_10 : decode cX12_oda 10 = .ok (.aload_n 0, 1) := by decide +kernel
theorem dX12_oda_11 : decode cX12_oda 11 = .ok (.getfield 230, 3) := by decide +kernel
theorem dX12_oda_14 : decode cX12_oda 14 = .ok (.if_icmp .lt 5, 3) := by decide +kernel
theorem dX12_oda_17 : decode cX12_oda 17 = .ok (.iconst (-1), 1) := by decide +kernel
theorem dX12_oda_18 : decode cX12_oda 18 = .ok (.ireturn, 1) := by decide +kernel
theorem dX12_oda_19 : decode cX12_oda 19 = .ok (.iload_n 2, 1) := by decide +kernel
theorem dX12_oda_20 : decode cX12_oda 20 = .ok (.ifCond .ne 12, 3) := by decide +kernel
theorem dX12_oda_23 : decode cX12_oda 23 = .ok (.aload_n 0, 1) := by decide +kernel
theorem dX12_oda_24 : decode cX12_oda 24 = .ok (.getfield 233, 3) := by decide +kernel
theorem dX12_oda_27 : decode cX12_oda 27 = .ok (.iload_n 1, 1) := by decide +kernel
theorem dX12_oda_28 : decode cX12_oda 28 = .ok (.iaload, 1) := by decide +kernel
theorem dX12_oda_29 : decode cX12_oda 29 = .ok (.goto 32, 3) := by decide +kernel
theorem dX12_oda_32 : decode cX12_oda 32 = .ok (.iload_n 2, 1) := by decide +kernel
theorem dX12_oda_33 : decode cX12_oda 33 = .ok (.iconst 1, 1) := by decide +kernel
theorem dX12_oda_34 : decode cX12_oda 34 = .ok (.if_icmp .ne 12, 3) := by decide +kernel
theorem dX12_oda_37 : decode cX12_oda 37 = .ok (.aload_n 0, 1) := by decide +kernel
theorem dX12_oda_38 : decode cX12_oda 38 = .ok (.getfield 236, 3) := by decide +kernel
theorem dX12_oda_41 : decode cX12_oda 41 = .ok (.iload_n 1, 1) := by decide +kernel
theorem dX12_oda_42 : decode cX12_oda 42 = .ok (.iaload, 1) := by decide +kernel
theorem dX12_oda_43 : decode cX12_oda 43 = .ok (.goto 18, 3) := by decide +kernel
theorem dX12_oda_46 : decode cX12_oda 46 = .ok (.iload_n 2, 1) := by decide +kernel
theorem dX12_oda_47 : decode cX12_oda 47 = .ok (.iconst 2, 1) := by decide +kernel
theorem dX12_oda_48 : decode cX12_oda 48 = .ok (.if_icmp .ne 12, 3) := by decide +kernel
theorem dX12_oda_51 : decode cX12_oda 51 = .ok (.aload_n 0, 1) := by decide +kernel
theorem dX12_oda_52 : decode cX12_oda 52 = .ok (.getfield 239, 3) := by decide +kernel
theorem dX12_oda_55 : decode cX12_oda 55 = .ok (.iload_n 1, 1) := by decide +kernel
theorem dX12_oda_56 : decode cX12_oda 56 = .ok (.iaload, 1) := by decide +kernel
theorem dX12_oda_57 : decode cX12_oda 57 = .ok (.goto 4, 3) := by decide +kernel
theorem dX12_oda_60 : decode cX12_oda 60 = .ok (.iconst (-1), 1) := by decide +kernel
theorem dX12_oda_61 : decode cX12_oda 61 = .ok (.ireturn, 1) := by decide +kernel
def B_X12_oda_17 (w : rd_W) (S : rd_S) : Option (Int32 × rd_S) :=
  some ((-1), S)
theorem yb_X12_oda_17 (cx : rd_Cx) (w : rd_W) (S : rd_S) : rd_Y cx G_X12_oda (fun r => rd_P cx G_X12_oda.2.2.2.2.2 0 w (rd_rI w r)) (B_X12_oda_17 w S) 17 [] [] w S 0 0 := by
  unfold B_X12_oda_17
  refine ry_iconst (v := (-1)) dX12_oda_17 (by decide) ?_
  exact ry_iret dX12_oda_18 rfl (Nat.le_of_ble_eq_true rfl) (Nat.le_of_ble_eq_true rfl)
def B_X12_oda_61 (w : rd_W) (t0 : Int32) (S : rd_S) : Option (Int32 × rd_S) :=
  some (t0, S)
theorem yb_X12_oda_61 (cx : rd_Cx) (w : rd_W) (t0 : Int32) (S : rd_S) : rd_Y cx G_X12_oda (fun r => rd_P cx G_X12_oda.2.2.2.2.2 0 w (rd_rI w r)) (B_X12_oda_61 w t0 S) 61 [] [.inl t0] w S 0 0 := by
  unfold B_X12_oda_61
  exact ry_iret dX12_oda_61 rfl (Nat.le_of_ble_eq_true rfl) (Nat.le_of_ble_eq_true rfl)
def F_X12_oda (w : rd_W) (a0 : Nat) (x1 : Int32) (x2 : Int32) (S : rd_S) : Option (Int32 × rd_S) :=
  rd_let (pI S a0 0 0) fun s1 =>
  if x1 < 0 then
  (B_X12_oda_17 w s1)
  else
  (if x1 < (gI s1 a0 43) then
  (if x2 = 0 then
  (rd_c (gR s1 a0 40) fun b5 =>
  rd_i x1 (w.2.2 b5) <|
  B_X12_oda_61 w (gI s1 b5 x1.toNatClampNeg) s1)
  else
  (if x2 = 1 then
  (rd_c (gR s1 a0 41) fun b7 =>
  rd_i x1 (w.2.2 b7) <|
  B_X12_oda_61 w (gI s1 b7 x1.toNatClampNeg) s1)
  else
  (if x2 = 2 then
  (rd_c (gR s1 a0 42) fun b9 =>
  rd_i x1 (w.2.2 b9) <|
  B_X12_oda_61 w (gI s1 b9 x1.toNatClampNeg) s1)
  else
  (B_X12_oda_61 w (-1) s1))))
  else
  (B_X12_oda_17 w s1))
theorem ym_X12_oda (cx : rd_Cx) (w : rd_W) (a0 : Nat) (x1 : Int32) (x2 : Int32) (ha0 : rd_ok w a0 12) (S : rd_S) : rd_Y cx G_X12_oda (fun r => rd_P cx G_X12_oda.2.2.2.2.2 0 w (rd_rI w r)) (F_X12_oda w a0 x1 x2 S) 0 (rd_as 0 [.inr (some a0), .inl x1, .inl x2]) [] w S 0 0 := by
  unfold F_X12_oda
  refine ry_aload_n dX12_oda_0 rfl ?_
  refine ry_iconst (v := 0) dX12_oda_1 (by decide) ?_
  refine ry_puti dX12_oda_2 ha0 fl_RX12_1 rfl rfl rfl ?_
  refine ry_letS (fun s1 => ?_)
  refine ry_iload_n dX12_oda_5 rfl ?_
  refine ry_if_lt 17 dX12_oda_6 (by decide) (fun c2 => ?_) (fun c2 => ?_)
  · exact ry_to (yb_X12_oda_17 cx w s1) trivial
  · refine ry_iload_n dX12_oda_9 rfl ?_
    refine ry_aload_n dX12_oda_10 rfl ?_
    refine ry_geti dX12_oda_11 ha0 fl_RX12_230 rfl ?_
    refine ry_icmp_lt 19 dX12_oda_14 (by decide) (fun c3 => ?_) (fun c3 => ?_)
    · refine ry_iload_n dX12_oda_19 rfl ?_
      refine ry_if_ne 32 dX12_oda_20 (by decide) (fun c4 => ?_) (fun c4 => ?_)
      · refine ry_aload_n dX12_oda_23 rfl ?_
        refine ry_getr dX12_oda_24 ha0 fl_RX12_233 rfl (fun b5 hb5 => ?_)
        refine ry_iload_n dX12_oda_27 rfl ?_
        refine ry_iald dX12_oda_28 hb5 ?_
        refine ry_goto 61 dX12_oda_29 (by decide) ?_
        exact ry_to (yb_X12_oda_61 cx w (gI s1 b5 x1.toNatClampNeg) s1) trivial
      · refine ry_iload_n dX12_oda_32 rfl ?_
        refine ry_iconst (v := 1) dX12_oda_33 (by decide) ?_
        refine ry_icmp_ne 46 dX12_oda_34 (by decide) (fun c6 => ?_) (fun c6 => ?_)
        · refine ry_aload_n dX12_oda_37 rfl ?_
          refine ry_getr dX12_oda_38 ha0 fl_RX12_236 rfl (fun b7 hb7 => ?_)
          refine ry_iload_n dX12_oda_41 rfl ?_
          refine ry_iald dX12_oda_42 hb7 ?_
          refine ry_goto 61 dX12_oda_43 (by decide) ?_
          exact ry_to (yb_X12_oda_61 cx w (gI s1 b7 x1.toNatClampNeg) s1) trivial
        · refine ry_iload_n dX12_oda_46 rfl ?_
          refine ry_iconst (v := 2) dX12_oda_47 (by decide) ?_
          refine ry_icmp_ne 60 dX12_oda_48 (by decide) (fun c8 => ?_) (fun c8 => ?_)
          · refine ry_aload_n dX12_oda_51 rfl ?_
            refine ry_getr dX12_oda_52 ha0 fl_RX12_239 rfl (fun b9 hb9 => ?_)
            refine ry_iload_n dX12_oda_55 rfl ?_
            refine ry_iald dX12_oda_56 hb9 ?_
            refine ry_goto 61 dX12_oda_57 (by decide) ?_
            exact ry_to (yb_X12_oda_61 cx w (gI s1 b9 x1.toNatClampNeg) s1) trivial
          · refine ry_iconst (v := (-1)) dX12_oda_60 (by decide) ?_
            exact ry_to (yb_X12_oda_61 cx w (-1) s1) trivial
    · exact ry_to (yb_X12_oda_17 cx w s1) trivial
theorem cm_X12_oda (l : Launch) (cx : rd_Cx) (w : rd_W) (a0 : Nat) (x1 : Int32) (x2 : Int32) (ha0 : rd_ok w a0 12) (S : rd_S) (r : Int32 × rd_S) (h : F_X12_oda w a0 x1 x2 S = some r) : rd_M l cx yX12_oda G_X12_oda 0 [.inr (some a0), .inl x1, .inl x2] w S (rd_rI w r) :=
  rd_enter (plainFor_of_name (by decide +kernel)) rfl (fun h => by cases h) (Nat.le_of_ble_eq_true rfl) (ym_X12_oda cx w a0 x1 x2 ha0 S r h)
abbrev G_X11_tag : rd_G := (RX11, cX11_tag, 2, (some .int), false, { frames := 1, cells := 0, slots := 0, locals := 21 })
theorem yf_X11_tag : rd_YL yX11_tag G_X11_tag 1 := ⟨rd_mem 838 (by decide +kernel) rfl, rd_mem 62 (by decide +kernel) rfl, by decide +kernel, by decide +kernel, by decide +kernel⟩
theorem mi_X11_tag : Cond.instanceMethod yX11_tag ∈ rd_gw := rd_mem 836 (by decide +kernel) rfl
theorem ms_X11_tag : Cond.selects (MethodName.cls yX11_tag) yX11_tag yX11_tag ∈ rd_gw := rd_mem 837 (by decide +kernel) rfl
theorem dX11_tag_0 : decode cX11_tag 0 = .ok (.aload_n 0, 1) := by decide +kernel
theorem dX11_tag_1 : decode cX11_tag 1 = .ok (.getfield 26, 3) := by decide +kernel
theorem dX11_tag_4 : decode cX11_tag 4 = .ok (.getfield 107, 3) := by decide +kernel
theorem dX11_tag_7 : decode cX11_tag 7 = .ok (.getfield 137, 3) := by decide +kernel
theorem dX11_tag_10 : decode cX11_tag 10 = .ok (.iload_n 1, 1) := by decide +kernel
theorem dX11_tag_11 : decode cX11_tag 11 = .ok (.invokestatic 74, 3) := by decide +kernel
theorem dX11_tag_14 : decode cX11_tag 14 = .ok (.ireturn, 1) := by decide +kernel
def F_X11_tag (w : rd_W) (a0 : Nat) (x1 : Int32) (S : rd_S) : Option (Int32 × rd_S) :=
  rd_c (gR S a0 2) fun b1 =>
  rd_c (gR S b1 8) fun b2 =>
  rd_c (gR S b2 0) fun b3 =>
  rd_b (F_X11_at w b3 x1 S) fun v5 s4 =>
  some (v5, s4)
theorem ym_X11_tag (cx : rd_Cx) (w : rd_W) (a0 : Nat) (x1 : Int32) (ha0 : rd_ok w a0 11) (S : rd_S) : rd_Y cx G_X11_tag (fun r => rd_P cx G_X11_tag.2.2.2.2.2 0 w (rd_rI w r)) (F_X11_tag w a0 x1 S) 0 (rd_as 0 [.inr (some a0), .inl x1]) [] w S 0 0 := by
  unfold F_X11_tag
  refine ry_aload_n dX11_tag_0 rfl ?_
  refine ry_getr dX11_tag_1 ha0 fl_RX11_26 rfl (fun b1 hb1 => ?_)
  refine ry_getr dX11_tag_4 hb1 fl_RX11_107 rfl (fun b2 hb2 => ?_)
  refine ry_getr dX11_tag_7 hb2 fl_RX11_137 rfl (fun b3 hb3 => ?_)
  refine ry_iload_n dX11_tag_10 rfl ?_
  refine ry_callI (fun l r9 h9 => cm_X11_at l cx w b3 x1 hb3 S r9 h9) (rd_runS (vs := [.inr (some b3), .inl x1]) dX11_tag_11 yf_X11_at mt_X11_at ml_RX11_74 ⟨Nat.le_of_ble_eq_true rfl, Nat.le_of_ble_eq_true rfl⟩ (Nat.le_of_ble_eq_true rfl) rfl) rfl rfl (Nat.le_of_ble_eq_true rfl) (Nat.le_of_ble_eq_true rfl) (fun v5 s4 => ?_)
  exact ry_iret dX11_tag_14 rfl (Nat.le_of_ble_eq_true rfl) (Nat.le_of_ble_eq_true rfl)
theorem cm_X11_tag (l : Launch) (cx : rd_Cx) (w : rd_W) (a0 : Nat) (x1 : Int32) (ha0 : rd_ok w a0 11) (S : rd_S) (r : Int32 × rd_S) (h : F_X11_tag w a0 x1 S = some r) : rd_M l cx yX11_tag G_X11_tag 0 [.inr (some a0), .inl x1] w S (rd_rI w r) :=
  rd_enter (plainFor_of_name (by decide +kernel)) rfl (fun h => by cases h) (Nat.le_of_ble_eq_true rfl) (ym_X11_tag cx w a0 x1 ha0 S r h)
abbrev G_X12_tag : rd_G := (RX12, cX12_tag, 2, (some .int), false, { frames := 0, cells := 0, slots := 0, locals := 0 })
theorem yf_X12_tag : rd_YL yX12_tag G_X12_tag 1 := ⟨rd_mem 1203 (by decide +kernel) rfl, rd_mem 75 (by decide +kernel) rfl, by decide +kernel, by decide +kernel, by decide +kernel⟩
theorem mi_X12_tag : Cond.instanceMethod yX12_tag ∈ rd_gw := rd_mem 1201 (by decide +kernel) rfl
theorem ms_X12_tag : Cond.selects (MethodName.cls yX12_tag) yX12_tag yX12_tag ∈ rd_gw := rd_mem 1202 (by decide +kernel) rfl
theorem dX12_tag_0 : decode cX12_tag 0 = .ok (.aload_n 0, 1) := by decide +kernel
theorem dX12_tag_1 : decode cX12_tag 1 = .ok (.iconst 0, 1) := by decide +kernel
theorem dX12_tag_2 : decode cX12_tag 2 = .ok (.putfield 1, 3) := by decide +kernel
theorem dX12_tag_5 : decode cX12_tag 5 = .ok (.aload_n 0, 1) := by decide +kernel
theorem dX12_tag_6 : decode cX12_tag 6 = .ok (.getfield 245, 3) := by decide +kernel
theorem dX12_tag_9 : decode cX12_tag 9 = .ok (.ifCond .eq 22, 3) := by decide +kernel
theorem dX12_tag_12 : decode cX12_tag 12 = .ok (.iload_n 1, 1) := by decide +kernel
theorem dX12_tag_13 : decode cX12_tag 13 = .ok (.ifCond .lt 18, 3) := by decide +kernel
theorem dX12_tag_16 : decode cX12_tag 16 = .ok (.iload_n 1, 1) := by decide +kernel
theorem dX12_tag_17 : decode cX12_tag 17 = .ok (.bipush 8, 2) := by decide +kernel
theorem dX12_tag_19 : decode cX12_tag 19 = .ok (.if_icmp .ge 12, 3) := by decide +kernel
theorem dX12_tag_22 : decode cX12_tag 22 = .ok (.aload_n 0, 1) := by decide +kernel
theorem dX12_tag_23 : decode cX12_tag 23 = .ok (.getfield 242, 3) := by decide +kernel
theorem dX12_tag_26 : decode cX12_tag 26 = .ok (.iload_n 1, 1) := by decide +kernel
theorem dX12_tag_27 : decode cX12_tag 27 = .ok (.iaload, 1) := by decide +kernel
theorem dX12_tag_28 : decode cX12_tag 28 = .ok (.goto 4, 3) := by decide +kernel
theorem dX12_tag_31 : decode cX12_tag 31 = .ok (.iconst (-1), 1) := by decide +kernel
theorem dX12_tag_32 : decode cX12_tag 32 = .ok (.ireturn, 1) := by decide +kernel
def B_X12_tag_32 (w : rd_W) (t0 : Int32) (S : rd_S) : Option (Int32 × rd_S) :=
  some (t0, S)
theorem yb_X12_tag_32 (cx : rd_Cx) (w : rd_W) (t0 : Int32) (S : rd_S) : rd_Y cx G_X12_tag (fun r => rd_P cx G_X12_tag.2.2.2.2.2 0 w (rd_rI w r)) (B_X12_tag_32 w t0 S) 32 [] [.inl t0] w S 0 0 := by
  unfold B_X12_tag_32
  exact ry_iret dX12_tag_32 rfl (Nat.le_of_ble_eq_true rfl) (Nat.le_of_ble_eq_true rfl)
def B_X12_tag_31 (w : rd_W) (S : rd_S) : Option (Int32 × rd_S) :=
  B_X12_tag_32 w (-1) S
theorem yb_X12_tag_31 (cx : rd_Cx) (w : rd_W) (S : rd_S) : rd_Y cx G_X12_tag (fun r => rd_P cx G_X12_tag.2.2.2.2.2 0 w (rd_rI w r)) (B_X12_tag_31 w S) 31 [] [] w S 0 0 := by
  unfold B_X12_tag_31
  refine ry_iconst (v := (-1)) dX12_tag_31 (by decide) ?_
  exact ry_to (yb_X12_tag_32 cx w (-1) S) trivial
def F_X12_tag (w : rd_W) (a0 : Nat) (x1 : Int32) (S : rd_S) : Option (Int32 × rd_S) :=
  rd_let (pI S a0 0 0) fun s1 =>
  if (gI s1 a0 45) = 0 then
  (B_X12_tag_31 w s1)
  else
  (if x1 < 0 then
  (B_X12_tag_31 w s1)
  else
  (if 8 ≤ x1 then
  (B_X12_tag_31 w s1)
  else
  (rd_c (gR s1 a0 44) fun b5 =>
  rd_i x1 (w.2.2 b5) <|
  B_X12_tag_32 w (gI s1 b5 x1.toNatClampNeg) s1)))
theorem ym_X12_tag (cx : rd_Cx) (w : rd_W) (a0 : Nat) (x1 : Int32) (ha0 : rd_ok w a0 12) (S : rd_S) : rd_Y cx G_X12_tag (fun r => rd_P cx G_X12_tag.2.2.2.2.2 0 w (rd_rI w r)) (F_X12_tag w a0 x1 S) 0 (rd_as 0 [.inr (some a0), .inl x1]) [] w S 0 0 := by
  unfold F_X12_tag
  refine ry_aload_n dX12_tag_0 rfl ?_
  refine ry_iconst (v := 0) dX12_tag_1 (by decide) ?_
  refine ry_puti dX12_tag_2 ha0 fl_RX12_1 rfl rfl rfl ?_
  refine ry_letS (fun s1 => ?_)
  refine ry_aload_n dX12_tag_5 rfl ?_
  refine ry_geti dX12_tag_6 ha0 fl_RX12_245 rfl ?_
  refine ry_if_eq 31 dX12_tag_9 (by decide) (fun c2 => ?_) (fun c2 => ?_)
  · exact ry_to (yb_X12_tag_31 cx w s1) trivial
  · refine ry_iload_n dX12_tag_12 rfl ?_
    refine ry_if_lt 31 dX12_tag_13 (by decide) (fun c3 => ?_) (fun c3 => ?_)
    · exact ry_to (yb_X12_tag_31 cx w s1) trivial
    · refine ry_iload_n dX12_tag_16 rfl ?_
      refine ry_bipush (v := 8) dX12_tag_17 (by decide) ?_
      refine ry_icmp_ge 31 dX12_tag_19 (by decide) (fun c4 => ?_) (fun c4 => ?_)
      · exact ry_to (yb_X12_tag_31 cx w s1) trivial
      · refine ry_aload_n dX12_tag_22 rfl ?_
        refine ry_getr dX12_tag_23 ha0 fl_RX12_242 rfl (fun b5 hb5 => ?_)
        refine ry_iload_n dX12_tag_26 rfl ?_
        refine ry_iald dX12_tag_27 hb5 ?_
        refine ry_goto 32 dX12_tag_28 (by decide) ?_
        exact ry_to (yb_X12_tag_32 cx w (gI s1 b5 x1.toNatClampNeg) s1) trivial
theorem cm_X12_tag (l : Launch) (cx : rd_Cx) (w : rd_W) (a0 : Nat) (x1 : Int32) (ha0 : rd_ok w a0 12) (S : rd_S) (r : Int32 × rd_S) (h : F_X12_tag w a0 x1 S = some r) : rd_M l cx yX12_tag G_X12_tag 0 [.inr (some a0), .inl x1] w S (rd_rI w r) :=
  rd_enter (plainFor_of_name (by decide +kernel)) rfl (fun h => by cases h) (Nat.le_of_ble_eq_true rfl) (ym_X12_tag cx w a0 x1 ha0 S r h)
abbrev G_X11_other : rd_G := (RX11, cX11_other, 4, (some .int), false, { frames := 2, cells := 0, slots := 0, locals := 42 })
theorem yf_X11_other : rd_YL yX11_other G_X11_other 2 := ⟨rd_mem 842 (by decide +kernel) rfl, rd_mem 62 (by decide +kernel) rfl, by decide +kernel, by decide +kernel, by decide +kernel⟩
theorem mi_X11_other : Cond.instanceMethod yX11_other ∈ rd_gw := rd_mem 840 (by decide +kernel) rfl
theorem ms_X11_other : Cond.selects (MethodName.cls yX11_other) yX11_other yX11_other ∈ rd_gw := rd_mem 841 (by decide +kernel) rfl
theorem dX11_other_0 : decode cX11_other 0 = .ok (.aload_n 0, 1) := by decide +kernel
theorem dX11_other_1 : decode cX11_other 1 = .ok (.getfield 26, 3) := by decide +kernel
theorem dX11_other_4 : decode cX11_other 4 = .ok (.getfield 138, 3) := by decide +kernel
theorem dX11_other_7 : decode cX11_other 7 = .ok (.iload_n 1, 1) := by decide +kernel
theorem dX11_other_8 : decode cX11_other 8 = .ok (.invokevirtual 142, 3) := by decide +kernel
theorem dX11_other_11 : decode cX11_other 11 = .ok (.astore_n 3, 1) := by decide +kernel
theorem dX11_other_12 : decode cX11_other 12 = .ok (.aload_n 3, 1) := by decide +kernel
theorem dX11_other_13 : decode cX11_other 13 = .ok (.ifnonnull 7, 3) := by decide +kernel
theorem dX11_other_16 : decode cX11_other 16 = .ok (.iconst (-1), 1) := by decide +kernel
theorem dX11_other_17 : decode cX11_other 17 = .ok (.goto 8, 3) := by decide +kernel
theorem dX11_other_20 : decode cX11_other 20 = .ok (.aload_n 3, 1) := by decide +kernel
theorem dX11_other_21 : decode cX11_other 21 = .ok (.iload_n 2, 1) := by decide +kernel
theorem dX11_other_22 : decode cX11_other 22 = .ok (.invokevirtual 148, 3) := by decide +kernel
theorem dX11_other_25 : decode cX11_other 25 = .ok (.ireturn, 1) := by decide +kernel
def B_X11_other_25 (w : rd_W) (t0 : Int32) (S : rd_S) : Option (Int32 × rd_S) :=
  some (t0, S)
theorem yb_X11_other_25 (cx : rd_Cx) (w : rd_W) (t0 : Int32) (S : rd_S) : rd_Y cx G_X11_other (fun r => rd_P cx G_X11_other.2.2.2.2.2 0 w (rd_rI w r)) (B_X11_other_25 w t0 S) 25 [] [.inl t0] w S 0 0 := by
  unfold B_X11_other_25
  exact ry_iret dX11_other_25 rfl (Nat.le_of_ble_eq_true rfl) (Nat.le_of_ble_eq_true rfl)
def F_X11_other (w : rd_W) (a0 : Nat) (x1 : Int32) (x2 : Int32) (S : rd_S) : Option (Int32 × rd_S) :=
  rd_c (gR S a0 2) fun b1 =>
  rd_c (gR S b1 7) fun b2 =>
  rd_b (F_X6_get w b2 x1 S) fun o4 s3 =>
  rd_m o4
  (B_X11_other_25 w (-1) s3)
  (fun b5 =>
  rd_b (F_X5_tell w b5 x2 s3) fun v8 s7 =>
  B_X11_other_25 w v8 s7)
theorem ym_X11_other (cx : rd_Cx) (w : rd_W) (a0 : Nat) (x1 : Int32) (x2 : Int32) (ha0 : rd_ok w a0 11) (S : rd_S) : rd_Y cx G_X11_other (fun r => rd_P cx G_X11_other.2.2.2.2.2 0 w (rd_rI w r)) (F_X11_other w a0 x1 x2 S) 0 (rd_as 0 [.inr (some a0), .inl x1, .inl x2]) [] w S 0 0 := by
  unfold F_X11_other
  refine ry_aload_n dX11_other_0 rfl ?_
  refine ry_getr dX11_other_1 ha0 fl_RX11_26 rfl (fun b1 hb1 => ?_)
  refine ry_getr dX11_other_4 hb1 fl_RX11_138 rfl (fun b2 hb2 => ?_)
  refine ry_iload_n dX11_other_7 rfl ?_
  refine ry_callR (fun l r9 h9 => cm_X6_get l cx w b2 x1 hb2 S r9 h9) (rd_runV (vs := [.inl x1]) dX11_other_8 hb2 rfl rfl yf_X6_get mi_X6_get ms_X6_get ml_RX11_142 ⟨Nat.le_of_ble_eq_true rfl, Nat.le_of_ble_eq_true rfl⟩ (Nat.le_of_ble_eq_true rfl) rfl) rfl rfl (Nat.le_of_ble_eq_true rfl) (Nat.le_of_ble_eq_true rfl) (fun o4 s3 ho4 => ?_)
  refine ry_astore_n dX11_other_11 (by decide) ?_
  refine ry_aload_n dX11_other_12 rfl ?_
  refine ry_ifnonnull 20 dX11_other_13 (by decide) (fun hb6 => ?_) (fun b5 hb6 => ?_)
  · subst hb6
    refine ry_iconst (v := (-1)) dX11_other_16 (by decide) ?_
    refine ry_goto 25 dX11_other_17 (by decide) ?_
    exact ry_to (yb_X11_other_25 cx w (-1) s3) trivial
  · subst hb6
    refine ry_aload_n dX11_other_20 rfl ?_
    refine ry_iload_n dX11_other_21 rfl ?_
    refine ry_callI (fun l r9 h9 => cm_X5_tell l cx w b5 x2 (ho4 b5 rfl) s3 r9 h9) (rd_runV (vs := [.inl x2]) dX11_other_22 (ho4 b5 rfl) rfl rfl yf_X5_tell mi_X5_tell ms_X5_tell ml_RX11_148 ⟨Nat.le_of_ble_eq_true rfl, Nat.le_of_ble_eq_true rfl⟩ (Nat.le_of_ble_eq_true rfl) rfl) rfl rfl (Nat.le_of_ble_eq_true rfl) (Nat.le_of_ble_eq_true rfl) (fun v8 s7 => ?_)
    exact ry_to (yb_X11_other_25 cx w v8 s7) trivial
theorem cm_X11_other (l : Launch) (cx : rd_Cx) (w : rd_W) (a0 : Nat) (x1 : Int32) (x2 : Int32) (ha0 : rd_ok w a0 11) (S : rd_S) (r : Int32 × rd_S) (h : F_X11_other w a0 x1 x2 S = some r) : rd_M l cx yX11_other G_X11_other 0 [.inr (some a0), .inl x1, .inl x2] w S (rd_rI w r) :=
  rd_enter (plainFor_of_name (by decide +kernel)) rfl (fun h => by cases h) (Nat.le_of_ble_eq_true rfl) (ym_X11_other cx w a0 x1 x2 ha0 S r h)
abbrev G_X12_other : rd_G := (RX12, cX12_other, 3, (some .int), false, { frames := 0, cells := 0, slots := 0, locals := 0 })
theorem yf_X12_other : rd_YL yX12_other G_X12_other 2 := ⟨rd_mem 1207 (by decide +kernel) rfl, rd_mem 75 (by decide +kernel) rfl, by decide +kernel, by decide +kernel, by decide +kernel⟩
theorem mi_X12_other : Cond.instanceMethod yX12_other ∈ rd_gw := rd_mem 1205 (by decide +kernel) rfl
theorem ms_X12_other : Cond.selects (MethodName.cls yX12_other) yX12_other yX12_other ∈ rd_gw := rd_mem 1206 (by decide +kernel) rfl
theorem dX12_other_0 : decode cX12_other 0 = .ok (.aload_n 0, 1) := by decide +kernel
theorem dX12_other_1 : decode cX12_other 1 = .ok (.iconst 0, 1) := by decide +kernel
theorem dX12_other_2 : decode cX12_other 2 = .ok (.putfield 1, 3) := by decide +kernel
theorem dX12_other_5 : decode cX12_other 5 = .ok (.iload_n 1, 1) := by decide +kernel
theorem dX12_other_6 : decode cX12_other 6 = .ok (.ifCond .lt 21, 3) := by decide +kernel
theorem dX12_other_9 : decode cX12_other 9 = .ok (.iload_n 1, 1) := by decide +kernel
theorem dX12_other_10 : decode cX12_other 10 = .ok (.aload_n 0, 1) := by decide +kernel
theorem dX12_other_11 : decode cX12_other 11 = .ok (.getfield 272, 3) := by decide +kernel
theorem dX12_other_14 : decode cX12_other 14 = .ok (.if_icmp .ge 13, 3) := by decide +kernel
theorem dX12_other_17 : decode cX12_other 17 = .ok (.iload_n 2, 1) := by decide +kernel
theorem dX12_other_18 : decode cX12_other 18 = .ok (.ifCond .lt 9, 3) := by decide +kernel
theorem dX12_other_21 : decode cX12_other 21 = .ok (.iload_n 2, 1) := by decide +kernel
theorem dX12_other_22 : decode cX12_other 22 = .ok (.bipush 11, 2) := by decide +kernel
theorem dX12_other_24 : decode cX12_other 24 = .ok (.if_icmp .le 5, 3) := by decide +kernel
theorem dX12_other_27 : decode cX12_other 27 = .ok (.iconst (-1), 1) := by decide +kernel
theorem dX12_other_28 : decode cX12_other 28 = .ok (.ireturn, 1) := by decide +kernel
theorem dX12_other_29 : decode cX12_other 29 = .ok (.iload_n 2, 1) := by decide +kernel
theorem dX12_other_30 : decode cX12_other 30 = .ok (.bipush 11, 2) := by decide +kernel
theorem dX12_other_32 : decode cX12_other 32 = .ok (.if_icmp .ge 17, 3) := by decide +kernel
theorem dX12_other_35 : decode cX12_other 35 = .ok (.aload_n 0, 1) := by decide +kernel
theorem dX12_other_36 : decode cX12_other 36 = .ok (.getfield 275, 3) := by decide +kernel
theorem dX12_other_39 : decode cX12_other 39 = .ok (.bipush 11, 2) := by decide +kernel
theorem dX12_other_41 : decode cX12_other 41 = .ok (.iload_n 1, 1) := by decide +kernel
theorem dX12_other_42 : decode cX12_other 42 = .ok (.imul, 1) := by decide +kernel
theorem dX12_other_43 : decode cX12_other 43 = .ok (.iload_n 2, 1) := by decide +kernel
theorem dX12_other_44 : decode cX12_other 44 = .ok (.iadd, 1) := by decide +kernel
theorem dX12_other_45 : decode cX12_other 45 = .ok (.iaload, 1) := by decide +kernel
theorem dX12_other_46 : decode cX12_other 46 = .ok (.goto 9, 3) := by decide +kernel
theorem dX12_other_49 : decode cX12_other 49 = .ok (.aload_n 0, 1) := by decide +kernel
theorem dX12_other_50 : decode cX12_other 50 = .ok (.getfield 193, 3) := by decide +kernel
theorem dX12_other_53 : decode cX12_other 53 = .ok (.iload_n 1, 1) := by decide +kernel
theorem dX12_other_54 : decode cX12_other 54 = .ok (.iaload, 1) := by decide +kernel
theorem dX12_other_55 : decode cX12_other 55 = .ok (.ireturn, 1) := by decide +kernel
def B_X12_other_27 (w : rd_W) (S : rd_S) : Option (Int32 × rd_S) :=
  some ((-1), S)
theorem yb_X12_other_27 (cx : rd_Cx) (w : rd_W) (S : rd_S) : rd_Y cx G_X12_other (fun r => rd_P cx G_X12_other.2.2.2.2.2 0 w (rd_rI w r)) (B_X12_other_27 w S) 27 [] [] w S 0 0 := by
  unfold B_X12_other_27
  refine ry_iconst (v := (-1)) dX12_other_27 (by decide) ?_
  exact ry_iret dX12_other_28 rfl (Nat.le_of_ble_eq_true rfl) (Nat.le_of_ble_eq_true rfl)
def B_X12_other_55 (w : rd_W) (t0 : Int32) (S : rd_S) : Option (Int32 × rd_S) :=
  some (t0, S)
theorem yb_X12_other_55 (cx : rd_Cx) (w : rd_W) (t0 : Int32) (S : rd_S) : rd_Y cx G_X12_other (fun r => rd_P cx G_X12_other.2.2.2.2.2 0 w (rd_rI w r)) (B_X12_other_55 w t0 S) 55 [] [.inl t0] w S 0 0 := by
  unfold B_X12_other_55
  exact ry_iret dX12_other_55 rfl (Nat.le_of_ble_eq_true rfl) (Nat.le_of_ble_eq_true rfl)
def F_X12_other (w : rd_W) (a0 : Nat) (x1 : Int32) (x2 : Int32) (S : rd_S) : Option (Int32 × rd_S) :=
  rd_let (pI S a0 0 0) fun s1 =>
  if x1 < 0 then
  (B_X12_other_27 w s1)
  else
  (if (gI s1 a0 53) ≤ x1 then
  (B_X12_other_27 w s1)
  else
  (if x2 < 0 then
  (B_X12_other_27 w s1)
  else
  (if x2 ≤ 11 then
  (if 11 ≤ x2 then
  (rd_c (gR s1 a0 52) fun b7 =>
  rd_i x1 (w.2.2 b7) <|
  B_X12_other_55 w (gI s1 b7 x1.toNatClampNeg) s1)
  else
  (rd_c (gR s1 a0 51) fun b8 =>
  rd_let ((11 * x1) + x2) fun v9 =>
  rd_i v9 (w.2.2 b8) <|
  B_X12_other_55 w (gI s1 b8 v9.toNatClampNeg) s1))
  else
  (B_X12_other_27 w s1))))
theorem ym_X12_other (cx : rd_Cx) (w : rd_W) (a0 : Nat) (x1 : Int32) (x2 : Int32) (ha0 : rd_ok w a0 12) (S : rd_S) : rd_Y cx G_X12_other (fun r => rd_P cx G_X12_other.2.2.2.2.2 0 w (rd_rI w r)) (F_X12_other w a0 x1 x2 S) 0 (rd_as 0 [.inr (some a0), .inl x1, .inl x2]) [] w S 0 0 := by
  unfold F_X12_other
  refine ry_aload_n dX12_other_0 rfl ?_
  refine ry_iconst (v := 0) dX12_other_1 (by decide) ?_
  refine ry_puti dX12_other_2 ha0 fl_RX12_1 rfl rfl rfl ?_
  refine ry_letS (fun s1 => ?_)
  refine ry_iload_n dX12_other_5 rfl ?_
  refine ry_if_lt 27 dX12_other_6 (by decide) (fun c2 => ?_) (fun c2 => ?_)
  · exact ry_to (yb_X12_other_27 cx w s1) trivial
  · refine ry_iload_n dX12_other_9 rfl ?_
    refine ry_aload_n dX12_other_10 rfl ?_
    refine ry_geti dX12_other_11 ha0 fl_RX12_272 rfl ?_
    refine ry_icmp_ge 27 dX12_other_14 (by decide) (fun c3 => ?_) (fun c3 => ?_)
    · exact ry_to (yb_X12_other_27 cx w s1) trivial
    · refine ry_iload_n dX12_other_17 rfl ?_
      refine ry_if_lt 27 dX12_other_18 (by decide) (fun c4 => ?_) (fun c4 => ?_)
      · exact ry_to (yb_X12_other_27 cx w s1) trivial
      · refine ry_iload_n dX12_other_21 rfl ?_
        refine ry_bipush (v := 11) dX12_other_22 (by decide) ?_
        refine ry_icmp_le 29 dX12_other_24 (by decide) (fun c5 => ?_) (fun c5 => ?_)
        · refine ry_iload_n dX12_other_29 rfl ?_
          refine ry_bipush (v := 11) dX12_other_30 (by decide) ?_
          refine ry_icmp_ge 49 dX12_other_32 (by decide) (fun c6 => ?_) (fun c6 => ?_)
          · refine ry_aload_n dX12_other_49 rfl ?_
            refine ry_getr dX12_other_50 ha0 fl_RX12_193 rfl (fun b7 hb7 => ?_)
            refine ry_iload_n dX12_other_53 rfl ?_
            refine ry_iald dX12_other_54 hb7 ?_
            exact ry_to (yb_X12_other_55 cx w (gI s1 b7 x1.toNatClampNeg) s1) trivial
          · refine ry_aload_n dX12_other_35 rfl ?_
            refine ry_getr dX12_other_36 ha0 fl_RX12_275 rfl (fun b8 hb8 => ?_)
            refine ry_bipush (v := 11) dX12_other_39 (by decide) ?_
            refine ry_iload_n dX12_other_41 rfl ?_
            refine ry_imul dX12_other_42 ?_
            refine ry_iload_n dX12_other_43 rfl ?_
            refine ry_iadd dX12_other_44 ?_
            refine ry_lets (fun v9 => ?_)
            refine ry_iald dX12_other_45 hb8 ?_
            refine ry_goto 55 dX12_other_46 (by decide) ?_
            exact ry_to (yb_X12_other_55 cx w (gI s1 b8 v9.toNatClampNeg) s1) trivial
        · exact ry_to (yb_X12_other_27 cx w s1) trivial
theorem cm_X12_other (l : Launch) (cx : rd_Cx) (w : rd_W) (a0 : Nat) (x1 : Int32) (x2 : Int32) (ha0 : rd_ok w a0 12) (S : rd_S) (r : Int32 × rd_S) (h : F_X12_other w a0 x1 x2 S = some r) : rd_M l cx yX12_other G_X12_other 0 [.inr (some a0), .inl x1, .inl x2] w S (rd_rI w r) :=
  rd_enter (plainFor_of_name (by decide +kernel)) rfl (fun h => by cases h) (Nat.le_of_ble_eq_true rfl) (ym_X12_other cx w a0 x1 x2 ha0 S r h)
abbrev G_X11_otherLetter : rd_G := (RX11, cX11_otherLetter, 4, (some .int), false, { frames := 2, cells := 0, slots := 0, locals := 42 })
theorem yf_X11_otherLetter : rd_YL yX11_otherLetter G_X11_otherLetter 2 := ⟨rd_mem 848 (by decide +kernel) rfl, rd_mem 62 (by decide +kernel) rfl, by decide +kernel, by decide +kernel, by decide +kernel⟩
theorem mi_X11_otherLetter : Cond.instanceMethod yX11_otherLetter ∈ rd_gw := rd_mem 846 (by decide +kernel) rfl
theorem ms_X11_otherLetter : Cond.selects (MethodName.cls yX11_otherLetter) yX11_otherLetter yX11_otherLetter ∈ rd_gw := rd_mem 847 (by decide +kernel) rfl
theorem dX11_otherLetter_0 : decode cX11_otherLetter 0 = .ok (.aload_n 0, 1) := by decide +kernel
theorem dX11_otherLetter_1 : decode cX11_otherLetter 1 = .ok (.getfield 26, 3) := by decide +kernel
theorem dX11_otherLetter_4 : decode cX11_otherLetter 4 = .ok (.getfield 138, 3) := by decide +kernel
theorem dX11_otherLetter_7 : decode cX11_otherLetter 7 = .ok (.iload_n 1, 1) := by decide +kernel
theorem dX11_otherLetter_8 : decode cX11_otherLetter 8 = .ok (.invokevirtual 142, 3) := by decide +kernel
theorem dX11_otherLetter_11 : decode cX11_otherLetter 11 = .ok (.astore_n 3, 1) := by decide +kernel
theorem dX11_otherLetter_12 : decode cX11_otherLetter 12 = .ok (.aload_n 3, 1) := by decide +kernel
theorem dX11_otherLetter_13 : decode cX11_otherLetter 13 = .ok (.ifnonnull 7, 3) := by decide +kernel
theorem dX11_otherLetter_16 : decode cX11_otherLetter 16 = .ok (.iconst (-1), 1) := by decide +kernel
theorem dX11_otherLetter_17 : decode cX11_otherLetter 17 = .ok (.goto 11, 3) := by decide +kernel
theorem dX11_otherLetter_20 : decode cX11_otherLetter 20 = .ok (.aload_n 3, 1) := by decide +kernel
theorem dX11_otherLetter_21 : decode cX11_otherLetter 21 = .ok (.getfield 151, 3) := by decide +kernel
theorem dX11_otherLetter_24 : decode cX11_otherLetter 24 = .ok (.iload_n 2, 1) := by decide +kernel
theorem dX11_otherLetter_25 : decode cX11_otherLetter 25 = .ok (.invokevirtual 114, 3) := by decide +kernel
theorem dX11_otherLetter_28 : decode cX11_otherLetter 28 = .ok (.ireturn, 1) := by decide +kernel
def B_X11_otherLetter_28 (w : rd_W) (t0 : Int32) (S : rd_S) : Option (Int32 × rd_S) :=
  some (t0, S)
theorem yb_X11_otherLetter_28 (cx : rd_Cx) (w : rd_W) (t0 : Int32) (S : rd_S) : rd_Y cx G_X11_otherLetter (fun r => rd_P cx G_X11_otherLetter.2.2.2.2.2 0 w (rd_rI w r)) (B_X11_otherLetter_28 w t0 S) 28 [] [.inl t0] w S 0 0 := by
  unfold B_X11_otherLetter_28
  exact ry_iret dX11_otherLetter_28 rfl (Nat.le_of_ble_eq_true rfl) (Nat.le_of_ble_eq_true rfl)
def F_X11_otherLetter (w : rd_W) (a0 : Nat) (x1 : Int32) (x2 : Int32) (S : rd_S) : Option (Int32 × rd_S) :=
  rd_c (gR S a0 2) fun b1 =>
  rd_c (gR S b1 7) fun b2 =>
  rd_b (F_X6_get w b2 x1 S) fun o4 s3 =>
  rd_m o4
  (B_X11_otherLetter_28 w (-1) s3)
  (fun b5 =>
  rd_c (gR s3 b5 1) fun b7 =>
  rd_b (F_X1_byteAt w b7 x2 s3) fun v9 s8 =>
  B_X11_otherLetter_28 w v9 s8)
theorem ym_X11_otherLetter (cx : rd_Cx) (w : rd_W) (a0 : Nat) (x1 : Int32) (x2 : Int32) (ha0 : rd_ok w a0 11) (S : rd_S) : rd_Y cx G_X11_otherLetter (fun r => rd_P cx G_X11_otherLetter.2.2.2.2.2 0 w (rd_rI w r)) (F_X11_otherLetter w a0 x1 x2 S) 0 (rd_as 0 [.inr (some a0), .inl x1, .inl x2]) [] w S 0 0 := by
  unfold F_X11_otherLetter
  refine ry_aload_n dX11_otherLetter_0 rfl ?_
  refine ry_getr dX11_otherLetter_1 ha0 fl_RX11_26 rfl (fun b1 hb1 => ?_)
  refine ry_getr dX11_otherLetter_4 hb1 fl_RX11_138 rfl (fun b2 hb2 => ?_)
  refine ry_iload_n dX11_otherLetter_7 rfl ?_
  refine ry_callR (fun l r9 h9 => cm_X6_get l cx w b2 x1 hb2 S r9 h9) (rd_runV (vs := [.inl x1]) dX11_otherLetter_8 hb2 rfl rfl yf_X6_get mi_X6_get ms_X6_get ml_RX11_142 ⟨Nat.le_of_ble_eq_true rfl, Nat.le_of_ble_eq_true rfl⟩ (Nat.le_of_ble_eq_true rfl) rfl) rfl rfl (Nat.le_of_ble_eq_true rfl) (Nat.le_of_ble_eq_true rfl) (fun o4 s3 ho4 => ?_)
  refine ry_astore_n dX11_otherLetter_11 (by decide) ?_
  refine ry_aload_n dX11_otherLetter_12 rfl ?_
  refine ry_ifnonnull 20 dX11_otherLetter_13 (by decide) (fun hb6 => ?_) (fun b5 hb6 => ?_)
  · subst hb6
    refine ry_iconst (v := (-1)) dX11_otherLetter_16 (by decide) ?_
    refine ry_goto 28 dX11_otherLetter_17 (by decide) ?_
    exact ry_to (yb_X11_otherLetter_28 cx w (-1) s3) trivial
  · subst hb6
    refine ry_aload_n dX11_otherLetter_20 rfl ?_
    refine ry_getr dX11_otherLetter_21 (ho4 b5 rfl) fl_RX11_151 rfl (fun b7 hb7 => ?_)
    refine ry_iload_n dX11_otherLetter_24 rfl ?_
    refine ry_callI (fun l r9 h9 => cm_X1_byteAt l cx w b7 x2 hb7 s3 r9 h9) (rd_runV (vs := [.inl x2]) dX11_otherLetter_25 hb7 rfl rfl yf_X1_byteAt mi_X1_byteAt ms_X1_byteAt ml_RX11_114 ⟨Nat.le_of_ble_eq_true rfl, Nat.le_of_ble_eq_true rfl⟩ (Nat.le_of_ble_eq_true rfl) rfl) rfl rfl (Nat.le_of_ble_eq_true rfl) (Nat.le_of_ble_eq_true rfl) (fun v9 s8 => ?_)
    exact ry_to (yb_X11_otherLetter_28 cx w v9 s8) trivial
theorem cm_X11_otherLetter (l : Launch) (cx : rd_Cx) (w : rd_W) (a0 : Nat) (x1 : Int32) (x2 : Int32) (ha0 : rd_ok w a0 11) (S : rd_S) (r : Int32 × rd_S) (h : F_X11_otherLetter w a0 x1 x2 S = some r) : rd_M l cx yX11_otherLetter G_X11_otherLetter 0 [.inr (some a0), .inl x1, .inl x2] w S (rd_rI w r) :=
  rd_enter (plainFor_of_name (by decide +kernel)) rfl (fun h => by cases h) (Nat.le_of_ble_eq_true rfl) (ym_X11_otherLetter cx w a0 x1 x2 ha0 S r h)
abbrev G_X12_otherLetter : rd_G := (RX12, cX12_otherLetter, 3, (some .int), false, { frames := 0, cells := 0, slots := 0, locals := 0 })
theorem yf_X12_otherLetter : rd_YL yX12_otherLetter G_X12_otherLetter 2 := ⟨rd_mem 1211 (by decide +kernel) rfl, rd_mem 75 (by decide +kernel) rfl, by decide +kernel, by decide +kernel, by decide +kernel⟩
theorem mi_X12_otherLetter : Cond.instanceMethod yX12_otherLetter ∈ rd_gw := rd_mem 1209 (by decide +kernel) rfl
theorem ms_X12_otherLetter : Cond.selects (MethodName.cls yX12_otherLetter) yX12_otherLetter yX12_otherLetter ∈ rd_gw := rd_mem 1210 (by decide +kernel) rfl
theorem dX12_otherLetter_0 : decode cX12_otherLetter 0 = .ok (.aload_n 0, 1) := by decide +kernel
theorem dX12_otherLetter_1 : decode cX12_otherLetter 1 = .ok (.iconst 0, 1) := by decide +kernel
theorem dX12_otherLetter_2 : decode cX12_otherLetter 2 = .ok (.putfield 1, 3) := by decide +kernel
theorem dX12_otherLetter_5 : decode cX12_otherLetter 5 = .ok (.iload_n 1, 1) := by decide +kernel
theorem dX12_otherLetter_6 : decode cX12_otherLetter 6 = .ok (.ifCond .lt 43, 3) := by decide +kernel
theorem dX12_otherLetter_9 : decode cX12_otherLetter 9 = .ok (.iload_n 1, 1) := by decide +kernel
theorem dX12_otherLetter_10 : decode cX12_otherLetter 10 = .ok (.aload_n 0, 1) := by decide +kernel
theorem dX12_otherLetter_11 : decode cX12_otherLetter 11 = .ok (.getfield 272, 3) := by decide +kernel
theorem dX12_otherLetter_14 : decode cX12_otherLetter 14 = .ok (.if_icmp .ge 35, 3) := by decide +kernel
theorem dX12_otherLetter_17 : decode cX12_otherLetter 17 = .ok (.iload_n 2, 1) := by decide +kernel
theorem dX12_otherLetter_18 : decode cX12_otherLetter 18 = .ok (.ifCond .lt 31, 3) := by decide +kernel
theorem dX12_otherLetter_21 : decode cX12_otherLetter 21 = .ok (.iload_n 2, 1) := by decide +kernel
theorem dX12_otherLetter_22 : decode cX12_otherLetter 22 = .ok (.aload_n 0, 1) := by decide +kernel
theorem dX12_otherLetter_23 : decode cX12_otherLetter 23 = .ok (.getfield 187, 3) := by decide +kernel
theorem dX12_otherLetter_26 : decode cX12_otherLetter 26 = .ok (.iconst 3, 1) := by decide +kernel
theorem dX12_otherLetter_27 : decode cX12_otherLetter 27 = .ok (.iload_n 1, 1) := by decide +kernel
theorem dX12_otherLetter_28 : decode cX12_otherLetter 28 = .ok (.iadd, 1) := by decide +kernel
theorem dX12_otherLetter_29 : decode cX12_otherLetter 29 = .ok (.iaload, 1) := by decide +kernel
theorem dX12_otherLetter_30 : decode cX12_otherLetter 30 = .ok (.if_icmp .ge 19, 3) := by decide +kernel
theorem dX12_otherLetter_33 : decode cX12_otherLetter 33 = .ok (.aload_n 0, 1) := by decide +kernel
theorem dX12_otherLetter_34 : decode cX12_otherLetter 34 = .ok (.getfield 184, 3) := by decide +kernel
theorem dX12_otherLetter_37 : decode cX12_otherLetter 37 = .ok (.iconst 3, 1) := by decide +kernel
theorem dX12_otherLetter_38 : decode cX12_otherLetter 38 = .ok (.iload_n 1, 1) := by decide +kernel
theorem dX12_otherLetter_39 : decode cX12_otherLetter 39 = .ok (.iadd, 1) := by decide +kernel
theorem dX12_otherLetter_40 : decode cX12_otherLetter 40 = .ok (.bipush 64, 2) := by decide +kernel
theorem dX12_otherLetter_42 : decode cX12_otherLetter 42 = .ok (.imul, 1) := by decide +kernel
theorem dX12_otherLetter_43 : decode cX12_otherLetter 43 = .ok (.iload_n 2, 1) := by decide +kernel
theorem dX12_otherLetter_44 : decode cX12_otherLetter 44 = .ok (.iadd, 1) := by decide +kernel
theorem dX12_otherLetter_45 : decode cX12_otherLetter 45 = .ok (.iaload, 1) := by decide +kernel
theorem dX12_otherLetter_46 : decode cX12_otherLetter 46 = .ok (.goto 4, 3) := by decide +kernel
theorem dX12_otherLetter_49 : decode cX12_otherLetter 49 = .ok (.iconst (-1), 1) := by decide +kernel
theorem dX12_otherLetter_50 : decode cX12_otherLetter 50 = .ok (.ireturn, 1) := by decide +kernel
def B_X12_otherLetter_50 (w : rd_W) (t0 : Int32) (S : rd_S) : Option (Int32 × rd_S) :=
  some (t0, S)
theorem yb_X12_otherLetter_50 (cx : rd_Cx) (w : rd_W) (t0 : Int32) (S : rd_S) : rd_Y cx G_X12_otherLetter (fun r => rd_P cx G_X12_otherLetter.2.2.2.2.2 0 w (rd_rI w r)) (B_X12_otherLetter_50 w t0 S) 50 [] [.inl t0] w S 0 0 := by
  unfold B_X12_otherLetter_50
  exact ry_iret dX12_otherLetter_50 rfl (Nat.le_of_ble_eq_true rfl) (Nat.le_of_ble_eq_true rfl)
def B_X12_otherLetter_49 (w : rd_W) (S : rd_S) : Option (Int32 × rd_S) :=
  B_X12_otherLetter_50 w (-1) S
theorem yb_X12_otherLetter_49 (cx : rd_Cx) (w : rd_W) (S : rd_S) : rd_Y cx G_X12_otherLetter (fun r => rd_P cx G_X12_otherLetter.2.2.2.2.2 0 w (rd_rI w r)) (B_X12_otherLetter_49 w S) 49 [] [] w S 0 0 := by
  unfold B_X12_otherLetter_49
  refine ry_iconst (v := (-1)) dX12_otherLetter_49 (by decide) ?_
  exact ry_to (yb_X12_otherLetter_50 cx w (-1) S) trivial
def F_X12_otherLetter (w : rd_W) (a0 : Nat) (x1 : Int32) (x2 : Int32) (S : rd_S) : Option (Int32 × rd_S) :=
  rd_let (pI S a0 0 0) fun s1 =>
  if x1 < 0 then
  (B_X12_otherLetter_49 w s1)
  else
  (if (gI s1 a0 53) ≤ x1 then
  (B_X12_otherLetter_49 w s1)
  else
  (if x2 < 0 then
  (B_X12_otherLetter_49 w s1)
  else
  (rd_c (gR s1 a0 30) fun b5 =>
  rd_let (3 + x1) fun v6 =>
  rd_i v6 (w.2.2 b5) <|
  if (gI s1 b5 v6.toNatClampNeg) ≤ x2 then
  (B_X12_otherLetter_49 w s1)
  else
  (rd_c (gR s1 a0 29) fun b8 =>
  rd_let (((3 + x1) * 64) + x2) fun v9 =>
  rd_i v9 (w.2.2 b8) <|
  B_X12_otherLetter_50 w (gI s1 b8 v9.toNatClampNeg) s1))))
theorem ym_X12_otherLetter (cx : rd_Cx) (w : rd_W) (a0 : Nat) (x1 : Int32) (x2 : Int32) (ha0 : rd_ok w a0 12) (S : rd_S) : rd_Y cx G_X12_otherLetter (fun r => rd_P cx G_X12_otherLetter.2.2.2.2.2 0 w (rd_rI w r)) (F_X12_otherLetter w a0 x1 x2 S) 0 (rd_as 0 [.inr (some a0), .inl x1, .inl x2]) [] w S 0 0 := by
  unfold F_X12_otherLetter
  refine ry_aload_n dX12_otherLetter_0 rfl ?_
  refine ry_iconst (v := 0) dX12_otherLetter_1 (by decide) ?_
  refine ry_puti dX12_otherLetter_2 ha0 fl_RX12_1 rfl rfl rfl ?_
  refine ry_letS (fun s1 => ?_)
  refine ry_iload_n dX12_otherLetter_5 rfl ?_
  refine ry_if_lt 49 dX12_otherLetter_6 (by decide) (fun c2 => ?_) (fun c2 => ?_)
  · exact ry_to (yb_X12_otherLetter_49 cx w s1) trivial
  · refine ry_iload_n dX12_otherLetter_9 rfl ?_
    refine ry_aload_n dX12_otherLetter_10 rfl ?_
    refine ry_geti dX12_otherLetter_11 ha0 fl_RX12_272 rfl ?_
    refine ry_icmp_ge 49 dX12_otherLetter_14 (by decide) (fun c3 => ?_) (fun c3 => ?_)
    · exact ry_to (yb_X12_otherLetter_49 cx w s1) trivial
    · refine ry_iload_n dX12_otherLetter_17 rfl ?_
      refine ry_if_lt 49 dX12_otherLetter_18 (by decide) (fun c4 => ?_) (fun c4 => ?_)
      · exact ry_to (yb_X12_otherLetter_49 cx w s1) trivial
      · refine ry_iload_n dX12_otherLetter_21 rfl ?_
        refine ry_aload_n dX12_otherLetter_22 rfl ?_
        refine ry_getr dX12_otherLetter_23 ha0 fl_RX12_187 rfl (fun b5 hb5 => ?_)
        refine ry_iconst (v := 3) dX12_otherLetter_26 (by decide) ?_
        refine ry_iload_n dX12_otherLetter_27 rfl ?_
        refine ry_iadd dX12_otherLetter_28 ?_
        refine ry_lets (fun v6 => ?_)
        refine ry_iald dX12_otherLetter_29 hb5 ?_
        refine ry_icmp_ge 49 dX12_otherLetter_30 (by decide) (fun c7 => ?_) (fun c7 => ?_)
        · exact ry_to (yb_X12_otherLetter_49 cx w s1) trivial
        · refine ry_aload_n dX12_otherLetter_33 rfl ?_
          refine ry_getr dX12_otherLetter_34 ha0 fl_RX12_184 rfl (fun b8 hb8 => ?_)
          refine ry_iconst (v := 3) dX12_otherLetter_37 (by decide) ?_
          refine ry_iload_n dX12_otherLetter_38 rfl ?_
          refine ry_iadd dX12_otherLetter_39 ?_
          refine ry_bipush (v := 64) dX12_otherLetter_40 (by decide) ?_
          refine ry_imul dX12_otherLetter_42 ?_
          refine ry_iload_n dX12_otherLetter_43 rfl ?_
          refine ry_iadd dX12_otherLetter_44 ?_
          refine ry_lets (fun v9 => ?_)
          refine ry_iald dX12_otherLetter_45 hb8 ?_
          refine ry_goto 50 dX12_otherLetter_46 (by decide) ?_
          exact ry_to (yb_X12_otherLetter_50 cx w (gI s1 b8 v9.toNatClampNeg) s1) trivial
theorem cm_X12_otherLetter (l : Launch) (cx : rd_Cx) (w : rd_W) (a0 : Nat) (x1 : Int32) (x2 : Int32) (ha0 : rd_ok w a0 12) (S : rd_S) (r : Int32 × rd_S) (h : F_X12_otherLetter w a0 x1 x2 S = some r) : rd_M l cx yX12_otherLetter G_X12_otherLetter 0 [.inr (some a0), .inl x1, .inl x2] w S (rd_rI w r) :=
  rd_enter (plainFor_of_name (by decide +kernel)) rfl (fun h => by cases h) (Nat.le_of_ble_eq_true rfl) (ym_X12_otherLetter cx w a0 x1 x2 ha0 S r h)
