abbrev G_X8_take : rd_G := (RX8, cX8_take, 3, none, false, { frames := 5, cells := 0, slots := 0, locals := 132 })
theorem yf_X8_take : rd_YL yX8_take G_X8_take 1 := ⟨rd_mem 511 (by decide +kernel) rfl, rd_mem 67 (by decide +kernel) rfl, by decide +kernel, by decide +kernel, by decide +kernel⟩
theorem mi_X8_take : Cond.instanceMethod yX8_take ∈ rd_gw := rd_mem 509 (by decide +kernel) rfl
theorem ms_X8_take : Cond.selects (MethodName.cls yX8_take) yX8_take yX8_take ∈ rd_gw := rd_mem 510 (by decide +kernel) rfl
theorem dX8_take_0 : decode cX8_take 0 = .ok (.aload_n 0, 1) := by decide +kernel
theorem dX8_take_1 : decode cX8_take 1 = .ok (.aload_n 1, 1) := by decide +kernel
theorem dX8_take_2 : decode cX8_take 2 = .ok (.invokevirtual 79, 3) := by decide +kernel
theorem dX8_take_5 : decode cX8_take 5 = .ok (.invokevirtual 85, 3) := by decide +kernel
theorem dX8_take_8 : decode cX8_take 8 = .ok (.aload_n 1, 1) := by decide +kernel
theorem dX8_take_9 : decode cX8_take 9 = .ok (.iconst 1, 1) := by decide +kernel
theorem dX8_take_10 : decode cX8_take 10 = .ok (.invokevirtual 89, 3) := by decide +kernel
theorem dX8_take_13 : decode cX8_take 13 = .ok (.ifCond .ne 4, 3) := by decide +kernel
theorem dX8_take_16 : decode cX8_take 16 = .ok (.return_, 1) := by decide +kernel
theorem dX8_take_17 : decode cX8_take 17 = .ok (.aload_n 1, 1) := by decide +kernel
theorem dX8_take_18 : decode cX8_take 18 = .ok (.iconst 1, 1) := by decide +kernel
theorem dX8_take_19 : decode cX8_take 19 = .ok (.invokevirtual 93, 3) := by decide +kernel
theorem dX8_take_22 : decode cX8_take 22 = .ok (.istore_n 2, 1) := by decide +kernel
theorem dX8_take_23 : decode cX8_take 23 = .ok (.aload_n 0, 1) := by decide +kernel
theorem dX8_take_24 : decode cX8_take 24 = .ok (.getfield 11, 3) := by decide +kernel
theorem dX8_take_27 : decode cX8_take 27 = .ok (.iconst 1, 1) := by decide +kernel
theorem dX8_take_28 : decode cX8_take 28 = .ok (.iload_n 2, 1) := by decide +kernel
theorem dX8_take_29 : decode cX8_take 29 = .ok (.bipush 10, 2) := by decide +kernel
theorem dX8_take_31 : decode cX8_take 31 = .ok (.iconst 1, 1) := by decide +kernel
theorem dX8_take_32 : decode cX8_take 32 = .ok (.invokestatic 97, 3) := by decide +kernel
theorem dX8_take_35 : decode cX8_take 35 = .ok (.iastore, 1) := by decide +kernel
theorem dX8_take_36 : decode cX8_take 36 = .ok (.aload_n 0, 1) := by decide +kernel
theorem dX8_take_37 : decode cX8_take 37 = .ok (.getfield 11, 3) := by decide +kernel
theorem dX8_take_40 : decode cX8_take 40 = .ok (.iconst 2, 1) := by decide +kernel
theorem dX8_take_41 : decode cX8_take 41 = .ok (.iload_n 2, 1) := by decide +kernel
theorem dX8_take_42 : decode cX8_take 42 = .ok (.iconst 5, 1) := by decide +kernel
theorem dX8_take_43 : decode cX8_take 43 = .ok (.iconst 5, 1) := by decide +kernel
theorem dX8_take_44 : decode cX8_take 44 = .ok (.invokestatic 97, 3) := by decide +kernel
theorem dX8_take_47 : decode cX8_take 47 = .ok (.iastore, 1) := by decide +kernel
theorem dX8_take_48 : decode cX8_take 48 = .ok (.aload_n 0, 1) := by decide +kernel
theorem dX8_take_49 : decode cX8_take 49 = .ok (.aload_n 1, 1) := by decide +kernel
theorem dX8_take_50 : decode cX8_take 50 = .ok (.invokevirtual 101, 3) := by decide +kernel
theorem dX8_take_53 : decode cX8_take 53 = .ok (.ifCond .eq 21, 3) := by decide +kernel
theorem dX8_take_56 : decode cX8_take 56 = .ok (.aload_n 0, 1) := by decide +kernel
theorem dX8_take_57 : decode cX8_take 57 = .ok (.getfield 61, 3) := by decide +kernel
theorem dX8_take_60 : decode cX8_take 60 = .ok (.iload_n 2, 1) := by decide +kernel
theorem dX8_take_61 : decode cX8_take 61 = .ok (.aload_n 1, 1) := by decide +kernel
theorem dX8_take_62 : decode cX8_take 62 = .ok (.iconst 2, 1) := by decide +kernel
theorem dX8_take_63 : decode cX8_take 63 = .ok (.invokevirtual 93, 3) := by decide +kernel
theorem dX8_take_66 : decode cX8_take 66 = .ok (.aload_n 1, 1) := by decide +kernel
theorem dX8_take_67 : decode cX8_take 67 = .ok (.iconst 3, 1) := by decide +kernel
theorem dX8_take_68 : decode cX8_take 68 = .ok (.invokevirtual 93, 3) := by decide +kernel
theorem dX8_take_71 : decode cX8_take 71 = .ok (.invokevirtual 105, 3) := by decide +kernel
theorem dX8_take_74 : decode cX8_take 74 = .ok (.aload_n 1, 1) := by decide +kernel
theorem dX8_take_75 : decode cX8_take 75 = .ok (.invokevirtual 108, 3) := by decide +kernel
theorem dX8_take_78 : decode cX8_take 78 = .ok (.tableswitch 253 0 31 #[142, 152, 162, 171, 180, 189, 198, 253, 207, 253, 253, 253, 253, 253, 253, 253, 253, 253, 253, 253, 216, 253, 253, 253, 253, 253, 253, 253, 225, 235, 253, 245], 142) := by decide +kernel
theorem dX8_take_220 : decode cX8_take 220 = .ok (.aload_n 0, 1) := by decide +kernel
theorem dX8_take_221 : decode cX8_take 221 = .ok (.aload_n 1, 1) := by decide +kernel
theorem dX8_take_222 : decode cX8_take 222 = .ok (.iload_n 2, 1) := by decide +kernel
theorem dX8_take_223 : decode cX8_take 223 = .ok (.iconst 1, 1) := by decide +kernel
theorem dX8_take_224 : decode cX8_take 224 = .ok (.invokevirtual 111, 3) := by decide +kernel
theorem dX8_take_227 : decode cX8_take 227 = .ok (.goto 104, 3) := by decide +kernel
theorem dX8_take_230 : decode cX8_take 230 = .ok (.aload_n 0, 1) := by decide +kernel
theorem dX8_take_231 : decode cX8_take 231 = .ok (.aload_n 1, 1) := by decide +kernel
theorem dX8_take_232 : decode cX8_take 232 = .ok (.iload_n 2, 1) := by decide +kernel
theorem dX8_take_233 : decode cX8_take 233 = .ok (.iconst 0, 1) := by decide +kernel
theorem dX8_take_234 : decode cX8_take 234 = .ok (.invokevirtual 111, 3) := by decide +kernel
theorem dX8_take_237 : decode cX8_take 237 = .ok (.goto 94, 3) := by decide +kernel
theorem dX8_take_240 : decode cX8_take 240 = .ok (.aload_n 0, 1) := by decide +kernel
theorem dX8_take_241 : decode cX8_take 241 = .ok (.aload_n 1, 1) := by decide +kernel
theorem dX8_take_242 : decode cX8_take 242 = .ok (.iconst 1, 1) := by decide +kernel
theorem dX8_take_243 : decode cX8_take 243 = .ok (.invokevirtual 115, 3) := by decide +kernel
theorem dX8_take_246 : decode cX8_take 246 = .ok (.goto 85, 3) := by decide +kernel
theorem dX8_take_249 : decode cX8_take 249 = .ok (.aload_n 0, 1) := by decide +kernel
theorem dX8_take_250 : decode cX8_take 250 = .ok (.aload_n 1, 1) := by decide +kernel
theorem dX8_take_251 : decode cX8_take 251 = .ok (.iconst 0, 1) := by decide +kernel
theorem dX8_take_252 : decode cX8_take 252 = .ok (.invokevirtual 115, 3) := by decide +kernel
theorem dX8_take_255 : decode cX8_take 255 = .ok (.goto 76, 3) := by decide +kernel
theorem dX8_take_258 : decode cX8_take 258 = .ok (.aload_n 0, 1) := by decide +kernel
theorem dX8_take_259 : decode cX8_take 259 = .ok (.aload_n 1, 1) := by decide +kernel
theorem dX8_take_260 : decode cX8_take 260 = .ok (.iload_n 2, 1) := by decide +kernel
theorem dX8_take_261 : decode cX8_take 261 = .ok (.invokevirtual 119, 3) := by decide +kernel
theorem dX8_take_264 : decode cX8_take 264 = .ok (.goto 67, 3) := by decide +kernel
theorem dX8_take_267 : decode cX8_take 267 = .ok (.aload_n 0, 1) := by decide +kernel
theorem dX8_take_268 : decode cX8_take 268 = .ok (.aload_n 1, 1) := by decide +kernel
theorem dX8_take_269 : decode cX8_take 269 = .ok (.iload_n 2, 1) := by decide +kernel
theorem dX8_take_270 : decode cX8_take 270 = .ok (.invokevirtual 123, 3) := by decide +kernel
theorem dX8_take_273 : decode cX8_take 273 = .ok (.goto 58, 3) := by decide +kernel
theorem dX8_take_276 : decode cX8_take 276 = .ok (.aload_n 0, 1) := by decide +kernel
theorem dX8_take_277 : decode cX8_take 277 = .ok (.aload_n 1, 1) := by decide +kernel
theorem dX8_take_278 : decode cX8_take 278 = .ok (.iload_n 2, 1) := by decide +kernel
theorem dX8_take_279 : decode cX8_take 279 = .ok (.invokevirtual 126, 3) := by decide +kernel
theorem dX8_take_282 : decode cX8_take 282 = .ok (.goto 49, 3) := by decide +kernel
theorem dX8_take_285 : decode cX8_take 285 = .ok (.aload_n 0, 1) := by decide +kernel
theorem dX8_take_286 : decode cX8_take 286 = .ok (.aload_n 1, 1) := by decide +kernel
theorem dX8_take_287 : decode cX8_take 287 = .ok (.iload_n 2, 1) := by decide +kernel
theorem dX8_take_288 : decode cX8_take 288 = .ok (.invokevirtual 129, 3) := by decide +kernel
theorem dX8_take_291 : decode cX8_take 291 = .ok (.goto 40, 3) := by decide +kernel
theorem dX8_take_294 : decode cX8_take 294 = .ok (.aload_n 0, 1) := by decide +kernel
theorem dX8_take_295 : decode cX8_take 295 = .ok (.aload_n 1, 1) := by decide +kernel
theorem dX8_take_296 : decode cX8_take 296 = .ok (.iload_n 2, 1) := by decide +kernel
theorem dX8_take_297 : decode cX8_take 297 = .ok (.invokevirtual 132, 3) := by decide +kernel
theorem dX8_take_300 : decode cX8_take 300 = .ok (.goto 31, 3) := by decide +kernel
theorem dX8_take_303 : decode cX8_take 303 = .ok (.aload_n 0, 1) := by decide +kernel
theorem dX8_take_304 : decode cX8_take 304 = .ok (.aload_n 1, 1) := by decide +kernel
theorem dX8_take_305 : decode cX8_take 305 = .ok (.iload_n 2, 1) := by decide +kernel
theorem dX8_take_306 : decode cX8_take 306 = .ok (.iconst 1, 1) := by decide +kernel
theorem dX8_take_307 : decode cX8_take 307 = .ok (.invokevirtual 135, 3) := by decide +kernel
theorem dX8_take_310 : decode cX8_take 310 = .ok (.goto 21, 3) := by decide +kernel
theorem dX8_take_313 : decode cX8_take 313 = .ok (.aload_n 0, 1) := by decide +kernel
theorem dX8_take_314 : decode cX8_take 314 = .ok (.aload_n 1, 1) := by decide +kernel
theorem dX8_take_315 : decode cX8_take 315 = .ok (.iload_n 2, 1) := by decide +kernel
theorem dX8_take_316 : decode cX8_take 316 = .ok (.iconst 0, 1) := by decide +kernel
theorem dX8_take_317 : decode cX8_take 317 = .ok (.invokevirtual 135, 3) := by decide +kernel
theorem dX8_take_320 : decode cX8_take 320 = .ok (.goto 11, 3) := by decide +kernel
theorem dX8_take_323 : decode cX8_take 323 = .ok (.aload_n 0, 1) := by decide +kernel
theorem dX8_take_324 : decode cX8_take 324 = .ok (.iload_n 2, 1) := by decide +kernel
theorem dX8_take_325 : decode cX8_take 325 = .ok (.invokevirtual 138, 3) := by decide +kernel
theorem dX8_take_328 : decode cX8_take 328 = .ok (.goto 3, 3) := by decide +kernel
theorem dX8_take_331 : decode cX8_take 331 = .ok (.return_, 1) := by decide +kernel
def B_X8_take_331 (w : rd_W) (S : rd_S) : Option (rd_S) :=
  some S
theorem yb_X8_take_331 (cx : rd_Cx) (w : rd_W) (S : rd_S) : rd_Y cx G_X8_take (fun r => rd_P cx G_X8_take.2.2.2.2.2 0 w (rd_rV w r)) (B_X8_take_331 w S) 331 [] [] w S 0 0 := by
  unfold B_X8_take_331
  exact ry_vret dX8_take_331 rfl (Nat.le_of_ble_eq_true rfl) (Nat.le_of_ble_eq_true rfl)
def B_X8_take_74 (w : rd_W) (a0 : Nat) (a1 : Nat) (x2 : Int32) (S : rd_S) : Option (rd_S) :=
  rd_b (F_X3_typeAndVersion w a1 S) fun v21 s20 =>
  if v21 = 0 then
  (rd_c (F_X8_takeTuning w a0 a1 x2 1 s20) fun s23 =>
  B_X8_take_331 w s23)
  else
  if v21 = 1 then
  (rd_c (F_X8_takeTuning w a0 a1 x2 0 s20) fun s25 =>
  B_X8_take_331 w s25)
  else
  if v21 = 2 then
  (rd_c (F_X8_takeItem w a0 a1 1 s20) fun s27 =>
  B_X8_take_331 w s27)
  else
  if v21 = 3 then
  (rd_c (F_X8_takeItem w a0 a1 0 s20) fun s29 =>
  B_X8_take_331 w s29)
  else
  if v21 = 4 then
  (rd_c (F_X8_takeLongText w a0 a1 x2 s20) fun s31 =>
  B_X8_take_331 w s31)
  else
  if v21 = 5 then
  (rd_c (F_X8_takeShortText w a0 a1 x2 s20) fun s33 =>
  B_X8_take_331 w s33)
  else
  if v21 = 6 then
  (rd_c (F_X8_takeOda w a0 a1 x2 s20) fun s35 =>
  B_X8_take_331 w s35)
  else
  if v21 = 8 then
  (rd_c (F_X8_takeTime w a0 a1 x2 s20) fun s37 =>
  B_X8_take_331 w s37)
  else
  if v21 = 20 then
  (rd_c (F_X8_takeKind w a0 a1 x2 s20) fun s39 =>
  B_X8_take_331 w s39)
  else
  if v21 = 28 then
  (rd_c (F_X8_takeOther w a0 a1 x2 1 s20) fun s41 =>
  B_X8_take_331 w s41)
  else
  if v21 = 29 then
  (rd_c (F_X8_takeOther w a0 a1 x2 0 s20) fun s43 =>
  B_X8_take_331 w s43)
  else
  if v21 = 31 then
  (rd_c (F_X8_takeSwitches w a0 x2 s20) fun s45 =>
  B_X8_take_331 w s45)
  else
  (B_X8_take_331 w s20)
theorem yb_X8_take_74 (cx : rd_Cx) (w : rd_W) (a0 : Nat) (a1 : Nat) (x2 : Int32) (ha0 : rd_ok w a0 8) (ha1 : rd_ok w a1 3) (S : rd_S) : rd_Y cx G_X8_take (fun r => rd_P cx G_X8_take.2.2.2.2.2 0 w (rd_rV w r)) (B_X8_take_74 w a0 a1 x2 S) 74 [(0, .inr (some a0)), (1, .inr (some a1)), (2, .inl x2)] [] w S 0 0 := by
  unfold B_X8_take_74
  refine ry_aload_n dX8_take_74 rfl ?_
  refine ry_callI (fun l r9 h9 => cm_X3_typeAndVersion l cx w a1 ha1 S r9 h9) (rd_runV (vs := []) dX8_take_75 ha1 rfl rfl yf_X3_typeAndVersion mi_X3_typeAndVersion ms_X3_typeAndVersion ml_RX8_108 ⟨Nat.le_of_ble_eq_true rfl, Nat.le_of_ble_eq_true rfl⟩ (Nat.le_of_ble_eq_true rfl) rfl) rfl rfl (Nat.le_of_ble_eq_true rfl) (Nat.le_of_ble_eq_true rfl) (fun v21 s20 => ?_)
  refine ry_split _ (fun c22 => ?_) (fun c22 => ?_)
  · refine ry_tsIn 220 0 c22 dX8_take_78 (by decide) (by decide) rfl (by decide) ?_
    refine ry_aload_n dX8_take_220 rfl ?_
    refine ry_aload_n dX8_take_221 rfl ?_
    refine ry_iload_n dX8_take_222 rfl ?_
    refine ry_iconst (v := 1) dX8_take_223 (by decide) ?_
    refine ry_callv (fun l r9 h9 => cm_X8_takeTuning l cx w a0 a1 x2 1 ha0 ha1 s20 r9 h9) (rd_runV (vs := [.inr (some a1), .inl x2, .inl 1]) dX8_take_224 ha0 rfl rfl yf_X8_takeTuning mi_X8_takeTuning ms_X8_takeTuning ml_RX8_111 ⟨Nat.le_of_ble_eq_true rfl, Nat.le_of_ble_eq_true rfl⟩ (Nat.le_of_ble_eq_true rfl) rfl) rfl rfl (Nat.le_of_ble_eq_true rfl) (Nat.le_of_ble_eq_true rfl) (fun s23 => ?_)
    refine ry_goto 331 dX8_take_227 (by decide) ?_
    exact ry_to (yb_X8_take_331 cx w s23) trivial
  refine ry_split _ (fun c24 => ?_) (fun c24 => ?_)
  · refine ry_tsIn 230 1 c24 dX8_take_78 (by decide) (by decide) rfl (by decide) ?_
    refine ry_aload_n dX8_take_230 rfl ?_
    refine ry_aload_n dX8_take_231 rfl ?_
    refine ry_iload_n dX8_take_232 rfl ?_
    refine ry_iconst (v := 0) dX8_take_233 (by decide) ?_
    refine ry_callv (fun l r9 h9 => cm_X8_takeTuning l cx w a0 a1 x2 0 ha0 ha1 s20 r9 h9) (rd_runV (vs := [.inr (some a1), .inl x2, .inl 0]) dX8_take_234 ha0 rfl rfl yf_X8_takeTuning mi_X8_takeTuning ms_X8_takeTuning ml_RX8_111 ⟨Nat.le_of_ble_eq_true rfl, Nat.le_of_ble_eq_true rfl⟩ (Nat.le_of_ble_eq_true rfl) rfl) rfl rfl (Nat.le_of_ble_eq_true rfl) (Nat.le_of_ble_eq_true rfl) (fun s25 => ?_)
    refine ry_goto 331 dX8_take_237 (by decide) ?_
    exact ry_to (yb_X8_take_331 cx w s25) trivial
  refine ry_split _ (fun c26 => ?_) (fun c26 => ?_)
  · refine ry_tsIn 240 2 c26 dX8_take_78 (by decide) (by decide) rfl (by decide) ?_
    refine ry_aload_n dX8_take_240 rfl ?_
    refine ry_aload_n dX8_take_241 rfl ?_
    refine ry_iconst (v := 1) dX8_take_242 (by decide) ?_
    refine ry_callv (fun l r9 h9 => cm_X8_takeItem l cx w a0 a1 1 ha0 ha1 s20 r9 h9) (rd_runV (vs := [.inr (some a1), .inl 1]) dX8_take_243 ha0 rfl rfl yf_X8_takeItem mi_X8_takeItem ms_X8_takeItem ml_RX8_115 ⟨Nat.le_of_ble_eq_true rfl, Nat.le_of_ble_eq_true rfl⟩ (Nat.le_of_ble_eq_true rfl) rfl) rfl rfl (Nat.le_of_ble_eq_true rfl) (Nat.le_of_ble_eq_true rfl) (fun s27 => ?_)
    refine ry_goto 331 dX8_take_246 (by decide) ?_
    exact ry_to (yb_X8_take_331 cx w s27) trivial
  refine ry_split _ (fun c28 => ?_) (fun c28 => ?_)
  · refine ry_tsIn 249 3 c28 dX8_take_78 (by decide) (by decide) rfl (by decide) ?_
    refine ry_aload_n dX8_take_249 rfl ?_
    refine ry_aload_n dX8_take_250 rfl ?_
    refine ry_iconst (v := 0) dX8_take_251 (by decide) ?_
    refine ry_callv (fun l r9 h9 => cm_X8_takeItem l cx w a0 a1 0 ha0 ha1 s20 r9 h9) (rd_runV (vs := [.inr (some a1), .inl 0]) dX8_take_252 ha0 rfl rfl yf_X8_takeItem mi_X8_takeItem ms_X8_takeItem ml_RX8_115 ⟨Nat.le_of_ble_eq_true rfl, Nat.le_of_ble_eq_true rfl⟩ (Nat.le_of_ble_eq_true rfl) rfl) rfl rfl (Nat.le_of_ble_eq_true rfl) (Nat.le_of_ble_eq_true rfl) (fun s29 => ?_)
    refine ry_goto 331 dX8_take_255 (by decide) ?_
    exact ry_to (yb_X8_take_331 cx w s29) trivial
  refine ry_split _ (fun c30 => ?_) (fun c30 => ?_)
  · refine ry_tsIn 258 4 c30 dX8_take_78 (by decide) (by decide) rfl (by decide) ?_
    refine ry_aload_n dX8_take_258 rfl ?_
    refine ry_aload_n dX8_take_259 rfl ?_
    refine ry_iload_n dX8_take_260 rfl ?_
    refine ry_callv (fun l r9 h9 => cm_X8_takeLongText l cx w a0 a1 x2 ha0 ha1 s20 r9 h9) (rd_runV (vs := [.inr (some a1), .inl x2]) dX8_take_261 ha0 rfl rfl yf_X8_takeLongText mi_X8_takeLongText ms_X8_takeLongText ml_RX8_119 ⟨Nat.le_of_ble_eq_true rfl, Nat.le_of_ble_eq_true rfl⟩ (Nat.le_of_ble_eq_true rfl) rfl) rfl rfl (Nat.le_of_ble_eq_true rfl) (Nat.le_of_ble_eq_true rfl) (fun s31 => ?_)
    refine ry_goto 331 dX8_take_264 (by decide) ?_
    exact ry_to (yb_X8_take_331 cx w s31) trivial
  refine ry_split _ (fun c32 => ?_) (fun c32 => ?_)
  · refine ry_tsIn 267 5 c32 dX8_take_78 (by decide) (by decide) rfl (by decide) ?_
    refine ry_aload_n dX8_take_267 rfl ?_
    refine ry_aload_n dX8_take_268 rfl ?_
    refine ry_iload_n dX8_take_269 rfl ?_
    refine ry_callv (fun l r9 h9 => cm_X8_takeShortText l cx w a0 a1 x2 ha0 ha1 s20 r9 h9) (rd_runV (vs := [.inr (some a1), .inl x2]) dX8_take_270 ha0 rfl rfl yf_X8_takeShortText mi_X8_takeShortText ms_X8_takeShortText ml_RX8_123 ⟨Nat.le_of_ble_eq_true rfl, Nat.le_of_ble_eq_true rfl⟩ (Nat.le_of_ble_eq_true rfl) rfl) rfl rfl (Nat.le_of_ble_eq_true rfl) (Nat.le_of_ble_eq_true rfl) (fun s33 => ?_)
    refine ry_goto 331 dX8_take_273 (by decide) ?_
    exact ry_to (yb_X8_take_331 cx w s33) trivial
  refine ry_split _ (fun c34 => ?_) (fun c34 => ?_)
  · refine ry_tsIn 276 6 c34 dX8_take_78 (by decide) (by decide) rfl (by decide) ?_
    refine ry_aload_n dX8_take_276 rfl ?_
    refine ry_aload_n dX8_take_277 rfl ?_
    refine ry_iload_n dX8_take_278 rfl ?_
    refine ry_callv (fun l r9 h9 => cm_X8_takeOda l cx w a0 a1 x2 ha0 ha1 s20 r9 h9) (rd_runV (vs := [.inr (some a1), .inl x2]) dX8_take_279 ha0 rfl rfl yf_X8_takeOda mi_X8_takeOda ms_X8_takeOda ml_RX8_126 ⟨Nat.le_of_ble_eq_true rfl, Nat.le_of_ble_eq_true rfl⟩ (Nat.le_of_ble_eq_true rfl) rfl) rfl rfl (Nat.le_of_ble_eq_true rfl) (Nat.le_of_ble_eq_true rfl) (fun s35 => ?_)
    refine ry_goto 331 dX8_take_282 (by decide) ?_
    exact ry_to (yb_X8_take_331 cx w s35) trivial
  refine ry_split _ (fun c36 => ?_) (fun c36 => ?_)
  · refine ry_tsIn 285 8 c36 dX8_take_78 (by decide) (by decide) rfl (by decide) ?_
    refine ry_aload_n dX8_take_285 rfl ?_
    refine ry_aload_n dX8_take_286 rfl ?_
    refine ry_iload_n dX8_take_287 rfl ?_
    refine ry_callv (fun l r9 h9 => cm_X8_takeTime l cx w a0 a1 x2 ha0 ha1 s20 r9 h9) (rd_runV (vs := [.inr (some a1), .inl x2]) dX8_take_288 ha0 rfl rfl yf_X8_takeTime mi_X8_takeTime ms_X8_takeTime ml_RX8_129 ⟨Nat.le_of_ble_eq_true rfl, Nat.le_of_ble_eq_true rfl⟩ (Nat.le_of_ble_eq_true rfl) rfl) rfl rfl (Nat.le_of_ble_eq_true rfl) (Nat.le_of_ble_eq_true rfl) (fun s37 => ?_)
    refine ry_goto 331 dX8_take_291 (by decide) ?_
    exact ry_to (yb_X8_take_331 cx w s37) trivial
  refine ry_split _ (fun c38 => ?_) (fun c38 => ?_)
  · refine ry_tsIn 294 20 c38 dX8_take_78 (by decide) (by decide) rfl (by decide) ?_
    refine ry_aload_n dX8_take_294 rfl ?_
    refine ry_aload_n dX8_take_295 rfl ?_
    refine ry_iload_n dX8_take_296 rfl ?_
    refine ry_callv (fun l r9 h9 => cm_X8_takeKind l cx w a0 a1 x2 ha0 ha1 s20 r9 h9) (rd_runV (vs := [.inr (some a1), .inl x2]) dX8_take_297 ha0 rfl rfl yf_X8_takeKind mi_X8_takeKind ms_X8_takeKind ml_RX8_132 ⟨Nat.le_of_ble_eq_true rfl, Nat.le_of_ble_eq_true rfl⟩ (Nat.le_of_ble_eq_true rfl) rfl) rfl rfl (Nat.le_of_ble_eq_true rfl) (Nat.le_of_ble_eq_true rfl) (fun s39 => ?_)
    refine ry_goto 331 dX8_take_300 (by decide) ?_
    exact ry_to (yb_X8_take_331 cx w s39) trivial
  refine ry_split _ (fun c40 => ?_) (fun c40 => ?_)
  · refine ry_tsIn 303 28 c40 dX8_take_78 (by decide) (by decide) rfl (by decide) ?_
    refine ry_aload_n dX8_take_303 rfl ?_
    refine ry_aload_n dX8_take_304 rfl ?_
    refine ry_iload_n dX8_take_305 rfl ?_
    refine ry_iconst (v := 1) dX8_take_306 (by decide) ?_
    refine ry_callv (fun l r9 h9 => cm_X8_takeOther l cx w a0 a1 x2 1 ha0 ha1 s20 r9 h9) (rd_runV (vs := [.inr (some a1), .inl x2, .inl 1]) dX8_take_307 ha0 rfl rfl yf_X8_takeOther mi_X8_takeOther ms_X8_takeOther ml_RX8_135 ⟨Nat.le_of_ble_eq_true rfl, Nat.le_of_ble_eq_true rfl⟩ (Nat.le_of_ble_eq_true rfl) rfl) rfl rfl (Nat.le_of_ble_eq_true rfl) (Nat.le_of_ble_eq_true rfl) (fun s41 => ?_)
    refine ry_goto 331 dX8_take_310 (by decide) ?_
    exact ry_to (yb_X8_take_331 cx w s41) trivial
  refine ry_split _ (fun c42 => ?_) (fun c42 => ?_)
  · refine ry_tsIn 313 29 c42 dX8_take_78 (by decide) (by decide) rfl (by decide) ?_
    refine ry_aload_n dX8_take_313 rfl ?_
    refine ry_aload_n dX8_take_314 rfl ?_
    refine ry_iload_n dX8_take_315 rfl ?_
    refine ry_iconst (v := 0) dX8_take_316 (by decide) ?_
    refine ry_callv (fun l r9 h9 => cm_X8_takeOther l cx w a0 a1 x2 0 ha0 ha1 s20 r9 h9) (rd_runV (vs := [.inr (some a1), .inl x2, .inl 0]) dX8_take_317 ha0 rfl rfl yf_X8_takeOther mi_X8_takeOther ms_X8_takeOther ml_RX8_135 ⟨Nat.le_of_ble_eq_true rfl, Nat.le_of_ble_eq_true rfl⟩ (Nat.le_of_ble_eq_true rfl) rfl) rfl rfl (Nat.le_of_ble_eq_true rfl) (Nat.le_of_ble_eq_true rfl) (fun s43 => ?_)
    refine ry_goto 331 dX8_take_320 (by decide) ?_
    exact ry_to (yb_X8_take_331 cx w s43) trivial
  refine ry_split _ (fun c44 => ?_) (fun c44 => ?_)
  · refine ry_tsIn 323 31 c44 dX8_take_78 (by decide) (by decide) rfl (by decide) ?_
    refine ry_aload_n dX8_take_323 rfl ?_
    refine ry_iload_n dX8_take_324 rfl ?_
    refine ry_callv (fun l r9 h9 => cm_X8_takeSwitches l cx w a0 x2 ha0 s20 r9 h9) (rd_runV (vs := [.inl x2]) dX8_take_325 ha0 rfl rfl yf_X8_takeSwitches mi_X8_takeSwitches ms_X8_takeSwitches ml_RX8_138 ⟨Nat.le_of_ble_eq_true rfl, Nat.le_of_ble_eq_true rfl⟩ (Nat.le_of_ble_eq_true rfl) rfl) rfl rfl (Nat.le_of_ble_eq_true rfl) (Nat.le_of_ble_eq_true rfl) (fun s45 => ?_)
    refine ry_goto 331 dX8_take_328 (by decide) ?_
    exact ry_to (yb_X8_take_331 cx w s45) trivial
  refine ry_tsD 331 [(0, 0), (1, 1), (2, 2), (3, 3), (4, 4), (5, 5), (6, 6), (8, 8), (20, 20), (28, 28), (29, 29), (31, 31)] 32 dX8_take_78 (by decide) (by decide +kernel) (by decide +kernel) ⟨c22, c24, c26, c28, c30, c32, c34, c36, c38, c40, c42, c44, trivial⟩ (by decide) ?_
  exact ry_to (yb_X8_take_331 cx w s20) trivial
def F_X8_take (w : rd_W) (a0 : Nat) (a1 : Nat) (S : rd_S) : Option (rd_S) :=
  rd_b (F_X3_identity w a1 S) fun v2 s1 =>
  rd_c (F_X8_takeIdentity w a0 v2 s1) fun s3 =>
  rd_b (F_X3_knows w a1 1 s3) fun v5 s4 =>
  if v5 = 0 then
  (some s4)
  else
  (rd_b (F_X3_what w a1 1 s4) fun v8 s7 =>
  rd_c (gR s7 a0 0) fun b9 =>
  rd_b (F_X11_field w v8 10 1 s7) fun v11 s10 =>
  rd_i 1 (w.2.2 b9) <|
  rd_let (pI s10 b9 (1 : Int32).toNatClampNeg v11) fun s12 =>
  rd_c (gR s12 a0 0) fun b13 =>
  rd_b (F_X11_field w v8 5 5 s12) fun v15 s14 =>
  rd_i 2 (w.2.2 b13) <|
  rd_let (pI s14 b13 (2 : Int32).toNatClampNeg v15) fun s16 =>
  rd_b (F_X8_bearsTags w a0 a1 s16) fun v18 s17 =>
  if v18 = 0 then
  (B_X8_take_74 w a0 a1 v8 s17)
  else
  (rd_c (gR s17 a0 8) fun b46 =>
  rd_b (F_X3_what w a1 2 s17) fun v48 s47 =>
  rd_b (F_X3_what w a1 3 s47) fun v50 s49 =>
  rd_c (F_X9_take w b46 v8 v48 v50 s49) fun s51 =>
  B_X8_take_74 w a0 a1 v8 s51))
theorem ym_X8_take (cx : rd_Cx) (w : rd_W) (a0 : Nat) (a1 : Nat) (ha0 : rd_ok w a0 8) (ha1 : rd_ok w a1 3) (S : rd_S) : rd_Y cx G_X8_take (fun r => rd_P cx G_X8_take.2.2.2.2.2 0 w (rd_rV w r)) (F_X8_take w a0 a1 S) 0 (rd_as 0 [.inr (some a0), .inr (some a1)]) [] w S 0 0 := by
  unfold F_X8_take
  refine ry_aload_n dX8_take_0 rfl ?_
  refine ry_aload_n dX8_take_1 rfl ?_
  refine ry_callI (fun l r9 h9 => cm_X3_identity l cx w a1 ha1 S r9 h9) (rd_runV (vs := []) dX8_take_2 ha1 rfl rfl yf_X3_identity mi_X3_identity ms_X3_identity ml_RX8_79 ⟨Nat.le_of_ble_eq_true rfl, Nat.le_of_ble_eq_true rfl⟩ (Nat.le_of_ble_eq_true rfl) rfl) rfl rfl (Nat.le_of_ble_eq_true rfl) (Nat.le_of_ble_eq_true rfl) (fun v2 s1 => ?_)
  refine ry_callv (fun l r9 h9 => cm_X8_takeIdentity l cx w a0 v2 ha0 s1 r9 h9) (rd_runV (vs := [.inl v2]) dX8_take_5 ha0 rfl rfl yf_X8_takeIdentity mi_X8_takeIdentity ms_X8_takeIdentity ml_RX8_85 ⟨Nat.le_of_ble_eq_true rfl, Nat.le_of_ble_eq_true rfl⟩ (Nat.le_of_ble_eq_true rfl) rfl) rfl rfl (Nat.le_of_ble_eq_true rfl) (Nat.le_of_ble_eq_true rfl) (fun s3 => ?_)
  refine ry_aload_n dX8_take_8 rfl ?_
  refine ry_iconst (v := 1) dX8_take_9 (by decide) ?_
  refine ry_callI (fun l r9 h9 => cm_X3_knows l cx w a1 1 ha1 s3 r9 h9) (rd_runV (vs := [.inl 1]) dX8_take_10 ha1 rfl rfl yf_X3_knows mi_X3_knows ms_X3_knows ml_RX8_89 ⟨Nat.le_of_ble_eq_true rfl, Nat.le_of_ble_eq_true rfl⟩ (Nat.le_of_ble_eq_true rfl) rfl) rfl rfl (Nat.le_of_ble_eq_true rfl) (Nat.le_of_ble_eq_true rfl) (fun v5 s4 => ?_)
  refine ry_if_ne 17 dX8_take_13 (by decide) (fun c6 => ?_) (fun c6 => ?_)
  · exact ry_vret dX8_take_16 rfl (Nat.le_of_ble_eq_true rfl) (Nat.le_of_ble_eq_true rfl)
  · refine ry_aload_n dX8_take_17 rfl ?_
    refine ry_iconst (v := 1) dX8_take_18 (by decide) ?_
    refine ry_callI (fun l r9 h9 => cm_X3_what l cx w a1 1 ha1 s4 r9 h9) (rd_runV (vs := [.inl 1]) dX8_take_19 ha1 rfl rfl yf_X3_what mi_X3_what ms_X3_what ml_RX8_93 ⟨Nat.le_of_ble_eq_true rfl, Nat.le_of_ble_eq_true rfl⟩ (Nat.le_of_ble_eq_true rfl) rfl) rfl rfl (Nat.le_of_ble_eq_true rfl) (Nat.le_of_ble_eq_true rfl) (fun v8 s7 => ?_)
    refine ry_istore_n dX8_take_22 (by decide) ?_
    refine ry_aload_n dX8_take_23 rfl ?_
    refine ry_getr dX8_take_24 ha0 fl_RX8_11 rfl (fun b9 hb9 => ?_)
    refine ry_iconst (v := 1) dX8_take_27 (by decide) ?_
    refine ry_iload_n dX8_take_28 rfl ?_
    refine ry_bipush (v := 10) dX8_take_29 (by decide) ?_
    refine ry_iconst (v := 1) dX8_take_31 (by decide) ?_
    refine ry_callI (fun l r9 h9 => cm_X11_field l cx w v8 10 1 s7 r9 h9) (rd_runSN (vs := [.inl v8, .inl 10, .inl 1]) dX8_take_32 yf_X11_field mt_X11_field mn_RX8_97 ⟨Nat.le_of_ble_eq_true rfl, Nat.le_of_ble_eq_true rfl⟩ (Nat.le_of_ble_eq_true rfl) rfl) rfl rfl (Nat.le_of_ble_eq_true rfl) (Nat.le_of_ble_eq_true rfl) (fun v11 s10 => ?_)
    refine ry_iast dX8_take_35 hb9 ?_
    refine ry_letS (fun s12 => ?_)
    refine ry_aload_n dX8_take_36 rfl ?_
    refine ry_getr dX8_take_37 ha0 fl_RX8_11 rfl (fun b13 hb13 => ?_)
    refine ry_iconst (v := 2) dX8_take_40 (by decide) ?_
    refine ry_iload_n dX8_take_41 rfl ?_
    refine ry_iconst (v := 5) dX8_take_42 (by decide) ?_
    refine ry_iconst (v := 5) dX8_take_43 (by decide) ?_
    refine ry_callI (fun l r9 h9 => cm_X11_field l cx w v8 5 5 s12 r9 h9) (rd_runSN (vs := [.inl v8, .inl 5, .inl 5]) dX8_take_44 yf_X11_field mt_X11_field mn_RX8_97 ⟨Nat.le_of_ble_eq_true rfl, Nat.le_of_ble_eq_true rfl⟩ (Nat.le_of_ble_eq_true rfl) rfl) rfl rfl (Nat.le_of_ble_eq_true rfl) (Nat.le_of_ble_eq_true rfl) (fun v15 s14 => ?_)
    refine ry_iast dX8_take_47 hb13 ?_
    refine ry_letS (fun s16 => ?_)
    refine ry_aload_n dX8_take_48 rfl ?_
    refine ry_aload_n dX8_take_49 rfl ?_
    refine ry_callI (fun l r9 h9 => cm_X8_bearsTags l cx w a0 a1 ha0 ha1 s16 r9 h9) (rd_runV (vs := [.inr (some a1)]) dX8_take_50 ha0 rfl rfl yf_X8_bearsTags mi_X8_bearsTags ms_X8_bearsTags ml_RX8_101 ⟨Nat.le_of_ble_eq_true rfl, Nat.le_of_ble_eq_true rfl⟩ (Nat.le_of_ble_eq_true rfl) rfl) rfl rfl (Nat.le_of_ble_eq_true rfl) (Nat.le_of_ble_eq_true rfl) (fun v18 s17 => ?_)
    refine ry_if_eq 74 dX8_take_53 (by decide) (fun c19 => ?_) (fun c19 => ?_)
    · exact ry_to (yb_X8_take_74 cx w a0 a1 v8 ha0 ha1 s17) ⟨rfl, rfl, rfl, trivial⟩
    · refine ry_aload_n dX8_take_56 rfl ?_
      refine ry_getr dX8_take_57 ha0 fl_RX8_61 rfl (fun b46 hb46 => ?_)
      refine ry_iload_n dX8_take_60 rfl ?_
      refine ry_aload_n dX8_take_61 rfl ?_
      refine ry_iconst (v := 2) dX8_take_62 (by decide) ?_
      refine ry_callI (fun l r9 h9 => cm_X3_what l cx w a1 2 ha1 s17 r9 h9) (rd_runV (vs := [.inl 2]) dX8_take_63 ha1 rfl rfl yf_X3_what mi_X3_what ms_X3_what ml_RX8_93 ⟨Nat.le_of_ble_eq_true rfl, Nat.le_of_ble_eq_true rfl⟩ (Nat.le_of_ble_eq_true rfl) rfl) rfl rfl (Nat.le_of_ble_eq_true rfl) (Nat.le_of_ble_eq_true rfl) (fun v48 s47 => ?_)
      refine ry_aload_n dX8_take_66 rfl ?_
      refine ry_iconst (v := 3) dX8_take_67 (by decide) ?_
      refine ry_callI (fun l r9 h9 => cm_X3_what l cx w a1 3 ha1 s47 r9 h9) (rd_runV (vs := [.inl 3]) dX8_take_68 ha1 rfl rfl yf_X3_what mi_X3_what ms_X3_what ml_RX8_93 ⟨Nat.le_of_ble_eq_true rfl, Nat.le_of_ble_eq_true rfl⟩ (Nat.le_of_ble_eq_true rfl) rfl) rfl rfl (Nat.le_of_ble_eq_true rfl) (Nat.le_of_ble_eq_true rfl) (fun v50 s49 => ?_)
      refine ry_callv (fun l r9 h9 => cm_X9_take l cx w b46 v8 v48 v50 hb46 s49 r9 h9) (rd_runV (vs := [.inl v8, .inl v48, .inl v50]) dX8_take_71 hb46 rfl rfl yf_X9_take mi_X9_take ms_X9_take ml_RX8_105 ⟨Nat.le_of_ble_eq_true rfl, Nat.le_of_ble_eq_true rfl⟩ (Nat.le_of_ble_eq_true rfl) rfl) rfl rfl (Nat.le_of_ble_eq_true rfl) (Nat.le_of_ble_eq_true rfl) (fun s51 => ?_)
      exact ry_to (yb_X8_take_74 cx w a0 a1 v8 ha0 ha1 s51) ⟨rfl, rfl, rfl, trivial⟩
theorem cm_X8_take (l : Launch) (cx : rd_Cx) (w : rd_W) (a0 : Nat) (a1 : Nat) (ha0 : rd_ok w a0 8) (ha1 : rd_ok w a1 3) (S : rd_S) (r : rd_S) (h : F_X8_take w a0 a1 S = some r) : rd_M l cx yX8_take G_X8_take 0 [.inr (some a0), .inr (some a1)] w S (rd_rV w r) :=
  rd_enter (plainFor_of_name (by decide +kernel)) rfl (fun h => by cases h) (Nat.le_of_ble_eq_true rfl) (ym_X8_take cx w a0 a1 ha0 ha1 S r h)
abbrev G_X11_feed : rd_G := (RX11, cX11_feed, 4, (some .boolean), false, { frames := 6, cells := 0, slots := 0, locals := 154 })
theorem yf_X11_feed : rd_YL yX11_feed G_X11_feed 2 := ⟨rd_mem 402 (by decide +kernel) rfl, rd_mem 62 (by decide +kernel) rfl, by decide +kernel, by decide +kernel, by decide +kernel⟩
theorem mi_X11_feed : Cond.instanceMethod yX11_feed ∈ rd_gw := rd_mem 400 (by decide +kernel) rfl
theorem ms_X11_feed : Cond.selects (MethodName.cls yX11_feed) yX11_feed yX11_feed ∈ rd_gw := rd_mem 401 (by decide +kernel) rfl
theorem dX11_feed_0 : decode cX11_feed 0 = .ok (.iload_n 2, 1) := by decide +kernel
theorem dX11_feed_1 : decode cX11_feed 1 = .ok (.iconst 1, 1) := by decide +kernel
theorem dX11_feed_2 : decode cX11_feed 2 = .ok (.if_icmp .lt 9, 3) := by decide +kernel
theorem dX11_feed_5 : decode cX11_feed 5 = .ok (.iload_n 2, 1) := by decide +kernel
theorem dX11_feed_6 : decode cX11_feed 6 = .ok (.bipush 26, 2) := by decide +kernel
theorem dX11_feed_8 : decode cX11_feed 8 = .ok (.if_icmp .le 5, 3) := by decide +kernel
theorem dX11_feed_11 : decode cX11_feed 11 = .ok (.iconst 0, 1) := by decide +kernel
theorem dX11_feed_12 : decode cX11_feed 12 = .ok (.ireturn, 1) := by decide +kernel
theorem dX11_feed_13 : decode cX11_feed 13 = .ok (.iload_n 2, 1) := by decide +kernel
theorem dX11_feed_14 : decode cX11_feed 14 = .ok (.iconst 1, 1) := by decide +kernel
theorem dX11_feed_15 : decode cX11_feed 15 = .ok (.isub, 1) := by decide +kernel
theorem dX11_feed_16 : decode cX11_feed 16 = .ok (.istore_n 3, 1) := by decide +kernel
theorem dX11_feed_17 : decode cX11_feed 17 = .ok (.iload_n 3, 1) := by decide +kernel
theorem dX11_feed_18 : decode cX11_feed 18 = .ok (.ifCond .lt 49, 3) := by decide +kernel
theorem dX11_feed_21 : decode cX11_feed 21 = .ok (.aload_n 0, 1) := by decide +kernel
theorem dX11_feed_22 : decode cX11_feed 22 = .ok (.getfield 12, 3) := by decide +kernel
theorem dX11_feed_25 : decode cX11_feed 25 = .ok (.iload_n 1, 1) := by decide +kernel
theorem dX11_feed_26 : decode cX11_feed 26 = .ok (.iload_n 3, 1) := by decide +kernel
theorem dX11_feed_27 : decode cX11_feed 27 = .ok (.iushr, 1) := by decide +kernel
theorem dX11_feed_28 : decode cX11_feed 28 = .ok (.iconst 1, 1) := by decide +kernel
theorem dX11_feed_29 : decode cX11_feed 29 = .ok (.iand, 1) := by decide +kernel
theorem dX11_feed_30 : decode cX11_feed 30 = .ok (.invokevirtual 30, 3) := by decide +kernel
theorem dX11_feed_33 : decode cX11_feed 33 = .ok (.ifCond .eq 28, 3) := by decide +kernel
theorem dX11_feed_36 : decode cX11_feed 36 = .ok (.aload_n 0, 1) := by decide +kernel
theorem dX11_feed_37 : decode cX11_feed 37 = .ok (.getfield 19, 3) := by decide +kernel
theorem dX11_feed_40 : decode cX11_feed 40 = .ok (.aload_n 0, 1) := by decide +kernel
theorem dX11_feed_41 : decode cX11_feed 41 = .ok (.getfield 12, 3) := by decide +kernel
theorem dX11_feed_44 : decode cX11_feed 44 = .ok (.getfield 34, 3) := by decide +kernel
theorem dX11_feed_47 : decode cX11_feed 47 = .ok (.invokevirtual 37, 3) := by decide +kernel
theorem dX11_feed_50 : decode cX11_feed 50 = .ok (.aload_n 0, 1) := by decide +kernel
theorem dX11_feed_51 : decode cX11_feed 51 = .ok (.getfield 26, 3) := by decide +kernel
theorem dX11_feed_54 : decode cX11_feed 54 = .ok (.aload_n 0, 1) := by decide +kernel
theorem dX11_feed_55 : decode cX11_feed 55 = .ok (.getfield 19, 3) := by decide +kernel
theorem dX11_feed_58 : decode cX11_feed 58 = .ok (.invokevirtual 41, 3) := by decide +kernel
theorem dX11_feed_61 : decode cX11_feed 61 = .ok (.iinc 3 (-1), 3) := by decide +kernel
theorem dX11_feed_64 : decode cX11_feed 64 = .ok (.goto (-47), 3) := by decide +kernel
theorem dX11_feed_67 : decode cX11_feed 67 = .ok (.iconst 1, 1) := by decide +kernel
theorem dX11_feed_68 : decode cX11_feed 68 = .ok (.ireturn, 1) := by decide +kernel
def B_X11_feed_11 (w : rd_W) (S : rd_S) : Option (Int32 × rd_S) :=
  some (0, S)
theorem yb_X11_feed_11 (cx : rd_Cx) (w : rd_W) (S : rd_S) : rd_Y cx G_X11_feed (fun r => rd_P cx G_X11_feed.2.2.2.2.2 0 w (rd_rI w r)) (B_X11_feed_11 w S) 11 [] [] w S 0 0 := by
  unfold B_X11_feed_11
  refine ry_iconst (v := 0) dX11_feed_11 (by decide) ?_
  exact ry_zret dX11_feed_12 rfl (by decide) (Nat.le_of_ble_eq_true rfl) (Nat.le_of_ble_eq_true rfl)
def B_X11_feed_61 (w : rd_W) (k17 : Nat → Int32 → Int32 → rd_S → Option (Int32 × rd_S)) (a0 : Nat) (x1 : Int32) (x3 : Int32) (S : rd_S) : Option (Int32 × rd_S) :=
  rd_let (x3 + (-1)) fun v9 =>
  k17 a0 x1 v9 S
theorem yb_X11_feed_61 (cx : rd_Cx) (w : rd_W) {k17 : Nat → Int32 → Int32 → rd_S → Option (Int32 × rd_S)} (hk17 : ∀ (a0 : Nat) (x1 : Int32) (x3 : Int32) (ha0 : rd_ok w a0 11) (S : rd_S), rd_Y cx G_X11_feed (fun r => rd_P cx G_X11_feed.2.2.2.2.2 0 w (rd_rI w r)) (k17 a0 x1 x3 S) 17 [(0, .inr (some a0)), (1, .inl x1), (3, .inl x3)] [] w S 0 0) (a0 : Nat) (x1 : Int32) (x3 : Int32) (ha0 : rd_ok w a0 11) (S : rd_S) : rd_Y cx G_X11_feed (fun r => rd_P cx G_X11_feed.2.2.2.2.2 0 w (rd_rI w r)) (B_X11_feed_61 w k17 a0 x1 x3 S) 61 [(0, .inr (some a0)), (1, .inl x1), (3, .inl x3)] [] w S 0 0 := by
  unfold B_X11_feed_61
  refine ry_iinc (v := (-1)) dX11_feed_61 rfl (by decide) (by decide) ?_
  refine ry_let (fun v9 => ?_)
  refine ry_goto 17 dX11_feed_64 (by decide) ?_
  exact ry_to (hk17 a0 x1 v9 ha0 S) ⟨rfl, rfl, rfl, trivial⟩
def B_X11_feed_17 (w : rd_W) (k17 : Nat → Int32 → Int32 → rd_S → Option (Int32 × rd_S)) (a0 : Nat) (x1 : Int32) (x3 : Int32) (S : rd_S) : Option (Int32 × rd_S) :=
  if x3 < 0 then
  (some (1, S))
  else
  (rd_c (gR S a0 0) fun b5 =>
  rd_b (F_X7_accept w b5 ((rd_ush x1 x3) &&& 1) S) fun v7 s6 =>
  if v7 = 0 then
  (B_X11_feed_61 w k17 a0 x1 x3 s6)
  else
  (rd_c (gR s6 a0 1) fun b10 =>
  rd_c (gR s6 a0 0) fun b11 =>
  rd_c (gR s6 b11 0) fun b12 =>
  rd_c (F_X3_copy w b10 b12 s6) fun s13 =>
  rd_c (gR s13 a0 2) fun b14 =>
  rd_c (gR s13 a0 1) fun b15 =>
  rd_c (F_X8_take w b14 b15 s13) fun s16 =>
  B_X11_feed_61 w k17 a0 x1 x3 s16))
theorem yb_X11_feed_17 (cx : rd_Cx) (w : rd_W) {k17 : Nat → Int32 → Int32 → rd_S → Option (Int32 × rd_S)} (hk17 : ∀ (a0 : Nat) (x1 : Int32) (x3 : Int32) (ha0 : rd_ok w a0 11) (S : rd_S), rd_Y cx G_X11_feed (fun r => rd_P cx G_X11_feed.2.2.2.2.2 0 w (rd_rI w r)) (k17 a0 x1 x3 S) 17 [(0, .inr (some a0)), (1, .inl x1), (3, .inl x3)] [] w S 0 0) (a0 : Nat) (x1 : Int32) (x3 : Int32) (ha0 : rd_ok w a0 11) (S : rd_S) : rd_Y cx G_X11_feed (fun r => rd_P cx G_X11_feed.2.2.2.2.2 0 w (rd_rI w r)) (B_X11_feed_17 w k17 a0 x1 x3 S) 17 [(0, .inr (some a0)), (1, .inl x1), (3, .inl x3)] [] w S 0 0 := by
  unfold B_X11_feed_17
  refine ry_iload_n dX11_feed_17 rfl ?_
  refine ry_if_lt 67 dX11_feed_18 (by decide) (fun c4 => ?_) (fun c4 => ?_)
  · refine ry_iconst (v := 1) dX11_feed_67 (by decide) ?_
    exact ry_zret dX11_feed_68 rfl (by decide) (Nat.le_of_ble_eq_true rfl) (Nat.le_of_ble_eq_true rfl)
  · refine ry_aload_n dX11_feed_21 rfl ?_
    refine ry_getr dX11_feed_22 ha0 fl_RX11_12 rfl (fun b5 hb5 => ?_)
    refine ry_iload_n dX11_feed_25 rfl ?_
    refine ry_iload_n dX11_feed_26 rfl ?_
    refine ry_iushr dX11_feed_27 ?_
    refine ry_iconst (v := 1) dX11_feed_28 (by decide) ?_
    refine ry_iand dX11_feed_29 ?_
    refine ry_callI (fun l r9 h9 => cm_X7_accept l cx w b5 ((rd_ush x1 x3) &&& 1) hb5 S r9 h9) (rd_runV (vs := [.inl ((rd_ush x1 x3) &&& 1)]) dX11_feed_30 hb5 rfl rfl yf_X7_accept mi_X7_accept ms_X7_accept ml_RX11_30 ⟨Nat.le_of_ble_eq_true rfl, Nat.le_of_ble_eq_true rfl⟩ (Nat.le_of_ble_eq_true rfl) rfl) rfl rfl (Nat.le_of_ble_eq_true rfl) (Nat.le_of_ble_eq_true rfl) (fun v7 s6 => ?_)
    refine ry_if_eq 61 dX11_feed_33 (by decide) (fun c8 => ?_) (fun c8 => ?_)
    · exact ry_to (yb_X11_feed_61 cx w (k17 := k17) hk17 a0 x1 x3 ha0 s6) ⟨rfl, rfl, rfl, trivial⟩
    · refine ry_aload_n dX11_feed_36 rfl ?_
      refine ry_getr dX11_feed_37 ha0 fl_RX11_19 rfl (fun b10 hb10 => ?_)
      refine ry_aload_n dX11_feed_40 rfl ?_
      refine ry_getr dX11_feed_41 ha0 fl_RX11_12 rfl (fun b11 hb11 => ?_)
      refine ry_getr dX11_feed_44 hb11 fl_RX11_34 rfl (fun b12 hb12 => ?_)
      refine ry_callv (fun l r9 h9 => cm_X3_copy l cx w b10 b12 hb10 hb12 s6 r9 h9) (rd_runV (vs := [.inr (some b12)]) dX11_feed_47 hb10 rfl rfl yf_X3_copy mi_X3_copy ms_X3_copy ml_RX11_37 ⟨Nat.le_of_ble_eq_true rfl, Nat.le_of_ble_eq_true rfl⟩ (Nat.le_of_ble_eq_true rfl) rfl) rfl rfl (Nat.le_of_ble_eq_true rfl) (Nat.le_of_ble_eq_true rfl) (fun s13 => ?_)
      refine ry_aload_n dX11_feed_50 rfl ?_
      refine ry_getr dX11_feed_51 ha0 fl_RX11_26 rfl (fun b14 hb14 => ?_)
      refine ry_aload_n dX11_feed_54 rfl ?_
      refine ry_getr dX11_feed_55 ha0 fl_RX11_19 rfl (fun b15 hb15 => ?_)
      refine ry_callv (fun l r9 h9 => cm_X8_take l cx w b14 b15 hb14 hb15 s13 r9 h9) (rd_runV (vs := [.inr (some b15)]) dX11_feed_58 hb14 rfl rfl yf_X8_take mi_X8_take ms_X8_take ml_RX11_41 ⟨Nat.le_of_ble_eq_true rfl, Nat.le_of_ble_eq_true rfl⟩ (Nat.le_of_ble_eq_true rfl) rfl) rfl rfl (Nat.le_of_ble_eq_true rfl) (Nat.le_of_ble_eq_true rfl) (fun s16 => ?_)
      exact ry_to (yb_X11_feed_61 cx w (k17 := k17) hk17 a0 x1 x3 ha0 s16) ⟨rfl, rfl, rfl, trivial⟩
def F_X11_feed_17 (w : rd_W) (n : Nat) : Nat → Int32 → Int32 → rd_S → Option (Int32 × rd_S) :=
  Nat.rec (motive := fun _ => Nat → Int32 → Int32 → rd_S → Option (Int32 × rd_S)) (fun _ _ _ _ => none) (fun _ ih => B_X11_feed_17 w ih) n
theorem yl_X11_feed_17 (cx : rd_Cx) (w : rd_W) : ∀ (n : Nat) (a0 : Nat) (x1 : Int32) (x3 : Int32) (ha0 : rd_ok w a0 11) (S : rd_S), rd_Y cx G_X11_feed (fun r => rd_P cx G_X11_feed.2.2.2.2.2 0 w (rd_rI w r)) (F_X11_feed_17 w n a0 x1 x3 S) 17 [(0, .inr (some a0)), (1, .inl x1), (3, .inl x3)] [] w S 0 0 := by
  intro n
  induction n with
  | zero => intro a0 x1 x3 ha0 S; exact ry_none
  | succ n ih => intro a0 x1 x3 ha0 S; exact yb_X11_feed_17 cx w ih a0 x1 x3 ha0 S
def F_X11_feed (w : rd_W) (a0 : Nat) (x1 : Int32) (x2 : Int32) (S : rd_S) : Option (Int32 × rd_S) :=
  if x2 < 1 then
  (B_X11_feed_11 w S)
  else
  (if x2 ≤ 26 then
  (rd_let (x2 - 1) fun v3 =>
  F_X11_feed_17 w rd_big a0 x1 v3 S)
  else
  (B_X11_feed_11 w S))
theorem ym_X11_feed (cx : rd_Cx) (w : rd_W) (a0 : Nat) (x1 : Int32) (x2 : Int32) (ha0 : rd_ok w a0 11) (S : rd_S) : rd_Y cx G_X11_feed (fun r => rd_P cx G_X11_feed.2.2.2.2.2 0 w (rd_rI w r)) (F_X11_feed w a0 x1 x2 S) 0 (rd_as 0 [.inr (some a0), .inl x1, .inl x2]) [] w S 0 0 := by
  unfold F_X11_feed
  refine ry_iload_n dX11_feed_0 rfl ?_
  refine ry_iconst (v := 1) dX11_feed_1 (by decide) ?_
  refine ry_icmp_lt 11 dX11_feed_2 (by decide) (fun c1 => ?_) (fun c1 => ?_)
  · exact ry_to (yb_X11_feed_11 cx w S) trivial
  · refine ry_iload_n dX11_feed_5 rfl ?_
    refine ry_bipush (v := 26) dX11_feed_6 (by decide) ?_
    refine ry_icmp_le 13 dX11_feed_8 (by decide) (fun c2 => ?_) (fun c2 => ?_)
    · refine ry_iload_n dX11_feed_13 rfl ?_
      refine ry_iconst (v := 1) dX11_feed_14 (by decide) ?_
      refine ry_isub dX11_feed_15 ?_
      refine ry_istore_n dX11_feed_16 (by decide) ?_
      refine ry_let (fun v3 => ?_)
      exact ry_to (yl_X11_feed_17 cx w rd_big a0 x1 v3 ha0 S) ⟨rfl, rfl, rfl, trivial⟩
    · exact ry_to (yb_X11_feed_11 cx w S) trivial
theorem cm_X11_feed (l : Launch) (cx : rd_Cx) (w : rd_W) (a0 : Nat) (x1 : Int32) (x2 : Int32) (ha0 : rd_ok w a0 11) (S : rd_S) (r : Int32 × rd_S) (h : F_X11_feed w a0 x1 x2 S = some r) : rd_M l cx yX11_feed G_X11_feed 0 [.inr (some a0), .inl x1, .inl x2] w S (rd_rI w r) :=
  rd_enter (plainFor_of_name (by decide +kernel)) rfl (fun h => by cases h) (Nat.le_of_ble_eq_true rfl) (ym_X11_feed cx w a0 x1 x2 ha0 S r h)
abbrev G_X12_ended : rd_G := (RX12, cX12_ended, 4, (some .int), false, { frames := 0, cells := 0, slots := 0, locals := 0 })
theorem yf_X12_ended : rd_YL yX12_ended G_X12_ended 1 := ⟨rd_mem 880 (by decide +kernel) rfl, rd_mem 75 (by decide +kernel) rfl, by decide +kernel, by decide +kernel, by decide +kernel⟩
theorem mi_X12_ended : Cond.instanceMethod yX12_ended ∈ rd_gw := rd_mem 879 (by decide +kernel) rfl
theorem ms_X12_ended : Cond.selects (MethodName.cls yX12_ended) yX12_ended yX12_ended ∈ rd_gw := rd_mem 37 (by decide +kernel) rfl
theorem dX12_ended_0 : decode cX12_ended 0 = .ok (.iconst 0, 1) := by decide +kernel
theorem dX12_ended_1 : decode cX12_ended 1 = .ok (.istore_n 2, 1) := by decide +kernel
theorem dX12_ended_2 : decode cX12_ended 2 = .ok (.bipush 25, 2) := by decide +kernel
theorem dX12_ended_4 : decode cX12_ended 4 = .ok (.istore_n 3, 1) := by decide +kernel
theorem dX12_ended_5 : decode cX12_ended 5 = .ok (.iload_n 3, 1) := by decide +kernel
theorem dX12_ended_6 : decode cX12_ended 6 = .ok (.ifCond .lt 32, 3) := by decide +kernel
theorem dX12_ended_9 : decode cX12_ended 9 = .ok (.iload_n 2, 1) := by decide +kernel
theorem dX12_ended_10 : decode cX12_ended 10 = .ok (.iconst 1, 1) := by decide +kernel
theorem dX12_ended_11 : decode cX12_ended 11 = .ok (.ishl, 1) := by decide +kernel
theorem dX12_ended_12 : decode cX12_ended 12 = .ok (.aload_n 0, 1) := by decide +kernel
theorem dX12_ended_13 : decode cX12_ended 13 = .ok (.getfield 25, 3) := by decide +kernel
theorem dX12_ended_16 : decode cX12_ended 16 = .ok (.aload_n 0, 1) := by decide +kernel
theorem dX12_ended_17 : decode cX12_ended 17 = .ok (.getfield 29, 3) := by decide +kernel
theorem dX12_ended_20 : decode cX12_ended 20 = .ok (.iconst 1, 1) := by decide +kernel
theorem dX12_ended_21 : decode cX12_ended 21 = .ok (.isub, 1) := by decide +kernel
theorem dX12_ended_22 : decode cX12_ended 22 = .ok (.iload_n 1, 1) := by decide +kernel
theorem dX12_ended_23 : decode cX12_ended 23 = .ok (.isub, 1) := by decide +kernel
theorem dX12_ended_24 : decode cX12_ended 24 = .ok (.iload_n 3, 1) := by decide +kernel
theorem dX12_ended_25 : decode cX12_ended 25 = .ok (.isub, 1) := by decide +kernel
theorem dX12_ended_26 : decode cX12_ended 26 = .ok (.bipush 127, 2) := by decide +kernel
theorem dX12_ended_28 : decode cX12_ended 28 = .ok (.iand, 1) := by decide +kernel
theorem dX12_ended_29 : decode cX12_ended 29 = .ok (.iaload, 1) := by decide +kernel
theorem dX12_ended_30 : decode cX12_ended 30 = .ok (.ior, 1) := by decide +kernel
theorem dX12_ended_31 : decode cX12_ended 31 = .ok (.istore_n 2, 1) := by decide +kernel
theorem dX12_ended_32 : decode cX12_ended 32 = .ok (.iinc 3 (-1), 3) := by decide +kernel
theorem dX12_ended_35 : decode cX12_ended 35 = .ok (.goto (-30), 3) := by decide +kernel
theorem dX12_ended_38 : decode cX12_ended 38 = .ok (.iload_n 2, 1) := by decide +kernel
theorem dX12_ended_39 : decode cX12_ended 39 = .ok (.ireturn, 1) := by decide +kernel
def B_X12_ended_5 (w : rd_W) (k5 : Nat → Int32 → Int32 → Int32 → rd_S → Option (Int32 × rd_S)) (a0 : Nat) (x1 : Int32) (x2 : Int32) (x3 : Int32) (S : rd_S) : Option (Int32 × rd_S) :=
  if x3 < 0 then
  (some (x2, S))
  else
  (rd_c (gR S a0 3) fun b2 =>
  rd_let (((((gI S a0 5) - 1) - x1) - x3) &&& 127) fun v3 =>
  rd_i v3 (w.2.2 b2) <|
  rd_let ((rd_shl x2 1) ||| (gI S b2 v3.toNatClampNeg)) fun v4 =>
  rd_let (x3 + (-1)) fun v5 =>
  k5 a0 x1 v4 v5 S)
theorem yb_X12_ended_5 (cx : rd_Cx) (w : rd_W) {k5 : Nat → Int32 → Int32 → Int32 → rd_S → Option (Int32 × rd_S)} (hk5 : ∀ (a0 : Nat) (x1 : Int32) (x2 : Int32) (x3 : Int32) (ha0 : rd_ok w a0 12) (S : rd_S), rd_Y cx G_X12_ended (fun r => rd_P cx G_X12_ended.2.2.2.2.2 0 w (rd_rI w r)) (k5 a0 x1 x2 x3 S) 5 [(0, .inr (some a0)), (1, .inl x1), (2, .inl x2), (3, .inl x3)] [] w S 0 0) (a0 : Nat) (x1 : Int32) (x2 : Int32) (x3 : Int32) (ha0 : rd_ok w a0 12) (S : rd_S) : rd_Y cx G_X12_ended (fun r => rd_P cx G_X12_ended.2.2.2.2.2 0 w (rd_rI w r)) (B_X12_ended_5 w k5 a0 x1 x2 x3 S) 5 [(0, .inr (some a0)), (1, .inl x1), (2, .inl x2), (3, .inl x3)] [] w S 0 0 := by
  unfold B_X12_ended_5
  refine ry_iload_n dX12_ended_5 rfl ?_
  refine ry_if_lt 38 dX12_ended_6 (by decide) (fun c1 => ?_) (fun c1 => ?_)
  · refine ry_iload_n dX12_ended_38 rfl ?_
    exact ry_iret dX12_ended_39 rfl (Nat.le_of_ble_eq_true rfl) (Nat.le_of_ble_eq_true rfl)
  · refine ry_iload_n dX12_ended_9 rfl ?_
    refine ry_iconst (v := 1) dX12_ended_10 (by decide) ?_
    refine ry_ishl dX12_ended_11 ?_
    refine ry_aload_n dX12_ended_12 rfl ?_
    refine ry_getr dX12_ended_13 ha0 fl_RX12_25 rfl (fun b2 hb2 => ?_)
    refine ry_aload_n dX12_ended_16 rfl ?_
    refine ry_geti dX12_ended_17 ha0 fl_RX12_29 rfl ?_
    refine ry_iconst (v := 1) dX12_ended_20 (by decide) ?_
    refine ry_isub dX12_ended_21 ?_
    refine ry_iload_n dX12_ended_22 rfl ?_
    refine ry_isub dX12_ended_23 ?_
    refine ry_iload_n dX12_ended_24 rfl ?_
    refine ry_isub dX12_ended_25 ?_
    refine ry_bipush (v := 127) dX12_ended_26 (by decide) ?_
    refine ry_iand dX12_ended_28 ?_
    refine ry_lets (fun v3 => ?_)
    refine ry_iald dX12_ended_29 hb2 ?_
    refine ry_ior dX12_ended_30 ?_
    refine ry_istore_n dX12_ended_31 (by decide) ?_
    refine ry_let (fun v4 => ?_)
    refine ry_iinc (v := (-1)) dX12_ended_32 rfl (by decide) (by decide) ?_
    refine ry_let (fun v5 => ?_)
    refine ry_goto 5 dX12_ended_35 (by decide) ?_
    exact ry_to (hk5 a0 x1 v4 v5 ha0 S) ⟨rfl, rfl, rfl, rfl, trivial⟩
def F_X12_ended_5 (w : rd_W) (n : Nat) : Nat → Int32 → Int32 → Int32 → rd_S → Option (Int32 × rd_S) :=
  Nat.rec (motive := fun _ => Nat → Int32 → Int32 → Int32 → rd_S → Option (Int32 × rd_S)) (fun _ _ _ _ _ => none) (fun _ ih => B_X12_ended_5 w ih) n
theorem yl_X12_ended_5 (cx : rd_Cx) (w : rd_W) : ∀ (n : Nat) (a0 : Nat) (x1 : Int32) (x2 : Int32) (x3 : Int32) (ha0 : rd_ok w a0 12) (S : rd_S), rd_Y cx G_X12_ended (fun r => rd_P cx G_X12_ended.2.2.2.2.2 0 w (rd_rI w r)) (F_X12_ended_5 w n a0 x1 x2 x3 S) 5 [(0, .inr (some a0)), (1, .inl x1), (2, .inl x2), (3, .inl x3)] [] w S 0 0 := by
  intro n
  induction n with
  | zero => intro a0 x1 x2 x3 ha0 S; exact ry_none
  | succ n ih => intro a0 x1 x2 x3 ha0 S; exact yb_X12_ended_5 cx w ih a0 x1 x2 x3 ha0 S
def F_X12_ended (w : rd_W) (a0 : Nat) (x1 : Int32) (S : rd_S) : Option (Int32 × rd_S) :=
  F_X12_ended_5 w rd_big a0 x1 0 25 S
theorem ym_X12_ended (cx : rd_Cx) (w : rd_W) (a0 : Nat) (x1 : Int32) (ha0 : rd_ok w a0 12) (S : rd_S) : rd_Y cx G_X12_ended (fun r => rd_P cx G_X12_ended.2.2.2.2.2 0 w (rd_rI w r)) (F_X12_ended w a0 x1 S) 0 (rd_as 0 [.inr (some a0), .inl x1]) [] w S 0 0 := by
  unfold F_X12_ended
  refine ry_iconst (v := 0) dX12_ended_0 (by decide) ?_
  refine ry_istore_n dX12_ended_1 (by decide) ?_
  refine ry_bipush (v := 25) dX12_ended_2 (by decide) ?_
  refine ry_istore_n dX12_ended_4 (by decide) ?_
  exact ry_to (yl_X12_ended_5 cx w rd_big a0 x1 0 25 ha0 S) ⟨rfl, rfl, rfl, rfl, trivial⟩
theorem cm_X12_ended (l : Launch) (cx : rd_Cx) (w : rd_W) (a0 : Nat) (x1 : Int32) (ha0 : rd_ok w a0 12) (S : rd_S) (r : Int32 × rd_S) (h : F_X12_ended w a0 x1 S = some r) : rd_M l cx yX12_ended G_X12_ended 0 [.inr (some a0), .inl x1] w S (rd_rI w r) :=
  rd_enter (plainFor_of_name (by decide +kernel)) rfl (fun h => by cases h) (Nat.le_of_ble_eq_true rfl) (ym_X12_ended cx w a0 x1 ha0 S r h)
abbrev G_X12_rest : rd_G := (RX12, cX12_rest, 3, (some .int), false, { frames := 0, cells := 0, slots := 0, locals := 0 })
theorem yf_X12_rest : rd_YL yX12_rest G_X12_rest 1 := ⟨rd_mem 856 (by decide +kernel) rfl, rd_mem 75 (by decide +kernel) rfl, by decide +kernel, by decide +kernel, by decide +kernel⟩
theorem mt_X12_rest : Cond.static yX12_rest ∈ rd_gw := rd_mem 855 (by decide +kernel) rfl
theorem dX12_rest_0 : decode cX12_rest 0 = .ok (.iload_n 0, 1) := by decide +kernel
theorem dX12_rest_1 : decode cX12_rest 1 = .ok (.istore_n 1, 1) := by decide +kernel
theorem dX12_rest_2 : decode cX12_rest 2 = .ok (.bipush 25, 2) := by decide +kernel
theorem dX12_rest_4 : decode cX12_rest 4 = .ok (.istore_n 2, 1) := by decide +kernel
theorem dX12_rest_5 : decode cX12_rest 5 = .ok (.iload_n 2, 1) := by decide +kernel
theorem dX12_rest_6 : decode cX12_rest 6 = .ok (.bipush 10, 2) := by decide +kernel
theorem dX12_rest_8 : decode cX12_rest 8 = .ok (.if_icmp .lt 29, 3) := by decide +kernel
theorem dX12_rest_11 : decode cX12_rest 11 = .ok (.iload_n 1, 1) := by decide +kernel
theorem dX12_rest_12 : decode cX12_rest 12 = .ok (.iload_n 2, 1) := by decide +kernel
theorem dX12_rest_13 : decode cX12_rest 13 = .ok (.ishr, 1) := by decide +kernel
theorem dX12_rest_14 : decode cX12_rest 14 = .ok (.iconst 1, 1) := by decide +kernel
theorem dX12_rest_15 : decode cX12_rest 15 = .ok (.iand, 1) := by decide +kernel
theorem dX12_rest_16 : decode cX12_rest 16 = .ok (.iconst 1, 1) := by decide +kernel
theorem dX12_rest_17 : decode cX12_rest 17 = .ok (.if_icmp .ne 14, 3) := by decide +kernel
theorem dX12_rest_20 : decode cX12_rest 20 = .ok (.iload_n 1, 1) := by decide +kernel
theorem dX12_rest_21 : decode cX12_rest 21 = .ok (.sipush 1465, 3) := by decide +kernel
theorem dX12_rest_24 : decode cX12_rest 24 = .ok (.iload_n 2, 1) := by decide +kernel
theorem dX12_rest_25 : decode cX12_rest 25 = .ok (.bipush 10, 2) := by decide +kernel
theorem dX12_rest_27 : decode cX12_rest 27 = .ok (.isub, 1) := by decide +kernel
theorem dX12_rest_28 : decode cX12_rest 28 = .ok (.ishl, 1) := by decide +kernel
theorem dX12_rest_29 : decode cX12_rest 29 = .ok (.ixor, 1) := by decide +kernel
theorem dX12_rest_30 : decode cX12_rest 30 = .ok (.istore_n 1, 1) := by decide +kernel
theorem dX12_rest_31 : decode cX12_rest 31 = .ok (.iinc 2 (-1), 3) := by decide +kernel
theorem dX12_rest_34 : decode cX12_rest 34 = .ok (.goto (-29), 3) := by decide +kernel
theorem dX12_rest_37 : decode cX12_rest 37 = .ok (.iload_n 1, 1) := by decide +kernel
theorem dX12_rest_38 : decode cX12_rest 38 = .ok (.ireturn, 1) := by decide +kernel
def B_X12_rest_31 (w : rd_W) (k5 : Int32 → Int32 → rd_S → Option (Int32 × rd_S)) (x1 : Int32) (x2 : Int32) (S : rd_S) : Option (Int32 × rd_S) :=
  rd_let (x2 + (-1)) fun v4 =>
  k5 x1 v4 S
theorem yb_X12_rest_31 (cx : rd_Cx) (w : rd_W) {k5 : Int32 → Int32 → rd_S → Option (Int32 × rd_S)} (hk5 : ∀ (x1 : Int32) (x2 : Int32) (S : rd_S), rd_Y cx G_X12_rest (fun r => rd_P cx G_X12_rest.2.2.2.2.2 0 w (rd_rI w r)) (k5 x1 x2 S) 5 [(1, .inl x1), (2, .inl x2)] [] w S 0 0) (x1 : Int32) (x2 : Int32) (S : rd_S) : rd_Y cx G_X12_rest (fun r => rd_P cx G_X12_rest.2.2.2.2.2 0 w (rd_rI w r)) (B_X12_rest_31 w k5 x1 x2 S) 31 [(1, .inl x1), (2, .inl x2)] [] w S 0 0 := by
  unfold B_X12_rest_31
  refine ry_iinc (v := (-1)) dX12_rest_31 rfl (by decide) (by decide) ?_
  refine ry_let (fun v4 => ?_)
  refine ry_goto 5 dX12_rest_34 (by decide) ?_
  exact ry_to (hk5 x1 v4 S) ⟨rfl, rfl, trivial⟩
def B_X12_rest_5 (w : rd_W) (k5 : Int32 → Int32 → rd_S → Option (Int32 × rd_S)) (x1 : Int32) (x2 : Int32) (S : rd_S) : Option (Int32 × rd_S) :=
  if x2 < 10 then
  (some (x1, S))
  else
  (if ((rd_shr x1 x2) &&& 1) = 1 then
  (rd_let (x1 ^^^ (rd_shl 1465 (x2 - 10))) fun v3 =>
  B_X12_rest_31 w k5 v3 x2 S)
  else
  (B_X12_rest_31 w k5 x1 x2 S))
theorem yb_X12_rest_5 (cx : rd_Cx) (w : rd_W) {k5 : Int32 → Int32 → rd_S → Option (Int32 × rd_S)} (hk5 : ∀ (x1 : Int32) (x2 : Int32) (S : rd_S), rd_Y cx G_X12_rest (fun r => rd_P cx G_X12_rest.2.2.2.2.2 0 w (rd_rI w r)) (k5 x1 x2 S) 5 [(1, .inl x1), (2, .inl x2)] [] w S 0 0) (x1 : Int32) (x2 : Int32) (S : rd_S) : rd_Y cx G_X12_rest (fun r => rd_P cx G_X12_rest.2.2.2.2.2 0 w (rd_rI w r)) (B_X12_rest_5 w k5 x1 x2 S) 5 [(1, .inl x1), (2, .inl x2)] [] w S 0 0 := by
  unfold B_X12_rest_5
  refine ry_iload_n dX12_rest_5 rfl ?_
  refine ry_bipush (v := 10) dX12_rest_6 (by decide) ?_
  refine ry_icmp_lt 37 dX12_rest_8 (by decide) (fun c1 => ?_) (fun c1 => ?_)
  · refine ry_iload_n dX12_rest_37 rfl ?_
    exact ry_iret dX12_rest_38 rfl (Nat.le_of_ble_eq_true rfl) (Nat.le_of_ble_eq_true rfl)
  · refine ry_iload_n dX12_rest_11 rfl ?_
    refine ry_iload_n dX12_rest_12 rfl ?_
    refine ry_ishr dX12_rest_13 ?_
    refine ry_iconst (v := 1) dX12_rest_14 (by decide) ?_
    refine ry_iand dX12_rest_15 ?_
    refine ry_iconst (v := 1) dX12_rest_16 (by decide) ?_
    refine ry_icmp_ne 31 dX12_rest_17 (by decide) (fun c2 => ?_) (fun c2 => ?_)
    · refine ry_iload_n dX12_rest_20 rfl ?_
      refine ry_sipush (v := 1465) dX12_rest_21 (by decide) ?_
      refine ry_iload_n dX12_rest_24 rfl ?_
      refine ry_bipush (v := 10) dX12_rest_25 (by decide) ?_
      refine ry_isub dX12_rest_27 ?_
      refine ry_ishl dX12_rest_28 ?_
      refine ry_ixor dX12_rest_29 ?_
      refine ry_istore_n dX12_rest_30 (by decide) ?_
      refine ry_let (fun v3 => ?_)
      exact ry_to (yb_X12_rest_31 cx w (k5 := k5) hk5 v3 x2 S) ⟨rfl, rfl, trivial⟩
    · exact ry_to (yb_X12_rest_31 cx w (k5 := k5) hk5 x1 x2 S) ⟨rfl, rfl, trivial⟩
def F_X12_rest_5 (w : rd_W) (n : Nat) : Int32 → Int32 → rd_S → Option (Int32 × rd_S) :=
  Nat.rec (motive := fun _ => Int32 → Int32 → rd_S → Option (Int32 × rd_S)) (fun _ _ _ => none) (fun _ ih => B_X12_rest_5 w ih) n
theorem yl_X12_rest_5 (cx : rd_Cx) (w : rd_W) : ∀ (n : Nat) (x1 : Int32) (x2 : Int32) (S : rd_S), rd_Y cx G_X12_rest (fun r => rd_P cx G_X12_rest.2.2.2.2.2 0 w (rd_rI w r)) (F_X12_rest_5 w n x1 x2 S) 5 [(1, .inl x1), (2, .inl x2)] [] w S 0 0 := by
  intro n
  induction n with
  | zero => intro x1 x2 S; exact ry_none
  | succ n ih => intro x1 x2 S; exact yb_X12_rest_5 cx w ih x1 x2 S
def F_X12_rest (w : rd_W) (x0 : Int32) (S : rd_S) : Option (Int32 × rd_S) :=
  F_X12_rest_5 w rd_big x0 25 S
theorem ym_X12_rest (cx : rd_Cx) (w : rd_W) (x0 : Int32) (S : rd_S) : rd_Y cx G_X12_rest (fun r => rd_P cx G_X12_rest.2.2.2.2.2 0 w (rd_rI w r)) (F_X12_rest w x0 S) 0 (rd_as 0 [.inl x0]) [] w S 0 0 := by
  unfold F_X12_rest
  refine ry_iload_n dX12_rest_0 rfl ?_
  refine ry_istore_n dX12_rest_1 (by decide) ?_
  refine ry_bipush (v := 25) dX12_rest_2 (by decide) ?_
  refine ry_istore_n dX12_rest_4 (by decide) ?_
  exact ry_to (yl_X12_rest_5 cx w rd_big x0 25 S) ⟨rfl, rfl, trivial⟩
theorem cm_X12_rest (l : Launch) (cx : rd_Cx) (w : rd_W) (x0 : Int32) (S : rd_S) (r : Int32 × rd_S) (h : F_X12_rest w x0 S = some r) : rd_M l cx yX12_rest G_X12_rest 0 [.inl x0] w S (rd_rI w r) :=
  rd_enter (plainFor_of_name (by decide +kernel)) rfl (fun h => by cases h) (Nat.le_of_ble_eq_true rfl) (ym_X12_rest cx w x0 S r h)
abbrev G_X12_offset : rd_G := (RX12, cX12_offset, 1, (some .int), false, { frames := 0, cells := 0, slots := 0, locals := 0 })
theorem yf_X12_offset : rd_YL yX12_offset G_X12_offset 1 := ⟨rd_mem 859 (by decide +kernel) rfl, rd_mem 75 (by decide +kernel) rfl, by decide +kernel, by decide +kernel, by decide +kernel⟩
theorem mt_X12_offset : Cond.static yX12_offset ∈ rd_gw := rd_mem 858 (by decide +kernel) rfl
theorem dX12_offset_0 : decode cX12_offset 0 = .ok (.iload_n 0, 1) := by decide +kernel
theorem dX12_offset_1 : decode cX12_offset 1 = .ok (.ifCond .ne 9, 3) := by decide +kernel
theorem dX12_offset_4 : decode cX12_offset 4 = .ok (.sipush 252, 3) := by decide +kernel
theorem dX12_offset_7 : decode cX12_offset 7 = .ok (.goto 39, 3) := by decide +kernel
theorem dX12_offset_10 : decode cX12_offset 10 = .ok (.iload_n 0, 1) := by decide +kernel
theorem dX12_offset_11 : decode cX12_offset 11 = .ok (.iconst 1, 1) := by decide +kernel
theorem dX12_offset_12 : decode cX12_offset 12 = .ok (.if_icmp .ne 9, 3) := by decide +kernel
theorem dX12_offset_15 : decode cX12_offset 15 = .ok (.sipush 408, 3) := by decide +kernel
theorem dX12_offset_18 : decode cX12_offset 18 = .ok (.goto 28, 3) := by decide +kernel
theorem dX12_offset_21 : decode cX12_offset 21 = .ok (.iload_n 0, 1) := by decide +kernel
theorem dX12_offset_22 : decode cX12_offset 22 = .ok (.iconst 2, 1) := by decide +kernel
theorem dX12_offset_23 : decode cX12_offset 23 = .ok (.if_icmp .ne 9, 3) := by decide +kernel
theorem dX12_offset_26 : decode cX12_offset 26 = .ok (.sipush 360, 3) := by decide +kernel
theorem dX12_offset_29 : decode cX12_offset 29 = .ok (.goto 17, 3) := by decide +kernel
theorem dX12_offset_32 : decode cX12_offset 32 = .ok (.iload_n 0, 1) := by decide +kernel
theorem dX12_offset_33 : decode cX12_offset 33 = .ok (.iconst 3, 1) := by decide +kernel
theorem dX12_offset_34 : decode cX12_offset 34 = .ok (.if_icmp .ne 9, 3) := by decide +kernel
theorem dX12_offset_37 : decode cX12_offset 37 = .ok (.sipush 436, 3) := by decide +kernel
theorem dX12_offset_40 : decode cX12_offset 40 = .ok (.goto 6, 3) := by decide +kernel
theorem dX12_offset_43 : decode cX12_offset 43 = .ok (.sipush 848, 3) := by decide +kernel
theorem dX12_offset_46 : decode cX12_offset 46 = .ok (.ireturn, 1) := by decide +kernel
def B_X12_offset_46 (w : rd_W) (t0 : Int32) (S : rd_S) : Option (Int32 × rd_S) :=
  some (t0, S)
theorem yb_X12_offset_46 (cx : rd_Cx) (w : rd_W) (t0 : Int32) (S : rd_S) : rd_Y cx G_X12_offset (fun r => rd_P cx G_X12_offset.2.2.2.2.2 0 w (rd_rI w r)) (B_X12_offset_46 w t0 S) 46 [] [.inl t0] w S 0 0 := by
  unfold B_X12_offset_46
  exact ry_iret dX12_offset_46 rfl (Nat.le_of_ble_eq_true rfl) (Nat.le_of_ble_eq_true rfl)
def F_X12_offset (w : rd_W) (x0 : Int32) (S : rd_S) : Option (Int32 × rd_S) :=
  if x0 = 0 then
  (B_X12_offset_46 w 252 S)
  else
  (if x0 = 1 then
  (B_X12_offset_46 w 408 S)
  else
  (if x0 = 2 then
  (B_X12_offset_46 w 360 S)
  else
  (if x0 = 3 then
  (B_X12_offset_46 w 436 S)
  else
  (B_X12_offset_46 w 848 S))))
theorem ym_X12_offset (cx : rd_Cx) (w : rd_W) (x0 : Int32) (S : rd_S) : rd_Y cx G_X12_offset (fun r => rd_P cx G_X12_offset.2.2.2.2.2 0 w (rd_rI w r)) (F_X12_offset w x0 S) 0 (rd_as 0 [.inl x0]) [] w S 0 0 := by
  unfold F_X12_offset
  refine ry_iload_n dX12_offset_0 rfl ?_
  refine ry_if_ne 10 dX12_offset_1 (by decide) (fun c1 => ?_) (fun c1 => ?_)
  · refine ry_sipush (v := 252) dX12_offset_4 (by decide) ?_
    refine ry_goto 46 dX12_offset_7 (by decide) ?_
    exact ry_to (yb_X12_offset_46 cx w 252 S) trivial
  · refine ry_iload_n dX12_offset_10 rfl ?_
    refine ry_iconst (v := 1) dX12_offset_11 (by decide) ?_
    refine ry_icmp_ne 21 dX12_offset_12 (by decide) (fun c2 => ?_) (fun c2 => ?_)
    · refine ry_sipush (v := 408) dX12_offset_15 (by decide) ?_
      refine ry_goto 46 dX12_offset_18 (by decide) ?_
      exact ry_to (yb_X12_offset_46 cx w 408 S) trivial
    · refine ry_iload_n dX12_offset_21 rfl ?_
      refine ry_iconst (v := 2) dX12_offset_22 (by decide) ?_
      refine ry_icmp_ne 32 dX12_offset_23 (by decide) (fun c3 => ?_) (fun c3 => ?_)
      · refine ry_sipush (v := 360) dX12_offset_26 (by decide) ?_
        refine ry_goto 46 dX12_offset_29 (by decide) ?_
        exact ry_to (yb_X12_offset_46 cx w 360 S) trivial
      · refine ry_iload_n dX12_offset_32 rfl ?_
        refine ry_iconst (v := 3) dX12_offset_33 (by decide) ?_
        refine ry_icmp_ne 43 dX12_offset_34 (by decide) (fun c4 => ?_) (fun c4 => ?_)
        · refine ry_sipush (v := 436) dX12_offset_37 (by decide) ?_
          refine ry_goto 46 dX12_offset_40 (by decide) ?_
          exact ry_to (yb_X12_offset_46 cx w 436 S) trivial
        · refine ry_sipush (v := 848) dX12_offset_43 (by decide) ?_
          exact ry_to (yb_X12_offset_46 cx w 848 S) trivial
theorem cm_X12_offset (l : Launch) (cx : rd_Cx) (w : rd_W) (x0 : Int32) (S : rd_S) (r : Int32 × rd_S) (h : F_X12_offset w x0 S = some r) : rd_M l cx yX12_offset G_X12_offset 0 [.inl x0] w S (rd_rI w r) :=
  rd_enter (plainFor_of_name (by decide +kernel)) rfl (fun h => by cases h) (Nat.le_of_ble_eq_true rfl) (ym_X12_offset cx w x0 S r h)
abbrev G_X12_isGood : rd_G := (RX12, cX12_isGood, 2, (some .boolean), false, { frames := 1, cells := 0, slots := 0, locals := 22 })
theorem yf_X12_isGood : rd_YL yX12_isGood G_X12_isGood 2 := ⟨rd_mem 886 (by decide +kernel) rfl, rd_mem 75 (by decide +kernel) rfl, by decide +kernel, by decide +kernel, by decide +kernel⟩
theorem mt_X12_isGood : Cond.static yX12_isGood ∈ rd_gw := rd_mem 885 (by decide +kernel) rfl
theorem dX12_isGood_0 : decode cX12_isGood 0 = .ok (.iload_n 0, 1) := by decide +kernel
theorem dX12_isGood_1 : decode cX12_isGood 1 = .ok (.invokestatic 7, 3) := by decide +kernel
theorem dX12_isGood_4 : decode cX12_isGood 4 = .ok (.iload_n 1, 1) := by decide +kernel
theorem dX12_isGood_5 : decode cX12_isGood 5 = .ok (.invokestatic 11, 3) := by decide +kernel
theorem dX12_isGood_8 : decode cX12_isGood 8 = .ok (.if_icmp .ne 7, 3) := by decide +kernel
theorem dX12_isGood_11 : decode cX12_isGood 11 = .ok (.iconst 1, 1) := by decide +kernel
theorem dX12_isGood_12 : decode cX12_isGood 12 = .ok (.goto 4, 3) := by decide +kernel
theorem dX12_isGood_15 : decode cX12_isGood 15 = .ok (.iconst 0, 1) := by decide +kernel
theorem dX12_isGood_16 : decode cX12_isGood 16 = .ok (.ireturn, 1) := by decide +kernel
def B_X12_isGood_16 (w : rd_W) (t0 : Int32) (S : rd_S) : Option (Int32 × rd_S) :=
  rd_z t0 <|
  some (t0, S)
theorem yb_X12_isGood_16 (cx : rd_Cx) (w : rd_W) (t0 : Int32) (S : rd_S) : rd_Y cx G_X12_isGood (fun r => rd_P cx G_X12_isGood.2.2.2.2.2 0 w (rd_rI w r)) (B_X12_isGood_16 w t0 S) 16 [] [.inl t0] w S 0 0 := by
  unfold B_X12_isGood_16
  refine ry_zg (fun z6 => ?_)
  exact ry_zret dX12_isGood_16 rfl z6 (Nat.le_of_ble_eq_true rfl) (Nat.le_of_ble_eq_true rfl)
def F_X12_isGood (w : rd_W) (x0 : Int32) (x1 : Int32) (S : rd_S) : Option (Int32 × rd_S) :=
  rd_b (F_X12_rest w x0 S) fun v2 s1 =>
  rd_b (F_X12_offset w x1 s1) fun v4 s3 =>
  if v2 = v4 then
  (B_X12_isGood_16 w 1 s3)
  else
  (B_X12_isGood_16 w 0 s3)
theorem ym_X12_isGood (cx : rd_Cx) (w : rd_W) (x0 : Int32) (x1 : Int32) (S : rd_S) : rd_Y cx G_X12_isGood (fun r => rd_P cx G_X12_isGood.2.2.2.2.2 0 w (rd_rI w r)) (F_X12_isGood w x0 x1 S) 0 (rd_as 0 [.inl x0, .inl x1]) [] w S 0 0 := by
  unfold F_X12_isGood
  refine ry_iload_n dX12_isGood_0 rfl ?_
  refine ry_callI (fun l r9 h9 => cm_X12_rest l cx w x0 S r9 h9) (rd_runS (vs := [.inl x0]) dX12_isGood_1 yf_X12_rest mt_X12_rest ml_RX12_7 ⟨Nat.le_of_ble_eq_true rfl, Nat.le_of_ble_eq_true rfl⟩ (Nat.le_of_ble_eq_true rfl) rfl) rfl rfl (Nat.le_of_ble_eq_true rfl) (Nat.le_of_ble_eq_true rfl) (fun v2 s1 => ?_)
  refine ry_iload_n dX12_isGood_4 rfl ?_
  refine ry_callI (fun l r9 h9 => cm_X12_offset l cx w x1 s1 r9 h9) (rd_runS (vs := [.inl x1]) dX12_isGood_5 yf_X12_offset mt_X12_offset ml_RX12_11 ⟨Nat.le_of_ble_eq_true rfl, Nat.le_of_ble_eq_true rfl⟩ (Nat.le_of_ble_eq_true rfl) rfl) rfl rfl (Nat.le_of_ble_eq_true rfl) (Nat.le_of_ble_eq_true rfl) (fun v4 s3 => ?_)
  refine ry_icmp_ne 15 dX12_isGood_8 (by decide) (fun c5 => ?_) (fun c5 => ?_)
  · refine ry_iconst (v := 1) dX12_isGood_11 (by decide) ?_
    refine ry_goto 16 dX12_isGood_12 (by decide) ?_
    exact ry_to (yb_X12_isGood_16 cx w 1 s3) trivial
  · refine ry_iconst (v := 0) dX12_isGood_15 (by decide) ?_
    exact ry_to (yb_X12_isGood_16 cx w 0 s3) trivial
theorem cm_X12_isGood (l : Launch) (cx : rd_Cx) (w : rd_W) (x0 : Int32) (x1 : Int32) (S : rd_S) (r : Int32 × rd_S) (h : F_X12_isGood w x0 x1 S = some r) : rd_M l cx yX12_isGood G_X12_isGood 0 [.inl x0, .inl x1] w S (rd_rI w r) :=
  rd_enter (plainFor_of_name (by decide +kernel)) rfl (fun h => by cases h) (Nat.le_of_ble_eq_true rfl) (ym_X12_isGood cx w x0 x1 S r h)
abbrev G_X12_letterOf : rd_G := (RX12, cX12_letterOf, 2, (some .int), false, { frames := 2, cells := 0, slots := 0, locals := 43 })
theorem yf_X12_letterOf : rd_YL yX12_letterOf G_X12_letterOf 1 := ⟨rd_mem 883 (by decide +kernel) rfl, rd_mem 75 (by decide +kernel) rfl, by decide +kernel, by decide +kernel, by decide +kernel⟩
theorem mt_X12_letterOf : Cond.static yX12_letterOf ∈ rd_gw := rd_mem 882 (by decide +kernel) rfl
theorem dX12_letterOf_0 : decode cX12_letterOf 0 = .ok (.iconst 0, 1) := by decide +kernel
theorem dX12_letterOf_1 : decode cX12_letterOf 1 = .ok (.istore_n 1, 1) := by decide +kernel
theorem dX12_letterOf_2 : decode cX12_letterOf 2 = .ok (.iload_n 1, 1) := by decide +kernel
theorem dX12_letterOf_3 : decode cX12_letterOf 3 = .ok (.iconst 5, 1) := by decide +kernel
theorem dX12_letterOf_4 : decode cX12_letterOf 4 = .ok (.if_icmp .ge 19, 3) := by decide +kernel
theorem dX12_letterOf_7 : decode cX12_letterOf 7 = .ok (.iload_n 0, 1) := by decide +kernel
theorem dX12_letterOf_8 : decode cX12_letterOf 8 = .ok (.iload_n 1, 1) := by decide +kernel
theorem dX12_letterOf_9 : decode cX12_letterOf 9 = .ok (.invokestatic 14, 3) := by decide +kernel
theorem dX12_letterOf_12 : decode cX12_letterOf 12 = .ok (.ifCond .eq 5, 3) := by decide +kernel
theorem dX12_letterOf_15 : decode cX12_letterOf 15 = .ok (.iload_n 1, 1) := by decide +kernel
theorem dX12_letterOf_16 : decode cX12_letterOf 16 = .ok (.ireturn, 1) := by decide +kernel
theorem dX12_letterOf_17 : decode cX12_letterOf 17 = .ok (.iinc 1 1, 3) := by decide +kernel
theorem dX12_letterOf_20 : decode cX12_letterOf 20 = .ok (.goto (-18), 3) := by decide +kernel
theorem dX12_letterOf_23 : decode cX12_letterOf 23 = .ok (.iconst (-1), 1) := by decide +kernel
theorem dX12_letterOf_24 : decode cX12_letterOf 24 = .ok (.ireturn, 1) := by decide +kernel
def B_X12_letterOf_2 (w : rd_W) (k2 : Int32 → Int32 → rd_S → Option (Int32 × rd_S)) (x0 : Int32) (x1 : Int32) (S : rd_S) : Option (Int32 × rd_S) :=
  if 5 ≤ x1 then
  (some ((-1), S))
  else
  (rd_b (F_X12_isGood w x0 x1 S) fun v3 s2 =>
  if v3 = 0 then
  (rd_let (x1 + 1) fun v5 =>
  k2 x0 v5 s2)
  else
  (some (x1, s2)))
theorem yb_X12_letterOf_2 (cx : rd_Cx) (w : rd_W) {k2 : Int32 → Int32 → rd_S → Option (Int32 × rd_S)} (hk2 : ∀ (x0 : Int32) (x1 : Int32) (S : rd_S), rd_Y cx G_X12_letterOf (fun r => rd_P cx G_X12_letterOf.2.2.2.2.2 0 w (rd_rI w r)) (k2 x0 x1 S) 2 [(0, .inl x0), (1, .inl x1)] [] w S 0 0) (x0 : Int32) (x1 : Int32) (S : rd_S) : rd_Y cx G_X12_letterOf (fun r => rd_P cx G_X12_letterOf.2.2.2.2.2 0 w (rd_rI w r)) (B_X12_letterOf_2 w k2 x0 x1 S) 2 [(0, .inl x0), (1, .inl x1)] [] w S 0 0 := by
  unfold B_X12_letterOf_2
  refine ry_iload_n dX12_letterOf_2 rfl ?_
  refine ry_iconst (v := 5) dX12_letterOf_3 (by decide) ?_
  refine ry_icmp_ge 23 dX12_letterOf_4 (by decide) (fun c1 => ?_) (fun c1 => ?_)
  · refine ry_iconst (v := (-1)) dX12_letterOf_23 (by decide) ?_
    exact ry_iret dX12_letterOf_24 rfl (Nat.le_of_ble_eq_true rfl) (Nat.le_of_ble_eq_true rfl)
  · refine ry_iload_n dX12_letterOf_7 rfl ?_
    refine ry_iload_n dX12_letterOf_8 rfl ?_
    refine ry_callI (fun l r9 h9 => cm_X12_isGood l cx w x0 x1 S r9 h9) (rd_runS (vs := [.inl x0, .inl x1]) dX12_letterOf_9 yf_X12_isGood mt_X12_isGood ml_RX12_14 ⟨Nat.le_of_ble_eq_true rfl, Nat.le_of_ble_eq_true rfl⟩ (Nat.le_of_ble_eq_true rfl) rfl) rfl rfl (Nat.le_of_ble_eq_true rfl) (Nat.le_of_ble_eq_true rfl) (fun v3 s2 => ?_)
    refine ry_if_eq 17 dX12_letterOf_12 (by decide) (fun c4 => ?_) (fun c4 => ?_)
    · refine ry_iinc (v := 1) dX12_letterOf_17 rfl (by decide) (by decide) ?_
      refine ry_let (fun v5 => ?_)
      refine ry_goto 2 dX12_letterOf_20 (by decide) ?_
      exact ry_to (hk2 x0 v5 s2) ⟨rfl, rfl, trivial⟩
    · refine ry_iload_n dX12_letterOf_15 rfl ?_
      exact ry_iret dX12_letterOf_16 rfl (Nat.le_of_ble_eq_true rfl) (Nat.le_of_ble_eq_true rfl)
def F_X12_letterOf_2 (w : rd_W) (n : Nat) : Int32 → Int32 → rd_S → Option (Int32 × rd_S) :=
  Nat.rec (motive := fun _ => Int32 → Int32 → rd_S → Option (Int32 × rd_S)) (fun _ _ _ => none) (fun _ ih => B_X12_letterOf_2 w ih) n
theorem yl_X12_letterOf_2 (cx : rd_Cx) (w : rd_W) : ∀ (n : Nat) (x0 : Int32) (x1 : Int32) (S : rd_S), rd_Y cx G_X12_letterOf (fun r => rd_P cx G_X12_letterOf.2.2.2.2.2 0 w (rd_rI w r)) (F_X12_letterOf_2 w n x0 x1 S) 2 [(0, .inl x0), (1, .inl x1)] [] w S 0 0 := by
  intro n
  induction n with
  | zero => intro x0 x1 S; exact ry_none
  | succ n ih => intro x0 x1 S; exact yb_X12_letterOf_2 cx w ih x0 x1 S
def F_X12_letterOf (w : rd_W) (x0 : Int32) (S : rd_S) : Option (Int32 × rd_S) :=
  F_X12_letterOf_2 w rd_big x0 0 S
theorem ym_X12_letterOf (cx : rd_Cx) (w : rd_W) (x0 : Int32) (S : rd_S) : rd_Y cx G_X12_letterOf (fun r => rd_P cx G_X12_letterOf.2.2.2.2.2 0 w (rd_rI w r)) (F_X12_letterOf w x0 S) 0 (rd_as 0 [.inl x0]) [] w S 0 0 := by
  unfold F_X12_letterOf
  refine ry_iconst (v := 0) dX12_letterOf_0 (by decide) ?_
  refine ry_istore_n dX12_letterOf_1 (by decide) ?_
  exact ry_to (yl_X12_letterOf_2 cx w rd_big x0 0 S) ⟨rfl, rfl, trivial⟩
theorem cm_X12_letterOf (l : Launch) (cx : rd_Cx) (w : rd_W) (x0 : Int32) (S : rd_S) (r : Int32 × rd_S) (h : F_X12_letterOf w x0 S = some r) : rd_M l cx yX12_letterOf G_X12_letterOf 0 [.inl x0] w S (rd_rI w r) :=
  rd_enter (plainFor_of_name (by decide +kernel)) rfl (fun h => by cases h) (Nat.le_of_ble_eq_true rfl) (ym_X12_letterOf cx w x0 S r h)
abbrev G_X12_corrected : rd_G := (RX12, cX12_corrected, 8, (some .int), false, { frames := 2, cells := 0, slots := 0, locals := 43 })
theorem yf_X12_corrected : rd_YL yX12_corrected G_X12_corrected 2 := ⟨rd_mem 894 (by decide +kernel) rfl, rd_mem 75 (by decide +kernel) rfl, by decide +kernel, by decide +kernel, by decide +kernel⟩
theorem mi_X12_corrected : Cond.instanceMethod yX12_corrected ∈ rd_gw := rd_mem 893 (by decide +kernel) rfl
theorem ms_X12_corrected : Cond.selects (MethodName.cls yX12_corrected) yX12_corrected yX12_corrected ∈ rd_gw := rd_mem 39 (by decide +kernel) rfl
theorem dX12_corrected_0 : decode cX12_corrected 0 = .ok (.iconst (-1), 1) := by decide +kernel
theorem dX12_corrected_1 : decode cX12_corrected 1 = .ok (.istore_n 3, 1) := by decide +kernel
theorem dX12_corrected_2 : decode cX12_corrected 2 = .ok (.iconst 0, 1) := by decide +kernel
theorem dX12_corrected_3 : decode cX12_corrected 3 = .ok (.istore 4, 2) := by decide +kernel
theorem dX12_corrected_5 : decode cX12_corrected 5 = .ok (.iconst 1, 1) := by decide +kernel
theorem dX12_corrected_6 : decode cX12_corrected 6 = .ok (.istore 5, 2) := by decide +kernel
theorem dX12_corrected_8 : decode cX12_corrected 8 = .ok (.iload 5, 2) := by decide +kernel
theorem dX12_corrected_10 : decode cX12_corrected 10 = .ok (.aload_n 0, 1) := by decide +kernel
theorem dX12_corrected_11 : decode cX12_corrected 11 = .ok (.getfield 18, 3) := by decide +kernel
theorem dX12_corrected_14 : decode cX12_corrected 14 = .ok (.if_icmp .gt 96, 3) := by decide +kernel
theorem dX12_corrected_17 : decode cX12_corrected 17 = .ok (.iconst 0, 1) := by decide +kernel
theorem dX12_corrected_18 : decode cX12_corrected 18 = .ok (.istore 6, 2) := by decide +kernel
theorem dX12_corrected_20 : decode cX12_corrected 20 = .ok (.iload 6, 2) := by decide +kernel
theorem dX12_corrected_22 : decode cX12_corrected 22 = .ok (.iconst 1, 1) := by decide +kernel
theorem dX12_corrected_23 : decode cX12_corrected 23 = .ok (.iload 5, 2) := by decide +kernel
theorem dX12_corrected_25 : decode cX12_corrected 25 = .ok (.ishl, 1) := by decide +kernel
theorem dX12_corrected_26 : decode cX12_corrected 26 = .ok (.if_icmp .ge 78, 3) := by decide +kernel
theorem dX12_corrected_29 : decode cX12_corrected 29 = .ok (.iload 6, 2) := by decide +kernel
theorem dX12_corrected_31 : decode cX12_corrected 31 = .ok (.iconst 1, 1) := by decide +kernel
theorem dX12_corrected_32 : decode cX12_corrected 32 = .ok (.iand, 1) := by decide +kernel
theorem dX12_corrected_33 : decode cX12_corrected 33 = .ok (.ifCond .eq 65, 3) := by decide +kernel
theorem dX12_corrected_36 : decode cX12_corrected 36 = .ok (.iload 6, 2) := by decide +kernel
theorem dX12_corrected_38 : decode cX12_corrected 38 = .ok (.iload 5, 2) := by decide +kernel
theorem dX12_corrected_40 : decode cX12_corrected 40 = .ok (.iconst 1, 1) := by decide +kernel
theorem dX12_corrected_41 : decode cX12_corrected 41 = .ok (.isub, 1) := by decide +kernel
theorem dX12_corrected_42 : decode cX12_corrected 42 = .ok (.ishr, 1) := by decide +kernel
theorem dX12_corrected_43 : decode cX12_corrected 43 = .ok (.iconst 1, 1) := by decide +kernel
theorem dX12_corrected_44 : decode cX12_corrected 44 = .ok (.iand, 1) := by decide +kernel
theorem dX12_corrected_45 : decode cX12_corrected 45 = .ok (.ifCond .ne 6, 3) := by decide +kernel
theorem dX12_corrected_48 : decode cX12_corrected 48 = .ok (.goto 50, 3) := by decide +kernel
theorem dX12_corrected_51 : decode cX12_corrected 51 = .ok (.iconst 0, 1) := by decide +kernel
theorem dX12_corrected_52 : decode cX12_corrected 52 = .ok (.istore 7, 2) := by decide +kernel
theorem dX12_corrected_54 : decode cX12_corrected 54 = .ok (.iload 7, 2) := by decide +kernel
theorem dX12_corrected_56 : decode cX12_corrected 56 = .ok (.iload 5, 2) := by decide +kernel
theorem dX12_corrected_58 : decode cX12_corrected 58 = .ok (.iadd, 1) := by decide +kernel
theorem dX12_corrected_59 : decode cX12_corrected 59 = .ok (.bipush 26, 2) := by decide +kernel
theorem dX12_corrected_61 : decode cX12_corrected 61 = .ok (.if_icmp .gt 37, 3) := by decide +kernel
theorem dX12_corrected_64 : decode cX12_corrected 64 = .ok (.iload_n 1, 1) := by decide +kernel
theorem dX12_corrected_65 : decode cX12_corrected 65 = .ok (.iload 6, 2) := by decide +kernel
theorem dX12_corrected_67 : decode cX12_corrected 67 = .ok (.iload 7, 2) := by decide +kernel
theorem dX12_corrected_69 : decode cX12_corrected 69 = .ok (.ishl, 1) := by decide +kernel
theorem dX12_corrected_70 : decode cX12_corrected 70 = .ok (.ixor, 1) := by decide +kernel
theorem dX12_corrected_71 : decode cX12_corrected 71 = .ok (.iload_n 2, 1) := by decide +kernel
theorem dX12_corrected_72 : decode cX12_corrected 72 = .ok (.invokestatic 14, 3) := by decide +kernel
theorem dX12_corrected_75 : decode cX12_corrected 75 = .ok (.ifCond .ne 6, 3) := by decide +kernel
theorem dX12_corrected_78 : decode cX12_corrected 78 = .ok (.goto 14, 3) := by decide +kernel
theorem dX12_corrected_81 : decode cX12_corrected 81 = .ok (.iload_n 1, 1) := by decide +kernel
theorem dX12_corrected_82 : decode cX12_corrected 82 = .ok (.iload 6, 2) := by decide +kernel
theorem dX12_corrected_84 : decode cX12_corrected 84 = .ok (.iload 7, 2) := by decide +kernel
theorem dX12_corrected_86 : decode cX12_corrected 86 = .ok (.ishl, 1) := by decide +kernel
theorem dX12_corrected_87 : decode cX12_corrected 87 = .ok (.ixor, 1) := by decide +kernel
theorem dX12_corrected_88 : decode cX12_corrected 88 = .ok (.istore_n 3, 1) := by decide +kernel
theorem dX12_corrected_89 : decode cX12_corrected 89 = .ok (.iinc 4 1, 3) := by decide +kernel
theorem dX12_corrected_92 : decode cX12_corrected 92 = .ok (.iinc 7 1, 3) := by decide +kernel
theorem dX12_corrected_95 : decode cX12_corrected 95 = .ok (.goto (-41), 3) := by decide +kernel
theorem dX12_corrected_98 : decode cX12_corrected 98 = .ok (.iinc 6 1, 3) := by decide +kernel
theorem dX12_corrected_101 : decode cX12_corrected 101 = .ok (.goto (-81), 3) := by decide +kernel
theorem dX12_corrected_104 : decode cX12_corrected 104 = .ok (.iinc 5 1, 3) := by decide +kernel
theorem dX12_corrected_107 : decode cX12_corrected 107 = .ok (.goto (-99), 3) := by decide +kernel
theorem dX12_corrected_110 : decode cX12_corrected 110 = .ok (.iload 4, 2) := by decide +kernel
theorem dX12_corrected_112 : decode cX12_corrected 112 = .ok (.iconst 1, 1) := by decide +kernel
theorem dX12_corrected_113 : decode cX12_corrected 113 = .ok (.if_icmp .ne 7, 3) := by decide +kernel
theorem dX12_corrected_116 : decode cX12_corrected 116 = .ok (.iload_n 3, 1) := by decide +kernel
theorem dX12_corrected_117 : decode cX12_corrected 117 = .ok (.goto 4, 3) := by decide +kernel
theorem dX12_corrected_120 : decode cX12_corrected 120 = .ok (.iconst (-1), 1) := by decide +kernel
theorem dX12_corrected_121 : decode cX12_corrected 121 = .ok (.ireturn, 1) := by decide +kernel
def B_X12_corrected_121 (w : rd_W) (t0 : Int32) (S : rd_S) : Option (Int32 × rd_S) :=
  some (t0, S)
theorem yb_X12_corrected_121 (cx : rd_Cx) (w : rd_W) (t0 : Int32) (S : rd_S) : rd_Y cx G_X12_corrected (fun r => rd_P cx G_X12_corrected.2.2.2.2.2 0 w (rd_rI w r)) (B_X12_corrected_121 w t0 S) 121 [] [.inl t0] w S 0 0 := by
  unfold B_X12_corrected_121
  exact ry_iret dX12_corrected_121 rfl (Nat.le_of_ble_eq_true rfl) (Nat.le_of_ble_eq_true rfl)
def B_X12_corrected_98 (w : rd_W) (k20 : Nat → Int32 → Int32 → Int32 → Int32 → Int32 → Int32 → rd_S → Option (Int32 × rd_S)) (a0 : Nat) (x1 : Int32) (x2 : Int32) (x3 : Int32) (x4 : Int32) (x5 : Int32) (x6 : Int32) (S : rd_S) : Option (Int32 × rd_S) :=
  rd_let (x6 + 1) fun v6 =>
  k20 a0 x1 x2 x3 x4 x5 v6 S
theorem yb_X12_corrected_98 (cx : rd_Cx) (w : rd_W) {k20 : Nat → Int32 → Int32 → Int32 → Int32 → Int32 → Int32 → rd_S → Option (Int32 × rd_S)} (hk20 : ∀ (a0 : Nat) (x1 : Int32) (x2 : Int32) (x3 : Int32) (x4 : Int32) (x5 : Int32) (x6 : Int32) (ha0 : rd_ok w a0 12) (S : rd_S), rd_Y cx G_X12_corrected (fun r => rd_P cx G_X12_corrected.2.2.2.2.2 0 w (rd_rI w r)) (k20 a0 x1 x2 x3 x4 x5 x6 S) 20 [(0, .inr (some a0)), (1, .inl x1), (2, .inl x2), (3, .inl x3), (4, .inl x4), (5, .inl x5), (6, .inl x6)] [] w S 0 0) (a0 : Nat) (x1 : Int32) (x2 : Int32) (x3 : Int32) (x4 : Int32) (x5 : Int32) (x6 : Int32) (ha0 : rd_ok w a0 12) (S : rd_S) : rd_Y cx G_X12_corrected (fun r => rd_P cx G_X12_corrected.2.2.2.2.2 0 w (rd_rI w r)) (B_X12_corrected_98 w k20 a0 x1 x2 x3 x4 x5 x6 S) 98 [(0, .inr (some a0)), (1, .inl x1), (2, .inl x2), (3, .inl x3), (4, .inl x4), (5, .inl x5), (6, .inl x6)] [] w S 0 0 := by
  unfold B_X12_corrected_98
  refine ry_iinc (v := 1) dX12_corrected_98 rfl (by decide) (by decide) ?_
  refine ry_let (fun v6 => ?_)
  refine ry_goto 20 dX12_corrected_101 (by decide) ?_
  exact ry_to (hk20 a0 x1 x2 x3 x4 x5 v6 ha0 S) ⟨rfl, rfl, rfl, rfl, rfl, rfl, rfl, trivial⟩
def B_X12_corrected_92 (w : rd_W) (k54 : Nat → Int32 → Int32 → Int32 → Int32 → Int32 → Int32 → Int32 → rd_S → Option (Int32 × rd_S)) (a0 : Nat) (x1 : Int32) (x2 : Int32) (x3 : Int32) (x4 : Int32) (x5 : Int32) (x6 : Int32) (x7 : Int32) (S : rd_S) : Option (Int32 × rd_S) :=
  rd_let (x7 + 1) fun v12 =>
  k54 a0 x1 x2 x3 x4 x5 x6 v12 S
theorem yb_X12_corrected_92 (cx : rd_Cx) (w : rd_W) {k54 : Nat → Int32 → Int32 → Int32 → Int32 → Int32 → Int32 → Int32 → rd_S → Option (Int32 × rd_S)} (hk54 : ∀ (a0 : Nat) (x1 : Int32) (x2 : Int32) (x3 : Int32) (x4 : Int32) (x5 : Int32) (x6 : Int32) (x7 : Int32) (ha0 : rd_ok w a0 12) (S : rd_S), rd_Y cx G_X12_corrected (fun r => rd_P cx G_X12_corrected.2.2.2.2.2 0 w (rd_rI w r)) (k54 a0 x1 x2 x3 x4 x5 x6 x7 S) 54 [(0, .inr (some a0)), (1, .inl x1), (2, .inl x2), (3, .inl x3), (4, .inl x4), (5, .inl x5), (6, .inl x6), (7, .inl x7)] [] w S 0 0) (a0 : Nat) (x1 : Int32) (x2 : Int32) (x3 : Int32) (x4 : Int32) (x5 : Int32) (x6 : Int32) (x7 : Int32) (ha0 : rd_ok w a0 12) (S : rd_S) : rd_Y cx G_X12_corrected (fun r => rd_P cx G_X12_corrected.2.2.2.2.2 0 w (rd_rI w r)) (B_X12_corrected_92 w k54 a0 x1 x2 x3 x4 x5 x6 x7 S) 92 [(0, .inr (some a0)), (1, .inl x1), (2, .inl x2), (3, .inl x3), (4, .inl x4), (5, .inl x5), (6, .inl x6), (7, .inl x7)] [] w S 0 0 := by
  unfold B_X12_corrected_92
  refine ry_iinc (v := 1) dX12_corrected_92 rfl (by decide) (by decide) ?_
  refine ry_let (fun v12 => ?_)
  refine ry_goto 54 dX12_corrected_95 (by decide) ?_
  exact ry_to (hk54 a0 x1 x2 x3 x4 x5 x6 v12 ha0 S) ⟨rfl, rfl, rfl, rfl, rfl, rfl, rfl, rfl, trivial⟩
def B_X12_corrected_54 (w : rd_W) (k20 : Nat → Int32 → Int32 → Int32 → Int32 → Int32 → Int32 → rd_S → Option (Int32 × rd_S)) (k54 : Nat → Int32 → Int32 → Int32 → Int32 → Int32 → Int32 → Int32 → rd_S → Option (Int32 × rd_S)) (a0 : Nat) (x1 : Int32) (x2 : Int32) (x3 : Int32) (x4 : Int32) (x5 : Int32) (x6 : Int32) (x7 : Int32) (S : rd_S) : Option (Int32 × rd_S) :=
  if 26 < (x7 + x5) then
  (B_X12_corrected_98 w k20 a0 x1 x2 x3 x4 x5 x6 S)
  else
  (rd_b (F_X12_isGood w (x1 ^^^ (rd_shl x6 x7)) x2 S) fun v10 s9 =>
  if v10 = 0 then
  (B_X12_corrected_92 w k54 a0 x1 x2 x3 x4 x5 x6 x7 s9)
  else
  (rd_let (x1 ^^^ (rd_shl x6 x7)) fun v13 =>
  rd_let (x4 + 1) fun v14 =>
  B_X12_corrected_92 w k54 a0 x1 x2 v13 v14 x5 x6 x7 s9))
theorem yb_X12_corrected_54 (cx : rd_Cx) (w : rd_W) {k20 : Nat → Int32 → Int32 → Int32 → Int32 → Int32 → Int32 → rd_S → Option (Int32 × rd_S)} {k54 : Nat → Int32 → Int32 → Int32 → Int32 → Int32 → Int32 → Int32 → rd_S → Option (Int32 × rd_S)} (hk20 : ∀ (a0 : Nat) (x1 : Int32) (x2 : Int32) (x3 : Int32) (x4 : Int32) (x5 : Int32) (x6 : Int32) (ha0 : rd_ok w a0 12) (S : rd_S), rd_Y cx G_X12_corrected (fun r => rd_P cx G_X12_corrected.2.2.2.2.2 0 w (rd_rI w r)) (k20 a0 x1 x2 x3 x4 x5 x6 S) 20 [(0, .inr (some a0)), (1, .inl x1), (2, .inl x2), (3, .inl x3), (4, .inl x4), (5, .inl x5), (6, .inl x6)] [] w S 0 0) (hk54 : ∀ (a0 : Nat) (x1 : Int32) (x2 : Int32) (x3 : Int32) (x4 : Int32) (x5 : Int32) (x6 : Int32) (x7 : Int32) (ha0 : rd_ok w a0 12) (S : rd_S), rd_Y cx G_X12_corrected (fun r => rd_P cx G_X12_corrected.2.2.2.2.2 0 w (rd_rI w r)) (k54 a0 x1 x2 x3 x4 x5 x6 x7 S) 54 [(0, .inr (some a0)), (1, .inl x1), (2, .inl x2), (3, .inl x3), (4, .inl x4), (5, .inl x5), (6, .inl x6), (7, .inl x7)] [] w S 0 0) (a0 : Nat) (x1 : Int32) (x2 : Int32) (x3 : Int32) (x4 : Int32) (x5 : Int32) (x6 : Int32) (x7 : Int32) (ha0 : rd_ok w a0 12) (S : rd_S) : rd_Y cx G_X12_corrected (fun r => rd_P cx G_X12_corrected.2.2.2.2.2 0 w (rd_rI w r)) (B_X12_corrected_54 w k20 k54 a0 x1 x2 x3 x4 x5 x6 x7 S) 54 [(0, .inr (some a0)), (1, .inl x1), (2, .inl x2), (3, .inl x3), (4, .inl x4), (5, .inl x5), (6, .inl x6), (7, .inl x7)] [] w S 0 0 := by
  unfold B_X12_corrected_54
  refine ry_iload dX12_corrected_54 rfl ?_
  refine ry_iload dX12_corrected_56 rfl ?_
  refine ry_iadd dX12_corrected_58 ?_
  refine ry_bipush (v := 26) dX12_corrected_59 (by decide) ?_
  refine ry_icmp_gt 98 dX12_corrected_61 (by decide) (fun c8 => ?_) (fun c8 => ?_)
  · exact ry_to (yb_X12_corrected_98 cx w (k20 := k20) hk20 a0 x1 x2 x3 x4 x5 x6 ha0 S) ⟨rfl, rfl, rfl, rfl, rfl, rfl, rfl, trivial⟩
  · refine ry_iload_n dX12_corrected_64 rfl ?_
    refine ry_iload dX12_corrected_65 rfl ?_
    refine ry_iload dX12_corrected_67 rfl ?_
    refine ry_ishl dX12_corrected_69 ?_
    refine ry_ixor dX12_corrected_70 ?_
    refine ry_iload_n dX12_corrected_71 rfl ?_
    refine ry_callI (fun l r9 h9 => cm_X12_isGood l cx w (x1 ^^^ (rd_shl x6 x7)) x2 S r9 h9) (rd_runS (vs := [.inl (x1 ^^^ (rd_shl x6 x7)), .inl x2]) dX12_corrected_72 yf_X12_isGood mt_X12_isGood ml_RX12_14 ⟨Nat.le_of_ble_eq_true rfl, Nat.le_of_ble_eq_true rfl⟩ (Nat.le_of_ble_eq_true rfl) rfl) rfl rfl (Nat.le_of_ble_eq_true rfl) (Nat.le_of_ble_eq_true rfl) (fun v10 s9 => ?_)
    refine ry_if_ne 81 dX12_corrected_75 (by decide) (fun c11 => ?_) (fun c11 => ?_)
    · refine ry_goto 92 dX12_corrected_78 (by decide) ?_
      exact ry_to (yb_X12_corrected_92 cx w (k54 := k54) hk54 a0 x1 x2 x3 x4 x5 x6 x7 ha0 s9) ⟨rfl, rfl, rfl, rfl, rfl, rfl, rfl, rfl, trivial⟩
    · refine ry_iload_n dX12_corrected_81 rfl ?_
      refine ry_iload dX12_corrected_82 rfl ?_
      refine ry_iload dX12_corrected_84 rfl ?_
      refine ry_ishl dX12_corrected_86 ?_
      refine ry_ixor dX12_corrected_87 ?_
      refine ry_istore_n dX12_corrected_88 (by decide) ?_
      refine ry_let (fun v13 => ?_)
      refine ry_iinc (v := 1) dX12_corrected_89 rfl (by decide) (by decide) ?_
      refine ry_let (fun v14 => ?_)
      exact ry_to (yb_X12_corrected_92 cx w (k54 := k54) hk54 a0 x1 x2 v13 v14 x5 x6 x7 ha0 s9) ⟨rfl, rfl, rfl, rfl, rfl, rfl, rfl, rfl, trivial⟩
def F_X12_corrected_54 (w : rd_W) (k20 : Nat → Int32 → Int32 → Int32 → Int32 → Int32 → Int32 → rd_S → Option (Int32 × rd_S)) (n : Nat) : Nat → Int32 → Int32 → Int32 → Int32 → Int32 → Int32 → Int32 → rd_S → Option (Int32 × rd_S) :=
  Nat.rec (motive := fun _ => Nat → Int32 → Int32 → Int32 → Int32 → Int32 → Int32 → Int32 → rd_S → Option (Int32 × rd_S)) (fun _ _ _ _ _ _ _ _ _ => none) (fun _ ih => B_X12_corrected_54 w k20 ih) n
theorem yl_X12_corrected_54 (cx : rd_Cx) (w : rd_W) {k20 : Nat → Int32 → Int32 → Int32 → Int32 → Int32 → Int32 → rd_S → Option (Int32 × rd_S)} (hk20 : ∀ (a0 : Nat) (x1 : Int32) (x2 : Int32) (x3 : Int32) (x4 : Int32) (x5 : Int32) (x6 : Int32) (ha0 : rd_ok w a0 12) (S : rd_S), rd_Y cx G_X12_corrected (fun r => rd_P cx G_X12_corrected.2.2.2.2.2 0 w (rd_rI w r)) (k20 a0 x1 x2 x3 x4 x5 x6 S) 20 [(0, .inr (some a0)), (1, .inl x1), (2, .inl x2), (3, .inl x3), (4, .inl x4), (5, .inl x5), (6, .inl x6)] [] w S 0 0) : ∀ (n : Nat) (a0 : Nat) (x1 : Int32) (x2 : Int32) (x3 : Int32) (x4 : Int32) (x5 : Int32) (x6 : Int32) (x7 : Int32) (ha0 : rd_ok w a0 12) (S : rd_S), rd_Y cx G_X12_corrected (fun r => rd_P cx G_X12_corrected.2.2.2.2.2 0 w (rd_rI w r)) (F_X12_corrected_54 w k20 n a0 x1 x2 x3 x4 x5 x6 x7 S) 54 [(0, .inr (some a0)), (1, .inl x1), (2, .inl x2), (3, .inl x3), (4, .inl x4), (5, .inl x5), (6, .inl x6), (7, .inl x7)] [] w S 0 0 := by
  intro n
  induction n with
  | zero => intro a0 x1 x2 x3 x4 x5 x6 x7 ha0 S; exact ry_none
  | succ n ih => intro a0 x1 x2 x3 x4 x5 x6 x7 ha0 S; exact yb_X12_corrected_54 cx w hk20 ih a0 x1 x2 x3 x4 x5 x6 x7 ha0 S
def B_X12_corrected_20 (w : rd_W) (k8 : Nat → Int32 → Int32 → Int32 → Int32 → Int32 → rd_S → Option (Int32 × rd_S)) (k20 : Nat → Int32 → Int32 → Int32 → Int32 → Int32 → Int32 → rd_S → Option (Int32 × rd_S)) (a0 : Nat) (x1 : Int32) (x2 : Int32) (x3 : Int32) (x4 : Int32) (x5 : Int32) (x6 : Int32) (S : rd_S) : Option (Int32 × rd_S) :=
  if (rd_shl 1 x5) ≤ x6 then
  (rd_let (x5 + 1) fun v4 =>
  k8 a0 x1 x2 x3 x4 v4 S)
  else
  (if (x6 &&& 1) = 0 then
  (B_X12_corrected_98 w k20 a0 x1 x2 x3 x4 x5 x6 S)
  else
  (if ((rd_shr x6 (x5 - 1)) &&& 1) = 0 then
  (B_X12_corrected_98 w k20 a0 x1 x2 x3 x4 x5 x6 S)
  else
  (F_X12_corrected_54 w k20 rd_big a0 x1 x2 x3 x4 x5 x6 0 S)))
theorem yb_X12_corrected_20 (cx : rd_Cx) (w : rd_W) {k8 : Nat → Int32 → Int32 → Int32 → Int32 → Int32 → rd_S → Option (Int32 × rd_S)} {k20 : Nat → Int32 → Int32 → Int32 → Int32 → Int32 → Int32 → rd_S → Option (Int32 × rd_S)} (hk8 : ∀ (a0 : Nat) (x1 : Int32) (x2 : Int32) (x3 : Int32) (x4 : Int32) (x5 : Int32) (ha0 : rd_ok w a0 12) (S : rd_S), rd_Y cx G_X12_corrected (fun r => rd_P cx G_X12_corrected.2.2.2.2.2 0 w (rd_rI w r)) (k8 a0 x1 x2 x3 x4 x5 S) 8 [(0, .inr (some a0)), (1, .inl x1), (2, .inl x2), (3, .inl x3), (4, .inl x4), (5, .inl x5)] [] w S 0 0) (hk20 : ∀ (a0 : Nat) (x1 : Int32) (x2 : Int32) (x3 : Int32) (x4 : Int32) (x5 : Int32) (x6 : Int32) (ha0 : rd_ok w a0 12) (S : rd_S), rd_Y cx G_X12_corrected (fun r => rd_P cx G_X12_corrected.2.2.2.2.2 0 w (rd_rI w r)) (k20 a0 x1 x2 x3 x4 x5 x6 S) 20 [(0, .inr (some a0)), (1, .inl x1), (2, .inl x2), (3, .inl x3), (4, .inl x4), (5, .inl x5), (6, .inl x6)] [] w S 0 0) (a0 : Nat) (x1 : Int32) (x2 : Int32) (x3 : Int32) (x4 : Int32) (x5 : Int32) (x6 : Int32) (ha0 : rd_ok w a0 12) (S : rd_S) : rd_Y cx G_X12_corrected (fun r => rd_P cx G_X12_corrected.2.2.2.2.2 0 w (rd_rI w r)) (B_X12_corrected_20 w k8 k20 a0 x1 x2 x3 x4 x5 x6 S) 20 [(0, .inr (some a0)), (1, .inl x1), (2, .inl x2), (3, .inl x3), (4, .inl x4), (5, .inl x5), (6, .inl x6)] [] w S 0 0 := by
  unfold B_X12_corrected_20
  refine ry_iload dX12_corrected_20 rfl ?_
  refine ry_iconst (v := 1) dX12_corrected_22 (by decide) ?_
  refine ry_iload dX12_corrected_23 rfl ?_
  refine ry_ishl dX12_corrected_25 ?_
  refine ry_icmp_ge 104 dX12_corrected_26 (by decide) (fun c3 => ?_) (fun c3 => ?_)
  · refine ry_iinc (v := 1) dX12_corrected_104 rfl (by decide) (by decide) ?_
    refine ry_let (fun v4 => ?_)
    refine ry_goto 8 dX12_corrected_107 (by decide) ?_
    exact ry_to (hk8 a0 x1 x2 x3 x4 v4 ha0 S) ⟨rfl, rfl, rfl, rfl, rfl, rfl, trivial⟩
  · refine ry_iload dX12_corrected_29 rfl ?_
    refine ry_iconst (v := 1) dX12_corrected_31 (by decide) ?_
    refine ry_iand dX12_corrected_32 ?_
    refine ry_if_eq 98 dX12_corrected_33 (by decide) (fun c5 => ?_) (fun c5 => ?_)
    · exact ry_to (yb_X12_corrected_98 cx w (k20 := k20) hk20 a0 x1 x2 x3 x4 x5 x6 ha0 S) ⟨rfl, rfl, rfl, rfl, rfl, rfl, rfl, trivial⟩
    · refine ry_iload dX12_corrected_36 rfl ?_
      refine ry_iload dX12_corrected_38 rfl ?_
      refine ry_iconst (v := 1) dX12_corrected_40 (by decide) ?_
      refine ry_isub dX12_corrected_41 ?_
      refine ry_ishr dX12_corrected_42 ?_
      refine ry_iconst (v := 1) dX12_corrected_43 (by decide) ?_
      refine ry_iand dX12_corrected_44 ?_
      refine ry_if_ne 51 dX12_corrected_45 (by decide) (fun c7 => ?_) (fun c7 => ?_)
      · refine ry_goto 98 dX12_corrected_48 (by decide) ?_
        exact ry_to (yb_X12_corrected_98 cx w (k20 := k20) hk20 a0 x1 x2 x3 x4 x5 x6 ha0 S) ⟨rfl, rfl, rfl, rfl, rfl, rfl, rfl, trivial⟩
      · refine ry_iconst (v := 0) dX12_corrected_51 (by decide) ?_
        refine ry_istore dX12_corrected_52 (by decide) ?_
        exact ry_to (yl_X12_corrected_54 cx w (k20 := k20) hk20 rd_big a0 x1 x2 x3 x4 x5 x6 0 ha0 S) ⟨rfl, rfl, rfl, rfl, rfl, rfl, rfl, rfl, trivial⟩
def F_X12_corrected_20 (w : rd_W) (k8 : Nat → Int32 → Int32 → Int32 → Int32 → Int32 → rd_S → Option (Int32 × rd_S)) (n : Nat) : Nat → Int32 → Int32 → Int32 → Int32 → Int32 → Int32 → rd_S → Option (Int32 × rd_S) :=
  Nat.rec (motive := fun _ => Nat → Int32 → Int32 → Int32 → Int32 → Int32 → Int32 → rd_S → Option (Int32 × rd_S)) (fun _ _ _ _ _ _ _ _ => none) (fun _ ih => B_X12_corrected_20 w k8 ih) n
theorem yl_X12_corrected_20 (cx : rd_Cx) (w : rd_W) {k8 : Nat → Int32 → Int32 → Int32 → Int32 → Int32 → rd_S → Option (Int32 × rd_S)} (hk8 : ∀ (a0 : Nat) (x1 : Int32) (x2 : Int32) (x3 : Int32) (x4 : Int32) (x5 : Int32) (ha0 : rd_ok w a0 12) (S : rd_S), rd_Y cx G_X12_corrected (fun r => rd_P cx G_X12_corrected.2.2.2.2.2 0 w (rd_rI w r)) (k8 a0 x1 x2 x3 x4 x5 S) 8 [(0, .inr (some a0)), (1, .inl x1), (2, .inl x2), (3, .inl x3), (4, .inl x4), (5, .inl x5)] [] w S 0 0) : ∀ (n : Nat) (a0 : Nat) (x1 : Int32) (x2 : Int32) (x3 : Int32) (x4 : Int32) (x5 : Int32) (x6 : Int32) (ha0 : rd_ok w a0 12) (S : rd_S), rd_Y cx G_X12_corrected (fun r => rd_P cx G_X12_corrected.2.2.2.2.2 0 w (rd_rI w r)) (F_X12_corrected_20 w k8 n a0 x1 x2 x3 x4 x5 x6 S) 20 [(0, .inr (some a0)), (1, .inl x1), (2, .inl x2), (3, .inl x3), (4, .inl x4), (5, .inl x5), (6, .inl x6)] [] w S 0 0 := by
  intro n
  induction n with
  | zero => intro a0 x1 x2 x3 x4 x5 x6 ha0 S; exact ry_none
  | succ n ih => intro a0 x1 x2 x3 x4 x5 x6 ha0 S; exact yb_X12_corrected_20 cx w hk8 ih a0 x1 x2 x3 x4 x5 x6 ha0 S
def B_X12_corrected_8 (w : rd_W) (k8 : Nat → Int32 → Int32 → Int32 → Int32 → Int32 → rd_S → Option (Int32 × rd_S)) (a0 : Nat) (x1 : Int32) (x2 : Int32) (x3 : Int32) (x4 : Int32) (x5 : Int32) (S : rd_S) : Option (Int32 × rd_S) :=
  if (gI S a0 1) < x5 then
  (if x4 = 1 then
  (B_X12_corrected_121 w x3 S)
  else
  (B_X12_corrected_121 w (-1) S))
  else
  (F_X12_corrected_20 w k8 rd_big a0 x1 x2 x3 x4 x5 0 S)
theorem yb_X12_corrected_8 (cx : rd_Cx) (w : rd_W) {k8 : Nat → Int32 → Int32 → Int32 → Int32 → Int32 → rd_S → Option (Int32 × rd_S)} (hk8 : ∀ (a0 : Nat) (x1 : Int32) (x2 : Int32) (x3 : Int32) (x4 : Int32) (x5 : Int32) (ha0 : rd_ok w a0 12) (S : rd_S), rd_Y cx G_X12_corrected (fun r => rd_P cx G_X12_corrected.2.2.2.2.2 0 w (rd_rI w r)) (k8 a0 x1 x2 x3 x4 x5 S) 8 [(0, .inr (some a0)), (1, .inl x1), (2, .inl x2), (3, .inl x3), (4, .inl x4), (5, .inl x5)] [] w S 0 0) (a0 : Nat) (x1 : Int32) (x2 : Int32) (x3 : Int32) (x4 : Int32) (x5 : Int32) (ha0 : rd_ok w a0 12) (S : rd_S) : rd_Y cx G_X12_corrected (fun r => rd_P cx G_X12_corrected.2.2.2.2.2 0 w (rd_rI w r)) (B_X12_corrected_8 w k8 a0 x1 x2 x3 x4 x5 S) 8 [(0, .inr (some a0)), (1, .inl x1), (2, .inl x2), (3, .inl x3), (4, .inl x4), (5, .inl x5)] [] w S 0 0 := by
  unfold B_X12_corrected_8
  refine ry_iload dX12_corrected_8 rfl ?_
  refine ry_aload_n dX12_corrected_10 rfl ?_
  refine ry_geti dX12_corrected_11 ha0 fl_RX12_18 rfl ?_
  refine ry_icmp_gt 110 dX12_corrected_14 (by decide) (fun c1 => ?_) (fun c1 => ?_)
  · refine ry_iload dX12_corrected_110 rfl ?_
    refine ry_iconst (v := 1) dX12_corrected_112 (by decide) ?_
    refine ry_icmp_ne 120 dX12_corrected_113 (by decide) (fun c2 => ?_) (fun c2 => ?_)
    · refine ry_iload_n dX12_corrected_116 rfl ?_
      refine ry_goto 121 dX12_corrected_117 (by decide) ?_
      exact ry_to (yb_X12_corrected_121 cx w x3 S) trivial
    · refine ry_iconst (v := (-1)) dX12_corrected_120 (by decide) ?_
      exact ry_to (yb_X12_corrected_121 cx w (-1) S) trivial
  · refine ry_iconst (v := 0) dX12_corrected_17 (by decide) ?_
    refine ry_istore dX12_corrected_18 (by decide) ?_
    exact ry_to (yl_X12_corrected_20 cx w (k8 := k8) hk8 rd_big a0 x1 x2 x3 x4 x5 0 ha0 S) ⟨rfl, rfl, rfl, rfl, rfl, rfl, rfl, trivial⟩
def F_X12_corrected_8 (w : rd_W) (n : Nat) : Nat → Int32 → Int32 → Int32 → Int32 → Int32 → rd_S → Option (Int32 × rd_S) :=
  Nat.rec (motive := fun _ => Nat → Int32 → Int32 → Int32 → Int32 → Int32 → rd_S → Option (Int32 × rd_S)) (fun _ _ _ _ _ _ _ => none) (fun _ ih => B_X12_corrected_8 w ih) n
theorem yl_X12_corrected_8 (cx : rd_Cx) (w : rd_W) : ∀ (n : Nat) (a0 : Nat) (x1 : Int32) (x2 : Int32) (x3 : Int32) (x4 : Int32) (x5 : Int32) (ha0 : rd_ok w a0 12) (S : rd_S), rd_Y cx G_X12_corrected (fun r => rd_P cx G_X12_corrected.2.2.2.2.2 0 w (rd_rI w r)) (F_X12_corrected_8 w n a0 x1 x2 x3 x4 x5 S) 8 [(0, .inr (some a0)), (1, .inl x1), (2, .inl x2), (3, .inl x3), (4, .inl x4), (5, .inl x5)] [] w S 0 0 := by
  intro n
  induction n with
  | zero => intro a0 x1 x2 x3 x4 x5 ha0 S; exact ry_none
  | succ n ih => intro a0 x1 x2 x3 x4 x5 ha0 S; exact yb_X12_corrected_8 cx w ih a0 x1 x2 x3 x4 x5 ha0 S
def F_X12_corrected (w : rd_W) (a0 : Nat) (x1 : Int32) (x2 : Int32) (S : rd_S) : Option (Int32 × rd_S) :=
  F_X12_corrected_8 w rd_big a0 x1 x2 (-1) 0 1 S
theorem ym_X12_corrected (cx : rd_Cx) (w : rd_W) (a0 : Nat) (x1 : Int32) (x2 : Int32) (ha0 : rd_ok w a0 12) (S : rd_S) : rd_Y cx G_X12_corrected (fun r => rd_P cx G_X12_corrected.2.2.2.2.2 0 w (rd_rI w r)) (F_X12_corrected w a0 x1 x2 S) 0 (rd_as 0 [.inr (some a0), .inl x1, .inl x2]) [] w S 0 0 := by
  unfold F_X12_corrected
  refine ry_iconst (v := (-1)) dX12_corrected_0 (by decide) ?_
  refine ry_istore_n dX12_corrected_1 (by decide) ?_
  refine ry_iconst (v := 0) dX12_corrected_2 (by decide) ?_
  refine ry_istore dX12_corrected_3 (by decide) ?_
  refine ry_iconst (v := 1) dX12_corrected_5 (by decide) ?_
  refine ry_istore dX12_corrected_6 (by decide) ?_
  exact ry_to (yl_X12_corrected_8 cx w rd_big a0 x1 x2 (-1) 0 1 ha0 S) ⟨rfl, rfl, rfl, rfl, rfl, rfl, trivial⟩
theorem cm_X12_corrected (l : Launch) (cx : rd_Cx) (w : rd_W) (a0 : Nat) (x1 : Int32) (x2 : Int32) (ha0 : rd_ok w a0 12) (S : rd_S) (r : Int32 × rd_S) (h : F_X12_corrected w a0 x1 x2 S = some r) : rd_M l cx yX12_corrected G_X12_corrected 0 [.inr (some a0), .inl x1, .inl x2] w S (rd_rI w r) :=
  rd_enter (plainFor_of_name (by decide +kernel)) rfl (fun h => by cases h) (Nat.le_of_ble_eq_true rfl) (ym_X12_corrected cx w a0 x1 x2 ha0 S r h)
abbrev G_X12_count : rd_G := (RX12, cX12_count, 3, none, false, { frames := 0, cells := 0, slots := 0, locals := 0 })
theorem yf_X12_count : rd_YL yX12_count G_X12_count 1 := ⟨rd_mem 898 (by decide +kernel) rfl, rd_mem 75 (by decide +kernel) rfl, by decide +kernel, by decide +kernel, by decide +kernel⟩
theorem mi_X12_count : Cond.instanceMethod yX12_count ∈ rd_gw := rd_mem 897 (by decide +kernel) rfl
theorem ms_X12_count : Cond.selects (MethodName.cls yX12_count) yX12_count yX12_count ∈ rd_gw := rd_mem 40 (by decide +kernel) rfl
theorem dX12_count_0 : decode cX12_count 0 = .ok (.aload_n 0, 1) := by decide +kernel
theorem dX12_count_1 : decode cX12_count 1 = .ok (.getfield 65, 3) := by decide +kernel
theorem dX12_count_4 : decode cX12_count 4 = .ok (.bipush 50, 2) := by decide +kernel
theorem dX12_count_6 : decode cX12_count 6 = .ok (.irem, 1) := by decide +kernel
theorem dX12_count_7 : decode cX12_count 7 = .ok (.istore_n 2, 1) := by decide +kernel
theorem dX12_count_8 : decode cX12_count 8 = .ok (.aload_n 0, 1) := by decide +kernel
theorem dX12_count_9 : decode cX12_count 9 = .ok (.getfield 65, 3) := by decide +kernel
theorem dX12_count_12 : decode cX12_count 12 = .ok (.bipush 50, 2) := by decide +kernel
theorem dX12_count_14 : decode cX12_count 14 = .ok (.if_icmp .lt 23, 3) := by decide +kernel
theorem dX12_count_17 : decode cX12_count 17 = .ok (.aload_n 0, 1) := by decide +kernel
theorem dX12_count_18 : decode cX12_count 18 = .ok (.getfield 102, 3) := by decide +kernel
theorem dX12_count_21 : decode cX12_count 21 = .ok (.iload_n 2, 1) := by decide +kernel
theorem dX12_count_22 : decode cX12_count 22 = .ok (.iaload, 1) := by decide +kernel
theorem dX12_count_23 : decode cX12_count 23 = .ok (.iconst 2, 1) := by decide +kernel
theorem dX12_count_24 : decode cX12_count 24 = .ok (.if_icmp .ne 13, 3) := by decide +kernel
theorem dX12_count_27 : decode cX12_count 27 = .ok (.aload_n 0, 1) := by decide +kernel
theorem dX12_count_28 : decode cX12_count 28 = .ok (.dup, 1) := by decide +kernel
theorem dX12_count_29 : decode cX12_count 29 = .ok (.getfield 68, 3) := by decide +kernel
theorem dX12_count_32 : decode cX12_count 32 = .ok (.iconst 1, 1) := by decide +kernel
theorem dX12_count_33 : decode cX12_count 33 = .ok (.isub, 1) := by decide +kernel
theorem dX12_count_34 : decode cX12_count 34 = .ok (.putfield 68, 3) := by decide +kernel
theorem dX12_count_37 : decode cX12_count 37 = .ok (.aload_n 0, 1) := by decide +kernel
theorem dX12_count_38 : decode cX12_count 38 = .ok (.getfield 102, 3) := by decide +kernel
theorem dX12_count_41 : decode cX12_count 41 = .ok (.iload_n 2, 1) := by decide +kernel
theorem dX12_count_42 : decode cX12_count 42 = .ok (.iload_n 1, 1) := by decide +kernel
theorem dX12_count_43 : decode cX12_count 43 = .ok (.iastore, 1) := by decide +kernel
theorem dX12_count_44 : decode cX12_count 44 = .ok (.aload_n 0, 1) := by decide +kernel
theorem dX12_count_45 : decode cX12_count 45 = .ok (.dup, 1) := by decide +kernel
theorem dX12_count_46 : decode cX12_count 46 = .ok (.getfield 65, 3) := by decide +kernel
theorem dX12_count_49 : decode cX12_count 49 = .ok (.iconst 1, 1) := by decide +kernel
theorem dX12_count_50 : decode cX12_count 50 = .ok (.iadd, 1) := by decide +kernel
theorem dX12_count_51 : decode cX12_count 51 = .ok (.putfield 65, 3) := by decide +kernel
theorem dX12_count_54 : decode cX12_count 54 = .ok (.iload_n 1, 1) := by decide +kernel
theorem dX12_count_55 : decode cX12_count 55 = .ok (.iconst 2, 1) := by decide +kernel
theorem dX12_count_56 : decode cX12_count 56 = .ok (.if_icmp .ne 13, 3) := by decide +kernel
theorem dX12_count_59 : decode cX12_count 59 = .ok (.aload_n 0, 1) := by decide +kernel
theorem dX12_count_60 : decode cX12_count 60 = .ok (.dup, 1) := by decide +kernel
theorem dX12_count_61 : decode cX12_count 61 = .ok (.getfield 68, 3) := by decide +kernel
theorem dX12_count_64 : decode cX12_count 64 = .ok (.iconst 1, 1) := by decide +kernel
theorem dX12_count_65 : decode cX12_count 65 = .ok (.iadd, 1) := by decide +kernel
theorem dX12_count_66 : decode cX12_count 66 = .ok (.putfield 68, 3) := by decide +kernel
theorem dX12_count_69 : decode cX12_count 69 = .ok (.return_, 1) := by decide +kernel
def B_X12_count_69 (w : rd_W) (S : rd_S) : Option (rd_S) :=
  some S
theorem yb_X12_count_69 (cx : rd_Cx) (w : rd_W) (S : rd_S) : rd_Y cx G_X12_count (fun r => rd_P cx G_X12_count.2.2.2.2.2 0 w (rd_rV w r)) (B_X12_count_69 w S) 69 [] [] w S 0 0 := by
  unfold B_X12_count_69
  exact ry_vret dX12_count_69 rfl (Nat.le_of_ble_eq_true rfl) (Nat.le_of_ble_eq_true rfl)
def B_X12_count_37 (w : rd_W) (a0 : Nat) (x1 : Int32) (x2 : Int32) (S : rd_S) : Option (rd_S) :=
  rd_c (gR S a0 10) fun b3 =>
  rd_i x2 (w.2.2 b3) <|
  rd_let (pI S b3 x2.toNatClampNeg x1) fun s4 =>
  rd_let (pI s4 a0 11 ((gI s4 a0 11) + 1)) fun s5 =>
  if x1 = 2 then
  (rd_let (pI s5 a0 12 ((gI s5 a0 12) + 1)) fun s7 =>
  B_X12_count_69 w s7)
  else
  (B_X12_count_69 w s5)
theorem yb_X12_count_37 (cx : rd_Cx) (w : rd_W) (a0 : Nat) (x1 : Int32) (x2 : Int32) (ha0 : rd_ok w a0 12) (S : rd_S) : rd_Y cx G_X12_count (fun r => rd_P cx G_X12_count.2.2.2.2.2 0 w (rd_rV w r)) (B_X12_count_37 w a0 x1 x2 S) 37 [(0, .inr (some a0)), (1, .inl x1), (2, .inl x2)] [] w S 0 0 := by
  unfold B_X12_count_37
  refine ry_aload_n dX12_count_37 rfl ?_
  refine ry_getr dX12_count_38 ha0 fl_RX12_102 rfl (fun b3 hb3 => ?_)
  refine ry_iload_n dX12_count_41 rfl ?_
  refine ry_iload_n dX12_count_42 rfl ?_
  refine ry_iast dX12_count_43 hb3 ?_
  refine ry_letS (fun s4 => ?_)
  refine ry_aload_n dX12_count_44 rfl ?_
  refine ry_dup dX12_count_45 ?_
  refine ry_geti dX12_count_46 ha0 fl_RX12_65 rfl ?_
  refine ry_iconst (v := 1) dX12_count_49 (by decide) ?_
  refine ry_iadd dX12_count_50 ?_
  refine ry_puti dX12_count_51 ha0 fl_RX12_65 rfl rfl rfl ?_
  refine ry_letS (fun s5 => ?_)
  refine ry_iload_n dX12_count_54 rfl ?_
  refine ry_iconst (v := 2) dX12_count_55 (by decide) ?_
  refine ry_icmp_ne 69 dX12_count_56 (by decide) (fun c6 => ?_) (fun c6 => ?_)
  · refine ry_aload_n dX12_count_59 rfl ?_
    refine ry_dup dX12_count_60 ?_
    refine ry_geti dX12_count_61 ha0 fl_RX12_68 rfl ?_
    refine ry_iconst (v := 1) dX12_count_64 (by decide) ?_
    refine ry_iadd dX12_count_65 ?_
    refine ry_puti dX12_count_66 ha0 fl_RX12_68 rfl rfl rfl ?_
    refine ry_letS (fun s7 => ?_)
    exact ry_to (yb_X12_count_69 cx w s7) trivial
  · exact ry_to (yb_X12_count_69 cx w s5) trivial
def F_X12_count (w : rd_W) (a0 : Nat) (x1 : Int32) (S : rd_S) : Option (rd_S) :=
  rd_let (rd_rem (gI S a0 11) 50) fun v1 =>
  if (gI S a0 11) < 50 then
  (B_X12_count_37 w a0 x1 v1 S)
  else
  (rd_c (gR S a0 10) fun b8 =>
  rd_i v1 (w.2.2 b8) <|
  if (gI S b8 v1.toNatClampNeg) = 2 then
  (rd_let (pI S a0 12 ((gI S a0 12) - 1)) fun s10 =>
  B_X12_count_37 w a0 x1 v1 s10)
  else
  (B_X12_count_37 w a0 x1 v1 S))
theorem ym_X12_count (cx : rd_Cx) (w : rd_W) (a0 : Nat) (x1 : Int32) (ha0 : rd_ok w a0 12) (S : rd_S) : rd_Y cx G_X12_count (fun r => rd_P cx G_X12_count.2.2.2.2.2 0 w (rd_rV w r)) (F_X12_count w a0 x1 S) 0 (rd_as 0 [.inr (some a0), .inl x1]) [] w S 0 0 := by
  unfold F_X12_count
  refine ry_aload_n dX12_count_0 rfl ?_
  refine ry_geti dX12_count_1 ha0 fl_RX12_65 rfl ?_
  refine ry_bipush (v := 50) dX12_count_4 (by decide) ?_
  refine ry_iremK dX12_count_6 (by decide) ?_
  refine ry_istore_n dX12_count_7 (by decide) ?_
  refine ry_let (fun v1 => ?_)
  refine ry_aload_n dX12_count_8 rfl ?_
  refine ry_geti dX12_count_9 ha0 fl_RX12_65 rfl ?_
  refine ry_bipush (v := 50) dX12_count_12 (by decide) ?_
  refine ry_icmp_lt 37 dX12_count_14 (by decide) (fun c2 => ?_) (fun c2 => ?_)
  · exact ry_to (yb_X12_count_37 cx w a0 x1 v1 ha0 S) ⟨rfl, rfl, rfl, trivial⟩
  · refine ry_aload_n dX12_count_17 rfl ?_
    refine ry_getr dX12_count_18 ha0 fl_RX12_102 rfl (fun b8 hb8 => ?_)
    refine ry_iload_n dX12_count_21 rfl ?_
    refine ry_iald dX12_count_22 hb8 ?_
    refine ry_iconst (v := 2) dX12_count_23 (by decide) ?_
    refine ry_icmp_ne 37 dX12_count_24 (by decide) (fun c9 => ?_) (fun c9 => ?_)
    · refine ry_aload_n dX12_count_27 rfl ?_
      refine ry_dup dX12_count_28 ?_
      refine ry_geti dX12_count_29 ha0 fl_RX12_68 rfl ?_
      refine ry_iconst (v := 1) dX12_count_32 (by decide) ?_
      refine ry_isub dX12_count_33 ?_
      refine ry_puti dX12_count_34 ha0 fl_RX12_68 rfl rfl rfl ?_
      refine ry_letS (fun s10 => ?_)
      exact ry_to (yb_X12_count_37 cx w a0 x1 v1 ha0 s10) ⟨rfl, rfl, rfl, trivial⟩
    · exact ry_to (yb_X12_count_37 cx w a0 x1 v1 ha0 S) ⟨rfl, rfl, rfl, trivial⟩
theorem cm_X12_count (l : Launch) (cx : rd_Cx) (w : rd_W) (a0 : Nat) (x1 : Int32) (ha0 : rd_ok w a0 12) (S : rd_S) (r : rd_S) (h : F_X12_count w a0 x1 S = some r) : rd_M l cx yX12_count G_X12_count 0 [.inr (some a0), .inl x1] w S (rd_rV w r) :=
  rd_enter (plainFor_of_name (by decide +kernel)) rfl (fun h => by cases h) (Nat.le_of_ble_eq_true rfl) (ym_X12_count cx w a0 x1 ha0 S r h)
abbrev G_X12_isKnown : rd_G := (RX12, cX12_isKnown, 2, (some .boolean), false, { frames := 0, cells := 0, slots := 0, locals := 0 })
theorem yf_X12_isKnown : rd_YL yX12_isKnown G_X12_isKnown 1 := ⟨rd_mem 906 (by decide +kernel) rfl, rd_mem 75 (by decide +kernel) rfl, by decide +kernel, by decide +kernel, by decide +kernel⟩
theorem mi_X12_isKnown : Cond.instanceMethod yX12_isKnown ∈ rd_gw := rd_mem 905 (by decide +kernel) rfl
theorem ms_X12_isKnown : Cond.selects (MethodName.cls yX12_isKnown) yX12_isKnown yX12_isKnown ∈ rd_gw := rd_mem 42 (by decide +kernel) rfl
theorem dX12_isKnown_0 : decode cX12_isKnown 0 = .ok (.aload_n 0, 1) := by decide +kernel
theorem dX12_isKnown_1 : decode cX12_isKnown 1 = .ok (.getfield 74, 3) := by decide +kernel
theorem dX12_isKnown_4 : decode cX12_isKnown 4 = .ok (.iload_n 1, 1) := by decide +kernel
theorem dX12_isKnown_5 : decode cX12_isKnown 5 = .ok (.iaload, 1) := by decide +kernel
theorem dX12_isKnown_6 : decode cX12_isKnown 6 = .ok (.iconst 2, 1) := by decide +kernel
theorem dX12_isKnown_7 : decode cX12_isKnown 7 = .ok (.if_icmp .ge 7, 3) := by decide +kernel
theorem dX12_isKnown_10 : decode cX12_isKnown 10 = .ok (.iconst 1, 1) := by decide +kernel
theorem dX12_isKnown_11 : decode cX12_isKnown 11 = .ok (.goto 4, 3) := by decide +kernel
theorem dX12_isKnown_14 : decode cX12_isKnown 14 = .ok (.iconst 0, 1) := by decide +kernel
theorem dX12_isKnown_15 : decode cX12_isKnown 15 = .ok (.ireturn, 1) := by decide +kernel
def B_X12_isKnown_15 (w : rd_W) (t0 : Int32) (S : rd_S) : Option (Int32 × rd_S) :=
  rd_z t0 <|
  some (t0, S)
theorem yb_X12_isKnown_15 (cx : rd_Cx) (w : rd_W) (t0 : Int32) (S : rd_S) : rd_Y cx G_X12_isKnown (fun r => rd_P cx G_X12_isKnown.2.2.2.2.2 0 w (rd_rI w r)) (B_X12_isKnown_15 w t0 S) 15 [] [.inl t0] w S 0 0 := by
  unfold B_X12_isKnown_15
  refine ry_zg (fun z3 => ?_)
  exact ry_zret dX12_isKnown_15 rfl z3 (Nat.le_of_ble_eq_true rfl) (Nat.le_of_ble_eq_true rfl)
def F_X12_isKnown (w : rd_W) (a0 : Nat) (x1 : Int32) (S : rd_S) : Option (Int32 × rd_S) :=
  rd_c (gR S a0 19) fun b1 =>
  rd_i x1 (w.2.2 b1) <|
  if 2 ≤ (gI S b1 x1.toNatClampNeg) then
  (B_X12_isKnown_15 w 0 S)
  else
  (B_X12_isKnown_15 w 1 S)
theorem ym_X12_isKnown (cx : rd_Cx) (w : rd_W) (a0 : Nat) (x1 : Int32) (ha0 : rd_ok w a0 12) (S : rd_S) : rd_Y cx G_X12_isKnown (fun r => rd_P cx G_X12_isKnown.2.2.2.2.2 0 w (rd_rI w r)) (F_X12_isKnown w a0 x1 S) 0 (rd_as 0 [.inr (some a0), .inl x1]) [] w S 0 0 := by
  unfold F_X12_isKnown
  refine ry_aload_n dX12_isKnown_0 rfl ?_
  refine ry_getr dX12_isKnown_1 ha0 fl_RX12_74 rfl (fun b1 hb1 => ?_)
  refine ry_iload_n dX12_isKnown_4 rfl ?_
  refine ry_iald dX12_isKnown_5 hb1 ?_
  refine ry_iconst (v := 2) dX12_isKnown_6 (by decide) ?_
  refine ry_icmp_ge 14 dX12_isKnown_7 (by decide) (fun c2 => ?_) (fun c2 => ?_)
  · refine ry_iconst (v := 0) dX12_isKnown_14 (by decide) ?_
    exact ry_to (yb_X12_isKnown_15 cx w 0 S) trivial
  · refine ry_iconst (v := 1) dX12_isKnown_10 (by decide) ?_
    refine ry_goto 15 dX12_isKnown_11 (by decide) ?_
    exact ry_to (yb_X12_isKnown_15 cx w 1 S) trivial
theorem cm_X12_isKnown (l : Launch) (cx : rd_Cx) (w : rd_W) (a0 : Nat) (x1 : Int32) (ha0 : rd_ok w a0 12) (S : rd_S) (r : Int32 × rd_S) (h : F_X12_isKnown w a0 x1 S = some r) : rd_M l cx yX12_isKnown G_X12_isKnown 0 [.inr (some a0), .inl x1] w S (rd_rI w r) :=
  rd_enter (plainFor_of_name (by decide +kernel)) rfl (fun h => by cases h) (Nat.le_of_ble_eq_true rfl) (ym_X12_isKnown cx w a0 x1 ha0 S r h)
abbrev G_X12_tagsAre : rd_G := (RX12, cX12_tagsAre, 3, (some .boolean), false, { frames := 0, cells := 0, slots := 0, locals := 0 })
theorem yf_X12_tagsAre : rd_YL yX12_tagsAre G_X12_tagsAre 1 := ⟨rd_mem 914 (by decide +kernel) rfl, rd_mem 75 (by decide +kernel) rfl, by decide +kernel, by decide +kernel, by decide +kernel⟩
theorem mi_X12_tagsAre : Cond.instanceMethod yX12_tagsAre ∈ rd_gw := rd_mem 913 (by decide +kernel) rfl
theorem ms_X12_tagsAre : Cond.selects (MethodName.cls yX12_tagsAre) yX12_tagsAre yX12_tagsAre ∈ rd_gw := rd_mem 44 (by decide +kernel) rfl
theorem dX12_tagsAre_0 : decode cX12_tagsAre 0 = .ok (.iconst 0, 1) := by decide +kernel
theorem dX12_tagsAre_1 : decode cX12_tagsAre 1 = .ok (.istore_n 2, 1) := by decide +kernel
theorem dX12_tagsAre_2 : decode cX12_tagsAre 2 = .ok (.iload_n 2, 1) := by decide +kernel
theorem dX12_tagsAre_3 : decode cX12_tagsAre 3 = .ok (.aload_n 0, 1) := by decide +kernel
theorem dX12_tagsAre_4 : decode cX12_tagsAre 4 = .ok (.getfield 230, 3) := by decide +kernel
theorem dX12_tagsAre_7 : decode cX12_tagsAre 7 = .ok (.if_icmp .ge 37, 3) := by decide +kernel
theorem dX12_tagsAre_10 : decode cX12_tagsAre 10 = .ok (.aload_n 0, 1) := by decide +kernel
theorem dX12_tagsAre_11 : decode cX12_tagsAre 11 = .ok (.getfield 233, 3) := by decide +kernel
theorem dX12_tagsAre_14 : decode cX12_tagsAre 14 = .ok (.iload_n 2, 1) := by decide +kernel
theorem dX12_tagsAre_15 : decode cX12_tagsAre 15 = .ok (.iaload, 1) := by decide +kernel
theorem dX12_tagsAre_16 : decode cX12_tagsAre 16 = .ok (.sipush 19415, 3) := by decide +kernel
theorem dX12_tagsAre_19 : decode cX12_tagsAre 19 = .ok (.if_icmp .ne 19, 3) := by decide +kernel
theorem dX12_tagsAre_22 : decode cX12_tagsAre 22 = .ok (.aload_n 0, 1) := by decide +kernel
theorem dX12_tagsAre_23 : decode cX12_tagsAre 23 = .ok (.getfield 236, 3) := by decide +kernel
theorem dX12_tagsAre_26 : decode cX12_tagsAre 26 = .ok (.iload_n 2, 1) := by decide +kernel
theorem dX12_tagsAre_27 : decode cX12_tagsAre 27 = .ok (.iaload, 1) := by decide +kernel
theorem dX12_tagsAre_28 : decode cX12_tagsAre 28 = .ok (.iload_n 1, 1) := by decide +kernel
theorem dX12_tagsAre_29 : decode cX12_tagsAre 29 = .ok (.if_icmp .ne 7, 3) := by decide +kernel
theorem dX12_tagsAre_32 : decode cX12_tagsAre 32 = .ok (.iconst 1, 1) := by decide +kernel
theorem dX12_tagsAre_33 : decode cX12_tagsAre 33 = .ok (.goto 4, 3) := by decide +kernel
theorem dX12_tagsAre_36 : decode cX12_tagsAre 36 = .ok (.iconst 0, 1) := by decide +kernel
theorem dX12_tagsAre_37 : decode cX12_tagsAre 37 = .ok (.ireturn, 1) := by decide +kernel
theorem dX12_tagsAre_38 : decode cX12_tagsAre 38 = .ok (.iinc 2 1, 3) := by decide +kernel
theorem dX12_tagsAre_41 : decode cX12_tagsAre 41 = .ok (.goto (-39), 3) := by decide +kernel
theorem dX12_tagsAre_44 : decode cX12_tagsAre 44 = .ok (.iconst 0, 1) := by decide +kernel
theorem dX12_tagsAre_45 : decode cX12_tagsAre 45 = .ok (.ireturn, 1) := by decide +kernel
def B_X12_tagsAre_37 (w : rd_W) (t0 : Int32) (S : rd_S) : Option (Int32 × rd_S) :=
  rd_z t0 <|
  some (t0, S)
theorem yb_X12_tagsAre_37 (cx : rd_Cx) (w : rd_W) (t0 : Int32) (S : rd_S) : rd_Y cx G_X12_tagsAre (fun r => rd_P cx G_X12_tagsAre.2.2.2.2.2 0 w (rd_rI w r)) (B_X12_tagsAre_37 w t0 S) 37 [] [.inl t0] w S 0 0 := by
  unfold B_X12_tagsAre_37
  refine ry_zg (fun z6 => ?_)
  exact ry_zret dX12_tagsAre_37 rfl z6 (Nat.le_of_ble_eq_true rfl) (Nat.le_of_ble_eq_true rfl)
def B_X12_tagsAre_2 (w : rd_W) (k2 : Nat → Int32 → Int32 → rd_S → Option (Int32 × rd_S)) (a0 : Nat) (x1 : Int32) (x2 : Int32) (S : rd_S) : Option (Int32 × rd_S) :=
  if (gI S a0 43) ≤ x2 then
  (some (0, S))
  else
  (rd_c (gR S a0 40) fun b2 =>
  rd_i x2 (w.2.2 b2) <|
  if (gI S b2 x2.toNatClampNeg) = 19415 then
  (rd_c (gR S a0 41) fun b4 =>
  rd_i x2 (w.2.2 b4) <|
  if (gI S b4 x2.toNatClampNeg) = x1 then
  (B_X12_tagsAre_37 w 1 S)
  else
  (B_X12_tagsAre_37 w 0 S))
  else
  (rd_let (x2 + 1) fun v7 =>
  k2 a0 x1 v7 S))
theorem yb_X12_tagsAre_2 (cx : rd_Cx) (w : rd_W) {k2 : Nat → Int32 → Int32 → rd_S → Option (Int32 × rd_S)} (hk2 : ∀ (a0 : Nat) (x1 : Int32) (x2 : Int32) (ha0 : rd_ok w a0 12) (S : rd_S), rd_Y cx G_X12_tagsAre (fun r => rd_P cx G_X12_tagsAre.2.2.2.2.2 0 w (rd_rI w r)) (k2 a0 x1 x2 S) 2 [(0, .inr (some a0)), (1, .inl x1), (2, .inl x2)] [] w S 0 0) (a0 : Nat) (x1 : Int32) (x2 : Int32) (ha0 : rd_ok w a0 12) (S : rd_S) : rd_Y cx G_X12_tagsAre (fun r => rd_P cx G_X12_tagsAre.2.2.2.2.2 0 w (rd_rI w r)) (B_X12_tagsAre_2 w k2 a0 x1 x2 S) 2 [(0, .inr (some a0)), (1, .inl x1), (2, .inl x2)] [] w S 0 0 := by
  unfold B_X12_tagsAre_2
  refine ry_iload_n dX12_tagsAre_2 rfl ?_
  refine ry_aload_n dX12_tagsAre_3 rfl ?_
  refine ry_geti dX12_tagsAre_4 ha0 fl_RX12_230 rfl ?_
  refine ry_icmp_ge 44 dX12_tagsAre_7 (by decide) (fun c1 => ?_) (fun c1 => ?_)
  · refine ry_iconst (v := 0) dX12_tagsAre_44 (by decide) ?_
    exact ry_zret dX12_tagsAre_45 rfl (by decide) (Nat.le_of_ble_eq_true rfl) (Nat.le_of_ble_eq_true rfl)
  · refine ry_aload_n dX12_tagsAre_10 rfl ?_
    refine ry_getr dX12_tagsAre_11 ha0 fl_RX12_233 rfl (fun b2 hb2 => ?_)
    refine ry_iload_n dX12_tagsAre_14 rfl ?_
    refine ry_iald dX12_tagsAre_15 hb2 ?_
    refine ry_sipush (v := 19415) dX12_tagsAre_16 (by decide) ?_
    refine ry_icmp_ne 38 dX12_tagsAre_19 (by decide) (fun c3 => ?_) (fun c3 => ?_)
    · refine ry_aload_n dX12_tagsAre_22 rfl ?_
      refine ry_getr dX12_tagsAre_23 ha0 fl_RX12_236 rfl (fun b4 hb4 => ?_)
      refine ry_iload_n dX12_tagsAre_26 rfl ?_
      refine ry_iald dX12_tagsAre_27 hb4 ?_
      refine ry_iload_n dX12_tagsAre_28 rfl ?_
      refine ry_icmp_ne 36 dX12_tagsAre_29 (by decide) (fun c5 => ?_) (fun c5 => ?_)
      · refine ry_iconst (v := 1) dX12_tagsAre_32 (by decide) ?_
        refine ry_goto 37 dX12_tagsAre_33 (by decide) ?_
        exact ry_to (yb_X12_tagsAre_37 cx w 1 S) trivial
      · refine ry_iconst (v := 0) dX12_tagsAre_36 (by decide) ?_
        exact ry_to (yb_X12_tagsAre_37 cx w 0 S) trivial
    · refine ry_iinc (v := 1) dX12_tagsAre_38 rfl (by decide) (by decide) ?_
      refine ry_let (fun v7 => ?_)
      refine ry_goto 2 dX12_tagsAre_41 (by decide) ?_
      exact ry_to (hk2 a0 x1 v7 ha0 S) ⟨rfl, rfl, rfl, trivial⟩
def F_X12_tagsAre_2 (w : rd_W) (n : Nat) : Nat → Int32 → Int32 → rd_S → Option (Int32 × rd_S) :=
  Nat.rec (motive := fun _ => Nat → Int32 → Int32 → rd_S → Option (Int32 × rd_S)) (fun _ _ _ _ => none) (fun _ ih => B_X12_tagsAre_2 w ih) n
theorem yl_X12_tagsAre_2 (cx : rd_Cx) (w : rd_W) : ∀ (n : Nat) (a0 : Nat) (x1 : Int32) (x2 : Int32) (ha0 : rd_ok w a0 12) (S : rd_S), rd_Y cx G_X12_tagsAre (fun r => rd_P cx G_X12_tagsAre.2.2.2.2.2 0 w (rd_rI w r)) (F_X12_tagsAre_2 w n a0 x1 x2 S) 2 [(0, .inr (some a0)), (1, .inl x1), (2, .inl x2)] [] w S 0 0 := by
  intro n
  induction n with
  | zero => intro a0 x1 x2 ha0 S; exact ry_none
  | succ n ih => intro a0 x1 x2 ha0 S; exact yb_X12_tagsAre_2 cx w ih a0 x1 x2 ha0 S
def F_X12_tagsAre (w : rd_W) (a0 : Nat) (x1 : Int32) (S : rd_S) : Option (Int32 × rd_S) :=
  F_X12_tagsAre_2 w rd_big a0 x1 0 S
theorem ym_X12_tagsAre (cx : rd_Cx) (w : rd_W) (a0 : Nat) (x1 : Int32) (ha0 : rd_ok w a0 12) (S : rd_S) : rd_Y cx G_X12_tagsAre (fun r => rd_P cx G_X12_tagsAre.2.2.2.2.2 0 w (rd_rI w r)) (F_X12_tagsAre w a0 x1 S) 0 (rd_as 0 [.inr (some a0), .inl x1]) [] w S 0 0 := by
  unfold F_X12_tagsAre
  refine ry_iconst (v := 0) dX12_tagsAre_0 (by decide) ?_
  refine ry_istore_n dX12_tagsAre_1 (by decide) ?_
  exact ry_to (yl_X12_tagsAre_2 cx w rd_big a0 x1 0 ha0 S) ⟨rfl, rfl, rfl, trivial⟩
theorem cm_X12_tagsAre (l : Launch) (cx : rd_Cx) (w : rd_W) (a0 : Nat) (x1 : Int32) (ha0 : rd_ok w a0 12) (S : rd_S) (r : Int32 × rd_S) (h : F_X12_tagsAre w a0 x1 S = some r) : rd_M l cx yX12_tagsAre G_X12_tagsAre 0 [.inr (some a0), .inl x1] w S (rd_rI w r) :=
  rd_enter (plainFor_of_name (by decide +kernel)) rfl (fun h => by cases h) (Nat.le_of_ble_eq_true rfl) (ym_X12_tagsAre cx w a0 x1 ha0 S r h)
