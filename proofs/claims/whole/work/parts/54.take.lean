/-! A GROUP is TAKEN, on both sides. -/
theorem tv_c {S M : rd_S} (hs : Sh S) {b : Nat} (hb : Kn S M 1 b) : F_X3_typeAndVersion wF 10 S = some (nI (b / 2048), S) := by
  rw [f_tv (sh_10_0 hs) ln_11, if_neg hb.ne, hb.1, ush_11 (by have := hb.2.2.1; omega)]
theorem l_cd {N : Nat} {S M : rd_S} (hs : Sh S) (hm : Sh M) (h : RCS N S M) (hg : G4 S M) (c : Option rd_S) (m : rd_S → Option rd_S) (hc : ∀ c' d', Kn S M 2 c' → Kn S M 3 d' → Both N S M c (m M)) (hi : (Un S M 2 ∨ Un S M 3) → c = some S) :
    Both N S M c (rd_b (F_X12_isKnown wF 76 2 M) fun v24 s23 => if v24 = 0 then some s23 else rd_b (F_X12_isKnown wF 76 3 s23) fun v27 s26 => if v27 = 0 then some s26 else m s26) := by
  rw [k_m2 hm, rd_bN, k_m3 hm, rd_bN]
  rcases hg 2 (by decide) with q | ⟨c', q⟩
  · rw [if_pos q.2, if_pos rfl, hi (Or.inl q)]; exact Both.idle h
  · rcases hg 3 (by decide) with p | ⟨d', p⟩
    · rw [if_neg q.2.2.2, if_neg (by decide), if_pos p.2, if_pos rfl, hi (Or.inr p)]; exact Both.idle h
    · rw [if_neg q.2.2.2, if_neg (by decide), if_neg p.2.2.2, if_neg (by decide)]; exact hc c' d' q p
theorem cd_un {S M : rd_S} (hs : Sh S) (h : Un S M 2 ∨ Un S M 3) : F_X3_knowsCAndD wF 10 S = some (0, S) := by
  rw [f_cd hs]
  rcases h with q | q
  · rw [if_pos q.1]
  · rw [if_pos q.1, ite_self]
theorem cd_kn {S M : rd_S} (hs : Sh S) {c d : Nat} (h2 : Kn S M 2 c) (h3 : Kn S M 3 d) : F_X3_knowsCAndD wF 10 S = some (1, S) := by
  rw [f_cd hs, if_neg h2.ne, if_neg h3.ne]
theorem l_type {N : Nat} {S M : rd_S} (hN : N < 1000000) (hs : Sh S) (hm : Sh M) (h : RCS N S M) (hg : G4 S M) {b : Nat} (hb : Kn S M 1 b) (ht : M.1 76 23 = nI (b / 2048)) : Both (N + 1) S M (B_X8_take_74 wF 13 10 (nI b) S) (B_X12_take_288 wF 76 M) := by
  have b2 := hb.2.2.1
  unfold B_X8_take_74 B_X12_take_288 B_X8_take_331
  rw [tv_c hs hb, rd_bN, rd_cI, show gI M 76 23 = nI (b / 2048) from ht, shr_1 (by omega), and_1 (by omega)]
  have hT : b / 2048 < 32 := by omega
  have idle : Both (N + 1) S M (some S) (some M) := (Both.idle h).up
  -- 3A
  have oda : Both (N + 1) S M (F_X8_takeOda wF 13 10 (nI b) S) (rd_b (F_X12_isKnown wF 76 2 M) fun v24 s23 => if v24 = 0 then some s23 else rd_b (F_X12_isKnown wF 76 3 s23) fun v27 s26 => if v27 = 0 then some s26 else F_X12_application wF 76 s26) := by
    refine (l_cd hs hm h hg _ _ (fun c d hc hd => ?_) (fun q => ?_)).up
    · unfold F_X8_takeOda B_X8_takeOda_30
      rw [cd_kn hs hc hd, rd_bN, if_neg (by decide), sh_13_6 hs, rd_cN, w_c3 hs, rd_bN, fl_0_5 b2, rd_bN, w_c2 hs, rd_bN, hc.1, hd.1, rd_cI]
      exact l_oda hs hm h hb hc hd
    · unfold F_X8_takeOda B_X8_takeOda_30
      rw [cd_un hs q, rd_bN, if_pos rfl]
  have tim : Both (N + 1) S M (F_X8_takeTime wF 13 10 (nI b) S) (rd_b (F_X12_isKnown wF 76 2 M) fun v24 s23 => if v24 = 0 then some s23 else rd_b (F_X12_isKnown wF 76 3 s23) fun v27 s26 => if v27 = 0 then some s26 else F_X12_clock wF 76 s26) := by
    refine l_cd hs hm (h.mono (Nat.le_succ N)) hg _ _ (fun c d hc hd => ?_) (fun q => ?_)
    · unfold F_X8_takeTime B_X8_takeTime_25
      rw [cd_kn hs hc hd, rd_bN, if_neg (by decide), sh_13_5 hs, rd_cN, w_c2 hs, rd_bN, w_c3 hs, rd_bN, hc.1, hd.1, rd_cI]
      exact l_clock hs hm h hb hc hd hN
    · unfold F_X8_takeTime B_X8_takeTime_25
      rw [cd_un hs q, rd_bN, if_pos rfl]
  have knd : Both (N + 1) S M (F_X8_takeKind wF 13 10 (nI b) S) (rd_b (F_X12_isKnown wF 76 2 M) fun v24 s23 => if v24 = 0 then some s23 else rd_b (F_X12_isKnown wF 76 3 s23) fun v27 s26 => if v27 = 0 then some s26 else F_X12_kindPiece wF 76 s26) := by
    refine (l_cd hs hm h hg _ _ (fun c d hc hd => ?_) (fun q => ?_)).up
    · exact l_kind hs hm h hb hc hd
    · unfold F_X8_takeKind B_X8_takeKind_38
      rw [cd_un hs q, rd_bN, if_pos rfl]
  have oth : ∀ x, x < 2 → Both (N + 1) S M (F_X8_takeOther wF 13 10 (nI b) (nI (1 - x)) S) (rd_b (F_X12_isKnown wF 76 3 M) fun v50 s49 => if v50 = 0 then some s49 else F_X12_another wF 76 (nI x) s49) := by
    intro x hx
    rw [k_m3 hm, rd_bN]
    rcases hg 3 (by decide) with q | ⟨d, q⟩
    · unfold F_X8_takeOther
      rw [if_pos q.2, if_pos rfl, k_c3 hs, rd_bN, if_pos q.1, if_pos rfl]; exact idle
    · rw [if_neg q.2.2.2, if_neg (by decide)]
      exact (l_other hs hm h hg hb q hx).up
  have tun : ∀ x, x < 2 → Both (N + 1) S M (F_X8_takeTuning wF 13 10 (nI b) (nI (1 - x)) S) (F_X12_byType wF 76 0 (nI x) M) := fun x hx => (l_tune hs hm h hg hb hx).up
  have itm : ∀ x, x < 2 → Both (N + 1) S M (F_X8_takeItem wF 13 10 (nI (1 - x)) S) (F_X12_programmeItem wF 76 (nI x) M) := fun x hx => (l_item hs hm h hg x hx).up
  have tx0 := (l_text0 hs hm h hg hb).up
  have tx1 := (l_text1 hs hm h hg hb).up
  have flg := (l_flags hs hm h hb).up
  generalize b / 2048 = T at hT
  have byT : ∀ a c : Nat, T / 2 = a → T % 2 = c → F_X12_byType wF 76 (nI (T / 2)) (nI (T % 2)) M = F_X12_byType wF 76 (nI a) (nI c) M := fun a c h1 h2 => by rw [h1, h2]
  rcases Nat.lt_or_ge T 2 with t0 | t0
  · match T, t0 with
    | 0, _ => simp +decide only [if_true, if_false, rd_cI]; exact tun 0 (by decide)
    | 1, _ => simp +decide only [if_true, if_false, rd_cI]; exact tun 1 (by decide)
  unfold F_X12_byType B_X12_byType_280
  match T, hT with
  | 0, _ => omega
  | 1, _ => omega
  | 2, _ => simp +decide only [if_true, if_false, rd_cI]; exact itm 0 (by decide)
  | 3, _ => simp +decide only [if_true, if_false, rd_cI]; exact itm 1 (by decide)
  | 4, _ => simp +decide only [if_true, if_false, rd_cI]; exact tx0
  | 5, _ => simp +decide only [if_true, if_false, rd_cI]; exact tx1
  | 6, _ => simp +decide only [if_true, if_false, rd_cI]; exact oda
  | 7, _ => simp +decide only [if_true, if_false, rd_cI]; exact idle
  | 8, _ => simp +decide only [if_true, if_false, rd_cI]; exact tim
  | 9, _ => simp +decide only [if_true, if_false, rd_cI]; exact idle
  | 10, _ => simp +decide only [if_true, if_false, rd_cI]; exact idle
  | 11, _ => simp +decide only [if_true, if_false, rd_cI]; exact idle
  | 12, _ => simp +decide only [if_true, if_false, rd_cI]; exact idle
  | 13, _ => simp +decide only [if_true, if_false, rd_cI]; exact idle
  | 14, _ => simp +decide only [if_true, if_false, rd_cI]; exact idle
  | 15, _ => simp +decide only [if_true, if_false, rd_cI]; exact idle
  | 16, _ => simp +decide only [if_true, if_false, rd_cI]; exact idle
  | 17, _ => simp +decide only [if_true, if_false, rd_cI]; exact idle
  | 18, _ => simp +decide only [if_true, if_false, rd_cI]; exact idle
  | 19, _ => simp +decide only [if_true, if_false, rd_cI]; exact idle
  | 20, _ => simp +decide only [if_true, if_false, rd_cI]; exact knd
  | 21, _ => simp +decide only [if_true, if_false, rd_cI]; exact idle
  | 22, _ => simp +decide only [if_true, if_false, rd_cI]; exact idle
  | 23, _ => simp +decide only [if_true, if_false, rd_cI]; exact idle
  | 24, _ => simp +decide only [if_true, if_false, rd_cI]; exact idle
  | 25, _ => simp +decide only [if_true, if_false, rd_cI]; exact idle
  | 26, _ => simp +decide only [if_true, if_false, rd_cI]; exact idle
  | 27, _ => simp +decide only [if_true, if_false, rd_cI]; exact idle
  | 28, _ => simp +decide only [if_true, if_false, rd_cI]; exact oth 0 (by decide)
  | 29, _ => simp +decide only [if_true, if_false, rd_cI]; exact oth 1 (by decide)
  | 30, _ => simp +decide only [if_true, if_false, rd_cI]; exact idle
  | 31, _ => simp +decide only [if_true, if_false, rd_cI]; exact flg
  | T + 32, hq => exact absurd hq (by omega)
/-- behind the PI -/
theorem l_behind {N : Nat} {S M : rd_S} (hN : N < 1000000) (hs : Sh S) (hm : Sh M) (h : RCS N S M) (hg : G4 S M) (ht : ∀ b, Kn S M 1 b → M.1 76 23 = nI (b / 2048)) : Both (N + 1) S M (rd_b (F_X3_knows wF 10 1 S) fun v5 s4 =>
    if v5 = 0 then
    (some s4)
    else
    (rd_b (F_X3_what wF 10 1 s4) fun v8 s7 =>
    rd_c (gR s7 13 0) fun b9 =>
    rd_b (F_X11_field wF v8 10 1 s7) fun v11 s10 =>
    rd_i 1 (wF.2.2 b9) <|
    rd_let (pI s10 b9 (1 : Int32).toNatClampNeg v11) fun s12 =>
    rd_c (gR s12 13 0) fun b13 =>
    rd_b (F_X11_field wF v8 5 5 s12) fun v15 s14 =>
    rd_i 2 (wF.2.2 b13) <|
    rd_let (pI s14 b13 (2 : Int32).toNatClampNeg v15) fun s16 =>
    rd_b (F_X8_bearsTags wF 13 10 s16) fun v18 s17 =>
    if v18 = 0 then
    (B_X8_take_74 wF 13 10 v8 s17)
    else
    (rd_c (gR s17 13 8) fun b46 =>
    rd_b (F_X3_what wF 10 2 s17) fun v48 s47 =>
    rd_b (F_X3_what wF 10 3 s47) fun v50 s49 =>
    rd_c (F_X9_take wF b46 v8 v48 v50 s49) fun s51 =>
    B_X8_take_74 wF 13 10 v8 s51))) (B_X12_take_205 wF 76 M) := by
  unfold B_X12_take_205
  rw [k_c1 hs, rd_bN, k_m1 hm, rd_bN]
  rcases hg 1 (by decide) with q | ⟨b, hb⟩
  · rw [if_pos q.1, if_pos rfl, if_pos q.2, if_pos rfl]; exact (Both.idle h).up
  · have b2 := hb.2.2.1
    have ht := ht b hb
    rw [if_neg hb.ne, if_neg (by decide), if_neg hb.2.2.2, if_neg (by decide), w_c1 hs, rd_bN, hb.1, sh_13_0 hs, rd_cN, fl_10_1 b2, rd_bN, ln_14, rd_iT _ (by decide), rd_letN, tn_1, gR_pI, sh_13_0 hs, rd_cN, fl_5_5 b2, rd_bN, ln_14, rd_iT _ (by decide), rd_letN, tn_2]
    rw [sh_76_25 hm, rd_cN, sh_76_18 hm, rd_cN, ln_81, rd_iT _ (by decide), ln_85, rd_iT _ (by decide), rd_letN, show gI M 81 1 = nI b from hb.2.1, shr_10 (by omega), and_1 (by omega), gR_pI, sh_76_25 hm, rd_cN, gR_pI, sh_76_18 hm, rd_cN, ln_81, rd_iT _ (by decide), ln_85, rd_iT _ (by decide), rd_letN, show gI (pI M 85 1 (nI (b / 1024 % 2))) 81 1 = nI b by (show (pI M 85 1 (nI (b / 1024 % 2))).1 81 1 = _; rw [pI_ne (by decide)]; exact hb.2.1), shr_5 (by omega), and_31 (by omega)]
    have n := ((Nx.rf h).pk 1 (nI (b / 1024 % 2))).pk 2 (nI (b / 32 % 32))
    refine Both.tr ⟨n.1.mono (Nat.le_succ N), n.2⟩ ?_
    have hs2 := n.shS hs
    have hm2 := n.shM hm
    have hg2 := hg.cg n.2.1 n.2.2
    have hb2 := hb.cg n.2.1 n.2.2
    have ht2 : (pI (pI M 85 1 (nI (b / 1024 % 2))) 85 2 (nI (b / 32 % 32))).1 76 23 = nI (b / 2048) := by rw [pI_ne (by decide), pI_ne (by decide)]; exact ht
    have hR := n.1
    generalize pI (pI S 14 1 (nI (b / 1024 % 2))) 14 2 (nI (b / 32 % 32)) = S2 at hs2 hg2 hb2 hR
    generalize pI (pI M 85 1 (nI (b / 1024 % 2))) 85 2 (nI (b / 32 % 32)) = M2 at hm2 hg2 hb2 ht2 hR
    obtain ⟨t, t1, t2⟩ := l_tagsAre hs2 hm2 hR.2.2.2.2.2.2.1
    have go := l_type hN hs2 hm2 hR hg2 hb2 ht2
    unfold F_X8_bearsTags B_X8_bearsTags_36 B_X8_bearsTags_37
    rw [tv_c hs2 hb2, rd_bN, and_1 (by omega), show gI M2 76 23 = nI (b / 2048) from ht2, and_1 (by omega)]
    by_cases e1 : nI (b / 2048 % 2) = 0
    · rw [if_pos e1, if_pos e1, sh_13_6 hs2, rd_cN, t1, rd_bN, k_m2 hm2, rd_bN, k_m3 hm2, rd_bN, show gI M2 76 23 = nI (b / 2048) from ht2, t2 (nI (b / 2048)) (nI_ne_m1 (by omega)), rd_bN]
      by_cases e2 : nI (b / 2048) = t
      · rw [if_pos e2]
        rcases hg2 2 (by decide) with q | ⟨c, hc⟩
        · rw [cd_un hs2 (Or.inl q), rd_bN, if_pos rfl, rd_zT _ (by decide), rd_bN, if_pos rfl, if_pos q.2, if_pos rfl]; exact go
        · rcases hg2 3 (by decide) with q | ⟨d, hd⟩
          · rw [cd_un hs2 (Or.inr q), rd_bN, if_pos rfl, rd_zT _ (by decide), rd_bN, if_pos rfl, if_neg hc.2.2.2, if_neg (by decide), if_pos q.2, if_pos rfl]; exact go
          · rw [cd_kn hs2 hc hd, rd_bN, if_neg (by decide), rd_zT _ (by decide), rd_bN, if_neg (by decide), if_neg hc.2.2.2, if_neg (by decide), if_neg hd.2.2.2, if_neg (by decide), if_pos e2, if_neg (by decide), sh_13_8 hs2, rd_cN, w_c2 hs2, rd_bN, w_c3 hs2, rd_bN, hc.1, hd.1]
            obtain ⟨S3, M3, u1, u2, u3⟩ := l_tags hs2 hm2 hR hb2 hc hd
            rw [u1, u2, rd_cN, rd_cN]
            refine Both.tr ⟨u3.1.mono (Nat.le_succ N), u3.2⟩ ?_
            refine l_type hN (u3.shS hs2) (u3.shM hm2) u3.1 (hg2.cg u3.2.1 u3.2.2) (hb2.cg u3.2.1 u3.2.2) ?_
            rw [u3.2.2.at 76 23 (c := 22) rfl (by decide)]; exact ht2
      · rw [if_neg e2, rd_zT _ (by decide), rd_bN, if_pos rfl, if_neg e2, if_pos rfl]
        have : (if (if 2 ≤ M2.1 82 2 then (0 : Int32) else 1) = 0 then B_X12_take_288 wF 76 M2 else if (if 2 ≤ M2.1 82 3 then (0 : Int32) else 1) = 0 then B_X12_take_288 wF 76 M2 else B_X12_take_288 wF 76 M2) = B_X12_take_288 wF 76 M2 := by
          rw [ite_self, ite_self]
        rw [this]; exact go
    · rw [if_neg e1, if_neg e1, rd_zT _ (by decide), rd_bN, if_pos rfl]; exact go
