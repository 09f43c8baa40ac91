/-! TEXT, KIND and what tunes, as GROUPS bring them. -/
theorem l_text0 {N : Nat} {S M : rd_S} (hs : Sh S) (hm : Sh M) (h : RCS N S M) (hg : G4 S M) {b : Nat} (hb : Kn S M 1 b) : Both N S M (F_X8_takeLongText wF 13 10 (nI b) S) (F_X12_text wF 76 0 M) := by
  obtain ⟨-, b1, b2, -⟩ := hb
  unfold F_X8_takeLongText F_X12_text B_X8_takeLongText_38 B_X12_text_20
  rw [f_cd hs, rd_bN, k_m3 hm, rd_bN, if_pos (show (0 : Int32) = 0 from rfl), k_m2 hm, rd_bN]
  rcases hg 3 (by decide) with ⟨u1, u2⟩ | ⟨d, d1, d2, d3, d4⟩
  · have e : (if S.1 11 2 = -1 then (0 : Int32) else if S.1 11 3 = -1 then 0 else 1) = 0 := by rw [if_pos u1, ite_self]
    rw [e, if_pos rfl, if_pos u2, if_pos rfl]; exact Both.idle h
  rcases hg 2 (by decide) with ⟨u1, u2⟩ | ⟨c, c1, c2, c3, c4⟩
  · rw [if_pos u1, if_pos rfl, if_neg d4, if_neg (by decide), if_pos u2, if_pos rfl]; exact Both.idle h
  · have c0 : ¬ S.1 11 2 = -1 := by rw [c1]; exact nI_ne_m1 (by omega)
    have d0 : ¬ S.1 11 3 = -1 := by rw [d1]; exact nI_ne_m1 (by omega)
    rw [if_neg c0, if_neg d0, if_neg (by decide), if_neg d4, if_neg (by decide), if_neg c4, if_neg (by decide)]
    obtain ⟨S1, M0, t1, t2, t3, t4, t5⟩ := l_turn hm h.2.2.1 (f := b / 16 % 2) (v := 0) (by omega) (by decide)
    have r2 : Rg 25 25 M (pI M0 76 31 (nI (b / 16 % 2 * 2 + 0))) := t5.pI (by decide)
    have hs1 := t4.sh hs
    have hm1 := r2.sh hm
    rw [sh_13_2 hs, rd_cN, fl_4_1 b2, rd_bN, show nI (b / 16 % 2) = nI (2 * 0 + b / 16 % 2) by rw [Nat.mul_zero, Nat.zero_add], t1, rd_cN, sh_13_2 hs1, rd_cN, fl_0_4 b2, rd_bN]
    have j1 : F_X8_joined wF 10 S1 = some (nI (c * 65536 + d), S1) := by
      unfold F_X8_joined
      rw [w_c2 hs1, rd_bN, w_c3 hs1, rd_bN, t4.at 11 2 (c := 2) rfl (by decide), t4.at 11 3 (c := 2) rfl (by decide), c1, d1, by4_x c3 d3]
    rw [j1, rd_bN, rd_cI]
    unfold B_X12_text_21
    have e2 : ((rd_shr (gI M 81 (1 : Int32).toNatClampNeg) 4) &&& 1) * 2 + 0 = nI (b / 16 % 2 * 2 + 0) := by
      rw [tn_1, show gI M 81 1 = nI b from b1, shr_4 (by omega), and_1 (by omega)]
      show nI (b / 16 % 2) * nI 2 + nI 0 = _
      rw [pk_mul, nI_add]
    rw [sh_76_18 hm, rd_cN, ln_81, rd_iT _ (by decide), rd_letN, e2, t2 (B_X12_text_59 wF 76 0 (nI (b / 16 % 2 * 2 + 0)))]
    unfold B_X12_text_59 B_X12_text_96
    have w81 : ∀ j, (pI M0 76 31 (nI (b / 16 % 2 * 2 + 0))).1 81 j = M.1 81 j := fun j => r2.at 81 j (c := 21) rfl (by decide)
    simp (disch := decide) only [rd_letN, rd_cN, sh_76_18 hm1, ln_81, rd_iT, gI, tn_1, tn_2, tn_3, w81, b1, c2, d2, rd_cI]
    rw [if_pos trivial, and_15 (by omega)]
    exact l_textP hs hm h (f := b / 16 % 2) (v := 0) (by omega) (by decide) t3 t4 r2 (p := b % 16) (by omega) _ _ _ (by4 c d) (by4_c c3 d3) (by4_m c3 d3) (by4_b c d)
theorem l_text1 {N : Nat} {S M : rd_S} (hs : Sh S) (hm : Sh M) (h : RCS N S M) (hg : G4 S M) {b : Nat} (hb : Kn S M 1 b) : Both N S M (F_X8_takeShortText wF 13 10 (nI b) S) (F_X12_text wF 76 1 M) := by
  obtain ⟨-, b1, b2, -⟩ := hb
  unfold F_X8_takeShortText F_X12_text B_X8_takeShortText_42 B_X12_text_20
  rw [k_c3 hs, rd_bN, k_m3 hm, rd_bN, if_neg (show ¬ (1 : Int32) = 0 by decide)]
  rcases hg 3 (by decide) with ⟨u1, u2⟩ | ⟨d, d1, d2, d3, d4⟩
  · rw [if_pos u1, if_pos rfl, if_pos u2, if_pos rfl]; exact Both.idle h
  · have d0 : ¬ S.1 11 3 = -1 := by rw [d1]; exact nI_ne_m1 (by omega)
    rw [if_neg d0, if_neg (by decide), if_neg d4, if_neg (by decide)]
    obtain ⟨S1, M0, t1, t2, t3, t4, t5⟩ := l_turn hm h.2.2.1 (f := b / 16 % 2) (v := 1) (by omega) (by decide)
    have r2 : Rg 25 25 M (pI M0 76 31 (nI (b / 16 % 2 * 2 + 1))) := t5.pI (by decide)
    have hs1 := t4.sh hs
    have hm1 := r2.sh hm
    rw [sh_13_2 hs, rd_cN, fl_4_1 b2, rd_bN, show (2 : Int32) + nI (b / 16 % 2) = nI (2 * 1 + b / 16 % 2) from nI_add 2 (b / 16 % 2), t1, rd_cN, sh_13_2 hs1, rd_cN, fl_0_4 b2, rd_bN, w_c3 hs1, rd_bN, t4.at 11 3 (c := 2) rfl (by decide), d1, rd_cI]
    unfold B_X12_text_21
    have e2 : ((rd_shr (gI M 81 (1 : Int32).toNatClampNeg) 4) &&& 1) * 2 + 1 = nI (b / 16 % 2 * 2 + 1) := by
      rw [tn_1, show gI M 81 1 = nI b from b1, shr_4 (by omega), and_1 (by omega)]
      show nI (b / 16 % 2) * nI 2 + nI 1 = _
      rw [pk_mul, nI_add]
    rw [sh_76_18 hm, rd_cN, ln_81, rd_iT _ (by decide), rd_letN, e2, t2 (B_X12_text_59 wF 76 1 (nI (b / 16 % 2 * 2 + 1)))]
    unfold B_X12_text_59 B_X12_text_96
    have w81 : ∀ j, (pI M0 76 31 (nI (b / 16 % 2 * 2 + 1))).1 81 j = M.1 81 j := fun j => r2.at 81 j (c := 21) rfl (by decide)
    simp (disch := decide) only [rd_letN, rd_cN, sh_76_18 hm1, ln_81, rd_iT, gI, tn_1, tn_2, tn_3, w81, b1, d2, rd_cI]
    rw [if_neg (by decide), and_15 (by omega)]
    exact l_textP hs hm h (f := b / 16 % 2) (v := 1) (by omega) (by decide) t3 t4 r2 (p := b % 16) (by omega) _ _ _ (by2 d) (by2_c d3) (by2_m d3 _) (by2_b d)
theorem l_kind {N : Nat} {S M : rd_S} (hs : Sh S) (hm : Sh M) (h : RCS N S M) {b c d : Nat} (hb : Kn S M 1 b) (hc : Kn S M 2 c) (hd : Kn S M 3 d) : Both N S M (F_X8_takeKind wF 13 10 (nI b) S) (F_X12_kindPiece wF 76 M) := by
  have c0 := hc.ne
  have d0 := hd.ne
  obtain ⟨-, b1, b2, -⟩ := hb
  obtain ⟨c1, c2, c3, -⟩ := hc
  obtain ⟨d1, d2, d3, -⟩ := hd
  obtain ⟨i1, i2, i3, i4, i5, i6⟩ := h.2.2.2.1
  unfold F_X8_takeKind B_X8_takeKind_38
  rw [f_cd hs, rd_bN, if_neg c0, if_neg d0, if_neg (by decide), sh_13_3 hs, rd_cN, fl_4_1 b2, rd_bN]
  -- the turn
  have tn : ∃ S1 M0, F_X1_turn wF 21 (nI (b / 16 % 2)) S = some S1 ∧ (∀ K : rd_S → Option rd_S, (if gI M 76 32 = -1 then K M else if gI M 76 32 = nI (b / 16 % 2) then K M else rd_c (gR M 76 28) fun b18 => rd_i 2 (wF.2.2 b18) <| rd_let (pI M b18 (2 : Int32).toNatClampNeg 0) fun s19 => K s19) = K M0) ∧
      (S1.1 21 0 = 2 ∧ S1.1 21 1 = -1 ∧ S1.1 21 7 = M0.1 86 2 ∧ S1.1 21 5 = nI (b / 16 % 2) ∧ RD 21 2 2 4 8 S1 (pI M0 76 32 (nI (b / 16 % 2)))) ∧ Rg 6 6 S S1 ∧ Rg 26 26 M M0 := by
    unfold F_X1_turn B_X1_turn_13
    by_cases e : M.1 76 32 = nI (b / 16 % 2)
    · refine ⟨pI S 21 5 (nI (b / 16 % 2)), M, ?_, fun K => ?_, ⟨?_, ?_, ?_, pI_self, i4.key _ _ _ (by decide)⟩, Rg.rf.pI (by decide), Rg.rf⟩
      · rw [if_pos (show nI (b / 16 % 2) = gI S 21 5 by show _ = S.1 21 5; rw [i5, e]), rd_letN]
      · rw [if_neg (show ¬ gI M 76 32 = -1 by show ¬ M.1 76 32 = -1; rw [e]; exact nI_ne_m1 (by omega)), if_pos (show gI M 76 32 = _ from e)]
      · rw [pI_row (by decide)]; exact i1
      · rw [pI_row (by decide)]; exact i2
      · rw [pI_row (by decide)]; exact i3
    · by_cases e2 : M.1 76 32 = -1
      · have z : S.1 21 4 = 0 := by
          rcases i6 with ⟨-, q⟩ | ⟨f, hf, q⟩
          · exact q
          · exact absurd (q.symm.trans e2) (nI_ne_m1 (by omega))
        refine ⟨pI (pI S 21 4 0) 21 5 (nI (b / 16 % 2)), M, ?_, fun K => ?_, ⟨?_, ?_, ?_, pI_self, ?_⟩, (Rg.rf.pI (by decide)).pI (by decide), Rg.rf⟩
        · rw [if_neg (show ¬ nI (b / 16 % 2) = gI S 21 5 by show ¬ _ = S.1 21 5; rw [i5]; exact fun q => e q.symm), rd_letN, rd_letN]
        · rw [if_pos (show gI M 76 32 = -1 from e2)]
        · simp +decide only [pI1, if_true, if_false]; exact i1
        · simp +decide only [pI1, if_true, if_false]; exact i2
        · simp +decide only [pI1, if_true, if_false]; exact i3
        · rw [show pI S 21 4 0 = S from pA_id S 21 _ (by
            funext j
            by_cases e : j = 4
            · subst e; simp [upd, z]
            · simp [upd, e])]
          exact i4.key _ _ _ (by decide)
      · refine ⟨pI (pI S 21 4 0) 21 5 (nI (b / 16 % 2)), pI M 88 2 0, ?_, fun K => ?_, ⟨?_, ?_, ?_, pI_self, (i4.wipe).key _ _ _ (by decide)⟩, (Rg.rf.pI (by decide)).pI (by decide), Rg.rf.pI (by decide)⟩
        · rw [if_neg (show ¬ nI (b / 16 % 2) = gI S 21 5 by show ¬ _ = S.1 21 5; rw [i5]; exact fun q => e q.symm), rd_letN, rd_letN]
        · rw [if_neg (show ¬ gI M 76 32 = -1 from e2), if_neg (show ¬ gI M 76 32 = _ from e), sh_76_28 hm, rd_cN, ln_88, rd_iT _ (by decide), rd_letN, tn_2]
        · simp +decide only [pI1, if_true, if_false]; exact i1
        · simp +decide only [pI1, if_true, if_false]; exact i2
        · simp +decide only [pI1, if_true, if_false]; exact i3
  obtain ⟨S1, M0, t1, t2, ⟨t3, t4, t5, t6, t7⟩, t8, t9⟩ := tn
  have r2 : Rg 26 26 M (pI M0 76 32 (nI (b / 16 % 2))) := t9.pI (by decide)
  have hs1 := t8.sh hs
  have hm1 := r2.sh hm
  have j1 : F_X8_joined wF 10 S1 = some (nI (c * 65536 + d), S1) := by
    unfold F_X8_joined
    rw [w_c2 hs1, rd_bN, w_c3 hs1, rd_bN, t8.at 11 2 (c := 2) rfl (by decide), t8.at 11 3 (c := 2) rfl (by decide), c1, d1, by4_x c3 d3]
  rw [t1, rd_cN, sh_13_3 hs1, rd_cN, fl_0_1 b2, rd_bN, j1, rd_bN, rd_cI]
  unfold F_X12_kindPiece
  rw [sh_76_18 hm, rd_cN, ln_81, rd_iT _ (by decide), rd_letN, tn_1, show gI M 81 1 = nI b from b1, shr_4 (by omega), and_1 (by omega), t2 (B_X12_kindPiece_34 wF 76 (nI (b / 16 % 2)))]
  unfold B_X12_kindPiece_34
  have w81 : ∀ j, (pI M0 76 32 (nI (b / 16 % 2))).1 81 j = M.1 81 j := fun j => r2.at 81 j (c := 21) rfl (by decide)
  simp (disch := decide) only [rd_letN, rd_cN, sh_76_18 hm1, ln_81, rd_iT, gI, tn_1, tn_2, tn_3, w81, b1, c2, d2, rd_cI]
  rw [and_1 (by omega)]
  obtain ⟨S2, M2, e1, e2, e3⟩ := l_piece hm1 (d := 21) (row := 2) (pcs := 2) (n := 4) (cap := 8) (s := b % 2) ⟨sh_21_2 hs1, sh_21_3 hs1, ln_p (by decide) ln_22, ln_p (by decide) ln_23, t3, by decide, by decide⟩ t7 (by decide) (by omega) (by decide) (by decide) (by decide) (nI (c * 65536 + d)) (nI d) (nI c) (by4 c d) (by4_c c3 d3) (by4_m c3 d3) (by4_b c d) (Or.inr ⟨by decide, rfl, t4⟩)
  obtain ⟨s1, s2⟩ := e3.rg (cs := 6) (fun _ => ⟨rfl, rfl, rfl⟩) (by decide)
  obtain ⟨f1, -, -, f4, -, f6, inc, f7, f8⟩ := e3
  have u1 := t8.tr s1
  have u2 := r2.tr s2
  have m32 : M2.1 76 32 = nI (b / 16 % 2) := by rw [f6 76 32 (by decide) (by decide) (by decide), pI_self]
  refine ⟨S2, M2, e1, e2, h.i u1 u2 ⟨?_, ?_, ?_, f1, ?_, Or.inr ⟨b / 16 % 2, by omega, m32⟩⟩, u1.mo (by decide) (by decide), u2.mo (by decide) (by decide)⟩
  · rw [f4 0 (by decide) (by decide) (by decide)]; exact t3
  · rw [f4 1 (by decide) (by decide) (by decide)]; exact t4
  · rw [f7, t5]
    have : (pI M0 76 32 (nI (b / 16 % 2))).1 (rpC 2).1 (rpC 2).2 = M0.1 86 2 := by
      show (pI M0 76 32 (nI (b / 16 % 2))).1 86 2 = _
      rw [pI_ne (by decide)]
    rw [← this]; exact f8.symm
  · rw [f4 5 (by decide) (by decide) (by decide), t6, m32]
/-- 0A and 0B: switches, the NAME's piece, frequencies -/
theorem l_tune {N : Nat} {S M : rd_S} (hs : Sh S) (hm : Sh M) (h : RCS N S M) (hg : G4 S M) {b x : Nat} (hb : Kn S M 1 b) (hx : x < 2) : Both N S M (F_X8_takeTuning wF 13 10 (nI b) (nI (1 - x)) S) (F_X12_byType wF 76 0 (nI x) M) := by
  obtain ⟨-, b1, b2, -⟩ := id hb
  have fr : ∀ S1 M1, Nx N S M S1 M1 → Both N S1 M1 (B_X8_takeTuning_32 wF 13 10 (nI (1 - x)) S1) (B_X12_byType_113 wF 76 (nI x) M1) := by
    intro S1 M1 n
    have hs1 := n.shS hs
    have hm1 := n.shM hm
    unfold B_X8_takeTuning_32 B_X12_byType_113 B_X8_takeTuning_81 B_X12_byType_280
    by_cases hx1 : x = 1
    · subst hx1
      rw [if_pos (show nI (1 - 1) = 0 from rfl), if_neg (show ¬ nI 1 = 0 by decide)]; exact Both.idle n.1
    · have : x = 0 := by omega
      subst this
      rw [if_neg (show ¬ nI (1 - 0) = 0 by decide), if_pos (show nI 0 = 0 from rfl), k_c2 hs1, rd_bN, k_m2 hm1, rd_bN]
      rcases (hg.cg n.2.1 n.2.2) 2 (by decide) with ⟨u1, u2⟩ | ⟨c, c1, c2, c3, c4⟩
      · rw [if_pos u1, if_pos rfl, if_pos u2, if_pos rfl]; exact Both.idle n.1
      · have c0 : ¬ S1.1 11 2 = -1 := by rw [c1]; exact nI_ne_m1 (by omega)
        rw [if_neg c0, if_neg (by decide), if_neg c4, if_neg (by decide), sh_13_4 hs1, rd_cN, w_c2 hs1, rd_bN, c1, fl_8_8 c3, rd_bN, sh_76_18 hm1, rd_cN, ln_81, rd_iT _ (by decide), tn_2, show gI M1 81 2 = nI c from c2, shr_8 (by omega)]
        rw [show c / 256 % 256 = c / 256 by omega]
        refine (l_freq hs1 hm1 n.1 (by omega)).seq (fun S2 M2 n2 => ?_)
        have hs2 := n2.shS hs1
        have hm2 := n2.shM hm1
        have k2 := (show Kn S1 M1 2 c from ⟨c1, c2, c3, c4⟩).cg n2.2.1 n2.2.2
        rw [sh_13_4 hs2, rd_cN, w_c2 hs2, rd_bN, k2.1, fl_0_8 c3, rd_bN, sh_76_18 hm2, rd_cN, ln_81, rd_iT _ (by decide), show gI M2 81 2 = nI c from k2.2.1, and_255 (by omega), rd_cI, rd_cI]
        exact l_freq hs2 hm2 n2.1 (by omega)
  unfold F_X8_takeTuning F_X12_byType
  rw [if_pos rfl]
  refine (l_flags hs hm h hb).seq (fun S1 M1 n => ?_)
  have hs1 := n.shS hs
  have hm1 := n.shM hm
  rw [k_c3 hs1, rd_bN, k_m3 hm1, rd_bN]
  rcases (hg.cg n.2.1 n.2.2) 3 (by decide) with ⟨u1, u2⟩ | ⟨d, d1, d2, d3, d4⟩
  · rw [if_pos u1, if_pos rfl, if_pos u2, if_pos rfl]; exact fr S1 M1 n
  · have d0 : ¬ S1.1 11 3 = -1 := by rw [d1]; exact nI_ne_m1 (by omega)
    have kb := hb.cg n.2.1 n.2.2
    rw [if_neg d0, if_neg (by decide), if_neg d4, if_neg (by decide), sh_13_1 hs1, rd_cN, fl_0_2 b2, rd_bN, w_c3 hs1, rd_bN, d1, sh_76_18 hm1, rd_cN, ln_81, rd_iT _ (by decide), rd_cN, ln_81, rd_iT _ (by decide), tn_1, tn_3, show gI M1 81 1 = nI b from kb.2.1, show gI M1 81 3 = nI d from d2, and_3 (by omega)]
    exact (l_name hs1 hm1 n.1 (by omega) d3).seq (fun S2 M2 n2 => fr S2 M2 (n.tr n2))
