/-! What a GROUP tells of ANOTHER programme. -/
theorem RZ.set {sz i f : Nat} {π : Nat → Nat} {S M : rd_S} (h : RZ sz π S M) (hi : i < sz) (hf : f < 11) (v : Int32) : RZ sz π (pI S (34 + 5 * π i + 1) f v) (pI M 97 (11 * i + f) v) ∧ Rg 11 11 S (pI S (34 + 5 * π i + 1) f v) ∧ Rg 31 31 M (pI M 97 (11 * i + f) v) := by
  obtain ⟨z1, z2, z3, z4, z5, z6, z7⟩ := h
  have hp := (z4 i (by omega)).1
  refine ⟨⟨z1, ?_, ?_, z4, z5, ?_, ?_⟩, ?_, ?_⟩
  · rw [pI_ne (by omega)]; exact z2
  · rw [pI_ne (by decide)]; exact z3
  · intro k hk; rw [pI_ne (by omega)]; exact z6 k hk
  · intro j hj
    obtain ⟨y1, y2, y3⟩ := z7 j hj
    have hpj := (z4 j (by omega)).1
    refine ⟨fun q hq => ?_, ?_, ?_⟩
    · by_cases e : j = i
      · subst e
        rw [pI1, if_pos rfl, pI1, if_pos rfl]
        by_cases e2 : q = f
        · rw [if_pos e2, if_pos (by omega)]
        · rw [if_neg e2, if_neg (by omega)]; exact y1 q hq
      · have hne : π j ≠ π i := fun q => e (z5 j i (by omega) (by omega) q)
        rw [pI_ne (by omega), pI_row (by omega)]; exact y1 q hq
    · rw [pI_ne (by omega), pI_ne (by decide)]; exact y2
    · exact y3.mv (pI_ne (by omega)) (pI_ne (by omega)) (pI_ne (by omega)) (by rw [pI_ne (by decide)]) (by rw [pI_ne (by decide)]) (fun q _ => by rw [pI_ne (by decide)]) (fun q _ => by rw [pI_ne (by decide)])
  · refine Rg.rf.pI ?_
    have := col_ot hp (i := 1) (by decide) f
    omega
  · refine Rg.rf.pI ?_
    exact ⟨Nat.le_refl _, Nat.le_refl _⟩
theorem RZ.pc {sz i : Nat} {π : Nat → Nat} {S M S1 M1 : rd_S} (h : RZ sz π S M) (hi : i < sz) (hP : Pcd (34 + 5 * π i + 2) (3 + i) 4 2 8 S M S1 M1) : RZ sz π S1 M1 := by
  obtain ⟨z1, z2, z3, z4, z5, z6, z7⟩ := h
  have hp := (z4 i (by omega)).1
  obtain ⟨f1, f2, f3, f4, f5, f6, inc, f7, f8⟩ := hP
  have er : rpC (3 + i) = (98, i) := by
    unfold rpC
    rw [if_neg (by omega), Nat.add_sub_cancel_left]
  rw [er] at f6 f8
  dsimp only at f6 f8
  have g97 : ∀ j, M1.1 97 j = M.1 97 j := fun j => f6 97 j (by omega) (by omega) (by omega)
  refine ⟨z1, ?_, ?_, ?_, z5, ?_, ?_⟩
  · rw [f3 32 (by omega) (by omega) (by omega)]; exact z2
  · rw [f6 76 53 (by omega) (by omega) (by omega)]; exact z3
  · intro j hj; rw [f2]; exact z4 j hj
  · intro k hk
    by_cases e : k = π i
    · subst e
      rw [f4 0 (by decide) (by decide) (by decide), f4 1 (by decide) (by decide) (by decide)]; exact z6 _ hk
    · rw [f3 _ (by omega) (by omega) (by omega)]; exact z6 k hk
  · intro j hj
    obtain ⟨y1, y2, y3⟩ := z7 j hj
    have hpj := (z4 j (by omega)).1
    by_cases e : j = i
    · subst e
      refine ⟨fun q hq => ?_, ?_, f1⟩
      · rw [f3 _ (by omega) (by omega) (by omega), g97]; exact y1 q hq
      · rw [f7, y2]; exact f8.symm
    · have hne : π j ≠ π i := fun q => e (z5 j i (by omega) (by omega) q)
      refine ⟨fun q hq => ?_, ?_, ?_⟩
      · rw [f3 _ (by omega) (by omega) (by omega), g97]; exact y1 q hq
      · rw [f3 _ (by omega) (by omega) (by omega), f6 98 j (by omega) (by omega) (by omega)]; exact y2
      · refine y3.mv (f3 _ (by omega) (by omega) (by omega)) (f3 _ (by omega) (by omega) (by omega)) (f3 _ (by omega) (by omega) (by omega)) ?_ ?_ (fun q hq => ?_) (fun q hq => ?_)
        · exact f6 88 _ (by omega) (by omega) (by omega)
        · exact f6 90 _ (by omega) (by omega) (by omega)
        · exact f6 87 _ (by omega) (by omega) (by omega)
        · exact f6 89 _ (by omega) (by omega) (by omega)
theorem RCz.rz {S M : rd_S} (h : RCz S M) : ∃ sz π, RZ sz π S M := h
theorem l_other {N : Nat} {S M : rd_S} (hs : Sh S) (hm : Sh M) (h : RCS N S M) (hg : G4 S M) {b d x : Nat} (hb : Kn S M 1 b) (hd : Kn S M 3 d) (hx : x < 2) : Both N S M (F_X8_takeOther wF 13 10 (nI b) (nI (1 - x)) S) (F_X12_another wF 76 (nI x) M) := by
  obtain ⟨-, b1, b2, -⟩ := id hb
  obtain ⟨d1, d2, d3, -⟩ := id hd
  obtain ⟨sz0, π0, hz0⟩ := h.2.2.2.2.2.2.2.2
  obtain ⟨S1, M1, sz, π, i, e1, e2, hz, hi, r1, r2⟩ := l_find hs hm hz0 (nI d) d2 (nI x)
  have hs1 := r1.sh hs
  have hm1 := r2.sh hm
  have z4 := hz.2.2.2.1
  have z1 := hz.1
  have hp := (z4 i (by omega)).1
  -- the end: from RZ to Both
  have fin : ∀ S2 M2, RZ sz π S2 M2 → Rg 11 11 S S2 → Rg 31 31 M M2 → Nx N S M S2 M2 := fun S2 M2 q1 q2 q3 => ⟨h.z q2 q3 ⟨sz, π, q1⟩, q2.mo (by decide) (by decide), q3.mo (by decide) (by decide)⟩
  unfold F_X8_takeOther B_X8_takeOther_86
  rw [k_c3 hs, rd_bN, if_neg hd.ne, if_neg (by decide), sh_13_7 hs, rd_cN, w_c3 hs, rd_bN, d1, e1, rd_bN, rd_mS, e2]
  unfold B_X12_another_47
  have g0 : ∀ S2, Sh S2 → gR S2 (34 + 5 * π i) 0 = some (34 + 5 * π i + 1) := fun S2 q => (gR_other q hp).1
  have l0 : wF.2.2 (34 + 5 * π i + 1) = 11 := (ln_other hp).1
  have ix : ∀ f, (11 : Int32) * nI i + nI f = nI (11 * i + f) := fun f => by
    show nI 11 * nI i + nI f = _
    rw [pk_mul, nI_add]
  have ix1 : (11 : Int32) * nI i + 1 = nI (11 * i + 1) := ix 1
  have ix2 : (11 : Int32) * nI i + 2 = nI (11 * i + 2) := ix 2
  have ix3 : (11 : Int32) * nI i + 3 = nI (11 * i + 3) := ix 3
  have ix4 : (11 : Int32) * nI i + 4 = nI (11 * i + 4) := ix 4
  have ix5 : (11 : Int32) * nI i + 5 = nI (11 * i + 5) := ix 5
  have ix6 : (11 : Int32) * nI i + 6 = nI (11 * i + 6) := ix 6
  have lx : ∀ f, f < 11 → ∀ E : Option rd_S, rd_i (nI (11 * i + f)) 88 E = E := fun f hf E => rd_iN _ (by omega) (by decide)
  have cx : ∀ f, f < 11 → (nI (11 * i + f)).toNatClampNeg = 11 * i + f := fun f hf => nI_clamp (by omega)
  have w81 : ∀ j, M1.1 81 j = M.1 81 j := fun j => r2.at 81 j (c := 21) rfl (by decide)
  rw [g0 S1 hs1, rd_cN, fl_4_1 b2, rd_bN, l0, rd_iT _ (by decide), rd_letN, tn_1, sh_76_18 hm1, rd_cN, ln_81, rd_iT _ (by decide), rd_letN, show gI M1 81 1 = nI b by (show M1.1 81 1 = _; rw [w81]; exact b1), sh_76_51 hm1, rd_cN, ix1, ln_97, lx 1 (by decide), cx 1 (by decide), shr_4 (by omega), and_1 (by omega), rd_letN]
  obtain ⟨y1, y2, y3⟩ := hz.set hi (f := 1) (by decide) (nI (b / 16 % 2))
  generalize pI S1 (34 + 5 * π i + 1) 1 (nI (b / 16 % 2)) = S2 at y1 y2
  generalize pI M1 97 (11 * i + 1) (nI (b / 16 % 2)) = M2 at y1 y3
  have t1 := r1.tr y2
  have t2 := r2.tr y3
  have hs2 := t1.sh hs
  have hm2 := t2.sh hm
  by_cases hx1 : x = 1
  · subst hx1
    rw [if_pos (show nI (1 - 1) = 0 from rfl), if_pos (show nI 1 = 1 from rfl), g0 S2 hs2, rd_cN, fl_3_1 b2, rd_bN, l0, rd_iT _ (by decide), rd_letN, tn_3, sh_76_51 hm2, rd_cN, ix3, ln_97, lx 3 (by decide), cx 3 (by decide), shr_3 (by omega), and_1 (by omega), rd_letN]
    obtain ⟨u1, u2, u3⟩ := y1.set hi (f := 3) (by decide) (nI (b / 8 % 2))
    exact (fin _ _ u1 (t1.tr u2) (t2.tr u3)).both
  · have : x = 0 := by omega
    subst this
    rw [if_neg (show ¬ nI (1 - 0) = 0 by decide), if_neg (show ¬ nI 0 = 1 by decide), k_c2 hs2, rd_bN, k_m2 hm2, rd_bN]
    rcases (hg.cg (t1.mo (by decide) (by decide)) (t2.mo (by decide) (by decide))) 2 (by decide) with ⟨u1, u2⟩ | ⟨c, c1, c2, c3, c4⟩
    · rw [if_pos u1, if_pos rfl, if_pos u2, if_pos rfl]; exact (fin _ _ y1 t1 t2).both
    · have c0 : ¬ S2.1 11 2 = -1 := by rw [c1]; exact nI_ne_m1 (by omega)
      rw [if_neg c0, if_neg (by decide), if_neg c4, if_neg (by decide), fl_0_4 b2, rd_bN, w_c2 hs2, rd_bN, c1, sh_76_18 hm2, rd_cN, ln_81, rd_iT _ (by decide), rd_letN, tn_2, show gI M2 81 2 = nI c from c2, and_15 (by omega), rd_letN]
      have st : ∀ (f : Nat) (v : Int32), f < 11 → Both N S M (some (pI S2 (34 + 5 * π i + 1) f v)) (some (pI M2 97 (11 * i + f) v)) := fun f v hf => by
        obtain ⟨u1, u2, u3⟩ := y1.set hi hf v
        exact (fin _ _ u1 (t1.tr u2) (t2.tr u3)).both
      have pcq : ∀ u, u < 4 → Both N S M (F_X1_take wF (34 + 5 * π i + 2) (nI u) 2 (nI c) S2) (F_X12_piece wF 76 (3 + nI i) (nI u) (nI c) 0 2 M2) := by
        intro u hu
        obtain ⟨a1, a2, a3, a4, a5, a6, a7⟩ := y1
        obtain ⟨gg1, gg2, gg3, gg4⟩ := gR_other hs2 hp
        obtain ⟨S3, M3, e1, e2, e3⟩ := l_piece hm2 (d := 34 + 5 * π i + 2) (row := 3 + i) (pcs := 4) (n := 2) (cap := 8) (s := u) ⟨gg3, gg4, ln_p (by omega) (ln_other hp).2.1, ln_p (by omega) (ln_other hp).2.2, (a6 _ hp).1, by decide, by decide⟩ (a7 i hi).2.2 (by omega) hu (by decide) (by decide) (by decide) (nI c) (nI c) 0 (by2 c) (by2_c c3) (by2_m c3 0) (by2_b c) (Or.inr ⟨by omega, by rw [if_neg (by omega)], (a6 _ hp).2⟩)
        have hz3 := RZ.pc (π := π) (sz := sz) ⟨a1, a2, a3, a4, a5, a6, a7⟩ hi e3
        obtain ⟨s1, s2⟩ := e3.rg (cs := 11) (fun j => ⟨col_ot hp (i := 2) (by decide) j, col_ot hp (i := 3) (by decide) j, col_ot hp (i := 4) (by decide) j⟩) (by omega)
        have erow : rowc (3 + i) = 31 := by
          unfold rowc
          rw [if_neg (by omega), if_neg (by omega), if_neg (by omega)]
        rw [erow] at s2
        have e2' : F_X12_piece wF 76 (3 + nI i) (nI u) (nI c) 0 2 M2 = some M3 := by
          rw [show (3 : Int32) + nI i = nI (3 + i) from nI_add 3 i]; exact e2
        rw [show F_X1_take wF (34 + 5 * π i + 2) (nI u) 2 (nI c) S2 = some S3 from e1, e2']
        exact (fin _ _ hz3 (t1.tr s1) (t2.tr s2)).both
      have g1 : gR S2 (34 + 5 * π i) 1 = some (34 + 5 * π i + 2) := (gR_other hs2 hp).2.1
      unfold F_X5_takeVariant B_X5_takeVariant_76 B_X5_takeVariant_100 B_X5_takeVariant_163 B_X12_another_273
      have hu : b % 16 < 16 := by omega
      generalize b % 16 = u at hu
      have sv : ∀ f, 7 ≤ f → f < 11 → (7 + nI (f - 2)) - 5 = nI f := fun f h1 h2 => by
        show nI 7 + nI (f - 2) - nI 5 = _
        rw [nI_add, pk_sub (by omega), show 7 + (f - 2) - 5 = f by omega]
      have ixv : ∀ f, 7 ≤ f → f < 11 → (11 : Int32) * nI i + 2 + nI (f - 2) = nI (11 * i + f) := fun f h1 h2 => by
        show nI 11 * nI i + nI 2 + nI (f - 2) = _
        rw [pk_mul, nI_add, nI_add, show 11 * i + 2 + (f - 2) = 11 * i + f by omega]
      have vr : ∀ f, 7 ≤ f → f < 11 → Both N S M (rd_c (rd_c (gR S2 (34 + 5 * π i) 0) fun b11 => rd_i ((7 + nI (f - 2)) - 5) (wF.2.2 b11) <| rd_let (pI S2 b11 ((7 + nI (f - 2)) - 5).toNatClampNeg (nI c)) fun s12 => some s12) fun s27 => some s27)
          (rd_c (gR M2 76 51) fun b34 => rd_i (((11 * nI i) + 2) + nI (f - 2)) (wF.2.2 b34) <| rd_let (pI M2 b34 (((11 * nI i) + 2) + nI (f - 2)).toNatClampNeg (nI c)) fun s35 => some s35) := by
        intro f h1 h2
        rw [sv f h1 h2, ixv f h1 h2, g0 S2 hs2, rd_cN, l0, rd_iN _ h2 (by decide), rd_letN, rd_cN, nI_clamp (by omega), sh_76_51 hm2, rd_cN, ln_97, lx f h2, cx f h2, rd_letN]
        exact st f _ h2
      match u, hu with
      | 0, _ => simp +decide only [if_true, if_false, g1, rd_cN, rd_cI]; exact pcq 0 (by decide)
      | 1, _ => simp +decide only [if_true, if_false, g1, rd_cN, rd_cI]; exact pcq 1 (by decide)
      | 2, _ => simp +decide only [if_true, if_false, g1, rd_cN, rd_cI]; exact pcq 2 (by decide)
      | 3, _ => simp +decide only [if_true, if_false, g1, rd_cN, rd_cI]; exact pcq 3 (by decide)
      | 4, _ => simp +decide only [if_true, if_false]; rw [g0 S2 hs2, rd_cN, l0, rd_iT _ (by decide), rd_letN, rd_cN, tn_6, sh_76_51 hm2, rd_cN, ix6, ln_97, lx 6 (by decide), cx 6 (by decide), rd_letN]; exact st 6 _ (by decide)
      | 5, _ => simp +decide only [if_true, if_false]; exact vr 7 (by decide) (by decide)
      | 6, _ => simp +decide only [if_true, if_false]; exact vr 8 (by decide) (by decide)
      | 7, _ => simp +decide only [if_true, if_false]; exact vr 9 (by decide) (by decide)
      | 8, _ => simp +decide only [if_true, if_false]; exact vr 10 (by decide) (by decide)
      | 9, _ => simp +decide only [if_true, if_false, rd_cN]; exact (fin _ _ y1 t1 t2).both
      | 10, _ => simp +decide only [if_true, if_false, rd_cN]; exact (fin _ _ y1 t1 t2).both
      | 11, _ => simp +decide only [if_true, if_false, rd_cN]; exact (fin _ _ y1 t1 t2).both
      | 12, _ => simp +decide only [if_true, if_false]; rw [g0 S2 hs2, rd_cN, l0, rd_iT _ (by decide), rd_letN, rd_cN, tn_5, sh_76_51 hm2, rd_cN, ix5, ln_97, lx 5 (by decide), cx 5 (by decide), rd_letN]; exact st 5 _ (by decide)
      | 13, _ =>
        simp +decide only [if_true, if_false]
        obtain ⟨v1, v2, v3⟩ := y1.set hi (f := 2) (by decide) (nI (c / 2048 % 32))
        have hs3 := (t1.tr v2).sh hs
        have hm3 := (t2.tr v3).sh hm
        obtain ⟨w1, w2, w3⟩ := v1.set hi (f := 3) (by decide) (nI (c % 2))
        rw [g0 S2 hs2, rd_cN, fl_11_5 c3, rd_bN, l0, rd_iT _ (by decide), rd_letN, tn_2, g0 _ hs3, rd_cN, fl_0_1 c3, rd_bN, l0, rd_iT _ (by decide), rd_letN, tn_3, rd_cN, sh_76_51 hm2, rd_cN, ix2, ln_97, lx 2 (by decide), cx 2 (by decide), shr_11 (by omega), and_31 (by omega), rd_letN, sh_76_51 hm3, rd_cN, ix3, ln_97, lx 3 (by decide), cx 3 (by decide), and_1 (by omega), rd_letN]
        exact (fin _ _ w1 ((t1.tr v2).tr w2) ((t2.tr v3).tr w3)).both
      | 14, _ => simp +decide only [if_true, if_false]; rw [g0 S2 hs2, rd_cN, l0, rd_iT _ (by decide), rd_letN, rd_cN, tn_4, sh_76_51 hm2, rd_cN, ix4, ln_97, lx 4 (by decide), cx 4 (by decide), rd_letN]; exact st 4 _ (by decide)
      | 15, _ => simp +decide only [if_true, if_false, rd_cN]; exact (fin _ _ y1 t1 t2).both
      | u + 16, hq => exact absurd hq (by omega)
