/-! One BIT comes, on both sides. -/
theorem FinY.rc {N cm came nw : Nat} {h : Nat → Bool} {S M : rd_S} (hf : FinY cm came S M) (hcm : cm ≤ N) (hca : came ≤ N) (h26 : 26 ≤ came) (hs : Sh S) (hm : Sh M) (ha : RCa S M) (hb : RCb S M) (hg : RCg S M) (hS : RCS N S M) (h6 : S.1 2 6 = nI (WN h 0)) (h7 : S.1 2 7 = nI nw) (hnw : nw < 79)
    (hbits : ∀ k, k < came → k < 128 → M.1 77 ((came - 1 - k) % 128) = b2i (h k)) : RC N S M := by
  refine ⟨hs, hm, ?_, hg, hS⟩
  rcases hf with ⟨c, q, f1, f2, f3, f4, f5, f6, f7, f8, f9, f10⟩ | ⟨f1, f2, f3, f4, f5, f6, f7, f8, f9⟩
  · exact ⟨c, came, h, by omega, hca, ha, hb, f7, ⟨h6, f4, hbits, nw, hnw, h7, fun e => absurd (f3.symm.trans e) (by decide)⟩, Or.inr ⟨f3, q, 0, f2, by decide, h26, f8, f9, f5.trans nI_0.symm, f6.trans nI_0.symm, f10⟩⟩
  · refine ⟨0, 0, h, Nat.zero_le _, Nat.zero_le _, ha, hb, f4, ⟨h6, f2.trans nI_0.symm, fun k hk => absurd hk (Nat.not_lt_zero _), nw, hnw, h7, fun _ d hd => absurd hd (Nat.not_lt_zero _)⟩, Or.inl ⟨f1, f8, ?_, f7, fun d hd => absurd hd (by omega), rfl, f5, f9⟩⟩
    rw [f6, show min 0 104 = 0 from rfl, nI_0]
theorem c_clr {S : rd_S} (hs : Sh S) : F_X3_clear wF 3 3 S = some (pI (pA (pA S 4 (fun j => if j < 4 then -1 else S.1 4 j)) 5 (fun j => if j < 4 then 3 else (pA S 4 (fun j => if j < 4 then -1 else S.1 4 j)).1 5 j)) 3 2 0) := by
  unfold F_X3_clear
  rw [sh_3_0 hs, rd_cN, f_fillA ln_4 (by decide), rd_cN, gR_pA, sh_3_1 hs, rd_cN, f_fillA ln_5 (by decide), rd_cN, rd_letN]
theorem l_bit {N : Nat} {S M : rd_S} (hN : N < 1000000) (h : RC N S M) (b : Bool) : ∃ v S1 S2 M1, F_X7_accept wF 2 (b2i b) S = some (v, S1) ∧ ((v = 1 ∧ CT S1 = some S2) ∨ (v = 0 ∧ S2 = S1)) ∧ F_X12_comes wF 76 (b2i b) M = some M1 ∧ Sh S1 ∧ RC (N + 1) S2 M1 ∧ (∀ a, 76 ≤ a → S2.1 a = S.1 a) ∧ (∀ a, a < 76 → M1.1 a = M.1 a) ∧ M1.2 = M.2 := by
  obtain ⟨hs, hm, ⟨cnt, came, h, hcnt, hcame, ha, hb, hw, ⟨h6, h5, hbits, nw, hnw, h7, hring⟩, hst⟩, hg, hS⟩ := h
  have hx : came % 128 < 128 := Nat.mod_lt _ (by decide)
  generalize hSa : pI (pI S 2 11 (S.1 2 11 + 1)) 2 6 (nI (WN (hpsh b h) 0)) = Sa
  generalize hMa : pI (pI (pI (pI M 77 (came % 128) (b2i b)) 78 (came % 128) (-1)) 76 5 (nI (came + 1))) 76 6 (M.1 76 6 + 1) = Ma
  have eS : F_X7_accept wF 2 (b2i b) S = if gI Sa 2 10 = (-1) then (rd_b (F_X7_search wF 2 Sa) fun v5 s4 => if v5 = (-1) then (some (0, s4)) else (rd_b (F_X7_synchronise wF 2 v5 s4) fun v9 s8 => if v9 = 0 then (some (0, s8)) else (some (1, s8)))) else (rd_b (F_X7_follow wF 2 Sa) fun v12 s11 => rd_z v12 <| some (v12, s11)) := by
    unfold F_X7_accept B_X7_accept_60 B_X7_accept_61
    have g6 : gI (pI S 2 11 (S.1 2 11 + 1)) 2 6 = nI (WN h 0) := by
      show (pI S 2 11 _).1 2 6 = _; rw [pI_row (by decide)]; exact h6
    rw [show gI S 2 11 = S.1 2 11 from rfl, rd_letN, g6, word_up, hSa, rd_letN]
    simp (disch := decide) only [rd_zT]
  have eM : F_X12_comes wF 76 (b2i b) M = if gI Ma 76 7 = 0 then (rd_c (F_X12_search wF 76 Ma) fun s8 => some s8) else (rd_let (pI Ma 76 9 ((gI Ma 76 9) + 1)) fun s9 => if 26 ≤ (gI s9 76 9) then (rd_let (pI s9 76 9 0) fun s11 => rd_b (F_X12_ended wF 76 0 s11) fun v13 s12 => rd_c (F_X12_look wF 76 v13 s12) fun s14 => some s14) else (some s9)) := by
    unfold F_X12_comes
    have ix : ∀ E : Option rd_S, rd_i (nI (came % 128)) 128 E = E := fun E => rd_iN _ hx (by decide)
    have cx : (nI (came % 128)).toNatClampNeg = came % 128 := nI_clamp (by omega)
    have hmA : Sh (pI M 77 (came % 128) (b2i b)) := hm
    have g1 : gI (pI M 77 (came % 128) (b2i b)) 76 5 = nI came := by
      show (pI M 77 _ _).1 76 5 = _; rw [pI_ne (by decide)]; exact h5
    have g2 : gI (pI (pI M 77 (came % 128) (b2i b)) 78 (came % 128) (-1)) 76 5 = nI came := by
      show (pI (pI M 77 _ _) 78 _ _).1 76 5 = _; rw [pI_ne (by decide), pI_ne (by decide)]; exact h5
    have g3 : gI (pI (pI (pI M 77 (came % 128) (b2i b)) 78 (came % 128) (-1)) 76 5 (nI (came + 1))) 76 6 = M.1 76 6 := by
      show (pI (pI (pI M 77 _ _) 78 _ _) 76 5 _).1 76 6 = _; rw [pI_row (by decide), pI_ne (by decide), pI_ne (by decide)]
    rw [sh_76_3 hm, rd_cN, show gI M 76 5 = nI came from h5, and_127 (by omega), ln_77, ix, cx, rd_letN, sh_76_4 hmA, rd_cN, g1, and_127 (by omega), ln_78, ix, cx, rd_letN, g2, nI_1, rd_letN, g3, hMa, rd_letN]
  have s0 : Sa.2 = S.2 := by rw [← hSa]; rfl
  have m0 : Ma.2 = M.2 := by rw [← hMa]; rfl
  have hsa : Sh Sa := fun a e => by rw [s0]; exact hs a e
  have hma : Sh Ma := fun a e => by rw [m0]; exact hm a e
  have sr : ∀ a, a ≠ 2 → Sa.1 a = S.1 a := fun a e => by rw [← hSa, pI_ne e, pI_ne e]
  have sf : ∀ j, j ≠ 6 → j ≠ 11 → Sa.1 2 j = S.1 2 j := fun j e1 e2 => by rw [← hSa, pI_row e1, pI_row e2]
  have s6 : Sa.1 2 6 = nI (WN (hpsh b h) 0) := by rw [← hSa, pI_self]
  have s11 : Sa.1 2 11 = S.1 2 11 + 1 := by rw [← hSa, pI_row (by decide), pI_self]
  have mr : ∀ a, a ≠ 76 → a ≠ 77 → a ≠ 78 → Ma.1 a = M.1 a := fun a e1 e2 e3 => by rw [← hMa, pI_ne e1, pI_ne e1, pI_ne e3, pI_ne e2]
  have mf : ∀ j, j ≠ 5 → j ≠ 6 → Ma.1 76 j = M.1 76 j := fun j e1 e2 => by rw [← hMa, pI_row e2, pI_row e1, pI_ne (by decide), pI_ne (by decide)]
  have m5 : Ma.1 76 5 = nI (came + 1) := by rw [← hMa, pI_row (by decide), pI_self]
  have m6 : Ma.1 76 6 = M.1 76 6 + 1 := by rw [← hMa, pI_self]
  have m77 : ∀ j, Ma.1 77 j = if j = came % 128 then b2i b else M.1 77 j := fun j => by rw [← hMa, pI_ne (by decide), pI_ne (by decide), pI_ne (by decide), pI1, if_pos rfl]
  have m78 : ∀ j, Ma.1 78 j = if j = came % 128 then -1 else M.1 78 j := fun j => by rw [← hMa, pI_ne (by decide), pI_ne (by decide), pI1, if_pos rfl, pI_ne (by decide)]
  have mb : ∀ k, k < came + 1 → k < 128 → Ma.1 77 ((came + 1 - 1 - k) % 128) = b2i (hpsh b h k) := by
    intro k h1 h2
    rw [m77]
    by_cases e : k = 0
    · subst e; rw [if_pos (by omega)]; rfl
    · obtain ⟨k, rfl⟩ : ∃ q, k = q + 1 := ⟨k - 1, by omega⟩
      rw [if_neg (by omega)]
      show _ = b2i (h k)
      rw [← hbits k (by omega) (by omega)]
      exact congrArg (M.1 77) (by omega)
  have ha1 : RCa Sa Ma := by
    obtain ⟨a1, a2, a3, a4⟩ := ha
    exact ⟨by rw [sf 4 (by decide) (by decide), mf 1 (by decide) (by decide)]; exact a1, by rw [sf 5 (by decide) (by decide), mf 2 (by decide) (by decide)]; exact a2, by rw [mf 1 (by decide) (by decide)]; exact a3, by rw [mf 2 (by decide) (by decide)]; exact a4⟩
  have hb1 : RCb Sa Ma := by
    obtain ⟨b1, b2, b3, b4, b5, b6⟩ := hb
    exact ⟨by rw [s11, m6, b1], by rw [sr 9 (by decide), mr 80 (by decide) (by decide) (by decide)]; exact b2, by rw [sf 12 (by decide) (by decide), mf 16 (by decide) (by decide)]; exact b3, by rw [sf 13 (by decide) (by decide), mf 17 (by decide) (by decide)]; exact b4, by rw [sf 14 (by decide) (by decide), mf 14 (by decide) (by decide)]; exact b5, by rw [sf 15 (by decide) (by decide), mf 15 (by decide) (by decide)]; exact b6⟩
  have hw1 : RCw cnt Sa Ma := by
    obtain ⟨w1, w2, w3, w4, w5⟩ := hw
    exact ⟨by rw [mf 11 (by decide) (by decide)]; exact w1, by rw [sr 6 (by decide)]; exact w2, by rw [sr 6 (by decide)]; exact w3, by rw [sr 6 (by decide), mf 12 (by decide) (by decide)]; exact w4, by rw [sr 7 (by decide), mr 79 (by decide) (by decide) (by decide)]; exact w5⟩
  have agM : ∀ c, 22 ≤ c → Ag c M Ma := fun c e => col_agM e (fun a j e2 => by
    by_cases e3 : a = 76
    · subst e3; exact mf j (by omega) (by omega)
    · rw [mr a e3 (by omega) (by omega)])
  have agS : ∀ (X Y : rd_S), (∀ a, 10 ≤ a → Y.1 a = X.1 a) → Ag 2 X Y := fun X Y e a j e2 => by
    rw [e a]
    apply Decidable.byContradiction
    intro ha
    have q1 : ∀ a, a < 10 → colC a < 2 := by decide
    have q2 : col a j = colC a := by unfold col; rw [if_pos (by omega)]
    have := q1 a (by omega)
    omega
  have hg1 : RCg Sa Ma := hg.cg (agS _ _ (fun a e => sr a (by omega))) (agM 22 (by decide))
  have hS1 : RCS N Sa Ma := hS.cg (fun c e1 e2 => col_ag e1 e2 (fun a e3 => sr a (by omega))) (fun c e1 _ => agM c (by omega)) (by rw [s0])
  have frS : ∀ a, 76 ≤ a → Sa.1 a = S.1 a := fun a e => sr a (by omega)
  have frM : ∀ a, a < 76 → Ma.1 a = M.1 a := fun a e => mr a (by omega) (by omega) (by omega)
  have g10 : gI Sa 2 10 = S.1 2 10 := sf 10 (by decide) (by decide)
  have g7 : gI Ma 76 7 = M.1 76 7 := mf 7 (by decide) (by decide)
  rw [g10] at eS
  rw [g7] at eM
  rcases hst with ⟨i7, ⟨i10, i8, i9, ihit, icnt, i12, i20⟩⟩ | ⟨y7, p, v, hp, hv, h26, p8, p10, m9, s9, hpp⟩
  · -- idle
    subst icnt
    rw [if_pos i10] at eS
    rw [if_pos i7] at eM
    obtain ⟨Sx, My, x0, xr, xf, y0, yr, yh, hRG, hres⟩ := l_search (b := b) (h := h) (came := came) (nw := nw) hsa hma (by omega) s6 (by rw [sf 8 (by decide) (by decide)]; exact i8) (by rw [sf 7 (by decide) (by decide)]; exact h7) hnw (by rw [sr 8 (by decide)]; exact hring i7) m5 mb (by rw [m78, if_pos rfl]) (fun d h1 h2 => by rw [m78, if_neg (by omega)]; exact ihit d h1 (by omega))
    have hsx : Sh Sx := fun a e => by rw [x0]; exact hsa a e
    have hmy : Sh My := fun a e => by rw [y0]; exact hma a e
    have ha2 : RCa Sx My := by
      obtain ⟨a1, a2, a3, a4⟩ := ha1
      rw [← yr 76 (by decide)] at a1 a2 a3 a4
      exact ⟨(xf 4 (by decide) (by decide)).trans a1, (xf 5 (by decide) (by decide)).trans a2, a3, a4⟩
    have hb2 : RCb Sx My := by
      obtain ⟨b1, b2, b3, b4, b5, b6⟩ := hb1
      rw [← yr 76 (by decide)] at b1 b3 b4 b5 b6
      exact ⟨(xf 11 (by decide) (by decide)).trans b1, by rw [xr 9 (by decide) (by decide), yr 80 (by decide)]; exact b2, (xf 12 (by decide) (by decide)).trans b3, (xf 13 (by decide) (by decide)).trans b4, (xf 14 (by decide) (by decide)).trans b5, (xf 15 (by decide) (by decide)).trans b6⟩
    have hw2 : RCw 0 Sx My := by
      obtain ⟨w1, w2, w3, w4, w5⟩ := hw1
      rw [← yr 76 (by decide)] at w1 w4
      exact ⟨w1, by rw [xr 6 (by decide) (by decide)]; exact w2, by rw [xr 6 (by decide) (by decide)]; exact w3, by rw [xr 6 (by decide) (by decide)]; exact w4, fun j hj => absurd hj (by omega)⟩
    have agM2 : ∀ c, 22 ≤ c → Ag c Ma My := fun c e => col_agM e (fun a j e2 => by rw [yr a (by omega)])
    have hg2 : RCg Sx My := hg1.cg (agS _ _ (fun a e => xr a (by omega) (by omega))) (agM2 22 (by decide))
    have hS2 : RCS N Sx My := hS1.cg (fun c e1 e2 => col_ag e1 e2 (fun a e3 => xr a (by omega) (by omega))) (fun c e1 _ => agM2 c (by omega)) (by rw [x0])
    have hx10 : Sx.1 2 10 = -1 := by rw [xf 10 (by decide) (by decide), sf 10 (by decide) (by decide)]; exact i10
    have hx9 : Sx.1 2 9 = 0 := by rw [xf 9 (by decide) (by decide), sf 9 (by decide) (by decide)]; exact i9
    have hx6 : Sx.1 2 6 = nI (WN (hpsh b h) 0) := by rw [xf 6 (by decide) (by decide)]; exact s6
    have hy7 : My.1 76 7 = 0 := by rw [yr 76 (by decide), mf 7 (by decide) (by decide)]; exact i7
    have m20 : My.1 76 20 = 0 ∨ My.1 76 20 = 1 := by rw [yr 76 (by decide), mf 20 (by decide) (by decide)]; exact i20
    have hy12 : My.1 76 12 = 0 := by rw [yr 76 (by decide), mf 12 (by decide) (by decide)]; exact i12
    rcases hres with ⟨r1, r2⟩ | ⟨P, hP, h52, r1, r2⟩
    · rw [r1, rd_bN, if_pos rfl] at eS
      rw [r2, rd_cN] at eM
      refine ⟨0, Sx, Sx, My, eS, Or.inr ⟨rfl, rfl⟩, eM, hsx, ⟨hsx, hmy, ⟨0, came + 1, hpsh b h, Nat.zero_le _, by omega, ha2, hb2, hw2, ⟨hx6, hRG.2.2.2.2.1, hRG.2.2.2.2.2, _, hRG.2.2.1, hRG.2.1, fun _ => hRG.2.2.2.1⟩, Or.inl ⟨hy7, hx10, hRG.1, hx9, yh, rfl, hy12, m20⟩⟩, hg2, hS2.mono (by omega)⟩, fun a e => ?_, fun a e => ?_, y0.trans m0⟩
      · rw [xr a (by omega) (by omega), frS a e]
      · rw [yr a (by omega), frM a e]
    · -- SYNC
      rw [r1, rd_bN, if_neg (nI_ne_m1 (by omega))] at eS
      rw [r2] at eM
      generalize hSs : pI (pI (pA (pA (pI Sx 2 14 (Sx.1 2 14 + 1)) 4 (fun j => if j < 4 then -1 else Sx.1 4 j)) 5 (fun j => if j < 4 then 3 else Sx.1 5 j)) 3 2 0) 2 10 0 = Ss
      have eY : F_X7_synchronise wF 2 (nI P) Sx = F_X7_synchronise_27 wF rd_big 2 (nI P) 0 (nI 0) Ss := by
        unfold F_X7_synchronise
        have hsq : Sh (pI Sx 2 14 (Sx.1 2 14 + 1)) := hsx
        have e4 : (pI Sx 2 14 (Sx.1 2 14 + 1)).1 4 = Sx.1 4 := pI_ne (by decide)
        have e5 : (pA (pI Sx 2 14 (Sx.1 2 14 + 1)) 4 (fun j => if j < 4 then -1 else Sx.1 4 j)).1 5 = Sx.1 5 := by rw [pA_ne (by decide), pI_ne (by decide)]
        rw [show gI Sx 2 14 = Sx.1 2 14 from rfl, rd_letN, sh_2_0 hsq, rd_cN, c_clr hsq, rd_cN, e4, e5, hSs, rd_letN, nI_0]
      have t0 : Ss.2 = Sx.2 := by rw [← hSs]; rfl
      have hss : Sh Ss := fun a e => by rw [t0]; exact hsx a e
      have tr : ∀ a, a ≠ 2 → a ≠ 3 → a ≠ 4 → a ≠ 5 → Ss.1 a = Sx.1 a := fun a e1 e2 e3 e4 => by rw [← hSs, pI_ne e1, pI_ne e2, pA_ne e4, pA_ne e3, pI_ne e1]
      have tf : ∀ j, j ≠ 14 → j ≠ 10 → Ss.1 2 j = Sx.1 2 j := fun j e1 e2 => by rw [← hSs, pI_row e2, pI_ne (by decide), pA_ne (by decide), pA_ne (by decide), pI_row e1]
      have t14 : Ss.1 2 14 = Sx.1 2 14 + 1 := by rw [← hSs, pI_row (by decide), pI_ne (by decide), pA_ne (by decide), pA_ne (by decide), pI_self]
      have t10 : Ss.1 2 10 = 0 := by rw [← hSs, pI_self]
      have t4 : ∀ k, k < 4 → Ss.1 4 k = -1 ∧ Ss.1 5 k = 3 := fun k hk => by
        rw [← hSs]
        constructor
        · rw [pI_ne (by decide), pI_ne (by decide), pA_ne (by decide), pA_self, if_pos hk]
        · rw [pI_ne (by decide), pI_ne (by decide), pA_self, if_pos hk]
      have t32 : Ss.1 3 2 = 0 := by rw [← hSs, pI_ne (by decide), pI_self]
      have u0 : (stM My).2 = My.2 := rfl
      have ur : ∀ a, a ≠ 76 → (stM My).1 a = My.1 a := fun a e => by unfold stM; rw [pI_ne e, pI_ne e, pI_ne e, pI_ne e, pI_ne e, pI_ne e]
      have uf : ∀ j, j ≠ 7 → j ≠ 14 → j ≠ 9 → j ≠ 11 → j ≠ 12 → j ≠ 8 → (stM My).1 76 j = My.1 76 j := fun j e1 e2 e3 e4 e5 e6 => by unfold stM; rw [pI_row e6, pI_row e5, pI_row e4, pI_row e3, pI_row e2, pI_row e1]
      have u7 : (stM My).1 76 7 = 1 := by unfold stM; simp +decide only [pI1, if_true, if_false]
      have u14 : (stM My).1 76 14 = My.1 76 14 + 1 := by unfold stM; simp +decide only [pI1, if_true, if_false]
      have u9 : (stM My).1 76 9 = 0 := by unfold stM; simp +decide only [pI1, if_true, if_false]
      have u11 : (stM My).1 76 11 = 0 := by unfold stM; simp +decide only [pI1, if_true, if_false]
      have u12 : (stM My).1 76 12 = 0 := by unfold stM; simp +decide only [pI1, if_true, if_false]
      have u8 : (stM My).1 76 8 = 0 := by unfold stM; simp +decide only [pI1, if_true, if_false]
      unfold ST at eM
      generalize stM My = Ms at eM u0 ur uf u7 u14 u9 u11 u12 u8
      have hms : Sh Ms := fun a e => by rw [u0]; exact hmy a e
      have ha3 : RCa Ss Ms := by
        obtain ⟨a1, a2, a3, a4⟩ := ha2
        exact ⟨by rw [tf 4 (by decide) (by decide), uf 1 (by decide) (by decide) (by decide) (by decide) (by decide) (by decide)]; exact a1, by rw [tf 5 (by decide) (by decide), uf 2 (by decide) (by decide) (by decide) (by decide) (by decide) (by decide)]; exact a2, by rw [uf 1 (by decide) (by decide) (by decide) (by decide) (by decide) (by decide)]; exact a3, by rw [uf 2 (by decide) (by decide) (by decide) (by decide) (by decide) (by decide)]; exact a4⟩
      have hb3 : RCb Ss Ms := by
        obtain ⟨b1, b2, b3, b4, b5, b6⟩ := hb2
        exact ⟨by rw [tf 11 (by decide) (by decide), uf 6 (by decide) (by decide) (by decide) (by decide) (by decide) (by decide)]; exact b1, by rw [tr 9 (by decide) (by decide) (by decide) (by decide), ur 80 (by decide)]; exact b2, by rw [tf 12 (by decide) (by decide), uf 16 (by decide) (by decide) (by decide) (by decide) (by decide) (by decide)]; exact b3, by rw [tf 13 (by decide) (by decide), uf 17 (by decide) (by decide) (by decide) (by decide) (by decide) (by decide)]; exact b4, by rw [t14, u14, b5], by rw [tf 15 (by decide) (by decide), uf 15 (by decide) (by decide) (by decide) (by decide) (by decide) (by decide)]; exact b6⟩
      have hw3 : RCw 0 Ss Ms := by
        obtain ⟨w1, w2, w3, w4, w5⟩ := hw2
        exact ⟨u11.trans nI_0.symm, by rw [tr 6 (by decide) (by decide) (by decide) (by decide)]; exact w2, by rw [tr 6 (by decide) (by decide) (by decide) (by decide)]; exact w3, by rw [tr 6 (by decide) (by decide) (by decide) (by decide), w4, hy12, u12], fun j hj => absurd hj (by omega)⟩
      have agM3 : ∀ c, 22 ≤ c → Ag c My Ms := fun c e => col_agM e (fun a j e2 => by
        by_cases e3 : a = 76
        · subst e3; exact uf j (by omega) (by omega) (by omega) (by omega) (by omega) (by omega)
        · rw [ur a e3])
      have hg3 : RCg Ss Ms := hg2.cg (agS _ _ (fun a e => tr a (by omega) (by omega) (by omega) (by omega))) (agM3 22 (by decide))
      have hS3 : RCS N Ss Ms := hS2.cg (fun c e1 e2 => col_ag e1 e2 (fun a e3 => tr a (by omega) (by omega) (by omega) (by omega))) (fun c e1 _ => agM3 c (by omega)) (by rw [t0])
      have hRG3 : RG (came + 1) ((nw + 1) % 79) (hpsh b h) Ss Ms := by
        obtain ⟨q1, q2, q3, q4, q5, q6⟩ := hRG
        exact ⟨by rw [tf 8 (by decide) (by decide)]; exact q1, by rw [tf 7 (by decide) (by decide)]; exact q2, q3, by rw [tr 8 (by decide) (by decide) (by decide) (by decide)]; exact q4, by rw [uf 5 (by decide) (by decide) (by decide) (by decide) (by decide) (by decide)]; exact q5, by rw [ur 77 (by decide)]; exact q6⟩
      have hpp3 : RCp 0 Ss Ms := ⟨fun k hk => absurd hk (Nat.not_lt_zero _), fun e => absurd e (by decide), fun e => absurd e (by decide), by rw [uf 20 (by decide) (by decide) (by decide) (by decide) (by decide) (by decide)]; exact m20⟩
      obtain ⟨vv, A1, A2, B1, z1, z2, z3, ⟨z4a, z4b, z4c⟩, z5, z6, z7, z8, z9, z10⟩ := l_sy hN (came := came + 1) (nw := (nw + 1) % 79) (h := hpsh b h) (by omega) h52 hP (P + 1) 0 rd_big rd_big 0 Ss Ms (by omega) (by unfold rd_big; omega) (by unfold rd_big; omega) ⟨hss, hms, ha3, hb3, hw3, by decide, u8.trans nI_0.symm, t10.trans nI_0.symm, hpp3, hg3, hS3⟩ hRG3 u7 u9 (by rw [tf 9 (by decide) (by decide)]; exact hx9) (Nat.le_refl _) (fun _ => ⟨t4, t32⟩)
      obtain ⟨f1, f2, f3, f4, f5, f6, f7, f8⟩ := z9
      rw [eY, z1, rd_bN] at eS
      rw [nI_0] at z3
      rw [z3, rd_cN] at eM
      have eS' : F_X7_accept wF 2 (b2i b) S = some (vv, A1) := by
        rw [eS]
        rcases z2 with ⟨e, -⟩ | ⟨e, -⟩
        · rw [e, if_neg (by decide)]
        · rw [e, if_pos rfl]
      refine ⟨vv, A1, A2, B1, eS', z2, eM, z4a, ?_, fun a e => ?_, fun a e => ?_, ?_⟩
      · refine z10.rc (h := hpsh b h) (nw := (nw + 1) % 79) (by omega) (by omega) (by omega) z4b z4c z5 z6 z7 z8 ?_ ?_ hRG3.2.2.1 ?_
        · rw [f1, tf 6 (by decide) (by decide)]; exact hx6
        · rw [f2]; exact hRG3.2.1
        · rw [f4]; exact hRG3.2.2.2.2.2
      · rw [f6 a e, tr a (by omega) (by omega) (by omega) (by omega), xr a (by omega) (by omega), frS a e]
      · rw [f7 a e, ur a (by omega), yr a (by omega), frM a e]
      · rw [f8, u0, y0, m0]
  · -- SYNC goes on
    rw [p10, if_neg (nI_ne_m1 (by omega))] at eS
    rw [y7, if_neg (by decide)] at eM
    have g9S : gI Sa 2 9 = nI v := by show Sa.1 2 9 = _; rw [sf 9 (by decide) (by decide)]; exact s9
    have g9M : gI Ma 76 9 = nI v := by show Ma.1 76 9 = _; rw [mf 9 (by decide) (by decide)]; exact m9
    unfold F_X7_follow at eS
    rw [g9S, nI_1, rd_letN, show gI (pI Sa 2 9 (nI (v + 1))) 2 9 = nI (v + 1) from pI_self] at eS
    rw [g9M, nI_1, rd_letN, show gI (pI Ma 76 9 (nI (v + 1))) 76 9 = nI (v + 1) from pI_self] at eM
    have hppa : RCp p Sa Ma := by
      obtain ⟨q1, q2, q3, q4⟩ := hpp
      unfold RCp
      rw [sr 4 (by decide), sr 5 (by decide), sr 3 (by decide), mr 81 (by decide) (by decide) (by decide), mr 82 (by decide) (by decide) (by decide), mf 20 (by decide) (by decide)]
      exact ⟨q1, q2, q3, q4⟩
    -- states that differ in 9 only
    have st9 : ∀ (u u' : Int32) (Sn Mn : rd_S), Sn.2 = Sa.2 → Mn.2 = Ma.2 → (∀ a, a ≠ 2 → Sn.1 a = Sa.1 a) → (∀ j, j ≠ 9 → Sn.1 2 j = Sa.1 2 j) → (∀ a, a ≠ 76 → Mn.1 a = Ma.1 a) → (∀ j, j ≠ 9 → Mn.1 76 j = Ma.1 76 j) → RLk N cnt p Sn Mn := by
      intro u u' Sn Mn e1 e2 e3 e4 e5 e6
      refine ⟨fun a e => by rw [e1]; exact hsa a e, fun a e => by rw [e2]; exact hma a e, ?_, ?_, ?_, hp, ?_, ?_, ?_, ?_, ?_⟩
      · obtain ⟨a1, a2, a3, a4⟩ := ha1
        exact ⟨by rw [e4 4 (by decide), e6 1 (by decide)]; exact a1, by rw [e4 5 (by decide), e6 2 (by decide)]; exact a2, by rw [e6 1 (by decide)]; exact a3, by rw [e6 2 (by decide)]; exact a4⟩
      · obtain ⟨b1, b2, b3, b4, b5, b6⟩ := hb1
        exact ⟨by rw [e4 11 (by decide), e6 6 (by decide)]; exact b1, by rw [e3 9 (by decide), e5 80 (by decide)]; exact b2, by rw [e4 12 (by decide), e6 16 (by decide)]; exact b3, by rw [e4 13 (by decide), e6 17 (by decide)]; exact b4, by rw [e4 14 (by decide), e6 14 (by decide)]; exact b5, by rw [e4 15 (by decide), e6 15 (by decide)]; exact b6⟩
      · obtain ⟨w1, w2, w3, w4, w5⟩ := hw1
        exact ⟨by rw [e6 11 (by decide)]; exact w1, by rw [e3 6 (by decide)]; exact w2, by rw [e3 6 (by decide)]; exact w3, by rw [e3 6 (by decide), e6 12 (by decide)]; exact w4, by rw [e3 7 (by decide), e5 79 (by decide)]; exact w5⟩
      · rw [e6 8 (by decide), mf 8 (by decide) (by decide)]; exact p8
      · rw [e4 10 (by decide), sf 10 (by decide) (by decide)]; exact p10
      · unfold RCp
        rw [e3 4 (by decide), e3 5 (by decide), e3 3 (by decide), e5 81 (by decide), e5 82 (by decide), e6 20 (by decide)]
        exact hppa
      · exact hg1.cg (agS _ _ (fun a e => e3 a (by omega))) (col_agM (by decide) (fun a j e7 => by
          by_cases e8 : a = 76
          · subst e8; exact e6 j (by omega)
          · rw [e5 a e8]))
      · exact hS1.cg (fun c q1 q2 => col_ag q1 q2 (fun a q3 => e3 a (by omega))) (fun c q1 _ => col_agM (by omega) (fun a j e7 => by
          by_cases e8 : a = 76
          · subst e8; exact e6 j (by omega)
          · rw [e5 a e8])) (by rw [e1])
    by_cases h25 : v = 25
    · rw [if_pos (show (26 : Int32) ≤ nI (v + 1) from nI_le (a := 26) (by omega) (by omega)), rd_letN] at eS eM
      generalize hSc : pI (pI Sa 2 9 (nI (v + 1))) 2 9 0 = Sc at eS
      generalize hMc : pI (pI Ma 76 9 (nI (v + 1))) 76 9 0 = Mc at eM
      have c1 : ∀ a, a ≠ 2 → Sc.1 a = Sa.1 a := fun a e => by rw [← hSc, pI_ne e, pI_ne e]
      have c2 : ∀ j, j ≠ 9 → Sc.1 2 j = Sa.1 2 j := fun j e => by rw [← hSc, pI_row e, pI_row e]
      have c3 : ∀ a, a ≠ 76 → Mc.1 a = Ma.1 a := fun a e => by rw [← hMc, pI_ne e, pI_ne e]
      have c4 : ∀ j, j ≠ 9 → Mc.1 76 j = Ma.1 76 j := fun j e => by rw [← hMc, pI_row e, pI_row e]
      have c9 : Sc.1 2 9 = 0 := by rw [← hSc, pI_self]
      have d9 : Mc.1 76 9 = 0 := by rw [← hMc, pI_self]
      have k0 : Sc.2 = Sa.2 := by rw [← hSc]; rfl
      have k0' : Mc.2 = Ma.2 := by rw [← hMc]; rfl
      have hR := st9 0 0 Sc Mc k0 k0' c1 c2 c3 c4
      have c6 : gI Sc 2 6 = nI (WN (hpsh b h) 0) := by show Sc.1 2 6 = _; rw [c2 6 (by decide)]; exact s6
      have hmc : Sh Mc := hR.2.1
      have mb' : ∀ k, k < came + 1 → k < 128 → Mc.1 77 ((came + 1 - 1 - k) % 128) = b2i (hpsh b h k) := by rw [c3 77 (by decide)]; exact mb
      have d5 : Mc.1 76 5 = nI (came + 1) := by rw [c4 5 (by decide)]; exact m5
      have eE := m_ended (d := 0) hmc d5 mb' (by omega) (by decide) (by omega)
      rw [nI_0] at eE
      obtain ⟨A1, A2, B1, k1, k2, k3, ⟨k4, k5, k6⟩, k7, k8, k9, k10, k11, k12⟩ := l_look hR (WN_lt (hpsh b h) 0) (by omega) hN
      rw [c6, k1, rd_bN] at eS
      rw [eE, rd_bN, k3, rd_cN] at eM
      obtain ⟨f1, f2, f3, f4, f5, f6, f7, f8⟩ := k12
      have hv01 : (if p = 3 then (1 : Int32) else 0) = 0 ∨ (if p = 3 then (1 : Int32) else 0) = 1 := by
        by_cases e : p = 3
        · rw [if_pos e]; exact Or.inr rfl
        · rw [if_neg e]; exact Or.inl rfl
      rw [rd_zT _ hv01, rd_bN, rd_zT _ hv01] at eS
      refine ⟨_, A1, A2, B1, eS, ?_, eM, k4, ?_, fun a e => ?_, fun a e => ?_, ?_⟩
      · by_cases e : p = 3
        · rw [if_pos e] at k2 ⊢; exact Or.inl ⟨rfl, k2⟩
        · rw [if_neg e] at k2 ⊢; exact Or.inr ⟨rfl, k2⟩
      · have hf : FinY (N + 1) (came + 1) A2 B1 := by
          rcases k11 with ⟨q1, q2, q3, q4, q5, q6, q7, q8, q9⟩ | q
          · exact Or.inl ⟨cnt + 1, (p + 1) % 4, by omega, by omega, by rw [q1, c4 7 (by decide), mf 7 (by decide) (by decide)]; exact y7, by rw [q2]; exact d5, by rw [q3]; exact d9, by rw [q5]; exact c9, q6, q7, q8, q9⟩
          · exact Or.inr q
        refine hf.rc (h := hpsh b h) (nw := nw) (Nat.le_refl _) (by omega) (by omega) k5 k6 k7 k8 k9 (k10.mono (by omega)) ?_ ?_ hnw ?_
        · rw [f1]; exact c6
        · rw [f2, c2 7 (by decide), sf 7 (by decide) (by decide)]; exact h7
        · rw [f4]; exact mb'
      · rw [f6 a e, c1 a (by omega), frS a e]
      · rw [f7 a e, c3 a (by omega), frM a e]
      · rw [f8, k0', m0]
    · rw [if_neg (show ¬ (26 : Int32) ≤ nI (v + 1) from nI_ge (b := 26) (by omega) (by decide))] at eS eM
      rw [rd_bN, rd_zT _ (Or.inl rfl)] at eS
      generalize hSc : pI Sa 2 9 (nI (v + 1)) = Sc at eS
      generalize hMc : pI Ma 76 9 (nI (v + 1)) = Mc at eM
      have c1 : ∀ a, a ≠ 2 → Sc.1 a = Sa.1 a := fun a e => by rw [← hSc, pI_ne e]
      have c2 : ∀ j, j ≠ 9 → Sc.1 2 j = Sa.1 2 j := fun j e => by rw [← hSc, pI_row e]
      have c3 : ∀ a, a ≠ 76 → Mc.1 a = Ma.1 a := fun a e => by rw [← hMc, pI_ne e]
      have c4 : ∀ j, j ≠ 9 → Mc.1 76 j = Ma.1 76 j := fun j e => by rw [← hMc, pI_row e]
      have c9 : Sc.1 2 9 = nI (v + 1) := by rw [← hSc, pI_self]
      have d9 : Mc.1 76 9 = nI (v + 1) := by rw [← hMc, pI_self]
      have k0 : Sc.2 = Sa.2 := by rw [← hSc]; rfl
      have k0' : Mc.2 = Ma.2 := by rw [← hMc]; rfl
      obtain ⟨w1, w2, w3, w4, w5, w6, w7, w8, w9, w10, w11⟩ := st9 0 0 Sc Mc k0 k0' c1 c2 c3 c4
      have z7 : Mc.1 76 7 = 1 := by rw [c4 7 (by decide), mf 7 (by decide) (by decide)]; exact y7
      refine ⟨0, Sc, Sc, Mc, eS, Or.inr ⟨rfl, rfl⟩, eM, w1, ⟨w1, w2, ⟨cnt, came + 1, hpsh b h, by omega, by omega, w3, w4, w5, ⟨?_, ?_, ?_, nw, hnw, ?_, fun e => absurd (z7.symm.trans e) (by decide)⟩, Or.inr ⟨z7, p, v + 1, hp, by omega, by omega, w7, w8, d9, c9, w9⟩⟩, w10, w11.mono (by omega)⟩, fun a e => ?_, fun a e => ?_, ?_⟩
      · rw [c2 6 (by decide)]; exact s6
      · rw [c4 5 (by decide)]; exact m5
      · rw [c3 77 (by decide)]; exact mb
      · rw [c2 7 (by decide), sf 7 (by decide) (by decide)]; exact h7
      · rw [c1 a (by omega), frS a e]
      · rw [c3 a (by omega), frM a e]
      · rw [k0', m0]
