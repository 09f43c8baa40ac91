/-! letter, other, otherLetter. -/
theorem ite_nlt {α : Type} {x y : Int32} {a b : α} : (if x < y then a else b) = (if y ≤ x then b else a) := by
  by_cases h : y ≤ x
  · rw [if_pos h, if_neg (Int32.not_lt.mpr h)]
  · rw [if_neg h, if_pos (Int32.not_le.mp h)]
theorem o_letter {N : Nat} {S : rd_S} (h : RC N S S) (x k : Int32) : ∃ v, F_X11_letter wF 1 x k S = some (v, S) ∧ F_X12_letter wF 76 x k S = some (v, th S) := by
  obtain ⟨hs, -, -, -, -, ⟨-, -, -, hn⟩, hx, ⟨-, -, -, hi, -⟩, -, -, -, ⟨-, hq⟩, -⟩ := h
  obtain ⟨nx, hx⟩ := rx_text hx
  have t45 : (pI S 76 0 0).1 76 45 = S.1 76 45 := th_row (by decide)
  have t96 : (pI S 76 0 0).1 96 = S.1 96 := th_ne (by decide)
  have t90 : (pI S 76 0 0).1 90 = S.1 90 := th_ne (by decide)
  have t89 : (pI S 76 0 0).1 89 = S.1 89 := th_ne (by decide)
  simp only [F_X11_letter, sh_1_2 hs, sh_13_1 hs, sh_13_2 hs, sh_13_3 hs, sh_13_8 hs, rd_cS, rd_b_id, rd_bS, f_byteAt (sh_15_3 hs) ln_17 (by decide), f_byteAt (sh_18_3 hs) ln_20 (by decide), f_byteAt (sh_21_3 hs) ln_23 (by decide), F_X9_byteOf, B_X9_byteOf_39, sh_74_0 hs, f_at ln_75 (by decide),
    F_X12_letter, B_X12_letter_18, B_X12_letter_106, B_X12_letter_50, rd_let, sh_76_44 hs.th, sh_76_30 hs.th, sh_76_29 hs.th, ln_96, ln_90, ln_89, rd_i, gI, t45, t96, t90, t89]
  by_cases hk : k < 0
  · have hk' : ¬ 0 ≤ k := Int32.not_le.mpr hk
    simp only [atF_neg hk, if_neg hk', if_pos hk, ite_self]
    exact ⟨-1, rfl, rfl⟩
  · obtain ⟨j, hj, rfl⟩ := nI_of hk
    have hk' : 0 ≤ nI j := nI_pos' hj
    simp only [if_pos hk', if_neg hk]
    by_cases h0 : x = 0
    · subst h0
      obtain ⟨e1, e2⟩ := rd_letter hn (by decide) (by decide) hj
      refine ⟨_, by rw [if_pos rfl], ?_⟩
      rw [e1]
      simp +decide only [if_true, if_false]
      show (if S.1 90 0 ≤ nI j then _ else _) = _
      by_cases h9 : S.1 90 0 ≤ nI j
      · rw [if_pos h9, if_pos h9]
      · have ej : (0 : Int32) * 64 + nI j = nI (64 * 0 + j) := by show nI 0 * nI 64 + nI j = _; rw [pk_mul, nI_add]
        have := e2 h9
        rw [if_neg h9, if_neg h9, ej, if_pos (rd_inN (by omega) (by decide)), nI_clamp (by omega)]
    by_cases h1 : x = 1
    · subst h1
      obtain ⟨e1, e2⟩ := rd_letter hx (by decide) (by decide) hj
      refine ⟨_, by rw [if_neg h0, if_pos rfl], ?_⟩
      rw [e1]
      simp +decide only [if_true, if_false]
      show (if S.1 90 1 ≤ nI j then _ else _) = _
      by_cases h9 : S.1 90 1 ≤ nI j
      · rw [if_pos h9, if_pos h9]
      · have ej : (1 : Int32) * 64 + nI j = nI (64 * 1 + j) := by show nI 1 * nI 64 + nI j = _; rw [pk_mul, nI_add]
        have := e2 h9
        rw [if_neg h9, if_neg h9, ej, if_pos (rd_inN (by omega) (by decide)), nI_clamp (by omega)]
    by_cases h2 : x = 2
    · subst h2
      obtain ⟨e1, e2⟩ := rd_letter hi (by decide) (by decide) hj
      refine ⟨_, by rw [if_neg h0, if_neg h1, if_pos rfl], ?_⟩
      rw [e1]
      simp +decide only [if_true, if_false]
      show (if S.1 90 2 ≤ nI j then _ else _) = _
      by_cases h9 : S.1 90 2 ≤ nI j
      · rw [if_pos h9, if_pos h9]
      · have ej : (2 : Int32) * 64 + nI j = nI (64 * 2 + j) := by show nI 2 * nI 64 + nI j = _; rw [pk_mul, nI_add]
        have := e2 h9
        rw [if_neg h9, if_neg h9, ej, if_pos (rd_inN (by omega) (by decide)), nI_clamp (by omega)]
    have key : ∀ t : Nat, t + 2 < 8 → ∃ v, (if atF (S.1 75) 8 (nI t) = -1 then some (-1, S) else if atF (S.1 75) 8 (nI t) = 0 then some (-1, S) else if nI j ≤ atF (S.1 75) 8 (nI (t + 2)) then some ((if S.1 18 6 ≤ atF (S.1 75) 8 (nI (t + 1)) + nI j then -1 else atF (S.1 20) 64 (atF (S.1 75) 8 (nI (t + 1)) + nI j)), S) else some (-1, S)) = some (v, S) ∧
        (if S.1 76 45 = 0 then some (-1, pI S 76 0 0) else if S.1 96 t = 0 then some (-1, pI S 76 0 0) else if S.1 96 (t + 2) < nI j then some (-1, pI S 76 0 0) else if S.1 96 (t + 1) + nI j < S.1 90 1 then (if rd_in (64 + S.1 96 (t + 1) + nI j) 704 then some (S.1 89 (64 + S.1 96 (t + 1) + nI j).toNatClampNeg, pI S 76 0 0) else none) else some (-1, pI S 76 0 0)) = some (v, th S) := by
      intro t ht
      rw [atF_nI (by omega) (by decide), atF_nI (by omega) (by decide), atF_nI (by omega) (by decide)]
      rcases hq with ⟨q0, q1⟩ | ⟨q0, q1, q2⟩
      · rw [if_pos (q1 t (by omega)), if_pos q0]; exact ⟨_, rfl, rfl⟩
      · obtain ⟨ty, hty, ety⟩ := q2 t (by omega)
        obtain ⟨bg, hbg, ebg⟩ := q2 (t + 1) (by omega)
        obtain ⟨mo, hmo, emo⟩ := q2 (t + 2) (by omega)
        rw [q1 t (by omega), q1 (t + 1) (by omega), q1 (t + 2) (by omega), if_neg (show ¬ S.1 76 45 = 0 by rw [q0]; decide), ety, ebg, emo, if_neg (nI_ne_m1 (show ty < 2 ^ 31 by omega))]
        by_cases c0 : nI ty = 0
        · rw [if_pos c0, if_pos c0]; exact ⟨_, rfl, rfl⟩
        · rw [if_neg c0, if_neg c0]
          by_cases c1 : nI j ≤ nI mo
          · have hjm := (nI_leI hj (by omega)).mp c1
            rw [if_pos c1, if_neg (Int32.not_lt.mpr c1), nI_add]
            obtain ⟨e1, e2⟩ := rd_letter hx (by decide) (by decide) (k := bg + j) (by omega)
            rw [e1, ite_nlt]
            by_cases h9 : S.1 90 1 ≤ nI (bg + j)
            · rw [if_pos h9, if_pos h9]; exact ⟨_, rfl, rfl⟩
            · have ej : (64 : Int32) + nI bg + nI j = nI (64 * 1 + (bg + j)) := by show nI 64 + nI bg + nI j = _; rw [nI_add, nI_add]; congr 1; omega
              have := e2 h9
              rw [if_neg h9, if_neg h9, ej, if_pos (rd_inN (by omega) (by decide)), nI_clamp (by omega)]
              exact ⟨_, rfl, rfl⟩
          · rw [if_neg c1, if_pos (Int32.not_le.mp c1)]; exact ⟨_, rfl, rfl⟩
    by_cases h3 : x = 3
    · subst h3
      obtain ⟨v, k1, k2⟩ := key 2 (by decide)
      refine ⟨v, ?_, ?_⟩
      · simp +decide only [if_true, if_false]; exact k1
      · simp +decide only [if_true, if_false]; exact k2
    by_cases h4 : x = 4
    · subst h4
      obtain ⟨v, k1, k2⟩ := key 5 (by decide)
      refine ⟨v, ?_, ?_⟩
      · simp +decide only [if_true, if_false]; exact k1
      · simp +decide only [if_true, if_false]; exact k2
    rw [if_neg h0, if_neg h1, if_neg h2, if_neg h3, if_neg h4]
    refine ⟨-1, rfl, ?_⟩
    rcases nI_cases (x := x) (n := 5) (fun k hk => by match k, hk with | 0, _ => exact h0 | 1, _ => exact h1 | 2, _ => exact h2 | 3, _ => exact h3 | 4, _ => exact h4) (by decide) with h9 | h9
    · rw [if_pos h9]
    · have h5 : (4 : Int32) < x := Int32.lt_of_lt_of_le (by decide) h9
      rw [if_neg (fun q => absurd (Int32.lt_of_le_of_lt h9 q) (by decide)), if_pos h5]

theorem gR_other {S : rd_S} (hs : Sh S) {k : Nat} (hk : k < 8) : gR S (34 + 5 * k) 0 = some (34 + 5 * k + 1) ∧ gR S (34 + 5 * k) 1 = some (34 + 5 * k + 2) ∧ gR S (34 + 5 * k + 2) 2 = some (34 + 5 * k + 3) ∧ gR S (34 + 5 * k + 2) 3 = some (34 + 5 * k + 4) := by
  match k, hk with
  | 0, _ => exact ⟨sh_34_0 hs, sh_34_1 hs, sh_36_2 hs, sh_36_3 hs⟩
  | 1, _ => exact ⟨sh_39_0 hs, sh_39_1 hs, sh_41_2 hs, sh_41_3 hs⟩
  | 2, _ => exact ⟨sh_44_0 hs, sh_44_1 hs, sh_46_2 hs, sh_46_3 hs⟩
  | 3, _ => exact ⟨sh_49_0 hs, sh_49_1 hs, sh_51_2 hs, sh_51_3 hs⟩
  | 4, _ => exact ⟨sh_54_0 hs, sh_54_1 hs, sh_56_2 hs, sh_56_3 hs⟩
  | 5, _ => exact ⟨sh_59_0 hs, sh_59_1 hs, sh_61_2 hs, sh_61_3 hs⟩
  | 6, _ => exact ⟨sh_64_0 hs, sh_64_1 hs, sh_66_2 hs, sh_66_3 hs⟩
  | 7, _ => exact ⟨sh_69_0 hs, sh_69_1 hs, sh_71_2 hs, sh_71_3 hs⟩
theorem ln_other {k : Nat} (hk : k < 8) : wF.2.2 (34 + 5 * k + 1) = 11 ∧ wF.2.2 (34 + 5 * k + 3) = 8 ∧ wF.2.2 (34 + 5 * k + 4) = 8 := by
  match k, hk with
  | 0, _ => exact ⟨(congrArg wF.2.2 (by decide : 34 + 5 * 0 + 1 = 35)).trans ln_35, (congrArg wF.2.2 (by decide : 34 + 5 * 0 + 3 = 37)).trans ln_37, (congrArg wF.2.2 (by decide : 34 + 5 * 0 + 4 = 38)).trans ln_38⟩
  | 1, _ => exact ⟨(congrArg wF.2.2 (by decide : 34 + 5 * 1 + 1 = 40)).trans ln_40, (congrArg wF.2.2 (by decide : 34 + 5 * 1 + 3 = 42)).trans ln_42, (congrArg wF.2.2 (by decide : 34 + 5 * 1 + 4 = 43)).trans ln_43⟩
  | 2, _ => exact ⟨(congrArg wF.2.2 (by decide : 34 + 5 * 2 + 1 = 45)).trans ln_45, (congrArg wF.2.2 (by decide : 34 + 5 * 2 + 3 = 47)).trans ln_47, (congrArg wF.2.2 (by decide : 34 + 5 * 2 + 4 = 48)).trans ln_48⟩
  | 3, _ => exact ⟨(congrArg wF.2.2 (by decide : 34 + 5 * 3 + 1 = 50)).trans ln_50, (congrArg wF.2.2 (by decide : 34 + 5 * 3 + 3 = 52)).trans ln_52, (congrArg wF.2.2 (by decide : 34 + 5 * 3 + 4 = 53)).trans ln_53⟩
  | 4, _ => exact ⟨(congrArg wF.2.2 (by decide : 34 + 5 * 4 + 1 = 55)).trans ln_55, (congrArg wF.2.2 (by decide : 34 + 5 * 4 + 3 = 57)).trans ln_57, (congrArg wF.2.2 (by decide : 34 + 5 * 4 + 4 = 58)).trans ln_58⟩
  | 5, _ => exact ⟨(congrArg wF.2.2 (by decide : 34 + 5 * 5 + 1 = 60)).trans ln_60, (congrArg wF.2.2 (by decide : 34 + 5 * 5 + 3 = 62)).trans ln_62, (congrArg wF.2.2 (by decide : 34 + 5 * 5 + 4 = 63)).trans ln_63⟩
  | 6, _ => exact ⟨(congrArg wF.2.2 (by decide : 34 + 5 * 6 + 1 = 65)).trans ln_65, (congrArg wF.2.2 (by decide : 34 + 5 * 6 + 3 = 67)).trans ln_67, (congrArg wF.2.2 (by decide : 34 + 5 * 6 + 4 = 68)).trans ln_68⟩
  | 7, _ => exact ⟨(congrArg wF.2.2 (by decide : 34 + 5 * 7 + 1 = 70)).trans ln_70, (congrArg wF.2.2 (by decide : 34 + 5 * 7 + 3 = 72)).trans ln_72, (congrArg wF.2.2 (by decide : 34 + 5 * 7 + 4 = 73)).trans ln_73⟩
/-- the row of OTHERS at x, or none -/
theorem f_get {N : Nat} {S M : rd_S} (hs : Sh S) (hz : RCz S M) (x : Int32) : (∃ sz, S.1 32 1 = nI sz ∧ M.1 76 53 = nI sz ∧ sz ≤ 8 ∧ ((x < 0 ∨ nI sz ≤ x) → F_X6_get wF 32 x S = some (none, S)) ∧ (∀ j, j < sz → x = nI j → ∃ k, k < 8 ∧ F_X6_get wF 32 x S = some (some (34 + 5 * k), S) ∧ (∀ i, i < 11 → S.1 (34 + 5 * k + 1) i = M.1 97 (11 * j + i)) ∧ S.1 (34 + 5 * k + 2) 7 = M.1 98 j ∧ RD (34 + 5 * k + 2) (3 + j) 4 2 8 S M)) := by
  obtain ⟨sz, π, h1, h2, h3, h4, h5, h6, h7⟩ := hz
  refine ⟨sz, h2, h3, h1, fun hx => ?_, fun j hj e => ?_⟩
  · simp only [F_X6_get, B_X6_get_18, B_X6_get_28, gI, h2]
    rcases hx with hx | hx
    · rw [if_pos hx]
    · rw [if_neg (fun q => absurd (Int32.lt_of_le_of_lt hx q) (nI_pos (by omega))), if_pos hx]
  · subst e
    obtain ⟨p1, p2⟩ := h4 j (by omega)
    obtain ⟨r1, r2, r3⟩ := h7 j hj
    refine ⟨π j, p1, ?_, r1, r2, r3⟩
    have hg : gR S 33 j = some (34 + 5 * π j) := p2
    simp only [F_X6_get, B_X6_get_18, B_X6_get_28, gI, h2, sh_32_0 hs, rd_cS, ln_33, rd_i]
    rw [if_neg (nI_pos (by omega)), if_neg (nI_ge hj (by omega)), if_pos (show nI j < (8 : Int32) from nI_lt (b := 8) (by omega) (by decide)), if_pos (rd_inN (by omega) (by decide)), nI_clamp (by omega), hg, rd_cS]
theorem o_other {N : Nat} {S : rd_S} (h : RC N S S) (x y : Int32) : ∃ v, F_X11_other wF 1 x y S = some (v, S) ∧ F_X12_other wF 76 x y S = some (v, th S) := by
  obtain ⟨hs, -, -, -, -, -, -, -, -, -, -, -, hz⟩ := h
  obtain ⟨sz, z1, z2, z3, z4, z5⟩ := f_get (N := N) hs hz x
  have t53 : (pI S 76 0 0).1 76 53 = S.1 76 53 := th_row (by decide)
  have t97 : (pI S 76 0 0).1 97 = S.1 97 := th_ne (by decide)
  have t98 : (pI S 76 0 0).1 98 = S.1 98 := th_ne (by decide)
  simp only [F_X11_other, B_X11_other_25, sh_1_2 hs, sh_13_7 hs, rd_cS, F_X12_other, B_X12_other_27, B_X12_other_55, rd_let, sh_76_51 hs.th, sh_76_52 hs.th, ln_97, ln_98, rd_i, gI, t53, t97, t98, z2]
  by_cases h0 : x < 0
  · rw [z4 (Or.inl h0), rd_bS, rd_mN, if_pos h0]; exact ⟨_, rfl, rfl⟩
  by_cases h1 : nI sz ≤ x
  · rw [z4 (Or.inr h1), rd_bS, rd_mN, if_neg h0, if_pos h1]; exact ⟨_, rfl, rfl⟩
  obtain ⟨j, hj, rfl⟩ := lt_nI (by omega) h0 (Int32.not_le.mp h1)
  obtain ⟨k, hk, e1, e2, e3, e4⟩ := z5 j hj rfl
  obtain ⟨g1, g2, g3, g4⟩ := gR_other hs hk
  obtain ⟨l1, l2, l3⟩ := ln_other hk
  rw [e1, rd_bS, rd_mS]
  simp only [F_X5_tell, B_X5_tell_24, g1, g2, rd_cS, f_at l1 (by decide), rd_bS, gI, e3, if_neg h0, if_neg h1]
  rcases pk_ix y (n := 12) (by decide) with y1 | y1 | ⟨i, hi, e⟩
  · have hy : ¬ y = 11 := fun q => by rw [q] at y1; exact absurd y1 (by decide)
    rw [if_neg hy, atF_neg y1, rd_bS, if_pos y1]; exact ⟨_, rfl, rfl⟩
  · have hy : ¬ y = 11 := fun q => by rw [q] at y1; exact absurd y1 (by decide)
    have y0 : ¬ y < 0 := fun q => absurd (Int32.lt_of_le_of_lt y1 q) (by decide)
    have y2 : ¬ y ≤ 11 := fun q => absurd (Int32.le_trans y1 q) (by decide)
    rw [if_neg hy, atF_big (Int32.le_trans (show nI 11 ≤ nI 12 by decide) y1) (by decide), rd_bS, if_neg y0, if_neg y2]; exact ⟨_, rfl, rfl⟩
  · subst e
    have y0 : ¬ nI i < 0 := nI_pos (by omega)
    have y2 : nI i ≤ 11 := nI_le (b := 11) (by omega) (by decide)
    rw [if_neg y0, if_pos y2]
    by_cases hy : i = 11
    · subst hy
      rw [if_pos (show nI 11 = 11 from rfl), rd_bS, if_pos (show (11 : Int32) ≤ nI 11 by decide), if_pos (rd_inN (by omega) (by decide)), nI_clamp (by omega)]
      exact ⟨_, rfl, rfl⟩
    · have hy1 : ¬ nI i = 11 := fun q => hy ((nI_eq (b := 11) (by omega) (by decide)).mp q)
      have hy2 : ¬ (11 : Int32) ≤ nI i := nI_ge (b := 11) (by omega) (by decide)
      have ei : (11 : Int32) * nI j + nI i = nI (11 * j + i) := by show nI 11 * nI j + nI i = _; rw [pk_mul, nI_add]
      rw [if_neg hy1, atF_nI (by omega) (by decide), rd_bS, if_neg hy2, ei, if_pos (rd_inN (by omega) (by decide)), nI_clamp (by omega), e2 i (by omega)]
      exact ⟨_, rfl, rfl⟩
theorem o_otherLetter {N : Nat} {S : rd_S} (h : RC N S S) (x y : Int32) : ∃ v, F_X11_otherLetter wF 1 x y S = some (v, S) ∧ F_X12_otherLetter wF 76 x y S = some (v, th S) := by
  obtain ⟨hs, -, -, -, -, -, -, -, -, -, -, -, hz⟩ := h
  obtain ⟨sz, z1, z2, z3, z4, z5⟩ := f_get (N := N) hs hz x
  have t53 : (pI S 76 0 0).1 76 53 = S.1 76 53 := th_row (by decide)
  have t90 : (pI S 76 0 0).1 90 = S.1 90 := th_ne (by decide)
  have t89 : (pI S 76 0 0).1 89 = S.1 89 := th_ne (by decide)
  simp only [F_X11_otherLetter, B_X11_otherLetter_28, sh_1_2 hs, sh_13_7 hs, rd_cS, F_X12_otherLetter, B_X12_otherLetter_49, B_X12_otherLetter_50, rd_let, sh_76_30 hs.th, sh_76_29 hs.th, ln_90, ln_89, rd_i, gI, t53, t90, t89, z2]
  by_cases h0 : x < 0
  · rw [z4 (Or.inl h0), rd_bS, rd_mN, if_pos h0]; exact ⟨_, rfl, rfl⟩
  by_cases h1 : nI sz ≤ x
  · rw [z4 (Or.inr h1), rd_bS, rd_mN, if_neg h0, if_pos h1]; exact ⟨_, rfl, rfl⟩
  obtain ⟨j, hj, rfl⟩ := lt_nI (by omega) h0 (Int32.not_le.mp h1)
  obtain ⟨k, hk, e1, e2, e3, e4⟩ := z5 j hj rfl
  obtain ⟨g1, g2, g3, g4⟩ := gR_other hs hk
  obtain ⟨l1, l2, l3⟩ := ln_other hk
  rw [e1, rd_bS, rd_mS, g2, rd_cS, f_byteAt g4 l3 (by decide), rd_bS, if_neg h0, if_neg h1]
  by_cases y0 : y < 0
  · rw [if_pos y0, atF_neg y0, ite_self]; exact ⟨_, rfl, rfl⟩
  · obtain ⟨i, hi, rfl⟩ := nI_of y0
    obtain ⟨r1, r2⟩ := rd_letter e4 (by decide) (by omega) hi
    have e3j : (3 : Int32) + nI j = nI (3 + j) := nI_add 3 j
    refine ⟨_, rfl, ?_⟩
    rw [r1, if_neg y0, e3j, if_pos (rd_inN (by omega) (by decide)), nI_clamp (by omega)]
    by_cases h9 : S.1 90 (3 + j) ≤ nI i
    · rw [if_pos h9, if_pos h9]
    · have ei : nI (3 + j) * 64 + nI i = nI (64 * (3 + j) + i) := by show nI (3 + j) * nI 64 + nI i = _; rw [pk_mul, nI_add, Nat.mul_comm (3 + j) 64]
      have := r2 h9
      rw [if_neg h9, if_neg h9, ei, if_pos (rd_inN (by omega) (by decide)), nI_clamp (by omega)]
