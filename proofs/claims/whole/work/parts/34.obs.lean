/-! What the calls that only look answer: the same on both sides. -/
theorem rd_b_id {α β : Type} (o : Option (α × β)) : rd_b o (fun x y => some (x, y)) = o := by cases o <;> rfl
/-- the model's object, its 'thrown' set -/
abbrev th (S : rd_S) : rd_S := pI S 76 0 0
theorem th_ne {S : rd_S} {a : Nat} (h : a ≠ 76) : (th S).1 a = S.1 a := pI_ne h
theorem th_row {S : rd_S} {k : Nat} (h : k ≠ 0) : (th S).1 76 k = S.1 76 k := pI_row h
theorem Sh.th {S : rd_S} (h : Sh S) : Sh (th S) := h
theorem nI_cases {x : Int32} {n : Nat} (h : ∀ k, k < n → ¬ x = nI k) (hn : n < 2 ^ 31) : x < 0 ∨ nI n ≤ x := by
  rcases pk_ix x hn with h1 | h1 | ⟨j, hj, e⟩
  · exact Or.inl h1
  · exact Or.inr h1
  · exact absurd e (h j hj)
theorem nI_ne_m1 {p : Nat} (h : p < 2 ^ 31) : ¬ nI p = -1 := fun q => nI_pos h (by rw [q]; decide)
theorem m1_lt0 : (-1 : Int32) < 0 := by decide
theorem tn_sub2 : ((2 : Int32) - 2).toNatClampNeg = 0 ∧ ((3 : Int32) - 2).toNatClampNeg = 1 ∧ ((4 : Int32) - 2).toNatClampNeg = 2 := by decide
theorem o_state {N : Nat} {S : rd_S} (h : RC N S S) (x : Int32) : ∃ v, F_X11_state wF 1 x S = some (v, S) ∧ F_X12_state wF 76 x S = some (v, th S) := by
  obtain ⟨hs, -, ⟨cnt, came, hb, -, -, -, ⟨b1, b2, b3, b4, b5, b6⟩, ⟨w1, w2, w3, w4, w5⟩, -, hd⟩, -, -⟩ := h
  simp only [F_X11_state, F_X7_tell, B_X7_tell_73, sh_1_0 hs, sh_2_3 hs, sh_2_1 hs, rd_cS, rd_b_id, rd_bS, f_at ln_9 (by decide), F_X12_state, B_X12_state_76, B_X12_state_82, B_X12_state_126, rd_let, sh_76_13 hs.th, ln_80, rd_i, gI]
  by_cases h0 : x = 0
  · subst h0
    simp +decide only [pI1, if_true, if_false]
    rcases hd with ⟨d1, d2⟩ | ⟨d1, p, v, hp, hv, hc, e1, e2, e3, e4, e5⟩
    · exact ⟨0, by rw [if_pos d2.1], by rw [if_pos d1]⟩
    · exact ⟨1, by rw [if_neg (by rw [e2]; exact nI_ne_m1 (by omega))], by rw [if_neg (by rw [d1]; decide)]⟩
  by_cases h1 : x = 1
  · subst h1; simp +decide only [pI1, if_true, if_false]; exact ⟨_, rfl, by rw [b1]⟩
  by_cases h2 : x = 2
  · subst h2; simp +decide only [pI1, if_true, if_false]; exact ⟨_, rfl, by rw [tn_sub2.1, ← b2 0 (by decide)]; rfl⟩
  by_cases h3 : x = 3
  · subst h3; simp +decide only [pI1, if_true, if_false]; exact ⟨_, rfl, by rw [tn_sub2.2.1, ← b2 1 (by decide)]; rfl⟩
  by_cases h4 : x = 4
  · subst h4; simp +decide only [pI1, if_true, if_false]; exact ⟨_, rfl, by rw [tn_sub2.2.2, ← b2 2 (by decide)]; rfl⟩
  by_cases h5 : x = 5
  · subst h5; simp +decide only [pI1, if_true, if_false]; exact ⟨_, rfl, by rw [b3]⟩
  by_cases h6 : x = 6
  · subst h6; simp +decide only [pI1, if_true, if_false]; exact ⟨_, rfl, by rw [b4]⟩
  by_cases h7 : x = 7
  · subst h7; simp +decide only [pI1, if_true, if_false]; exact ⟨_, rfl, by rw [b5]⟩
  by_cases h8 : x = 8
  · subst h8; simp +decide only [pI1, if_true, if_false]; exact ⟨_, rfl, by rw [b6]⟩
  by_cases h9 : x = 9
  · subst h9
    simp +decide only [pI1, if_true, if_false]
    rcases hd with ⟨d1, d2⟩ | ⟨d1, p, v, hp, hv, hc, e1, e2, e3, e4, e5⟩
    · exact ⟨-1, by rw [d2.1], by rw [if_pos d1]⟩
    · exact ⟨nI p, by rw [e2], by rw [if_neg (by rw [d1]; decide), e1]⟩
  by_cases h10 : x = 10
  · subst h10; simp +decide only [pI1, if_true, if_false]; exact ⟨_, rfl, by rw [w4]⟩
  simp only [h0, h1, h2, h3, h4, h5, h6, h7, h8, h9, h10, if_false]
  exact ⟨_, rfl, rfl⟩

theorem rd_inN {k n : Nat} (h : k < n) (hn : n < 2 ^ 31) : rd_in (nI k) n := nI_in h hn
theorem o_programme {N : Nat} {S : rd_S} (h : RC N S S) (x : Int32) : ∃ v, F_X11_programme wF 1 x S = some (v, S) ∧ F_X12_programme wF 76 x S = some (v, th S) := by
  obtain ⟨hs, -, -, -, hk, -⟩ := h
  simp only [F_X11_programme, sh_1_2 hs, sh_13_0 hs, rd_cS, rd_b_id, f_at ln_14 (by decide), F_X12_programme, B_X12_programme_24, B_X12_programme_25, rd_let, sh_76_25 hs.th, ln_85, rd_i, gI]
  refine ⟨_, rfl, ?_⟩
  rcases pk_ix x (n := 10) (by decide) with h1 | h1 | ⟨j, hj, e⟩
  · rw [atF_neg h1, if_pos h1]
  · have h0 : ¬ x < 0 := fun q => absurd (Int32.lt_of_le_of_lt h1 q) (by decide)
    rw [atF_big h1 (by decide), if_neg h0, if_pos (show (10 : Int32) ≤ x from h1)]
  · subst e
    rw [atF_nI hj (by decide), if_neg (nI_pos (by omega)), if_neg (show ¬ (10 : Int32) ≤ nI j from nI_ge hj (by decide)), if_pos (rd_inN hj (by decide)), nI_clamp (by omega), pI_ne (by decide), hk j hj]
theorem o_reports {N : Nat} {S : rd_S} (h : RC N S S) (x : Int32) : ∃ v, F_X11_reports wF 1 x S = some (v, S) ∧ F_X12_reports wF 76 x S = some (v, th S) := by
  obtain ⟨hs, -, -, -, -, ⟨-, -, hn, -⟩, ⟨-, -, hx, -⟩, ⟨-, -, hi, -⟩, ⟨hl, -⟩, ⟨ht, -⟩, -, ⟨hq, -⟩, -⟩ := h
  simp only [F_X11_reports, sh_1_2 hs, sh_13_1 hs, sh_13_2 hs, sh_13_3 hs, sh_13_4 hs, sh_13_5 hs, sh_13_8 hs, rd_cS, F_X12_reports, B_X12_reports_24, B_X12_reports_25, rd_let, sh_76_26 hs.th, ln_86, rd_i, gI]
  by_cases h0 : x = 0
  · subst h0; simp +decide only [pI1, if_true, if_false]; exact ⟨_, rfl, by rw [hn]; rfl⟩
  by_cases h1 : x = 1
  · subst h1; simp +decide only [pI1, if_true, if_false]; exact ⟨_, rfl, by rw [hx]; rfl⟩
  by_cases h2 : x = 2
  · subst h2; simp +decide only [pI1, if_true, if_false]; exact ⟨_, rfl, by rw [hi]; rfl⟩
  by_cases h3 : x = 3
  · subst h3; simp +decide only [pI1, if_true, if_false]; exact ⟨_, rfl, by rw [hl]; rfl⟩
  by_cases h4 : x = 4
  · subst h4; simp +decide only [pI1, if_true, if_false]; exact ⟨_, rfl, by rw [ht]; rfl⟩
  by_cases h5 : x = 5
  · subst h5; simp +decide only [pI1, if_true, if_false]; exact ⟨_, rfl, by rw [hq]; rfl⟩
  simp only [h0, h1, h2, h3, h4, h5, if_false]
  refine ⟨_, rfl, ?_⟩
  rcases nI_cases (x := x) (n := 6) (fun k hk => by match k, hk with | 0, _ => exact h0 | 1, _ => exact h1 | 2, _ => exact h2 | 3, _ => exact h3 | 4, _ => exact h4 | 5, _ => exact h5) (by decide) with h9 | h9
  · rw [if_pos h9]
  · rw [if_neg (fun q => absurd (Int32.lt_of_le_of_lt h9 q) (by decide)), if_pos (show (6 : Int32) ≤ x from h9)]
theorem o_marks {N : Nat} {S : rd_S} (h : RC N S S) (x : Int32) : ∃ v, F_X11_marks wF 1 x S = some (v, S) ∧ F_X12_marks wF 76 x S = some (v, th S) := by
  obtain ⟨hs, -, -, -, -, ⟨-, -, -, _, _, -, -, n1, n2, -⟩, ⟨-, -, -, hx⟩, ⟨-, -, -, ⟨_, _, -, -, i1, i2, -⟩, -⟩, -⟩ := h
  have hx' : S.1 18 4 = S.1 88 1 := by
    rcases hx with ⟨-, -, -, _, _, -, -, x1, x2, -⟩ | ⟨_, _, -, -, -, -, _, _, -, -, x1, x2, -⟩
    · rw [x1, x2]
    · rw [x1, x2]
  simp only [F_X11_marks, sh_1_2 hs, sh_13_1 hs, sh_13_2 hs, sh_13_3 hs, rd_cS, F_X12_marks, B_X12_marks_23, B_X12_marks_24, rd_let, sh_76_28 hs.th, ln_88, rd_i, gI]
  by_cases h0 : x = 0
  · subst h0; simp +decide only [pI1, if_true, if_false]; exact ⟨_, rfl, by rw [n1, ← n2]; rfl⟩
  by_cases h1 : x = 1
  · subst h1; simp +decide only [pI1, if_true, if_false]; exact ⟨_, rfl, by rw [hx']; rfl⟩
  by_cases h2 : x = 2
  · subst h2; simp +decide only [pI1, if_true, if_false]; exact ⟨_, rfl, by rw [i1, ← i2]; rfl⟩
  simp only [h0, h1, h2, if_false]
  refine ⟨_, rfl, ?_⟩
  rcases nI_cases (x := x) (n := 3) (fun k hk => by match k, hk with | 0, _ => exact h0 | 1, _ => exact h1 | 2, _ => exact h2) (by decide) with h9 | h9
  · rw [if_pos h9]
  · rw [if_neg (fun q => absurd (Int32.lt_of_le_of_lt h9 q) (by decide)), if_pos (show (3 : Int32) ≤ x from h9)]
theorem o_tag {N : Nat} {S : rd_S} (h : RC N S S) (x : Int32) : ∃ v, F_X11_tag wF 1 x S = some (v, S) ∧ F_X12_tag wF 76 x S = some (v, th S) := by
  obtain ⟨hs, -, -, -, -, -, -, -, -, -, -, ⟨-, hq⟩, -⟩ := h
  simp only [F_X11_tag, sh_1_2 hs, sh_13_8 hs, sh_74_0 hs, rd_cS, rd_b_id, f_at ln_75 (by decide), F_X12_tag, B_X12_tag_31, B_X12_tag_32, rd_let, sh_76_44 hs.th, ln_96, rd_i, gI]
  have t45 : (pI S 76 0 0).1 76 45 = S.1 76 45 := th_row (by decide)
  simp only [t45]
  refine ⟨_, rfl, ?_⟩
  rcases hq with ⟨q0, q1⟩ | ⟨q0, q1, -⟩
  · rw [if_pos q0]
    congr 2
    rcases pk_ix x (n := 8) (by decide) with h1 | h1 | ⟨j, hj, e⟩
    · rw [atF_neg h1]
    · rw [atF_big h1 (by decide)]
    · subst e; rw [atF_nI hj (by decide), q1 j hj]
  · rw [if_neg (by rw [q0]; decide)]
    rcases pk_ix x (n := 8) (by decide) with h1 | h1 | ⟨j, hj, e⟩
    · rw [atF_neg h1, if_pos h1]
    · rw [atF_big h1 (by decide), if_neg (fun q => absurd (Int32.lt_of_le_of_lt h1 q) (by decide)), if_pos (show (8 : Int32) ≤ x from h1)]
    · subst e
      rw [atF_nI hj (by decide), if_neg (nI_pos (by omega)), if_neg (show ¬ (8 : Int32) ≤ nI j from nI_ge hj (by decide)), if_pos (rd_inN hj (by decide)), nI_clamp (by omega), pI_ne (by decide), q1 j hj]
theorem lt_nI {x : Int32} {n : Nat} (hn : n < 2 ^ 31) (h0 : ¬ x < 0) (h : x < nI n) : ∃ j, j < n ∧ x = nI j := by
  obtain ⟨j, hj, rfl⟩ := nI_of h0
  exact ⟨j, (nI_ltI hj hn).mp h, rfl⟩
theorem o_frequency {N : Nat} {S : rd_S} (h : RC N S S) (x : Int32) : ∃ v, F_X11_frequency wF 1 x S = some (v, S) ∧ F_X12_frequency wF 76 x S = some (v, th S) := by
  obtain ⟨hs, -, -, -, -, -, -, -, ⟨-, -, -, ⟨ln, l1, l2, l3, l4⟩, -⟩, -⟩ := h
  simp only [F_X11_frequency, F_X2_entry, B_X2_entry_20, sh_1_2 hs, sh_13_4 hs, sh_24_1 hs, rd_cS, rd_b_id, rd_bS, f_at ln_26 (by decide), F_X12_frequency, B_X12_frequency_26, B_X12_frequency_27, rd_let, sh_76_33 hs.th, ln_91, rd_i, gI]
  have t35 : (pI S 76 0 0).1 76 35 = S.1 76 35 := th_row (by decide)
  simp only [t35, l2]
  by_cases h0 : x < 0
  · rw [if_pos h0]
    refine ⟨-1, ?_, rfl⟩
    by_cases h1 : nI ln ≤ x
    · rw [if_pos h1]
    · rw [if_neg h1, atF_neg h0]
  · rw [if_neg h0]
    by_cases h1 : nI ln ≤ x
    · rw [if_pos h1]
      refine ⟨-1, rfl, ?_⟩
      rcases l3 with l3 | ⟨l3, -⟩
      · rw [if_pos (by rw [l3]; exact h1)]
      · rw [if_pos (by rw [l3]; exact Int32.le_trans (by decide) (Int32.not_lt.mp h0))]
    · obtain ⟨j, hj, rfl⟩ := lt_nI (by omega) h0 (Int32.not_le.mp h1)
      rw [if_neg h1, atF_nI (by omega) (by decide)]
      refine ⟨_, rfl, ?_⟩
      rcases l3 with l3 | ⟨l3, l5⟩
      · rw [if_neg (by rw [l3]; exact h1), if_pos (rd_inN (by omega) (by decide)), nI_clamp (by omega), pI_ne (by decide), l4 j hj]
      · omega
theorem o_oda {N : Nat} {S : rd_S} (h : RC N S S) (x y : Int32) : ∃ v, F_X11_oda wF 1 x y S = some (v, S) ∧ F_X12_oda wF 76 x y S = some (v, th S) := by
  obtain ⟨hs, -, -, -, -, -, -, -, -, -, ⟨sz, o1, o2, o3, o4⟩, -⟩ := h
  simp only [F_X11_oda, F_X4_tell, sh_1_2 hs, sh_13_6 hs, sh_28_0 hs, sh_28_1 hs, sh_28_2 hs, rd_cS, rd_b_id, f_at ln_29 (by decide), f_at ln_30 (by decide), f_at ln_31 (by decide), F_X12_oda, B_X12_oda_17, B_X12_oda_61, rd_let, sh_76_40 hs.th, sh_76_41 hs.th, sh_76_42 hs.th, ln_93, ln_94, ln_95, rd_i, gI]
  have t43 : (pI S 76 0 0).1 76 43 = S.1 76 43 := th_row (by decide)
  simp only [t43, o2, o3]
  by_cases h1 : x < nI sz
  · by_cases h0 : x < 0
    · simp only [if_pos h0, if_pos h1, atF_neg h0]
      refine ⟨-1, ?_, rfl⟩
      by_cases y0 : y = 0
      · rw [if_pos y0]
      by_cases y1 : y = 1
      · rw [if_neg y0, if_pos y1]
      by_cases y2 : y = 2
      · rw [if_neg y0, if_neg y1, if_pos y2]
      · rw [if_neg y0, if_neg y1, if_neg y2]
    · obtain ⟨j, hj, rfl⟩ := lt_nI (by omega) h0 h1
      obtain ⟨p1, p2, p3⟩ := o4 j hj
      have hin : rd_in (nI j) 8 := rd_inN (by omega) (by decide)
      simp only [if_pos h1, if_neg h0, atF_nI (show j < 8 by omega) (by decide), if_pos hin, nI_clamp (show j < 2 ^ 31 by omega), p1, p2, p3]
      by_cases y0 : y = 0
      · simp only [if_pos y0]; exact ⟨_, rfl, by rw [pI_ne (by decide)]⟩
      by_cases y1 : y = 1
      · simp only [if_neg y0, if_pos y1]; exact ⟨_, rfl, by rw [pI_ne (by decide)]⟩
      by_cases y2 : y = 2
      · simp only [if_neg y0, if_neg y1, if_pos y2]; exact ⟨_, rfl, by rw [pI_ne (by decide)]⟩
      · simp only [if_neg y0, if_neg y1, if_neg y2]; exact ⟨_, rfl, rfl⟩
  · rw [if_neg h1]
    refine ⟨-1, rfl, ?_⟩
    by_cases h0 : x < 0
    · rw [if_pos h0]
    · rw [if_neg h0, if_neg h1]
