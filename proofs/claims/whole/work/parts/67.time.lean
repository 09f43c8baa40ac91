/-! time: the same on both sides. -/
theorem mi_lo : ∀ i, i < 28 → ∀ j, j < 30 → (¬ (0 : Int32) ≤ nI (30 * i + j) - 840) ∧ fdF (nI (30 * i + j) - 840) 1440 = -1 ∧ nI (30 * i + j) - 840 + 1440 = nI (30 * i + j + 600) ∧ fmF (nI (30 * i + j) - 840) 1440 = nI (30 * i + j + 600) ∧ fmF (nI (30 * i + j) - 840) 60 = nI ((30 * i + j + 600) % 60) := by decide +kernel
theorem off_p : ∀ o, o < 29 → 30 * nI o = nI (840 + 30 * o) - 840 := by decide +kernel
theorem off_m : ∀ o, o < 29 → 30 * (-nI o) = nI (840 - 30 * o) - 840 := by decide +kernel
theorem rem_60 {a : Nat} (ha : a < 2 ^ 31) : rd_rem (nI a) 60 = nI (a % 60) := pk_rem (d := 60) ha (by decide) (by decide)
/-- the model's local day and minutes, against the class's -/
theorem mi_tm {a D : Nat} (ha : a < 3120) (hD : D < 131072) (v : Int32) (hv : v = nI a - 840) (x : Int32) (M : rd_S) (h46 : M.1 76 46 = nI D) :
    ∃ d t : Nat, d ≤ 131073 ∧ t < 1440 ∧ (if 0 ≤ v then (if v ≤ 1439 then (B_X12_time_68 wF 76 x v (gI M 76 46) M) else (B_X12_time_68 wF 76 x v ((gI M 76 46) + 1) M)) else (B_X12_time_68 wF 76 x v ((gI M 76 46) - 1) M)) = B_X12_time_97 wF 76 x (nI d - 1) (nI t) M ∧
    nI D + fdF v 1440 = nI d - 1 ∧ fmF v 1440 = nI t ∧ fmF v 60 = nI (t % 60) := by
  rw [show gI M 76 46 = nI D from h46]
  unfold B_X12_time_68
  subst hv
  rcases Nat.lt_or_ge a 840 with h | h
  · obtain ⟨q1, q2, q3, q4, q5⟩ := mi_lo (a / 30) (by omega) (a % 30) (by omega)
    rw [show 30 * (a / 30) + a % 30 = a by omega] at q1 q2 q3 q4 q5
    refine ⟨D, a + 600, by omega, by omega, ?_, ?_, q4, q5⟩
    · rw [if_neg q1, if_neg q1, q3]
    · rw [q2, Int32.sub_eq_add_neg]
  · have e : nI a - 840 = nI (a - 840) := pk_sub (b := 840) h
    rw [e]
    have p0 : (0 : Int32) ≤ nI (a - 840) := nI_pos' (by omega)
    have fd : fdF (nI (a - 840)) 1440 = nI ((a - 840) / 1440) := fd_pos (b := 1440) (by omega) (by decide) (by decide)
    have fm : fmF (nI (a - 840)) 1440 = nI ((a - 840) % 1440) := fm_pos (b := 1440) (by omega) (by decide) (by decide)
    have f6 : fmF (nI (a - 840)) 60 = nI ((a - 840) % 60) := fm_pos (b := 60) (by omega) (by decide) (by decide)
    rw [fd, fm, f6, if_pos p0, if_pos p0, if_pos p0]
    rcases Nat.lt_or_ge a 2280 with h2 | h2
    · have p1 : nI (a - 840) ≤ 1439 := nI_le (b := 1439) (by omega) (by decide)
      refine ⟨D + 1, a - 840, by omega, by omega, ?_, ?_, ?_, rfl⟩
      · rw [if_pos p1, if_pos p1, nI_pred]
      · rw [nI_pred, show (a - 840) / 1440 = 0 by omega, nI_0, Int32.add_zero]
      · exact congrArg nI (by omega)
    · have p1 : ¬ nI (a - 840) ≤ 1439 := nI_ge (a := 1439) (by omega) (by omega)
      refine ⟨D + 2, a - 2280, by omega, by omega, ?_, ?_, ?_, ?_⟩
      · rw [if_neg p1, if_neg p1, nI_pred, nI_1, show nI (a - 840) - 1440 = nI (a - 840 - 1440) from pk_sub (b := 1440) (by omega), show a - 840 - 1440 = a - 2280 by omega]
      · rw [nI_pred, show (a - 840) / 1440 = 1 by omega]; exact nI_1 D
      · exact congrArg nI (by omega)
      · exact congrArg nI (by omega)
theorem o_time {N : Nat} {S : rd_S} (hN : N ≤ 1000000) (h : RC N S S) (x : Int32) : ∃ v, F_X11_time wF 1 x S = some (v, S) ∧ F_X12_time wF 76 x S = some (v, th S) := by
  obtain ⟨hs, -, -, -, ⟨-, -, -, -, -, ⟨-, t2⟩, -, -, -⟩⟩ := h
  unfold F_X11_time
  rw [sh_1_2 hs, rd_cN, sh_13_5 hs, rd_cN, rd_b_id]
  have g50 : gI (th S) 76 50 = S.1 76 50 := th_row (by decide)
  have g46 : (th S).1 76 46 = S.1 76 46 := th_row (by decide)
  have g47 : gI (th S) 76 47 = S.1 76 47 := th_row (by decide)
  have g48 : gI (th S) 76 48 = S.1 76 48 := th_row (by decide)
  have g49 : gI (th S) 76 49 = S.1 76 49 := th_row (by decide)
  rcases t2 with ⟨u1, u2⟩ | ⟨u1, q, D, hh, mm, o, q1, q2, q3, hD, hhh, hmm, ho, v46, v47, v48, v49, s0, s1, s2, s3⟩
  · refine ⟨-1, ?_, ?_⟩
    · unfold F_X0_tell
      rw [if_pos (show gI S 27 4 = 0 from u2)]
    · unfold F_X12_time
      rw [rd_letN, show gI (pI S 76 0 0) 76 50 = S.1 76 50 from g50, if_pos u1]
  · have oo : ∃ w : Nat, w ≤ 1680 ∧ 30 * S.1 76 49 = nI w - 840 := by
      rcases v49 with e | e
      · rw [e]; exact ⟨840 + 30 * o, by omega, off_p o (by omega)⟩
      · rw [e]; exact ⟨840 - 30 * o, by omega, off_m o (by omega)⟩
    obtain ⟨w, hw, ew⟩ := oo
    have ev : nI hh * 60 + nI mm + 30 * S.1 76 49 = nI (hh * 60 + mm + w) - 840 := by
      have e1 : nI hh * 60 = nI (hh * 60) := pk_mul hh 60
      rw [ew, e1, nI_add, Int32.sub_eq_add_neg, Int32.sub_eq_add_neg, ← Int32.add_assoc, nI_add]
    generalize hv : nI hh * 60 + nI mm + 30 * S.1 76 49 = v at ev
    obtain ⟨d, t, hd, ht, k1, k2, k3, k4⟩ := mi_tm (a := hh * 60 + mm + w) (by omega) hD v ev x (th S) (by rw [g46]; exact v46)
    have eM : F_X12_time wF 76 x S = B_X12_time_97 wF 76 x (nI d - 1) (nI t) (th S) := by
      unfold F_X12_time
      rw [rd_letN, show gI (pI S 76 0 0) 76 50 = S.1 76 50 from g50, u1, if_neg (by decide), show gI (pI S 76 0 0) 76 47 = S.1 76 47 from g47, show gI (pI S 76 0 0) 76 48 = S.1 76 48 from g48, show gI (pI S 76 0 0) 76 49 = S.1 76 49 from g49, v47, v48, hv, rd_letN]
      exact k1
    have lm : F_X0_localMinutes wF 27 S = some (v, S) := by
      unfold F_X0_localMinutes
      rw [show gI S 27 1 = nI hh from s1.trans v47, show gI S 27 2 = nI mm from s2.trans v48, show gI S 27 3 = S.1 76 49 from s3, hv]
    have ld : F_X0_localDay wF 27 S = some (nI d - 1, S) := by
      unfold F_X0_localDay
      rw [lm, rd_bN, f_fd (by decide), rd_bN, show gI S 27 0 = nI D from s0.trans v46, k2]
    have z0 : gI S 27 0 = nI D := s0.trans v46
    have z4 : ¬ gI S 27 4 = 0 := by show ¬ S.1 27 4 = 0; rw [q3]; exact nI_ne0 (by omega) (by omega)
    have eD : nI D = nI (D + 1) - 1 := (nI_pred D).symm
    rw [eM]
    unfold F_X0_tell B_X12_time_97 B_X12_time_188 B_X12_time_209
    rw [if_neg z4, lm, ld, z0, show gI (th S) 76 46 = nI D from g46.trans v46, g47, g48, g49]
    simp only [rd_bN, rd_b_id]
    by_cases h0 : x = 0
    · rw [if_pos h0, if_pos h0]; exact ⟨_, rfl, rfl⟩
    rw [if_neg h0, if_neg h0]
    by_cases h1 : x = 1
    · rw [if_pos h1, if_pos h1]; exact ⟨_, rfl, by rw [← s1]⟩
    rw [if_neg h1, if_neg h1]
    by_cases h2 : x = 2
    · rw [if_pos h2, if_pos h2]; exact ⟨_, rfl, by rw [← s2]⟩
    rw [if_neg h2, if_neg h2]
    by_cases h3 : x = 3
    · rw [if_pos h3, if_pos h3]; exact ⟨_, rfl, by rw [← s3]⟩
    rw [if_neg h3, if_neg h3]
    by_cases h4 : x = 4
    · obtain ⟨v, e1, e2⟩ := t_date (d := D + 1) (by omega) 0 S (th S)
      rw [if_pos h4, if_pos h4, h4, show (4 : Int32) - 4 = 0 by decide, eD]; exact ⟨v, e1, e2⟩
    rw [if_neg h4, if_neg h4]
    by_cases h5 : x = 5
    · obtain ⟨v, e1, e2⟩ := t_date (d := D + 1) (by omega) 1 S (th S)
      rw [if_pos h5, if_pos h5, h5, show (5 : Int32) - 4 = 1 by decide, eD]; exact ⟨v, e1, e2⟩
    rw [if_neg h5, if_neg h5]
    by_cases h6 : x = 6
    · obtain ⟨v, e1, e2⟩ := t_date (d := D + 1) (by omega) 2 S (th S)
      rw [if_pos h6, if_pos h6, h6, show (6 : Int32) - 4 = 2 by decide, eD]; exact ⟨v, e1, e2⟩
    rw [if_neg h6, if_neg h6]
    by_cases h7 : x = 7
    · have e2 : nI D + 2 = nI (D + 2) := nI_add D 2
      have e3 : fmF (nI (D + 2)) 7 = nI ((D + 2) % 7) := fm_pos (b := 7) (by omega) (by decide) (by decide)
      have e4 : rd_rem (nI (D + 2)) 7 = nI ((D + 2) % 7) := pk_rem (d := 7) (by omega) (by decide) (by decide)
      rw [if_pos h7, if_pos h7, e2, f_fm (by decide), e3, e4]; exact ⟨_, rfl, rfl⟩
    rw [if_neg h7, if_neg h7]
    by_cases h8 : x = 8
    · obtain ⟨v, e1, e2⟩ := t_date hd 0 S (th S)
      rw [if_pos h8, if_pos h8, h8, show (8 : Int32) - 8 = 0 by decide]; exact ⟨v, e1, e2⟩
    rw [if_neg h8, if_neg h8]
    by_cases h9 : x = 9
    · obtain ⟨v, e1, e2⟩ := t_date hd 1 S (th S)
      rw [if_pos h9, if_pos h9, h9, show (9 : Int32) - 8 = 1 by decide]; exact ⟨v, e1, e2⟩
    rw [if_neg h9, if_neg h9]
    by_cases h10 : x = 10
    · obtain ⟨v, e1, e2⟩ := t_date hd 2 S (th S)
      rw [if_pos h10, if_pos h10, h10, show (10 : Int32) - 8 = 2 by decide]; exact ⟨v, e1, e2⟩
    rw [if_neg h10, if_neg h10]
    by_cases h11 : x = 11
    · rw [if_pos h11, if_pos h11, f_fm (by decide), rd_bN, k3]; exact ⟨_, rfl, rfl⟩
    rw [if_neg h11, if_neg h11]
    by_cases h12 : x = 12
    · rw [if_pos h12, if_pos h12, f_fm (by decide), k4, rem_60 (by omega)]; exact ⟨_, rfl, rfl⟩
    rw [if_neg h12, if_neg h12]
    exact ⟨_, rfl, rfl⟩
