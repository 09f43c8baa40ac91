/-! Further calls that only look. -/
theorem atF_all {f : Nat → Int32} {n : Nat} {x : Int32} (h : ∀ k, k < n → f k = -1) (hn : n < 2 ^ 31) : atF f n x = -1 := by
  rcases pk_ix x hn with h1 | h1 | ⟨j, hj, e⟩
  · exact atF_neg h1
  · exact atF_big h1 hn
  · subst e; rw [atF_nI hj hn, h j hj]
theorem f_knows {g i : Nat} {S : rd_S} (hR : gR S g 0 = some i) (hl : wF.2.2 i = 4) {k : Nat} (hk : k < 4) : F_X3_knows wF g (nI k) S = some (if S.1 i k = -1 then 0 else 1, S) := by
  simp only [F_X3_knows, B_X3_knows_23, B_X3_knows_24, hR, rd_cS, hl, gI, rd_i]
  rw [if_neg (nI_pos (by omega)), if_neg (show ¬ (4 : Int32) ≤ nI k from nI_ge hk (by decide)), if_pos (rd_inN hk (by decide)), nI_clamp (by omega)]
  by_cases h : S.1 i k = -1
  · rw [if_pos h, if_pos h, rd_zT _ (by decide)]
  · rw [if_neg h, if_neg h, rd_zT _ (by decide)]
theorem f_what {g i : Nat} {S : rd_S} (hR : gR S g 0 = some i) (hl : wF.2.2 i = 4) {k : Nat} (hk : k < 4) : F_X3_what wF g (nI k) S = some (S.1 i k, S) := by
  simp only [F_X3_what, B_X3_what_9, B_X3_what_19, hR, rd_cS, hl, gI, rd_i]
  rw [if_neg (nI_pos (by omega)), if_pos (show nI k < (4 : Int32) from nI_lt hk (by decide)), if_pos (rd_inN hk (by decide)), nI_clamp (by omega)]
theorem f_tv {g i : Nat} {S : rd_S} (hR : gR S g 0 = some i) (hl : wF.2.2 i = 4) : F_X3_typeAndVersion wF g S = some (if S.1 i 1 = -1 then -1 else rd_ush (S.1 i 1) 11, S) := by
  have e1 : F_X3_knows wF g 1 S = some (if S.1 i 1 = -1 then 0 else 1, S) := f_knows hR hl (k := 1) (by decide)
  have e2 : F_X3_what wF g 1 S = some (S.1 i 1, S) := f_what hR hl (k := 1) (by decide)
  simp only [F_X3_typeAndVersion, B_X3_typeAndVersion_20, e1, e2, rd_bS]
  by_cases h : S.1 i 1 = -1
  · simp only [if_pos h, if_true]
  · simp +decide only [if_neg h, if_false]
theorem o_group {N : Nat} {S : rd_S} (h : RC N S S) (x : Int32) : ∃ v, F_X11_group wF 1 x S = some (v, S) ∧ F_X12_group wF 76 x S = some (v, th S) := by
  obtain ⟨hs, -, -, hg, -⟩ := h
  have t23 : (pI S 76 0 0).1 76 23 = S.1 76 23 := th_row (by decide)
  have t24 : (pI S 76 0 0).1 76 24 = S.1 76 24 := th_row (by decide)
  have t83 : (pI S 76 0 0).1 83 = S.1 83 := th_ne (by decide)
  have t84 : (pI S 76 0 0).1 84 = S.1 84 := th_ne (by decide)
  simp only [F_X11_group, F_X3_tell, B_X3_tell_37, sh_1_1 hs, sh_10_1 hs, sh_10_0 hs, rd_cS, rd_b_id, rd_bS, f_tv (sh_10_0 hs) ln_11, f_at ln_12 (by decide), f_at ln_11 (by decide), F_X12_group, B_X12_group_22, B_X12_group_59, rd_let, sh_76_21 hs.th, sh_76_22 hs.th, ln_83, ln_84, rd_i, gI, t23, t24, t83, t84]
  rcases hg with ⟨g0, g1⟩ | ⟨g0, g1, g2⟩
  · simp only [if_pos g0, (g1 1 (by decide)).1, if_true, atF_all (fun k hk => (g1 k hk).1) (show 4 < 2 ^ 31 by decide), atF_all (fun k hk => (g1 k hk).2) (show 4 < 2 ^ 31 by decide)]
    refine ⟨-1, ?_, rfl⟩
    by_cases h8 : x = 8
    · rw [if_pos h8]
    · rw [if_neg h8]
      by_cases h4 : 4 ≤ x
      · rw [if_pos h4]
      · rw [if_neg h4]
  · have g0' : ¬ S.1 76 24 = 0 := by rw [g0]; decide
    simp only [if_neg g0']
    rcases pk_ix x (n := 9) (by decide) with h1 | h1 | ⟨j, hj, e⟩
    · have h8 : ¬ x = 8 := fun q => by rw [q] at h1; exact absurd h1 (by decide)
      have h4 : ¬ 4 ≤ x := fun q => absurd (Int32.lt_of_le_of_lt q h1) (by decide)
      simp only [if_pos h1, if_neg h8, if_neg h4, atF_neg h1]
      exact ⟨_, rfl, rfl⟩
    · have h9 : (9 : Int32).toInt ≤ x.toInt := Int32.le_iff_toInt_le.mp h1
      have e9 : (9 : Int32).toInt = 9 := by decide
      rw [e9] at h9
      have hx := Int32.toInt_lt x
      have h8 : ¬ x = 8 := fun q => by rw [q] at h9; exact absurd h9 (by decide)
      have h4 : 4 ≤ x := Int32.le_iff_toInt_le.mpr (by have : (4 : Int32).toInt = 4 := by decide
                                                       omega)
      have h0 : ¬ x < 0 := fun q => absurd (Int32.lt_of_le_of_lt h4 q) (by decide)
      have h10 : ¬ x ≤ 8 := fun q => by have := Int32.le_iff_toInt_le.mp q; have e8 : (8 : Int32).toInt = 8 := by decide
                                        omega
      obtain ⟨j, hj, rfl⟩ := nI_of h0
      rw [nI_toInt hj] at h9
      have e4 : nI j - 4 = nI (j - 4) := pk_sub (b := 4) (by omega)
      simp only [if_neg h8, if_pos h4, if_neg h0, if_neg h10, e4, atF_big (f := S.1 12) (n := 4) (x := nI (j - 4)) (nI_le (by omega) (by omega)) (by decide)]
      exact ⟨_, rfl, rfl⟩
    · subst e
      have a0 := g1 0 (by decide)
      have a1 := g1 1 (by decide)
      have a2 := g1 2 (by decide)
      have a3 := g1 3 (by decide)
      have q0 : ∀ f : Nat → Int32, atF f 4 (nI 0) = f 0 := fun f => atF_nI (by decide) (by decide)
      have q1 : ∀ f : Nat → Int32, atF f 4 (nI 1) = f 1 := fun f => atF_nI (by decide) (by decide)
      have q2 : ∀ f : Nat → Int32, atF f 4 (nI 2) = f 2 := fun f => atF_nI (by decide) (by decide)
      have q3 : ∀ f : Nat → Int32, atF f 4 (nI 3) = f 3 := fun f => atF_nI (by decide) (by decide)
      match j, hj with
      | 0, _ => simp +decide only [if_true, if_false]; exact ⟨_, rfl, by rw [q0, a0.1]; rfl⟩
      | 1, _ => simp +decide only [if_true, if_false]; exact ⟨_, rfl, by rw [q1, a1.1]; rfl⟩
      | 2, _ => simp +decide only [if_true, if_false]; exact ⟨_, rfl, by rw [q2, a2.1]; rfl⟩
      | 3, _ => simp +decide only [if_true, if_false]; exact ⟨_, rfl, by rw [q3, a3.1]; rfl⟩
      | 4, _ => simp +decide only [if_true, if_false]; exact ⟨_, rfl, by rw [show nI 4 - 4 = nI 0 from rfl, q0, a0.2.1]; rfl⟩
      | 5, _ => simp +decide only [if_true, if_false]; exact ⟨_, rfl, by rw [show nI 5 - 4 = nI 1 from rfl, q1, a1.2.1]; rfl⟩
      | 6, _ => simp +decide only [if_true, if_false]; exact ⟨_, rfl, by rw [show nI 6 - 4 = nI 2 from rfl, q2, a2.2.1]; rfl⟩
      | 7, _ => simp +decide only [if_true, if_false]; exact ⟨_, rfl, by rw [show nI 7 - 4 = nI 3 from rfl, q3, a3.2.1]; rfl⟩
      | 8, _ => simp +decide only [if_true, if_false]; exact ⟨_, rfl, by rw [g2, a1.1]⟩
theorem f_byteAt {d f cap : Nat} {S : rd_S} (hR : gR S d 3 = some f) (hl : wF.2.2 f = cap) (hc : cap < 2 ^ 31) (k : Int32) : F_X1_byteAt wF d k S = some (if S.1 d 6 ≤ k then -1 else atF (S.1 f) cap k, S) := by
  simp only [F_X1_byteAt, B_X1_byteAt_20, hR, rd_cS, f_at hl hc, rd_bS, gI]
  by_cases h : S.1 d 6 ≤ k
  · rw [if_pos h, if_pos h]
  · rw [if_neg h, if_neg h]
/-- byte k of what is finished, on both sides -/
theorem rd_letter {d row pcs n cap : Nat} {S : rd_S} (h : RD d row pcs n cap S S) (hc : cap ≤ 64) (hrow : row < 11) {k : Nat} (hk : k < 2 ^ 31) : (if S.1 d 6 ≤ nI k then -1 else atF (S.1 (d + 2)) cap (nI k)) = (if S.1 90 row ≤ nI k then -1 else S.1 89 (64 * row + k)) ∧ (¬ S.1 90 row ≤ nI k → k < 64) := by
  obtain ⟨mk, ln, -, h1, -, -, h2, h3, h4, -⟩ := h
  rw [h2]
  by_cases h9 : ln ≤ k
  · have e1 : nI ln ≤ nI k := nI_le h9 (by omega)
    have e2 : S.1 90 row ≤ nI k := by
      rcases h3 with h3 | ⟨h3, -⟩
      · rw [h3]; exact e1
      · rw [h3]; exact Int32.le_trans (by decide) (nI_pos' (by omega))
    exact ⟨by rw [if_pos e1, if_pos e2], fun q => absurd e2 q⟩
  · have e1 : ¬ nI ln ≤ nI k := nI_ge (by omega) (by omega)
    have e2 : ¬ S.1 90 row ≤ nI k := by
      rcases h3 with h3 | ⟨-, h3⟩
      · rw [h3]; exact e1
      · omega
    exact ⟨by rw [if_neg e1, if_neg e2, atF_nI (by omega) (by omega), h4 k (by omega)], fun _ => by omega⟩
theorem rx_text {S M : rd_S} (h : RCx S M) : ∃ n, RD 18 1 16 n 64 S M := by
  obtain ⟨-, -, -, h⟩ := h
  rcases h with ⟨-, -, -, h⟩ | ⟨f, v, -, -, -, -, h⟩
  · exact ⟨_, h⟩
  · exact ⟨_, h⟩
