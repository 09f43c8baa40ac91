/-! The beginning, and the law's loop. -/
theorem st_a : sF.1 2 4 = sF.1 76 1 ∧ sF.1 2 5 = sF.1 76 2 ∧ sF.1 76 1 = nI 5 ∧ sF.1 76 2 = nI 30 := by decide +kernel
theorem st_b : sF.1 2 11 = sF.1 76 6 ∧ (∀ j, j < 3 → sF.1 9 j = sF.1 80 j) ∧ sF.1 2 12 = sF.1 76 16 ∧ sF.1 2 13 = sF.1 76 17 ∧ sF.1 2 14 = sF.1 76 14 ∧ sF.1 2 15 = sF.1 76 15 := by decide +kernel
theorem st_w : sF.1 76 11 = nI 0 ∧ sF.1 6 1 = nI 0 ∧ sF.1 6 2 = nI 0 ∧ sF.1 6 3 = sF.1 76 12 := by decide +kernel
theorem st_h : sF.1 2 6 = nI (WN (fun _ => false) 0) ∧ sF.1 76 5 = nI 0 ∧ sF.1 2 7 = nI 0 := by decide +kernel
theorem st_s : sF.1 76 7 = 0 ∧ sF.1 2 10 = -1 ∧ sF.1 2 8 = nI 0 ∧ sF.1 2 9 = 0 ∧ sF.1 76 12 = 0 ∧ sF.1 76 20 = 0 := by decide +kernel
theorem st_g : sF.1 76 24 = 0 ∧ ∀ k, k < 4 → sF.1 11 k = -1 ∧ sF.1 12 k = -1 := by decide +kernel
theorem st_1 : (∀ j, j < 10 → sF.1 14 j = -1) ∧ (sF.1 15 0 = 4 ∧ sF.1 15 1 = -1 ∧ sF.1 15 4 = 0 ∧ sF.1 15 6 = 0 ∧ sF.1 15 7 = 0) ∧ (sF.1 18 0 = 16 ∧ sF.1 18 1 = 13 ∧ sF.1 18 4 = 0 ∧ sF.1 18 5 = -1 ∧ sF.1 18 6 = 0 ∧ sF.1 18 7 = 0) ∧ (sF.1 21 0 = 2 ∧ sF.1 21 1 = -1 ∧ sF.1 21 4 = 0 ∧ sF.1 21 5 = -1 ∧ sF.1 21 6 = 0 ∧ sF.1 21 7 = 0) := by decide +kernel
theorem st_2 : (sF.1 24 2 = 0 ∧ sF.1 24 3 = 0 ∧ sF.1 24 6 = 0 ∧ sF.1 24 7 = 0) ∧ sF.1 27 4 = 0 ∧ sF.1 28 3 = 0 ∧ sF.1 32 1 = 0 ∧ sF.1 74 1 = 0 ∧ (∀ j, j < 8 → sF.1 75 j = -1) := by decide +kernel
theorem st_3 : (∀ j, j < 8 → sF.2 33 j = some (34 + 5 * j)) ∧ (∀ k, k < 8 → sF.1 (34 + 5 * k + 2) 0 = 4 ∧ sF.1 (34 + 5 * k + 2) 1 = -1) := by decide +kernel
theorem st_m : FrM sF := by unfold FrM; decide +kernel
theorem rc_start : RC 0 sF sF := by
  obtain ⟨a1, a2, a3, a4⟩ := st_a
  obtain ⟨h1, h2, h3⟩ := st_h
  obtain ⟨w1, w2, w3, w4⟩ := st_w
  obtain ⟨s1, s2, s3, s4, s5, s6⟩ := st_s
  refine ⟨fun _ _ => rfl, fun _ _ => rfl, ⟨0, 0, fun _ => false, Nat.le_refl _, Nat.le_refl _, ⟨a1, a2, ⟨5, by decide, a3⟩, ⟨30, by decide, by decide, a4⟩⟩, st_b, ⟨w1, w2, w3, w4, fun j hj => absurd hj (by omega)⟩, ⟨h1, h2, fun k hk => absurd hk (Nat.not_lt_zero _), 0, by decide, h3, fun _ d hd => absurd hd (Nat.not_lt_zero _)⟩, Or.inl ⟨s1, s2, s3, s4, fun d hd => absurd hd (by omega), rfl, s5, Or.inl s6⟩⟩, Or.inl st_g, fresh ?_ st_m⟩
  obtain ⟨p1, p2, p3, p4⟩ := st_1
  obtain ⟨q1, q2, q3, q4, q5, q6⟩ := st_2
  exact ⟨p1, p2, p3, p4, q1, q2, q3, q4, q5, q6, fun j => j, fun j hj => ⟨hj, st_3.1 j hj⟩, fun i j _ _ e => e, st_3.2⟩
theorem law_end {L i : Nat} (hL : L ≤ 1536) (h : L < 3 * i + 3) (hi : i < 2000) : nI L - 3 < nI (3 * i) := by
  rcases Nat.lt_or_ge L 3 with h3 | h3
  · have e : nI L - 3 < 0 := pk_sneg (b := 3) (by decide) h3
    exact Int32.lt_of_lt_of_le e (nI_pos' (by omega))
  · rw [show nI L - 3 = nI (L - 3) from pk_sub (b := 3) h3]
    exact nI_lt (by omega) (by omega)
theorem law_go {L i : Nat} (hL : L ≤ 1536) (h : 3 * i + 3 ≤ L) : ¬ nI L - 3 < nI (3 * i) := by
  rw [show nI L - 3 = nI (L - 3) from pk_sub (b := 3) (by omega)]
  exact nI_nlt (by omega) (by omega)
theorem law_loop (cx : rd_Cx) (hL : xL cx ≤ 1536) : ∀ (r i n N : Nat) (S : rd_S), RC N S S → N + 26 * r ≤ 100000 → xL cx < 3 * (i + r) + 3 → i < 600 → i + r < 600 → r < n → F_L_law_18 cx wF n 1 76 (nI (3 * i)) S = some 1 := by
  intro r
  induction r with
  | zero =>
    intro i n N S _ _ h1 hi _ hn
    obtain ⟨n, rfl⟩ : ∃ q, n = q + 1 := ⟨n - 1, by omega⟩
    show B_L_law_18 cx wF (F_L_law_18 cx wF n) 1 76 _ S = _
    unfold B_L_law_18
    rw [if_pos (law_end hL (by omega) (by omega))]
  | succ r ih =>
    intro i n N S hR hN h1 hi hir hn
    obtain ⟨n, rfl⟩ : ∃ q, n = q + 1 := ⟨n - 1, by omega⟩
    show B_L_law_18 cx wF (F_L_law_18 cx wF n) 1 76 _ S = _
    unfold B_L_law_18
    rcases Nat.lt_or_ge (xL cx) (3 * i + 3) with hl | hl
    · rw [if_pos (law_end hL hl (by omega))]
    have go : ∀ N' M1, RC N' M1 M1 → N' ≤ N + 26 → B_L_law_538 cx wF (F_L_law_18 cx wF n) 1 76 (nI (3 * i)) M1 = some 1 := by
      intro N' M1 hM hN'
      unfold B_L_law_538
      have e3 : nI (3 * i) + 3 = nI (3 * (i + 1)) := nI_add _ 3
      rw [rd_letN, e3]
      exact ih (i + 1) n N' M1 hM (by omega) (by omega) (by omega) (by omega) (by omega)
    have e1 : nI (3 * i) + 1 = nI (3 * i + 1) := nI_add _ 1
    have e2 : nI (3 * i) + 2 = nI (3 * i + 2) := nI_add _ 2
    have i0 : ∀ E : Option Int32, rd_i (nI (3 * i)) (xL cx) E = E := fun E => rd_iN _ (by omega) (by omega)
    have i1 : ∀ E : Option Int32, rd_i (nI (3 * i + 1)) (xL cx) E = E := fun E => rd_iN _ (by omega) (by omega)
    have i2 : ∀ E : Option Int32, rd_i (nI (3 * i + 2)) (xL cx) E = E := fun E => rd_iN _ (by omega) (by omega)
    rw [if_neg (law_go hL hl), i0, rd_letN]
    simp only [rd_letN, e1, e2, i1, i2]
    generalize (xX cx (nI (3 * i)).toNatClampNeg) &&& 15 = v2
    generalize (xX cx (nI (3 * i + 1)).toNatClampNeg) = x1
    generalize (xX cx (nI (3 * i + 2)).toNatClampNeg) = x2
    by_cases h0 : v2 = 0
    · rw [if_pos h0]
      obtain ⟨v, S1, M1, q1, q2, q3⟩ := (l_feed (N := N) (by omega) x1 x2).lw S hR
      rw [q1, rd_bN, q2, rd_bN, if_pos rfl]
      exact go (N + 26) M1 q3 (by omega)
    rw [if_neg h0]
    by_cases h1 : v2 = 1
    · rw [if_pos h1]
      obtain ⟨v, S1, M1, q1, q2, q3⟩ := obs_lw (f := F_X11_block wF 1 x1 x2) (g := F_X12_block wF 76 x1 x2) (fun S h => o_block (N := N) h x1 x2) S hR
      rw [q1, rd_bN, q2, rd_bN, if_pos rfl]
      exact go N M1 q3 (by omega)
    rw [if_neg h1]
    by_cases h2 : v2 = 2
    · rw [if_pos h2]
      obtain ⟨v, S1, M1, q1, q2, q3⟩ := (l_set (N := N) x1 x2).lw S hR
      rw [q1, rd_bN, q2, rd_bN, if_pos rfl]
      exact go N M1 q3 (by omega)
    rw [if_neg h2]
    by_cases h3 : v2 = 3
    · rw [if_pos h3]
      obtain ⟨v, S1, M1, q1, q2, q3⟩ := (l_forget (N := N)).lw S hR
      have q1 := vd_inv q1
      have q2 := vd_inv q2
      rw [q1, rd_cN, q2, rd_cN]
      exact go N M1 q3 (by omega)
    rw [if_neg h3]
    by_cases h4 : v2 = 4
    · rw [if_pos h4]
      obtain ⟨v, S1, M1, q1, q2, q3⟩ := obs_lw (f := F_X11_state wF 1 x1) (g := F_X12_state wF 76 x1) (fun S h => o_state (N := N) h x1) S hR
      rw [q1, rd_bN, q2, rd_bN, if_pos rfl]
      exact go N M1 q3 (by omega)
    rw [if_neg h4]
    by_cases h5 : v2 = 5
    · rw [if_pos h5]
      obtain ⟨v, S1, M1, q1, q2, q3⟩ := obs_lw (f := F_X11_group wF 1 x1) (g := F_X12_group wF 76 x1) (fun S h => o_group (N := N) h x1) S hR
      rw [q1, rd_bN, q2, rd_bN, if_pos rfl]
      exact go N M1 q3 (by omega)
    rw [if_neg h5]
    by_cases h6 : v2 = 6
    · rw [if_pos h6]
      obtain ⟨v, S1, M1, q1, q2, q3⟩ := obs_lw (f := F_X11_programme wF 1 x1) (g := F_X12_programme wF 76 x1) (fun S h => o_programme (N := N) h x1) S hR
      rw [q1, rd_bN, q2, rd_bN, if_pos rfl]
      exact go N M1 q3 (by omega)
    rw [if_neg h6]
    by_cases h7 : v2 = 7
    · rw [if_pos h7]
      obtain ⟨v, S1, M1, q1, q2, q3⟩ := obs_lw (f := F_X11_reports wF 1 x1) (g := F_X12_reports wF 76 x1) (fun S h => o_reports (N := N) h x1) S hR
      rw [q1, rd_bN, q2, rd_bN, if_pos rfl]
      exact go N M1 q3 (by omega)
    rw [if_neg h7]
    by_cases h8 : v2 = 8
    · rw [if_pos h8]
      obtain ⟨v, S1, M1, q1, q2, q3⟩ := obs_lw (f := F_X11_letter wF 1 x1 x2) (g := F_X12_letter wF 76 x1 x2) (fun S h => o_letter (N := N) h x1 x2) S hR
      rw [q1, rd_bN, q2, rd_bN, if_pos rfl]
      exact go N M1 q3 (by omega)
    rw [if_neg h8]
    by_cases h9 : v2 = 9
    · rw [if_pos h9]
      obtain ⟨v, S1, M1, q1, q2, q3⟩ := obs_lw (f := F_X11_marks wF 1 x1) (g := F_X12_marks wF 76 x1) (fun S h => o_marks (N := N) h x1) S hR
      rw [q1, rd_bN, q2, rd_bN, if_pos rfl]
      exact go N M1 q3 (by omega)
    rw [if_neg h9]
    by_cases h10 : v2 = 10
    · rw [if_pos h10]
      obtain ⟨v, S1, M1, q1, q2, q3⟩ := obs_lw (f := F_X11_frequency wF 1 x1) (g := F_X12_frequency wF 76 x1) (fun S h => o_frequency (N := N) h x1) S hR
      rw [q1, rd_bN, q2, rd_bN, if_pos rfl]
      exact go N M1 q3 (by omega)
    rw [if_neg h10]
    by_cases h11 : v2 = 11
    · rw [if_pos h11]
      obtain ⟨v, S1, M1, q1, q2, q3⟩ := obs_lw (f := F_X11_time wF 1 x1) (g := F_X12_time wF 76 x1) (fun S h => o_time (N := N) (by omega) h x1) S hR
      rw [q1, rd_bN, q2, rd_bN, if_pos rfl]
      exact go N M1 q3 (by omega)
    rw [if_neg h11]
    by_cases h12 : v2 = 12
    · rw [if_pos h12]
      obtain ⟨v, S1, M1, q1, q2, q3⟩ := obs_lw (f := F_X11_oda wF 1 x1 x2) (g := F_X12_oda wF 76 x1 x2) (fun S h => o_oda (N := N) h x1 x2) S hR
      rw [q1, rd_bN, q2, rd_bN, if_pos rfl]
      exact go N M1 q3 (by omega)
    rw [if_neg h12]
    by_cases h13 : v2 = 13
    · rw [if_pos h13]
      obtain ⟨v, S1, M1, q1, q2, q3⟩ := obs_lw (f := F_X11_tag wF 1 x1) (g := F_X12_tag wF 76 x1) (fun S h => o_tag (N := N) h x1) S hR
      rw [q1, rd_bN, q2, rd_bN, if_pos rfl]
      exact go N M1 q3 (by omega)
    rw [if_neg h13]
    by_cases h14 : v2 = 14
    · rw [if_pos h14]
      obtain ⟨v, S1, M1, q1, q2, q3⟩ := obs_lw (f := F_X11_other wF 1 x1 x2) (g := F_X12_other wF 76 x1 x2) (fun S h => o_other (N := N) h x1 x2) S hR
      rw [q1, rd_bN, q2, rd_bN, if_pos rfl]
      exact go N M1 q3 (by omega)
    rw [if_neg h14]
    by_cases h15 : v2 = 15
    · rw [if_pos h15]
      obtain ⟨v, S1, M1, q1, q2, q3⟩ := obs_lw (f := F_X11_otherLetter wF 1 x1 x2) (g := F_X12_otherLetter wF 76 x1 x2) (fun S h => o_otherLetter (N := N) h x1 x2) S hR
      rw [q1, rd_bN, q2, rd_bN, if_pos rfl]
      exact go N M1 q3 (by omega)
    rw [if_neg h15]
    exact go N S hR (by omega)
theorem law_one (cx : rd_Cx) (hL : xL cx ≤ 1536) : F_L_law cx rd_w0 rd_s0 = some 1 := by
  obtain ⟨⟨w3, s2⟩, e0⟩ := Option.isSome_iff_exists.mp rd_i0_some
  obtain ⟨⟨w7, s6⟩, e1⟩ := Option.isSome_iff_exists.mp rd_i1_some
  have n3 : w3.1 = 75 := by
    have := rd_i0_n
    rw [e0] at this
    exact this
  have ew : wF = w7 := by unfold wF; rw [e1]; rfl
  have es : sF = s6 := by unfold sF; rw [e1]; rfl
  unfold rd_i1 at e1
  rw [e0, rd_bN] at e1
  have e0' : F_X11_init (rd_push rd_w0 11 0) (rd_w0.1 + 1) rd_s0 = some (w3, s2) := e0
  have np : ∀ (w : rd_W) (E : Option Int32), w.1 < 100 → rd_np w E = E := fun w E h => if_pos (by omega)
  unfold F_L_law
  rw [np _ _ (by decide), e0', rd_bN, np _ _ (by omega), e1, rd_bN, n3, ← ew, ← es]
  exact law_loop cx hL 512 0 rd_big 0 sF rc_start (by omega) (by omega) (by decide) (by decide) (by unfold rd_big; omega)
