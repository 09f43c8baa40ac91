/-! The calls that change something: feed, block, set, forget. -/
/-- both sides do alike -/
def Jnt (N N' : Nat) (f g : rd_S → Option (Int32 × rd_S)) : Prop := ∀ S M, RC N S M → ∃ v S1 M1, f S = some (v, S1) ∧ g M = some (v, M1) ∧ RC N' S1 M1 ∧ (∀ a, 76 ≤ a → S1.1 a = S.1 a) ∧ (∀ a, a < 76 → M1.1 a = M.1 a) ∧ M1.2 = M.2
/-- one after the other -/
def Lw (N N' : Nat) (f g : rd_S → Option (Int32 × rd_S)) : Prop := ∀ S, RC N S S → ∃ v S1 M1, f S = some (v, S1) ∧ g S1 = some (v, M1) ∧ RC N' M1 M1
theorem Jnt.lw {N N' : Nat} {f g : rd_S → Option (Int32 × rd_S)} (J : Jnt N N' f g) : Lw N N' f g := by
  intro S h
  obtain ⟨v, S1, M1, e1, e2, hR, f1, f2, f3⟩ := J S S h
  have h2 : RC N S S1 := h.cg (fun _ _ => rfl) (fun a j ha _ => by rw [f1 a ha]) h.1 hR.1 rfl
  obtain ⟨v', S1', M1', e1', e2', hR', f1', f2', f3'⟩ := J S S1 h2
  have e := Option.some.inj (e1'.symm.trans e1)
  obtain ⟨rfl, rfl⟩ := Prod.mk.inj e
  exact ⟨v', S1', M1', e1', e2', hR'.cg f2' (fun _ _ _ _ => rfl) hR'.2.1 hR'.2.1 (by rw [f3'])⟩
theorem rc_th {N : Nat} {S : rd_S} (h : RC N S S) : RC N (th S) (th S) := h.cg (fun a ha => th_ne (by omega)) (fun a j _ hn => by
  by_cases e : a = 76
  · subst e; exact th_row (fun q => hn ⟨rfl, q⟩)
  · rw [th_ne e]) h.1 h.1 rfl
theorem rc_thM {N : Nat} {S M : rd_S} (h : RC N S M) : RC N S (th M) := h.cg (fun _ _ => rfl) (fun a j _ hn => by
  by_cases e : a = 76
  · subst e; exact th_row (fun q => hn ⟨rfl, q⟩)
  · rw [th_ne e]) h.1 h.2.1 rfl
theorem RC.mono {N N' : Nat} {S M : rd_S} (h : RC N S M) (hn : N ≤ N') : RC N' S M := by
  obtain ⟨h1, h2, ⟨cnt, came, hh, q1, q2, q3⟩, h4, h5⟩ := h
  exact ⟨h1, h2, ⟨cnt, came, hh, by omega, by omega, q3⟩, h4, h5.mono hn⟩
theorem obs_lw {N : Nat} {f g : rd_S → Option (Int32 × rd_S)} (h : ∀ S, RC N S S → ∃ v, f S = some (v, S) ∧ g S = some (v, th S)) : Lw N N f g := fun S hS => by
  obtain ⟨v, e1, e2⟩ := h S hS
  exact ⟨v, S, th S, e1, e2, rc_th hS⟩
theorem and1_2 (x : Int32) : x &&& 1 = 0 ∨ x &&& 1 = 1 := by
  rw [and1]
  split
  · exact Or.inr rfl
  · exact Or.inl rfl
theorem u_bit (x : Int32) {i : Nat} (hi : i < 32) : rd_ush x (nI i) &&& 1 = b2i (bt x i) := by
  have h := ush1 x hi
  cases hb : bt x i with
  | true => rw [hb] at h; rw [h.mpr rfl]; rfl
  | false =>
    rw [hb] at h
    rcases and1_2 (rd_ush x (nI i)) with q | q
    · rw [q]; rfl
    · exact absurd (h.mp q) (by decide)
theorem s_bit (x : Int32) {i : Nat} (hi : i < 32) : rd_shr x (nI i) &&& 1 = b2i (bt x i) := by
  have h := shr1 x hi
  cases hb : bt x i with
  | true => rw [hb] at h; rw [h.mpr rfl]; rfl
  | false =>
    rw [hb] at h
    rcases and1_2 (rd_shr x (nI i)) with q | q
    · rw [q]; rfl
    · exact absurd (h.mp q) (by decide)
theorem cp_ref {S S1 : rd_S} (hs : Sh S) (h : F_X3_copy wF 10 3 S = some S1) : S1.2 = S.2 := by
  unfold F_X3_copy at h
  have cp : ∀ E : Option rd_S, rd_cp 0 0 4 4 4 E = E := fun E => if_pos (by decide)
  simp only [sh_3_0 hs, sh_3_1 hs, sh_10_0 hs, sh_10_1 hs, rd_cN, ln_4, ln_5, ln_11, ln_12, cp, rd_letN, rd_cpy, gR_pA] at h
  unfold rd_z at h
  split at h
  · have := Option.some.inj h
    rw [← this]; rfl
  · exact absurd h (by simp)
theorem l_bits (x : Int32) : ∀ (r N n n' : Nat) (S M : rd_S), r ≤ 26 → N + r ≤ 1000000 → r < n → r < n' → RC N S M → ∃ S1 M1, F_X11_feed_17 wF n 1 x (nI r + (-1)) S = some (1, S1) ∧ F_X12_feed_22 wF n' 76 x (nI r + (-1)) M = some (1, M1) ∧ RC (N + r) S1 M1 ∧ (∀ a, 76 ≤ a → S1.1 a = S.1 a) ∧ (∀ a, a < 76 → M1.1 a = M.1 a) ∧ M1.2 = M.2 := by
  intro r
  induction r with
  | zero =>
    intro N n n' S M _ _ hn hn' h
    obtain ⟨n, rfl⟩ : ∃ q, n = q + 1 := ⟨n - 1, by omega⟩
    obtain ⟨n', rfl⟩ : ∃ q, n' = q + 1 := ⟨n' - 1, by omega⟩
    refine ⟨S, M, ?_, ?_, h, fun _ _ => rfl, fun _ _ => rfl, rfl⟩
    · show B_X11_feed_17 wF (F_X11_feed_17 wF n) 1 _ _ S = _
      unfold B_X11_feed_17
      rw [if_pos (by decide)]
    · show B_X12_feed_22 wF (F_X12_feed_22 wF n') 76 _ _ M = _
      unfold B_X12_feed_22
      rw [if_pos (by decide)]
  | succ r ih =>
    intro N n n' S M hr hN hn hn' h
    obtain ⟨n, rfl⟩ : ∃ q, n = q + 1 := ⟨n - 1, by omega⟩
    obtain ⟨n', rfl⟩ : ∃ q, n' = q + 1 := ⟨n' - 1, by omega⟩
    obtain ⟨v, A1, A2, B1, k1, k2, k3, k4, k5, k6, k7, k8⟩ := l_bit (by omega) h (bt x r)
    obtain ⟨S1, M1, z1, z2, z3, z4, z5, z6⟩ := ih (N + 1) n n' A2 B1 (by omega) (by omega) (by omega) (by omega) k5
    refine ⟨S1, M1, ?_, ?_, ?_, fun a e => (z4 a e).trans (k6 a e), fun a e => (z5 a e).trans (k7 a e), z6.trans k8⟩
    · show B_X11_feed_17 wF (F_X11_feed_17 wF n) 1 _ _ S = _
      unfold B_X11_feed_17 B_X11_feed_61
      rw [nI_m1, if_neg (nI_pos (by omega)), sh_1_0 h.1, rd_cN, u_bit x (by omega), k1, rd_bN]
      rcases k2 with ⟨rfl, q⟩ | ⟨rfl, rfl⟩
      · unfold CT at q
        rw [if_neg (by decide), sh_1_1 k4, rd_cN, sh_1_0 k4, rd_cN, sh_2_0 k4, rd_cN]
        cases hcp : F_X3_copy wF 10 3 A1 with
        | none => rw [hcp] at q; exact absurd q (by simp [rd_c])
        | some A3 =>
          rw [hcp, rd_cN] at q
          have h3 : Sh A3 := fun a e => by rw [cp_ref k4 hcp]; exact k4 a e
          rw [rd_cN, sh_1_2 h3, rd_cN, sh_1_1 h3, rd_cN, q, rd_cN, rd_letN]
          exact z1
      · rw [if_pos rfl, rd_letN]
        exact z1
    · show B_X12_feed_22 wF (F_X12_feed_22 wF n') 76 _ _ M = _
      unfold B_X12_feed_22
      rw [nI_m1, if_neg (nI_pos (by omega)), s_bit x (by omega), k3, rd_cN, rd_letN]
      exact z2
    · rw [show N + (r + 1) = N + 1 + r by omega]; exact z3
theorem l_feed {N : Nat} (hN : N + 26 ≤ 1000000) (x y : Int32) : Jnt N (N + 26) (F_X11_feed wF 1 x y) (F_X12_feed wF 76 x y) := by
  intro S M h
  have hth : ∀ a, a < 76 → (th M).1 a = M.1 a := fun a e => th_ne (by omega)
  unfold F_X11_feed F_X12_feed B_X11_feed_11 B_X12_feed_16
  simp only [rd_letN]
  by_cases h1 : y < 1
  · rw [if_pos h1, if_pos h1]
    exact ⟨0, S, th M, rfl, rfl, (rc_thM h).mono (by omega), fun _ _ => rfl, hth, rfl⟩
  rw [if_neg h1, if_neg h1]
  by_cases h2 : y ≤ 26
  · rw [if_pos h2, if_pos h2]
    have hy : ∃ r : Nat, r ≤ 26 ∧ y - 1 = nI r + (-1) := by
      rw [Int32.lt_iff_toInt_lt] at h1
      rw [Int32.le_iff_toInt_le] at h2
      have e1 : (1 : Int32).toInt = 1 := by decide
      have e2 : (26 : Int32).toInt = 26 := by decide
      rw [e1] at h1
      rw [e2] at h2
      refine ⟨y.toInt.toNat, by omega, ?_⟩
      have : y = nI y.toInt.toNat := by
        apply Int32.toInt_inj.mp
        rw [nI_toInt (by omega)]; omega
      rw [← this, Int32.sub_eq_add_neg]
    obtain ⟨r, hr, e⟩ := hy
    rw [e]
    obtain ⟨S1, M1, z1, z2, z3, z4, z5, z6⟩ := l_bits x r N rd_big rd_big S (th M) hr (by omega) (by unfold rd_big; omega) (by unfold rd_big; omega) (rc_thM h)
    exact ⟨1, S1, M1, z1, z2, z3.mono (by omega), z4, fun a q => (z5 a q).trans (hth a q), z6⟩
  · rw [if_neg h2, if_neg h2]
    exact ⟨0, S, th M, rfl, rfl, (rc_thM h).mono (by omega), fun _ _ => rfl, hth, rfl⟩
theorem o_block {N : Nat} {S : rd_S} (h : RC N S S) (x y : Int32) : ∃ v, F_X11_block wF 1 x y S = some (v, S) ∧ F_X12_block wF 76 x y S = some (v, th S) := by
  unfold F_X11_block F_X12_block B_X11_block_33 B_X12_block_14
  rw [rd_letN, rd_letN]
  have out : (¬ ∃ l : Nat, l < 5 ∧ y = nI l) → ∃ v, (rd_b (F_X11_offsetOf wF y S) fun v2 s1 => rd_let (rd_shl (x &&& 65535) 10) fun v3 => if v2 = (-1) then (some ((-1 : Int32), s1)) else (rd_b (F_X11_rest wF v3 s1) fun v6 s5 => some (v3 ||| (v6 ^^^ v2), s5))) = some (v, S) ∧ v = -1 := by
    intro hn
    refine ⟨-1, ?_, rfl⟩
    unfold F_X11_offsetOf B_X11_offsetOf_12 B_X11_offsetOf_21
    rcases nI_cases (x := y) (n := 5) (fun k hk q => hn ⟨k, hk, q⟩) (by decide) with q | q
    · rw [if_pos q, rd_bN, rd_letN, if_pos rfl]
    · have q1 : ¬ y < 0 := fun z => absurd (Int32.lt_of_le_of_lt q z) (by decide)
      have q2 : ¬ y < 5 := fun z => absurd (Int32.lt_of_le_of_lt q z) (by decide)
      rw [if_neg q1, if_neg q2, rd_bN, rd_letN, if_pos rfl]
  by_cases hy : ∃ l : Nat, l < 5 ∧ y = nI l
  · obtain ⟨l, hl, rfl⟩ := hy
    refine ⟨rd_shl (x &&& 65535) 10 ||| (restF (rd_shl (x &&& 65535) 10) ^^^ offF (nI l)), ?_, ?_⟩
    · have ho : ¬ offF (nI l) = -1 := by
        match l, hl with
        | 0, _ => decide
        | 1, _ => decide
        | 2, _ => decide
        | 3, _ => decide
        | 4, _ => decide
      rw [f_X11_offsetOf wF l hl, rd_bN, rd_letN, if_neg ho, f_X11_rest, rd_bN]
    · rw [if_neg (nI_pos (by omega)), if_pos (show nI l ≤ 4 from nI_le (b := 4) (by omega) (by decide)), f_X12_rest, rd_bN, f_X12_offset, rd_bN]
  · obtain ⟨v, e1, rfl⟩ := out hy
    refine ⟨-1, e1, ?_⟩
    rcases nI_cases (x := y) (n := 5) (fun k hk q => hy ⟨k, hk, q⟩) (by decide) with q | q
    · rw [if_pos q]
    · have q1 : ¬ y < 0 := fun z => absurd (Int32.lt_of_le_of_lt q z) (by decide)
      have q2 : ¬ y ≤ 4 := fun z => absurd (Int32.le_trans q z) (by decide)
      rw [if_neg q1, if_neg q2]
theorem l_set {N : Nat} (x y : Int32) : Jnt N N (F_X11_set wF 1 x y) (F_X12_set wF 76 x y) := by
  intro S M h
  have hth : ∀ a, a < 76 → (th M).1 a = M.1 a := fun a e => th_ne (by omega)
  unfold F_X11_set F_X12_set B_X11_set_20 B_X12_set_25
  simp only [rd_letN]
  have no : ∃ v S1 M1, some ((0 : Int32), S) = some (v, S1) ∧ some ((0 : Int32), th M) = some (v, M1) ∧ RC N S1 M1 ∧ (∀ a, 76 ≤ a → S1.1 a = S.1 a) ∧ (∀ a, a < 76 → M1.1 a = M.1 a) ∧ M1.2 = M.2 := ⟨0, S, th M, rfl, rfl, (rc_thM h), fun _ _ => rfl, hth, rfl⟩
  by_cases h1 : x < 0
  · rw [if_pos h1, if_pos h1]; exact no
  rw [if_neg h1, if_neg h1]
  by_cases h2 : (5 : Int32) < x
  · rw [if_pos h2, if_pos h2]; exact no
  rw [if_neg h2, if_neg h2]
  by_cases h3 : y < 1
  · rw [if_pos h3, if_pos h3]; exact no
  rw [if_neg h3, if_neg h3]
  by_cases h4 : y ≤ 50
  · rw [if_pos h4, if_pos h4]
    have hx : ∃ L : Nat, L < 6 ∧ x = nI L := by
      apply Classical.byContradiction
      intro hn
      rcases nI_cases (x := x) (n := 6) (fun k hk q => hn ⟨k, hk, q⟩) (by decide) with q | q
      · exact h1 q
      · exact h2 (Int32.lt_of_lt_of_le (by decide) q)
    have hy : ∃ l : Nat, 1 ≤ l ∧ l ≤ 50 ∧ y = nI l := by
      apply Classical.byContradiction
      intro hn
      rcases nI_cases (x := y) (n := 51) (fun k hk q => hn ⟨k, (by
        rcases Nat.eq_zero_or_pos k with e | e
        · subst e; exact absurd (show y < 1 by rw [q]; decide) h3
        · exact e), by omega, q⟩) (by decide) with q | q
      · exact h3 (Int32.lt_trans q (by decide))
      · exact absurd (Int32.le_trans q h4) (by decide)
    rw [sh_1_0 h.1, rd_cN, gR_pI, sh_1_0 h.1, rd_cN]
    obtain ⟨hs, hm, ⟨cnt, came, hh, q1, q2, qa, qb, qw, qh, qst⟩, hg, hS⟩ := h
    refine ⟨1, _, _, rfl, rfl, ⟨hs, hm, ⟨cnt, came, hh, q1, q2, ⟨?_, ?_, ?_, ?_⟩, ?_, ?_, ?_, ?_⟩, ?_, ?_⟩, fun a e => ?_, fun a e => ?_, rfl⟩
    · simp +decide only [pI1, if_true, if_false]
    · simp +decide only [pI1, if_true, if_false]
    · simp +decide only [pI1, if_true, if_false]; exact hx
    · simp +decide only [pI1, if_true, if_false]; exact hy
    · unfold RCb at qb ⊢; simp +decide only [pI1, if_true, if_false]; exact qb
    · unfold RCw at qw ⊢; simp +decide only [pI1, if_true, if_false]; exact qw
    · unfold RCh at qh ⊢; simp +decide only [pI1, if_true, if_false]; exact qh
    · unfold RCs RCy RCp at qst ⊢; simp +decide only [pI1, if_true, if_false]; exact qst
    · refine hg.cg (fun a j e => ?_) (fun a j e => ?_)
      · rw [pI_ne, pI_ne]
        all_goals (intro q; subst q; exact absurd (show colC 2 = 2 from e) (by decide))
      · by_cases e2 : a = 76
        · subst e2
          rw [pI_row, pI_row, th_row]
          all_goals (intro q; subst q; exact absurd e (by decide))
        · rw [pI_ne e2, pI_ne e2, th_ne e2]
    · refine hS.cg (fun c c1 c2 a j e => ?_) (fun c c1 c2 a j e => ?_) rfl
      · rw [pI_ne, pI_ne]
        all_goals (intro q; subst q; have : colC 2 = c := e; have e9 : colC 2 = 1 := rfl; omega)
      · by_cases e2 : a = 76
        · subst e2
          have e' : colF j = c := e
          rw [pI_row, pI_row, th_row]
          all_goals (intro q; subst q; first | (have e9 : colF 2 = 21 := rfl; omega) | (have e9 : colF 1 = 21 := rfl; omega) | (have e9 : colF 0 = 20 := rfl; omega))
        · rw [pI_ne e2, pI_ne e2, th_ne e2]
    · rw [pI_ne (by omega), pI_ne (by omega)]
    · rw [pI_ne (by omega), pI_ne (by omega), hth a e]
  · rw [if_neg h4, if_neg h4]; exact no
