/-! A BLOCK is LOOKED AT, on both sides, with all that follows from it. -/
theorem c_whole {S : rd_S} (hs : Sh S) : F_X3_isWhole wF 3 S = some (if alk (S.1 4) 4 0 = true then 1 else 0, S) := by
  have e : ∀ k, k < 4 → F_X3_knows wF 3 (nI k) S = some (if S.1 4 k = -1 then 0 else 1, S) := fun k hk => f_knows (sh_3_0 hs) ln_4 hk
  have e0 : F_X3_knows wF 3 0 S = some (if S.1 4 0 = -1 then 0 else 1, S) := e 0 (by decide)
  have e1 : F_X3_knows wF 3 1 S = some (if S.1 4 1 = -1 then 0 else 1, S) := e 1 (by decide)
  have e2 : F_X3_knows wF 3 2 S = some (if S.1 4 2 = -1 then 0 else 1, S) := e 2 (by decide)
  have e3 : F_X3_knows wF 3 3 S = some (if S.1 4 3 = -1 then 0 else 1, S) := e 3 (by decide)
  unfold F_X3_isWhole B_X3_isWhole_36 B_X3_isWhole_37
  simp only [e0, e1, e2, e3, rd_bN]
  unfold alk alk alk alk alk
  by_cases h0 : S.1 4 0 = -1
  · simp (disch := decide) only [if_pos h0, if_true, rd_zT]; rfl
  by_cases h1 : S.1 4 1 = -1
  · simp +decide (disch := decide) only [if_neg h0, if_pos h1, if_true, if_false, rd_zT]
  by_cases h2 : S.1 4 2 = -1
  · simp +decide (disch := decide) only [if_neg h0, if_neg h1, if_pos h2, if_true, if_false, rd_zT]
  by_cases h3 : S.1 4 3 = -1
  · simp +decide (disch := decide) only [if_neg h0, if_neg h1, if_neg h2, if_pos h3, if_true, if_false, rd_zT]
  · simp +decide (disch := decide) only [if_neg h0, if_neg h1, if_neg h2, if_neg h3, if_true, if_false, rd_zT]
theorem alk_cg {f g : Nat → Int32} : ∀ (r k : Nat), (∀ j, k ≤ j → j < k + r → f j = g j) → alk f r k = alk g r k := by
  intro r
  induction r with
  | zero => intro k _; rfl
  | succ r ih =>
    intro k h
    unfold alk
    rw [h k (Nat.le_refl _) (by omega), ih (k + 1) (fun j h1 h2 => h j (by omega) (by omega))]
/-- the class's end of a look: a loss, or not -/
def endC (S : rd_S) : rd_S := if S.1 6 3 < S.1 2 5 then S else pI (pI (pI (pI (pI (pI (pI S 2 15 (S.1 2 15 + 1)) 6 1 0) 6 2 0) 6 3 0) 2 8 0) 2 9 0) 2 10 (-1)
theorem c_139 {S : rd_S} (hs : Sh S) (x t : Int32) (hx : x = 0 ∨ x = 1) : B_X7_lookAt_139 wF 2 x t 2 S = some (x, endC (pI S 2 10 t)) := by
  unfold B_X7_lookAt_139 B_X7_lookAt_170 F_X7_beginSearch F_X10_clear endC
  simp only [rd_letN, gR_pI, sh_2_1 hs, rd_cN, gI]
  by_cases h : (pI S 2 10 t).1 6 3 < (pI S 2 10 t).1 2 5
  · rw [if_pos h, if_pos h, rd_zT _ hx]
  · rw [if_neg h, if_neg h, rd_zT _ hx]
/-- the model's end of a look -/
def endM (M : rd_S) : rd_S := if M.1 76 2 ≤ M.1 76 12 then pI (pI (pI (pI (pI (pI M 76 15 (M.1 76 15 + 1)) 76 7 0) 76 5 0) 76 9 0) 76 11 0) 76 12 0 else M
theorem m_233 (M : rd_S) : B_X12_look_233 wF 76 M = some (endM M) := by
  unfold B_X12_look_233 F_X12_restart endM
  simp only [rd_letN, rd_cN, gI]
  by_cases h : M.1 76 2 ≤ M.1 76 12
  · rw [if_pos h, if_pos h]
  · rw [if_neg h, if_neg h]
/-- how a look ends: place, window, what was lost -/
def LkE (c q : Nat) (S M S1 M1 : rd_S) : Prop :=
  (M1.1 76 7 = M.1 76 7 ∧ M1.1 76 5 = M.1 76 5 ∧ M1.1 76 9 = M.1 76 9 ∧ S1.1 2 8 = S.1 2 8 ∧ S1.1 2 9 = S.1 2 9 ∧ RCw c S1 M1 ∧ M1.1 76 8 = nI q ∧ S1.1 2 10 = nI q ∧ RCp q S1 M1) ∨
  (M1.1 76 7 = 0 ∧ M1.1 76 5 = 0 ∧ M1.1 76 9 = 0 ∧ RCw 0 S1 M1 ∧ M1.1 76 12 = 0 ∧ S1.1 2 8 = 0 ∧ S1.1 2 9 = 0 ∧ S1.1 2 10 = -1 ∧ (M1.1 76 20 = 0 ∨ M1.1 76 20 = 1))
def LkF (S M S1 M1 : rd_S) : Prop := S1.1 2 6 = S.1 2 6 ∧ S1.1 2 7 = S.1 2 7 ∧ S1.1 8 = S.1 8 ∧ M1.1 77 = M.1 77 ∧ M1.1 78 = M.1 78 ∧ (∀ a, 76 ≤ a → S1.1 a = S.1 a) ∧ (∀ a, a < 76 → M1.1 a = M.1 a) ∧ M1.2 = M.2
def RLk (N cnt p : Nat) (S M : rd_S) : Prop := Sh S ∧ Sh M ∧ RCa S M ∧ RCb S M ∧ RCw cnt S M ∧ p < 4 ∧ M.1 76 8 = nI p ∧ S.1 2 10 = nI p ∧ RCp p S M ∧ RCg S M ∧ RCS N S M
def CT (S : rd_S) : Option rd_S := rd_c (F_X3_copy wF 10 3 S) fun s13 => F_X8_take wF 13 10 s13
theorem c_copy {S : rd_S} (hs : Sh S) (h3 : S.1 3 2 = 0 ∨ S.1 3 2 = 1) : ∃ S1, F_X3_copy wF 10 3 S = some S1 ∧ (∀ j, j < 4 → S1.1 11 j = S.1 4 j ∧ S1.1 12 j = S.1 5 j) ∧ S1.1 10 2 = S.1 3 2 ∧ Rg 2 2 S S1 := by
  unfold F_X3_copy
  have cp : ∀ E : Option rd_S, rd_cp 0 0 4 4 4 E = E := fun E => if_pos (by decide)
  simp only [sh_3_0 hs, sh_3_1 hs, sh_10_0 hs, sh_10_1 hs, rd_cN, ln_4, ln_5, ln_11, ln_12, cp, rd_letN, rd_cpy, gR_pA, tn_0, tn_4]
  have e : gI (pA (pA S 11 (va_cpy (S.1 4) (S.1 11) 0 0 4)) 12 (va_cpy ((pA S 11 (va_cpy (S.1 4) (S.1 11) 0 0 4)).1 5) ((pA S 11 (va_cpy (S.1 4) (S.1 11) 0 0 4)).1 12) 0 0 4)) 3 2 = S.1 3 2 := by
    show (pA (pA S 11 _) 12 _).1 3 2 = _
    rw [pA_ne (by decide), pA_ne (by decide)]
  rw [e, rd_zT _ h3]
  refine ⟨_, rfl, fun j hj => ⟨?_, ?_⟩, pI_self, ?_⟩
  · rw [pI_ne (by decide), pA_ne (by decide), pA_self, pk_cpy_in (Nat.zero_le _) (by omega), Nat.sub_zero, Nat.zero_add]
  · rw [pI_ne (by decide), pA_self, pk_cpy_in (Nat.zero_le _) (by omega), Nat.sub_zero, Nat.zero_add, pA_ne (by decide)]
  · exact ((Rg.rf.pA (fun _ => ⟨Nat.le_refl _, Nat.le_refl _⟩)).pA (fun _ => ⟨Nat.le_refl _, Nat.le_refl _⟩)).pI (by decide)
theorem lk_c4 {p : Nat} (hp : p < 4) (v w1 : Int32) (L : Nat) : (lkF p v (aimF p w1) L).2.2 = true → p = 2 := by
  unfold lkF
  by_cases h1 : plcF v = nI p
  · rw [if_pos h1]
    intro q
    have q := of_decide_eq_true q
    unfold plcF at h1
    rw [if_pos q] at h1
    exact (nI_eq (by omega) (b := 2) (by decide)).mp h1.symm
  · rw [if_neg h1]
    by_cases h2 : crF v (aimF p w1) L = -1
    · rw [if_pos h2]; intro q; exact absurd q (by decide)
    · rw [if_neg h2]
      intro q
      have q := of_decide_eq_true q
      unfold aimF at q
      by_cases h3 : p = 2
      · exact h3
      · rw [if_neg h3] at q
        have := (nI_eq (by omega) (b := 4) (by decide)).mp q
        omega
/-- the first half: both sides have kept and counted the BLOCK -/
theorem l_half {N cnt p V : Nat} {S M : rd_S} (h : RLk N cnt p S M) (hV : V < 67108864) (hc : cnt < 2 ^ 30) : ∃ S3 M3, F_X7_lookAt wF 2 (nI V) S = (if p = 3 then B_X7_lookAt_85 wF 2 1 S3 else B_X7_lookAt_85 wF 2 0 S3) ∧
    F_X12_look wF 76 (nI V) M = (if p = 3 then rd_c (F_X12_take wF 76 (pI M3 76 8 (nI ((p + 1) % 4)))) (fun s33 => B_X12_look_233 wF 76 s33) else B_X12_look_233 wF 76 (pI M3 76 8 (nI ((p + 1) % 4)))) ∧
    RCw (cnt + 1) S3 M3 ∧ (∀ j, j < 3 → S3.1 9 j = M3.1 80 j) ∧ (∀ k, k ≤ p → S3.1 4 k = M3.1 81 k ∧ S3.1 5 k = M3.1 82 k ∧ gok (M3.1 81 k) (M3.1 82 k)) ∧ (∀ k, p < k → k < 4 → S3.1 4 k = -1 ∧ S3.1 5 k = 3) ∧ S3.1 3 2 = (if 2 ≤ p then M3.1 76 20 else 0) ∧ (M3.1 76 20 = 0 ∨ M3.1 76 20 = 1) ∧
    S3.2 = S.2 ∧ (∀ a, ¬ (3 ≤ a ∧ a ≤ 7) → a ≠ 9 → S3.1 a = S.1 a) ∧ M3.2 = M.2 ∧ ∀ a j, ¬ (79 ≤ a ∧ a ≤ 82) → ¬ (a = 76 ∧ (j = 11 ∨ j = 12 ∨ j = 20)) → M3.1 a j = M.1 a j := by
  obtain ⟨hs, hm, ⟨a1, a2, ⟨L, hL, a3⟩, a4⟩, ⟨-, b2, -⟩, hw, hp, p8, p10, ⟨q1, q2, q3, q4⟩, -, -⟩ := h
  -- a new GROUP is cleared
  have st0 : ∃ S0, F_X7_lookAt wF 2 (nI V) S = B_X7_lookAt_15 wF 2 (nI V) S0 ∧ S0.2 = S.2 ∧ (∀ a, a ≠ 3 → a ≠ 4 → a ≠ 5 → S0.1 a = S.1 a) ∧ (∀ k, k < p → S0.1 4 k = M.1 81 k ∧ S0.1 5 k = M.1 82 k) ∧ (∀ k, p ≤ k → k < 4 → S0.1 4 k = -1 ∧ S0.1 5 k = 3) ∧ S0.1 3 2 = (if p = 3 then M.1 76 20 else 0) := by
    unfold F_X7_lookAt
    rw [show gI S 2 10 = nI p from p10]
    by_cases h0 : p = 0
    · subst h0
      refine ⟨pI (pA (pA S 4 (fun j => if j < 4 then -1 else S.1 4 j)) 5 (fun j => if j < 4 then 3 else (pA S 4 (fun j => if j < 4 then -1 else S.1 4 j)).1 5 j)) 3 2 0, ?_, rfl, fun a h1 h2 h3 => by rw [pI_ne h1, pA_ne h3, pA_ne h2], fun k hk => absurd hk (Nat.not_lt_zero _), fun k _ hk => ⟨?_, ?_⟩, ?_⟩
      · rw [if_pos nI_0, sh_2_0 hs, rd_cN]
        unfold F_X3_clear
        rw [sh_3_0 hs, rd_cN, f_fillA ln_4 (by decide), rd_cN, gR_pA, sh_3_1 hs, rd_cN, f_fillA ln_5 (by decide), rd_cN, rd_letN, rd_cN]
      · rw [pI_ne (by decide), pA_ne (by decide), pA_self, if_pos hk]
      · rw [pI_ne (by decide), pA_self, if_pos hk]
      · rw [pI_self, if_neg (by decide)]
    · rw [if_neg (nI_ne0 (by omega) (by omega))]
      exact ⟨S, rfl, rfl, fun _ _ _ _ => rfl, fun k hk => ⟨(q1 k hk).1, (q1 k hk).2.1⟩, q2 (by omega), q3 (by omega)⟩
  obtain ⟨S0, s1, s2, s3, s4, s5, s6⟩ := st0
  have hs0 : Sh S0 := fun a ha => by rw [s2]; exact hs a ha
  have h32 : S0.1 3 2 = 0 ∨ S0.1 3 2 = 1 := by
    rw [s6]
    split
    · exact q4
    · exact Or.inl rfl
  have eA : aimF p (S0.1 4 1) = aimF p (M.1 81 1) := by
    unfold aimF
    by_cases h2 : p = 2
    · rw [(s4 1 (by omega)).1]
    · rw [if_neg h2, if_neg h2]
  have lc := c_lookG hs0 (p := p) (V := V) (L := L) hp hV hL h32
  obtain ⟨M', mg1, mg2, mg3⟩ := m_lookG hm (p := p) (V := V) (L := L) hp hL p8 a3 (fun h2 => (q1 1 (by omega)).2.2)
  rw [eA] at lc
  have lb := lk_B (p := p) (L := L) hV (aimF p (M.1 81 1)) hL
  have gk := gok_lk (p := p) (L := L) hV (aimF p (M.1 81 1)) hL
  have l4 := lk_c4 hp (nI V) (M.1 81 1) L
  generalize (lkF p (nI V) (aimF p (M.1 81 1)) L) = lk at lc mg1 mg3 lb gk l4
  obtain ⟨k, w, c4⟩ := lk
  dsimp only at lc mg1 mg3 lb gk l4
  have hm' : Sh M' := by
    rcases mg2 with rfl | ⟨u, rfl⟩
    · exact hm
    · exact hm
  have m0 : M'.2 = M.2 := by
    rcases mg2 with rfl | ⟨u, rfl⟩ <;> rfl
  have m1 : ∀ a j, ¬ (a = 76 ∧ j = 20) → M'.1 a j = M.1 a j := fun a j hn => by
    rcases mg2 with rfl | ⟨u, rfl⟩
    · rfl
    · rw [pI1]
      by_cases e : a = 76
      · rw [if_pos e, if_neg (fun q => hn ⟨e, q⟩)]
      · rw [if_neg e]
  have hk : ∃ kn : Nat, kn < 3 ∧ k = nI kn := by
    rcases lb with ⟨e, -⟩ | ⟨e | e, -⟩
    · exact ⟨2, by decide, e⟩
    · exact ⟨0, by decide, e.trans nI_0.symm⟩
    · exact ⟨1, by decide, e⟩
  obtain ⟨kn, hkn, ek⟩ := hk
  have ew : (if w = -1 then -1 else rd_shr w 10) = ifF w := by
    unfold ifF
    rcases lb with ⟨-, e⟩ | ⟨-, W, hW, e⟩
    · rw [if_pos e, if_pos e]
    · rw [e, if_neg (nI_ne_m1 (by omega)), if_neg (nI_ne_m1 (by omega)), shr_10 (by omega), ush_10 (by omega)]
  -- states behind the totals
  generalize hS2 : pI (kpS S0 p w k c4) 9 kn (S.1 9 kn + 1) = S2
  generalize hM2 : pI (pI (pI M' 82 p k) 81 p (ifF w)) 80 kn (M.1 80 kn + 1) = M2
  have t0 : S2.2 = S.2 := by rw [← hS2]; exact s2
  have hs2 : Sh S2 := fun a ha => by rw [t0]; exact hs a ha
  have n0 : M2.2 = M.2 := by rw [← hM2]; exact m0
  have hm2 : Sh M2 := fun a ha => by rw [n0]; exact hm a ha
  have t1 : ∀ a, a ≠ 3 → a ≠ 4 → a ≠ 5 → a ≠ 9 → S2.1 a = S.1 a := fun a h1 h2 h3 h4 => by
    rw [← hS2, pI_ne h4]
    unfold kpS
    rw [pI_ne h1, pI_ne h3, pI_ne h2, s3 a h1 h2 h3]
  have t4 : ∀ j, S2.1 4 j = if j = p then ifF w else S0.1 4 j := fun j => by
    rw [← hS2, pI_ne (by decide)]
    unfold kpS
    rw [pI_ne (by decide), pI_ne (by decide), pI1, if_pos rfl]
  have t5 : ∀ j, S2.1 5 j = if j = p then k else S0.1 5 j := fun j => by
    rw [← hS2, pI_ne (by decide)]
    unfold kpS
    rw [pI_ne (by decide), pI1, if_pos rfl, pI_ne (by decide)]
  have t3 : S2.1 3 2 = S0.1 3 2 ||| (if c4 = true then 1 else 0) := by
    rw [← hS2, pI_ne (by decide)]
    unfold kpS
    rw [pI_self]
  have t9 : ∀ j, S2.1 9 j = if j = kn then S.1 9 kn + 1 else S.1 9 j := fun j => by
    rw [← hS2, pI1, if_pos rfl]
    unfold kpS
    rw [pI_ne (by decide), pI_ne (by decide), pI_ne (by decide), s3 9 (by decide) (by decide) (by decide)]
  have n1 : ∀ a j, a ≠ 80 → a ≠ 81 → a ≠ 82 → ¬ (a = 76 ∧ j = 20) → M2.1 a j = M.1 a j := fun a j h1 h2 h3 h4 => by
    rw [← hM2, pI_ne h1, pI_ne h2, pI_ne h3, m1 a j h4]
  have n81 : ∀ j, M2.1 81 j = if j = p then ifF w else M.1 81 j := fun j => by
    rw [← hM2, pI_ne (by decide), pI1, if_pos rfl, pI_ne (by decide), m1 81 j (by omega)]
  have n82 : ∀ j, M2.1 82 j = if j = p then k else M.1 82 j := fun j => by
    rw [← hM2, pI_ne (by decide), pI_ne (by decide), pI1, if_pos rfl, m1 82 j (by omega)]
  have n80 : ∀ j, M2.1 80 j = if j = kn then M.1 80 kn + 1 else M.1 80 j := fun j => by
    rw [← hM2, pI1, if_pos rfl, pI_ne (by decide), pI_ne (by decide), m1 80 j (by omega)]
  have n20 : M2.1 76 20 = M'.1 76 20 := by rw [← hM2, pI_ne (by decide), pI_ne (by decide), pI_ne (by decide)]
  have hw2 : RCw cnt S2 M2 := by
    obtain ⟨w1, w2, w3, w4, w5⟩ := hw
    refine ⟨?_, ?_, ?_, ?_, fun j hj => ?_⟩
    · rw [n1 76 11 (by decide) (by decide) (by decide) (by decide)]; exact w1
    · rw [t1 6 (by decide) (by decide) (by decide) (by decide)]; exact w2
    · rw [t1 6 (by decide) (by decide) (by decide) (by decide)]; exact w3
    · rw [t1 6 (by decide) (by decide) (by decide) (by decide), n1 76 12 (by decide) (by decide) (by decide) (by decide)]; exact w4
    · rw [t1 7 (by decide) (by decide) (by decide) (by decide), n1 79 j (by decide) (by decide) (by decide) (by omega)]; exact w5 j hj
  obtain ⟨S3, M3, c1, c2, c3, c5, c6, c7, c8⟩ := l_count hs2 hm2 hw2 hc k
  have v20 : M3.1 76 20 = M'.1 76 20 := by rw [c8 76 20 (by decide) (by decide)]; exact n20
  refine ⟨S3, M3, ?_, ?_, c3, fun j hj => ?_, fun q hq => ?_, fun q h1 h2 => ?_, ?_, ?_, by rw [c5]; exact t0, fun a h1 h2 => ?_, by rw [c7]; exact n0, fun a j h1 h2 => ?_⟩
  · -- the class
    rw [s1]
    unfold B_X7_lookAt_15 B_X7_lookAt_55 B_X7_lookAt_69
    have l4 : gI S0 2 4 = nI L := by show S0.1 2 4 = _; rw [s3 2 (by decide) (by decide) (by decide), a1]; exact a3
    have l10 : gI S0 2 10 = nI p := by show S0.1 2 10 = _; rw [s3 2 (by decide) (by decide) (by decide)]; exact p10
    have hk0 : Sh (kpS S0 p w k c4) := hs0
    have e9 : gI (kpS S0 p w k c4) 9 kn = S.1 9 kn := by
      show (kpS S0 p w k c4).1 9 kn = _
      unfold kpS
      rw [pI_ne (by decide), pI_ne (by decide), pI_ne (by decide), s3 9 (by decide) (by decide) (by decide)]
    have e10 : gI S3 2 10 = nI p := by
      show S3.1 2 10 = _
      rw [c6 2 (by decide) (by decide), t1 2 (by decide) (by decide) (by decide) (by decide)]; exact p10
    rw [sh_2_0 hs0, rd_cN, l4, l10, lc, rd_bN]
    rw [if_neg (show ¬ k < 0 by rw [ek]; exact nI_pos (by omega)), sh_2_3 hk0, rd_cN, ln_9, if_neg (show ¬ nI 3 ≤ k by rw [ek]; exact nI_ge hkn (by decide)), rd_cN, ln_9]
    have i9 : ∀ E : Option (Int32 × rd_S), rd_i k 3 E = E := fun E => by rw [ek]; exact rd_iN _ hkn (by decide)
    have k9 : k.toNatClampNeg = kn := by rw [ek]; exact nI_clamp (by omega)
    rw [i9, i9, k9, e9, rd_letN, hS2, sh_2_1 hs2, rd_cN]
    by_cases h2 : k = 2
    · rw [if_pos h2] at c1
      rw [if_pos h2, c1, rd_cN, e10]
      by_cases h3 : p = 3
      · rw [if_pos (show nI p = 3 by rw [h3]; rfl), if_pos h3]
      · rw [if_neg (show ¬ nI p = 3 from fun q => h3 ((nI_eq (by omega) (b := 3) (by decide)).mp q)), if_neg h3]
    · rw [if_neg h2] at c1
      rw [if_neg h2, c1, rd_cN, e10]
      by_cases h3 : p = 3
      · rw [if_pos (show nI p = 3 by rw [h3]; rfl), if_pos h3]
      · rw [if_neg (show ¬ nI p = 3 from fun q => h3 ((nI_eq (by omega) (b := 3) (by decide)).mp q)), if_neg h3]
  · -- the model
    rw [mg1]
    unfold B_X12_look_169 B_X12_look_197
    have ip : ∀ E : Option rd_S, rd_i (nI p) 4 E = E := fun E => rd_iN _ hp (by decide)
    have cp : (nI p).toNatClampNeg = p := nI_clamp (by omega)
    have ik : ∀ E : Option rd_S, rd_i k 3 E = E := fun E => by rw [ek]; exact rd_iN _ hkn (by decide)
    have ck : k.toNatClampNeg = kn := by rw [ek]; exact nI_clamp (by omega)
    have hmA : Sh (pI M' 82 p k) := hm'
    have e80 : gI (pI (pI M' 82 p k) 81 p (ifF w)) 80 kn = M.1 80 kn := by
      show (pI (pI M' 82 p k) 81 p (ifF w)).1 80 kn = _
      rw [pI_ne (by decide), pI_ne (by decide), m1 80 kn (by omega)]
    have and3 : (nI p + 1) &&& 3 = nI ((p + 1) % 4) := by rw [nI_1, and_3 (by omega)]
    have tl : ∀ t : Int32, t = ifF w → (rd_i (nI p) (wF.2.2 81) <| rd_let (pI (pI M' 82 p k) 81 (nI p).toNatClampNeg t) fun s27 => rd_c (gR s27 76 13) fun b28 => rd_i k (wF.2.2 b28) <| rd_i k (wF.2.2 b28) <| rd_let (pI s27 b28 k.toNatClampNeg ((gI s27 b28 k.toNatClampNeg) + 1)) fun s29 => rd_c (F_X12_count wF 76 k s29) fun s30 => rd_let (pI s30 76 8 ((nI p + 1) &&& 3)) fun s31 =>
        if nI p = 3 then (rd_c (F_X12_take wF 76 s31) fun s33 => B_X12_look_233 wF 76 s33) else (B_X12_look_233 wF 76 s31)) = (if p = 3 then rd_c (F_X12_take wF 76 (pI M3 76 8 (nI ((p + 1) % 4)))) (fun s33 => B_X12_look_233 wF 76 s33) else B_X12_look_233 wF 76 (pI M3 76 8 (nI ((p + 1) % 4)))) := by
      rintro t rfl
      rw [ln_81, ip, cp, rd_letN, gR_pI, gR_pI, sh_76_13 hm', rd_cN, ln_80, ik, ik, ck, e80, rd_letN, hM2, c2, rd_cN, and3, rd_letN]
      by_cases h3 : p = 3
      · rw [if_pos (show nI p = 3 by rw [h3]; rfl), if_pos h3]
      · rw [if_neg (show ¬ nI p = 3 from fun q => h3 ((nI_eq (by omega) (b := 3) (by decide)).mp q)), if_neg h3]
    rw [sh_76_19 hm', rd_cN, ln_82, ip, rd_letN, cp, sh_76_18 hmA, rd_cN]
    by_cases hw1 : w = -1
    · rw [if_pos hw1] at ew ⊢
      have := tl (-1) ew
      rw [cp] at this
      exact this
    · rw [if_neg hw1] at ew ⊢
      have := tl (rd_shr w 10) ew
      rw [cp] at this
      exact this
  · rw [c6 9 (by decide) (by decide), t9, c8 80 j (by decide) (by omega), n80]
    by_cases e : j = kn
    · rw [if_pos e, if_pos e, b2 kn hkn]
    · rw [if_neg e, if_neg e]; exact b2 j hj
  · rw [c6 4 (by decide) (by decide), c6 5 (by decide) (by decide), t4, t5, c8 81 q (by decide) (by omega), c8 82 q (by decide) (by omega), n81, n82]
    by_cases e : q = p
    · rw [if_pos e, if_pos e, if_pos e, if_pos e]; exact ⟨rfl, rfl, gk⟩
    · rw [if_neg e, if_neg e, if_neg e, if_neg e]
      exact ⟨(s4 q (by omega)).1, (s4 q (by omega)).2, (q1 q (by omega)).2.2⟩
  · rw [c6 4 (by decide) (by decide), c6 5 (by decide) (by decide), t4, t5, if_neg (by omega), if_neg (by omega)]
    exact s5 q (by omega) h2
  · rw [c6 3 (by decide) (by decide), t3, s6, v20, mg3]
    have z : ∀ u : Int32, u = 0 ∨ u = 1 → (0 : Int32) ||| u = u ∧ u ||| 0 = u := by
      rintro u (rfl | rfl) <;> decide
    have hc : (if c4 = true then (1 : Int32) else 0) = 0 ∨ (if c4 = true then (1 : Int32) else 0) = 1 := by
      cases c4
      · exact Or.inl rfl
      · exact Or.inr rfl
    by_cases h2 : p = 2
    · rw [if_neg (show ¬ p = 3 by omega), (z _ hc).1, if_pos (show 2 ≤ p by omega), if_neg (show ¬ p = 0 by omega), if_pos h2]
    · have hc4 : ¬ c4 = true := fun q => h2 (l4 q)
      rw [if_neg hc4]
      by_cases h3 : p = 3
      · rw [if_pos h3, if_pos (show 2 ≤ p by omega), if_neg (show ¬ p = 0 by omega), if_neg h2, (z _ q4).2]
      · rw [if_neg h3, if_neg (show ¬ 2 ≤ p by omega)]; decide
  · rw [v20, mg3]
    split
    · exact Or.inl rfl
    · split
      · split
        · exact Or.inr rfl
        · exact Or.inl rfl
      · exact q4
  · rw [c6 a (by omega) (by omega), t1 a (by omega) (by omega) (by omega) h2]
  · rw [c8 a j (by omega) (by omega), n1 a j (by omega) (by omega) (by omega) (by omega)]
