/-! ODAS. -/
theorem ix_c {S : rd_S} (hs : Sh S) {sz : Nat} (hz : S.1 28 3 = nI sz) (hz8 : sz ≤ 8) (x : Int32) : ∀ (r k n : Nat), k + r = sz → r < n → (∀ i, i < k → ¬ S.1 29 i = x) →
    ∃ p, F_X4_indexOf_2 wF n 28 x (nI k) S = some (p, S) ∧ ((∃ i, i < sz ∧ p = nI i ∧ S.1 29 i = x ∧ ∀ j, j < i → ¬ S.1 29 j = x) ∨ (p = -1 ∧ ∀ i, i < sz → ¬ S.1 29 i = x)) := by
  intro r
  induction r with
  | zero =>
    intro k n hk hn hb
    obtain ⟨n, rfl⟩ : ∃ m, n = m + 1 := ⟨n - 1, by omega⟩
    refine ⟨-1, ?_, Or.inr ⟨rfl, fun i hi => hb i (by omega)⟩⟩
    show B_X4_indexOf_2 wF (F_X4_indexOf_2 wF n) 28 x (nI k) S = _
    unfold B_X4_indexOf_2 B_X4_indexOf_34
    by_cases h8 : 8 ≤ nI k
    · rw [if_pos h8]
    · rw [if_neg h8, if_pos (show gI S 28 3 ≤ nI k by show S.1 28 3 ≤ _; rw [hz]; exact nI_le (by omega) (by omega))]
  | succ r ih =>
    intro k n hk hn hb
    obtain ⟨n, rfl⟩ : ∃ m, n = m + 1 := ⟨n - 1, by omega⟩
    have e : F_X4_indexOf_2 wF (n + 1) 28 x (nI k) S = if S.1 29 k = x then some (nI k, S) else F_X4_indexOf_2 wF n 28 x (nI (k + 1)) S := by
      show B_X4_indexOf_2 wF (F_X4_indexOf_2 wF n) 28 x (nI k) S = _
      unfold B_X4_indexOf_2
      rw [if_neg (show ¬ (8 : Int32) ≤ nI k from nI_ge (b := 8) (by omega) (by decide)), if_neg (show ¬ gI S 28 3 ≤ nI k by show ¬ S.1 28 3 ≤ _; rw [hz]; exact nI_ge (by omega) (by omega)), sh_28_0 hs, rd_cN, ln_29, rd_iN _ (by omega) (by decide), nI_clamp (by omega), rd_letN, nI_1]
    rw [e]
    by_cases h1 : S.1 29 k = x
    · rw [if_pos h1]
      exact ⟨nI k, rfl, Or.inl ⟨k, by omega, rfl, h1, hb⟩⟩
    · rw [if_neg h1]
      refine ih (k + 1) n (by omega) (by omega) (fun i hi => ?_)
      by_cases e2 : i = k
      · subst e2; exact h1
      · exact hb i (by omega)
theorem f_indexOf {S : rd_S} (hs : Sh S) {sz : Nat} (hz : S.1 28 3 = nI sz) (hz8 : sz ≤ 8) (x : Int32) :
    ∃ p, F_X4_indexOf wF 28 x S = some (p, S) ∧ ((∃ i, i < sz ∧ p = nI i ∧ S.1 29 i = x ∧ ∀ j, j < i → ¬ S.1 29 j = x) ∨ (p = -1 ∧ ∀ i, i < sz → ¬ S.1 29 i = x)) :=
  ix_c hs hz hz8 x sz 0 rd_big (by omega) (by unfold rd_big; omega) (fun _ h => absurd h (Nat.not_lt_zero _))
/-- the model's way to the first one of that AID, or behind the last -/
theorem ix_m {M : rd_S} (hm : Sh M) {sz i : Nat} (hz : M.1 76 43 = nI sz) (hz8 : sz ≤ 8) (hi : i ≤ sz) (h1 : ∀ j, j < i → ¬ M.1 93 j = M.1 81 3) (h2 : i < sz → M.1 93 i = M.1 81 3) :
    ∀ (r k n : Nat), k + r = i → r < n → F_X12_application_2 wF n 76 (nI k) M = B_X12_application_31 wF 76 (nI i) M := by
  intro r
  induction r with
  | zero =>
    intro k n hk hn
    obtain ⟨n, rfl⟩ : ∃ m, n = m + 1 := ⟨n - 1, by omega⟩
    have : k = i := by omega
    subst this
    show B_X12_application_2 wF (F_X12_application_2 wF n) 76 (nI k) M = _
    unfold B_X12_application_2
    by_cases h3 : gI M 76 43 ≤ nI k
    · rw [if_pos h3]
    · have h4 : k < sz := by
        rcases Nat.lt_or_ge k sz with q | q
        · exact q
        · exact absurd (show M.1 76 43 ≤ nI k by rw [hz]; exact nI_le q (by omega)) h3
      rw [if_neg h3, sh_76_40 hm, rd_cN, ln_93, rd_iN _ (by omega) (by decide), sh_76_18 hm, rd_cN, ln_81, rd_iT _ (by decide), nI_clamp (by omega), tn_3, if_pos (h2 h4)]
  | succ r ih =>
    intro k n hk hn
    obtain ⟨n, rfl⟩ : ∃ m, n = m + 1 := ⟨n - 1, by omega⟩
    show B_X12_application_2 wF (F_X12_application_2 wF n) 76 (nI k) M = _
    unfold B_X12_application_2
    rw [if_neg (show ¬ gI M 76 43 ≤ nI k by show ¬ M.1 76 43 ≤ _; rw [hz]; exact nI_ge (by omega) (by omega)), sh_76_40 hm, rd_cN, ln_93, rd_iN _ (by omega) (by decide), sh_76_18 hm, rd_cN, ln_81, rd_iT _ (by decide), nI_clamp (by omega), tn_3, if_neg (h1 k (by omega)), rd_letN, nI_1]
    exact ih (k + 1) n (by omega) (by omega)
/-- the model's shift -/
theorem sh_m : ∀ (r k n : Nat) (M : rd_S), Sh M → k + r = 7 → r < n → ∃ M1, F_X12_application_39 wF n 76 (nI k) M = B_X12_application_102 wF 76 7 (pI M1 76 43 7) ∧ M1.2 = M.2 ∧
    (∀ a j, (a = 93 ∨ a = 94 ∨ a = 95) → M1.1 a j = if k ≤ j ∧ j < 7 then M.1 a (j + 1) else M.1 a j) ∧ ∀ a j, ¬ (a = 93 ∨ a = 94 ∨ a = 95) → M1.1 a j = M.1 a j := by
  intro r
  induction r with
  | zero =>
    intro k n M hm hk hn
    obtain ⟨n, rfl⟩ : ∃ m, n = m + 1 := ⟨n - 1, by omega⟩
    have : k = 7 := by omega
    subst this
    refine ⟨M, ?_, rfl, fun a j _ => by rw [if_neg (by omega)], fun _ _ _ => rfl⟩
    show B_X12_application_39 wF (F_X12_application_39 wF n) 76 (nI 7) M = _
    unfold B_X12_application_39
    rw [if_pos (by decide), rd_letN]
  | succ r ih =>
    intro k n M hm hk hn
    obtain ⟨n, rfl⟩ : ∃ m, n = m + 1 := ⟨n - 1, by omega⟩
    obtain ⟨M1, e1, e2, e3, e4⟩ := ih (k + 1) n (pI (pI (pI M 93 k (M.1 93 (k + 1))) 94 k (M.1 94 (k + 1))) 95 k (M.1 95 (k + 1))) hm (by omega) (by omega)
    refine ⟨M1, ?_, e2, ?_, ?_⟩
    · rw [← e1]
      show B_X12_application_39 wF (F_X12_application_39 wF n) 76 (nI k) M = _
      unfold B_X12_application_39
      rw [if_neg (show ¬ (7 : Int32) ≤ nI k from nI_ge (b := 7) (by omega) (by decide))]
      have i1 : ∀ E : Option rd_S, rd_i (nI (k + 1)) 8 E = E := fun E => rd_iN _ (by omega) (by decide)
      have i2 : ∀ E : Option rd_S, rd_i (nI k) 8 E = E := fun E => rd_iN _ (by omega) (by decide)
      have c1 : (nI (k + 1)).toNatClampNeg = k + 1 := nI_clamp (by omega)
      have c2 : (nI k).toNatClampNeg = k := nI_clamp (by omega)
      simp (disch := decide) only [sh_76_40 hm, sh_76_41 hm, sh_76_42 hm, gR_pI, rd_cN, rd_letN, ln_93, ln_94, ln_95, nI_1, i1, i2, c1, c2, gI, pI_ne]
    · intro a j ha
      rw [e3 a j ha]
      have w : ∀ i, i ≠ k → (pI (pI (pI M 93 k (M.1 93 (k + 1))) 94 k (M.1 94 (k + 1))) 95 k (M.1 95 (k + 1))).1 a i = M.1 a i := fun i hi => by
        rw [pI1, pI1, pI1, if_neg hi, if_neg hi, if_neg hi, ite_self, ite_self, ite_self]
      by_cases c : k + 1 ≤ j ∧ j < 7
      · rw [if_pos c, if_pos (by omega), w _ (by omega)]
      · rw [if_neg c]
        by_cases c2 : j = k
        · subst c2
          rw [if_pos (by omega)]
          rcases ha with rfl | rfl | rfl
          · simp +decide only [pI1, if_true, if_false]
          · simp +decide only [pI1, if_true, if_false]
          · simp +decide only [pI1, if_true, if_false]
        · rw [if_neg (by omega), w _ c2]
    · intro a j ha
      rw [e4 a j ha, pI1, pI1, pI1, if_neg (by omega), if_neg (by omega), if_neg (by omega)]
theorem l_oda {N : Nat} {S M : rd_S} (hs : Sh S) (hm : Sh M) (h : RCS N S M) {b c d : Nat} (hb : Kn S M 1 b) (hc : Kn S M 2 c) (hd : Kn S M 3 d) : Both N S M (F_X4_take wF 28 (nI d) (nI (b % 32)) (nI c) S) (F_X12_application wF 76 M) := by
  obtain ⟨-, b1, b2, -⟩ := hb
  obtain ⟨-, c1, c2, -⟩ := hc
  obtain ⟨-, d1, d2, -⟩ := hd
  obtain ⟨sz, z1, z2, z3, z4⟩ := h.2.2.2.2.2.2.1
  obtain ⟨p, p1, p2⟩ := f_indexOf hs z2 z1 (nI d)
  -- writing at the same index on both sides
  have put : ∀ (S1 M1 : rd_S) (i sz1 : Nat), Rg 9 9 S S1 → Rg 29 29 M M1 → sz1 ≤ 8 → i < sz1 → S1.1 28 3 = nI sz1 → M1.1 76 43 = nI sz1 → (∀ j, j < sz1 → j ≠ i → S1.1 29 j = M1.1 93 j ∧ S1.1 30 j = M1.1 94 j ∧ S1.1 31 j = M1.1 95 j) →
      Both N S M (B_X4_take_19 wF 28 (nI d) (nI (b % 32)) (nI c) (nI i) S1) (B_X12_application_120 wF 76 (nI i) M1) := by
    intro S1 M1 i sz1 r1 r2 q1 q2 q3 q4 q5
    have hs1 := r1.sh hs
    have hm1 := r2.sh hm
    have w1 : M1.1 81 = M.1 81 := funext fun j => r2.at 81 j (c := 21) rfl (by decide)
    have i2 : ∀ E : Option rd_S, rd_i (nI i) 8 E = E := fun E => rd_iN _ (by omega) (by decide)
    have cc : (nI i).toNatClampNeg = i := nI_clamp (by omega)
    simp (disch := first | decide | omega) only [B_X4_take_19, B_X4_take_55, if_neg (nI_pos (show i < 2 ^ 31 by omega)), if_neg (show ¬ (8 : Int32) ≤ nI i from nI_ge (b := 8) (by omega) (by decide)), B_X12_application_120, sh_28_0 hs1, sh_28_1 hs1, sh_28_2 hs1, sh_76_18 hm1, sh_76_40 hm1, sh_76_41 hm1, sh_76_42 hm1, gR_pI, rd_cN, rd_letN, ln_29, ln_30, ln_31, ln_93, ln_94, ln_95, ln_81, rd_iT, i2, cc, gI, tn_1, tn_2, tn_3, pI_ne, w1, b1, c1, d1, and_31]
    refine Nx.both ?_
    have hS := ((r1.pI (a := 29) (j := i) (v := nI d) ⟨Nat.le_refl _, Nat.le_refl _⟩).pI (a := 30) (j := i) (v := nI (b % 32)) ⟨Nat.le_refl _, Nat.le_refl _⟩).pI (a := 31) (j := i) (v := nI c) ⟨Nat.le_refl _, Nat.le_refl _⟩
    have hM := ((r2.pI (a := 93) (j := i) (v := nI d) ⟨Nat.le_refl _, Nat.le_refl _⟩).pI (a := 94) (j := i) (v := nI (b % 32)) ⟨Nat.le_refl _, Nat.le_refl _⟩).pI (a := 95) (j := i) (v := nI c) ⟨Nat.le_refl _, Nat.le_refl _⟩
    refine ⟨h.o hS hM ⟨sz1, q1, ?_, ?_, ?_⟩, hS.mo (by decide) (by decide), hM.mo (by decide) (by decide)⟩
    · rw [pI_ne (by decide), pI_ne (by decide), pI_ne (by decide)]; exact q3
    · rw [pI_ne (by decide), pI_ne (by decide), pI_ne (by decide)]; exact q4
    · intro j hj
      by_cases e : j = i
      · subst e
        simp +decide only [pI1, if_true, if_false]
      · simp +decide only [pI1, if_true, if_false, if_neg e]
        exact q5 j hj e
  have eF : ∀ i, i ≤ sz → (∀ j, j < i → ¬ S.1 29 j = nI d) → (i < sz → S.1 29 i = nI d) → F_X12_application wF 76 M = B_X12_application_31 wF 76 (nI i) M := by
    intro i hi g1 g2
    refine ix_m hm z3 z1 hi (fun j hj => ?_) (fun hj => ?_) i 0 rd_big (by omega) (by unfold rd_big; omega)
    · rw [← (z4 j (by omega)).1, d1]; exact g1 j hj
    · rw [← (z4 i hj).1, d1]; exact g2 hj
  unfold F_X4_take
  rw [p1, rd_bN]
  rcases p2 with ⟨i, i1, rfl, i3, i4⟩ | ⟨rfl, i1⟩
  · rw [if_neg (nI_ne_m1 (by omega)), eF i (by omega) i4 (fun _ => i3)]
    unfold B_X12_application_31 B_X12_application_102
    rw [if_neg (fun q => by have := (nI_eq (by omega) (b := 8) (by decide)).mp q; omega), if_neg (show ¬ nI i = gI M 76 43 by show ¬ nI i = M.1 76 43; rw [z3]; exact fun q => by have := (nI_eq (by omega) (by omega)).mp q; omega)]
    exact put S M i sz Rg.rf Rg.rf z1 i1 z2 z3 (fun j hj _ => z4 j hj)
  · rw [if_pos rfl, eF sz (Nat.le_refl _) i1 (fun q => absurd q (Nat.lt_irrefl _))]
    unfold F_X4_append B_X12_application_31
    by_cases h8 : sz = 8
    · subst h8
      obtain ⟨M1, m1, m2, m3, m4⟩ := sh_m 7 0 rd_big M hm (by decide) (by unfold rd_big; omega)
      rw [if_neg (show ¬ gI S 28 3 < 8 by show ¬ S.1 28 3 < 8; rw [z2]; decide), if_pos (show nI 8 = 8 from rfl)]
      rw [show F_X12_application_39 wF rd_big 76 0 M = _ from m1]
      have rM : Rg 29 29 M M1 := ⟨fun a _ => by rw [m2], fun a j hj => m4 a j (by
        rintro (rfl | rfl | rfl)
        · exact absurd hj (show ¬ (29 < 29 ∨ 29 < 29) by omega)
        · exact absurd hj (show ¬ (29 < 29 ∨ 29 < 29) by omega)
        · exact absurd hj (show ¬ (29 < 29 ∨ 29 < 29) by omega))⟩
      have cp : ∀ E : Option (Int32 × rd_S), rd_cp 1 0 7 8 8 E = E := fun E => if_pos (by decide)
      simp only [sh_28_0 hs, sh_28_1 hs, sh_28_2 hs, rd_cN, ln_29, ln_30, ln_31, cp, rd_letN, rd_cpy, gR_pA, rd_bN, tn_0, tn_1, tn_7]
      unfold B_X12_application_102
      rw [if_pos (show (7 : Int32) = gI (pI M1 76 43 7) 76 43 from pI_self.symm), rd_letN]
      have cy : ∀ (f : Nat → Int32) (j : Nat), j < 7 → va_cpy f f 1 0 7 j = f (j + 1) := fun f j hj => by
        rw [pk_cpy_in (Nat.zero_le _) (by omega), Nat.sub_zero, Nat.add_comm]
      refine put _ _ 7 8 ?_ ?_ (by decide) (by decide) ?_ ?_ ?_
      · exact ((Rg.rf.pA (fun _ => ⟨Nat.le_refl _, Nat.le_refl _⟩)).pA (fun _ => ⟨Nat.le_refl _, Nat.le_refl _⟩)).pA (fun _ => ⟨Nat.le_refl _, Nat.le_refl _⟩)
      · exact (rM.pI (by decide)).pI (by decide)
      · rw [pA_ne (by decide), pA_ne (by decide), pA_ne (by decide)]; exact z2
      · rw [pI_self]; show (pI M1 76 43 7).1 76 43 + 1 = _; rw [pI_self]; rfl
      · intro j hj hne
        have hj7 : j < 7 := by omega
        have t1 : ∀ a, a ≠ 76 → (pI (pI M1 76 43 7) 76 43 (gI (pI M1 76 43 7) 76 43 + 1)).1 a = M1.1 a := fun a ha => by rw [pI_ne ha, pI_ne ha]
        rw [t1 93 (by decide), t1 94 (by decide), t1 95 (by decide), m3 93 j (by decide), m3 94 j (by decide), m3 95 j (by decide), if_pos ⟨Nat.zero_le _, hj7⟩, if_pos ⟨Nat.zero_le _, hj7⟩, if_pos ⟨Nat.zero_le _, hj7⟩]
        obtain ⟨x1, x2, x3⟩ := z4 (j + 1) (by omega)
        refine ⟨?_, ?_, ?_⟩
        · rw [pA_ne (by decide), pA_ne (by decide), pA_self, cy _ _ hj7]; exact x1
        · rw [pA_ne (by decide), pA_self, pA_ne (by decide), cy _ _ hj7]; exact x2
        · rw [pA_self, pA_ne (by decide), pA_ne (by decide), cy _ _ hj7]; exact x3
    · have h8' : ¬ nI sz = 8 := fun q => h8 ((nI_eq (by omega) (b := 8) (by decide)).mp q)
      rw [if_pos (show gI S 28 3 < 8 by show S.1 28 3 < 8; rw [z2]; exact nI_lt (b := 8) (by omega) (by decide)), if_neg h8']
      unfold B_X12_application_102
      rw [if_pos (show nI sz = gI M 76 43 from z3.symm), rd_letN, rd_letN, rd_bN]
      have e1 : gI (pI S 28 3 (gI S 28 3 + 1)) 28 3 - 1 = nI sz := by
        show (pI S 28 3 (S.1 28 3 + 1)).1 28 3 - 1 = _
        rw [pI_self, z2, nI_1, nI_pred]
      rw [e1]
      refine put _ _ sz (sz + 1) (Rg.rf.pI (by decide)) (Rg.rf.pI (by decide)) (by omega) (by omega) ?_ ?_ ?_
      · rw [pI_self]; show S.1 28 3 + 1 = _; rw [z2, nI_1]
      · rw [pI_self]; show M.1 76 43 + 1 = _; rw [z3, nI_1]
      · intro j hj hne
        rw [pI_ne (by decide), pI_ne (by decide), pI_ne (by decide), pI_ne (by decide), pI_ne (by decide), pI_ne (by decide)]
        exact z4 j (by omega)
/-- which ODA tells the TAGS' place -/
theorem ta_m {M : rd_S} (hm : Sh M) {sz i : Nat} (hz : M.1 76 43 = nI sz) (hz8 : sz ≤ 8) (hi : i ≤ sz) (h1 : ∀ j, j < i → ¬ M.1 93 j = 19415) (h2 : i < sz → M.1 93 i = 19415) (x : Int32) :
    ∀ (r k n : Nat), k + r = i → r < n → F_X12_tagsAre_2 wF n 76 x (nI k) M = some (if i < sz ∧ M.1 94 i = x then 1 else 0, M) := by
  intro r
  induction r with
  | zero =>
    intro k n hk hn
    obtain ⟨n, rfl⟩ : ∃ m, n = m + 1 := ⟨n - 1, by omega⟩
    have : k = i := by omega
    subst this
    show B_X12_tagsAre_2 wF (F_X12_tagsAre_2 wF n) 76 x (nI k) M = _
    unfold B_X12_tagsAre_2 B_X12_tagsAre_37
    by_cases h3 : k < sz
    · rw [if_neg (show ¬ gI M 76 43 ≤ nI k by show ¬ M.1 76 43 ≤ _; rw [hz]; exact nI_ge (by omega) (by omega)), sh_76_40 hm, rd_cN, ln_93, rd_iN _ (by omega) (by decide), nI_clamp (by omega), if_pos (h2 h3), sh_76_41 hm, rd_cN, ln_94, rd_iN _ (by omega) (by decide)]
      by_cases h4 : M.1 94 k = x
      · rw [if_pos h4, if_pos ⟨h3, h4⟩, rd_zT _ (by decide)]
      · rw [if_neg h4, if_neg (fun q => h4 q.2), rd_zT _ (by decide)]
    · rw [if_pos (show gI M 76 43 ≤ nI k by show M.1 76 43 ≤ _; rw [hz]; exact nI_le (by omega) (by omega)), if_neg (fun q => h3 q.1)]
  | succ r ih =>
    intro k n hk hn
    obtain ⟨n, rfl⟩ : ∃ m, n = m + 1 := ⟨n - 1, by omega⟩
    show B_X12_tagsAre_2 wF (F_X12_tagsAre_2 wF n) 76 x (nI k) M = _
    unfold B_X12_tagsAre_2
    rw [if_neg (show ¬ gI M 76 43 ≤ nI k by show ¬ M.1 76 43 ≤ _; rw [hz]; exact nI_ge (by omega) (by omega)), sh_76_40 hm, rd_cN, ln_93, rd_iN _ (by omega) (by decide), nI_clamp (by omega), if_neg (h1 k (by omega)), rd_letN, nI_1]
    exact ih (k + 1) n (by omega) (by omega)
/-- the TAGS' place, on both sides: t for the class, which has -1 without one -/
theorem l_tagsAre {S M : rd_S} (hs : Sh S) (hm : Sh M) (h : RCo S M) : ∃ t, F_X4_typeOf wF 28 19415 S = some (t, S) ∧ ∀ x : Int32, ¬ x = -1 → F_X12_tagsAre wF 76 x M = some (if x = t then 1 else 0, M) := by
  obtain ⟨sz, z1, z2, z3, z4⟩ := h
  obtain ⟨p, p1, p2⟩ := f_indexOf hs z2 z1 19415
  unfold F_X4_typeOf
  rw [sh_28_1 hs, rd_cN, p1, rd_bN, f_at ln_30 (by decide), rd_bN]
  refine ⟨_, rfl, fun x hx => ?_⟩
  rcases p2 with ⟨i, i1, rfl, i3, i4⟩ | ⟨rfl, i1⟩
  · rw [atF_nI (by omega) (by decide)]
    have := ta_m hm z3 z1 (Nat.le_of_lt i1) (fun j hj => by rw [← (z4 j (by omega)).1]; exact i4 j hj) (fun _ => by rw [← (z4 i i1).1]; exact i3) x i 0 rd_big (by omega) (by unfold rd_big; omega)
    unfold F_X12_tagsAre
    rw [show F_X12_tagsAre_2 wF rd_big 76 x 0 M = _ from this]
    by_cases e : x = S.1 30 i
    · rw [if_pos e, if_pos ⟨i1, by rw [← (z4 i i1).2.1]; exact e.symm⟩]
    · rw [if_neg e, if_neg (fun q => e (by rw [(z4 i i1).2.1]; exact q.2.symm))]
  · rw [atF_neg (by decide), if_neg hx]
    have := ta_m hm z3 z1 (Nat.le_refl _) (fun j hj => by rw [← (z4 j (by omega)).1]; exact i1 j hj) (fun q => absurd q (Nat.lt_irrefl _)) x sz 0 rd_big (by omega) (by unfold rd_big; omega)
    unfold F_X12_tagsAre
    rw [show F_X12_tagsAre_2 wF rd_big 76 x 0 M = _ from this, if_neg (fun q => absurd q.1 (Nat.lt_irrefl _))]
