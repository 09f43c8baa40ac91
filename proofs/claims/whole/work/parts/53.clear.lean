/-! All that the GROUPS told is forgotten. -/
def FrS (S : rd_S) : Prop := (∀ j, j < 10 → S.1 14 j = -1) ∧ (S.1 15 0 = 4 ∧ S.1 15 1 = -1 ∧ S.1 15 4 = 0 ∧ S.1 15 6 = 0 ∧ S.1 15 7 = 0) ∧ (S.1 18 0 = 16 ∧ S.1 18 1 = 13 ∧ S.1 18 4 = 0 ∧ S.1 18 5 = -1 ∧ S.1 18 6 = 0 ∧ S.1 18 7 = 0) ∧ (S.1 21 0 = 2 ∧ S.1 21 1 = -1 ∧ S.1 21 4 = 0 ∧ S.1 21 5 = -1 ∧ S.1 21 6 = 0 ∧ S.1 21 7 = 0) ∧
  (S.1 24 2 = 0 ∧ S.1 24 3 = 0 ∧ S.1 24 6 = 0 ∧ S.1 24 7 = 0) ∧ S.1 27 4 = 0 ∧ S.1 28 3 = 0 ∧ S.1 32 1 = 0 ∧ S.1 74 1 = 0 ∧ (∀ j, j < 8 → S.1 75 j = -1) ∧ ∃ π : Nat → Nat, (∀ j, j < 8 → π j < 8 ∧ S.2 33 j = some (34 + 5 * π j)) ∧ (∀ i j, i < 8 → j < 8 → π i = π j → i = j) ∧ (∀ k, k < 8 → S.1 (34 + 5 * k + 2) 0 = 4 ∧ S.1 (34 + 5 * k + 2) 1 = -1)
def FrM (M : rd_S) : Prop := (∀ j, j < 10 → M.1 85 j = -1) ∧ (∀ j, j < 6 → M.1 86 j = 0) ∧ (∀ j, j < 11 → M.1 88 j = 0) ∧ (∀ j, j < 11 → M.1 90 j = -1) ∧ M.1 76 31 = -1 ∧ M.1 76 32 = -1 ∧ M.1 76 35 = -1 ∧ M.1 76 38 = 0 ∧ M.1 76 39 = 0 ∧ M.1 76 43 = 0 ∧ M.1 76 45 = 0 ∧ M.1 76 50 = 0 ∧ M.1 76 53 = 0
theorem RD.new {d row pcs n cap : Nat} {S M : rd_S} (h4 : S.1 d 4 = 0) (h6 : S.1 d 6 = 0) (m4 : M.1 88 row = 0) (m6 : M.1 90 row = -1) : RD d row pcs n cap S M :=
  ⟨0, 0, Nat.two_pow_pos _, Nat.zero_le _, h4, m4, h6, Or.inr ⟨m6, rfl⟩, fun _ hj => absurd hj (Nat.not_lt_zero _), fun s k _ _ q => by rw [Nat.zero_testBit] at q; exact absurd q (by decide)⟩
theorem fresh {N : Nat} {S M : rd_S} (h : FrS S) (g : FrM M) : RCS N S M := by
  obtain ⟨s14, ⟨a1, a2, a3, a4, a5⟩, ⟨b1, b2, b3, b4, b5, b6⟩, ⟨c1, c2, c3, c4, c5, c6⟩, ⟨d1, d2, d3, d4⟩, e1, e2, e3, e4, e5, π, p1, p2, p3⟩ := h
  obtain ⟨m85, m86, m88, m90, n31, n32, n35, n38, n39, n43, n45, n50, n53⟩ := g
  refine ⟨?_, ⟨a1, a2, ?_, RD.new a3 a4 (m88 0 (by decide)) (m90 0 (by decide))⟩, ⟨b1, b2, ?_, Or.inl ⟨b4, n31, b3, RD.new b3 b5 (m88 1 (by decide)) (m90 1 (by decide))⟩⟩, ⟨c1, c2, ?_, RD.new c3 c5 (m88 2 (by decide)) (m90 2 (by decide)), ?_, Or.inl ⟨n32, c3⟩⟩, ⟨?_, ?_, ?_, ⟨0, by decide, d3, Or.inr ⟨n35, rfl⟩, fun _ hj => absurd hj (Nat.not_lt_zero _)⟩, Or.inl ⟨n38, n39⟩⟩, ⟨?_, Or.inl ⟨n50, e1⟩⟩, ⟨0, by decide, e2, n43, fun _ hj => absurd hj (Nat.not_lt_zero _)⟩, ⟨?_, Or.inl ⟨n45, e5⟩⟩, ⟨0, π, by decide, e3, n53, p1, p2, p3, fun _ hj => absurd hj (Nat.not_lt_zero _)⟩⟩
  · intro j hj; rw [s14 j hj, m85 j hj]
  · rw [a5, m86 0 (by decide)]
  · rw [b6, m86 1 (by decide)]
  · rw [c6, m86 2 (by decide)]
  · rw [c4, n32]
  · rw [d4, m86 3 (by decide)]
  · rw [d1, n38]
  · rw [d2, n39]
  · rw [e1, m86 4 (by decide)]
  · rw [e4, m86 5 (by decide)]
/-- the model's loops -/
theorem u72 : ∀ (r i n : Nat) (M : rd_S), Sh M → i + r = 704 → r < n → F_X12_unknown_72 wF n 76 (nI i) M = some (pI (pI (pI (pI (pI (pI (pI (pI (pI (pA M 87 (fun j => if i ≤ j ∧ j < 704 then 0 else M.1 87 j)) 76 31 (-1)) 76 32 (-1)) 76 35 (-1)) 76 38 0) 76 39 0) 76 43 0) 76 45 0) 76 50 0) 76 53 0) := by
  intro r
  induction r with
  | zero =>
    intro i n M hm hi hn
    obtain ⟨n, rfl⟩ : ∃ q, n = q + 1 := ⟨n - 1, by omega⟩
    show B_X12_unknown_72 wF (F_X12_unknown_72 wF n) 76 (nI i) M = _
    unfold B_X12_unknown_72
    rw [sh_76_27 hm, rd_cN, ln_87, if_pos (nI_le (by omega) (by omega)), pA_id M 87 _ (by funext j; rw [if_neg (by omega)])]
    simp only [rd_letN]
  | succ r ih =>
    intro i n M hm hi hn
    obtain ⟨n, rfl⟩ : ∃ q, n = q + 1 := ⟨n - 1, by omega⟩
    show B_X12_unknown_72 wF (F_X12_unknown_72 wF n) 76 (nI i) M = _
    unfold B_X12_unknown_72
    have e : (fun j => if i + 1 ≤ j ∧ j < 704 then 0 else (pI M 87 i 0).1 87 j) = fun j => if i ≤ j ∧ j < 704 then 0 else M.1 87 j := by
      funext j
      by_cases h : i + 1 ≤ j ∧ j < 704
      · rw [if_pos h, if_pos (by omega)]
      · rw [if_neg h]
        by_cases h2 : j = i
        · subst h2; rw [pI_self, if_pos (by omega)]
        · rw [pI_row h2, if_neg (by omega)]
    rw [sh_76_27 hm, rd_cN, ln_87, if_neg (nI_ge (by omega) (by omega)), rd_cN, ln_87, rd_iN _ (by omega) (by decide), nI_clamp (by omega), rd_letN, rd_letN, nI_1, ih (i + 1) n (pI M 87 i 0) hm (by omega) (by omega), pA_pI, e]
theorem u44 : ∀ (r i n : Nat) (M : rd_S), Sh M → i + r = 11 → r < n → ∃ M1, F_X12_unknown_44 wF n 76 (nI i) M = F_X12_unknown_72 wF rd_big 76 0 M1 ∧ M1.2 = M.2 ∧ (∀ j, M1.1 88 j = if i ≤ j ∧ j < 11 then 0 else M.1 88 j) ∧ (∀ j, M1.1 90 j = if i ≤ j ∧ j < 11 then -1 else M.1 90 j) ∧ ∀ a, a ≠ 88 → a ≠ 90 → M1.1 a = M.1 a := by
  intro r
  induction r with
  | zero =>
    intro i n M hm hi hn
    obtain ⟨n, rfl⟩ : ∃ q, n = q + 1 := ⟨n - 1, by omega⟩
    have : i = 11 := by omega
    subst this
    refine ⟨M, ?_, rfl, fun j => by rw [if_neg (by omega)], fun j => by rw [if_neg (by omega)], fun _ _ _ => rfl⟩
    show B_X12_unknown_44 wF (F_X12_unknown_44 wF n) 76 (nI 11) M = _
    unfold B_X12_unknown_44
    rw [if_pos (by decide)]
  | succ r ih =>
    intro i n M hm hi hn
    obtain ⟨n, rfl⟩ : ∃ q, n = q + 1 := ⟨n - 1, by omega⟩
    obtain ⟨M1, e1, e2, e3, e4, e5⟩ := ih (i + 1) n (pI (pI M 88 i 0) 90 i (-1)) hm (by omega) (by omega)
    refine ⟨M1, ?_, e2, fun j => ?_, fun j => ?_, fun a h1 h2 => by rw [e5 a h1 h2, pI_ne h2, pI_ne h1]⟩
    · rw [← e1]
      show B_X12_unknown_44 wF (F_X12_unknown_44 wF n) 76 (nI i) M = _
      unfold B_X12_unknown_44
      rw [if_neg (show ¬ (11 : Int32) ≤ nI i from nI_ge (b := 11) (by omega) (by decide)), sh_76_28 hm, rd_cN, ln_88, rd_iN _ (by omega) (by decide), nI_clamp (by omega), rd_letN, gR_pI, sh_76_30 hm, rd_cN, ln_90, rd_iN _ (by omega) (by decide), rd_letN, rd_letN, nI_1]
    · rw [e3 j, pI_ne (by decide)]
      by_cases c : i + 1 ≤ j ∧ j < 11
      · rw [if_pos c, if_pos (by omega)]
      · rw [if_neg c]
        by_cases c2 : j = i
        · subst c2; rw [pI_self, if_pos (by omega)]
        · rw [pI_row c2, if_neg (by omega)]
    · rw [e4 j]
      by_cases c : i + 1 ≤ j ∧ j < 11
      · rw [if_pos c, if_pos (by omega)]
      · rw [if_neg c]
        by_cases c2 : j = i
        · subst c2; rw [pI_self, if_pos (by omega)]
        · rw [pI_row c2, if_neg (by omega), pI_ne (by decide)]
theorem u23 : ∀ (r i n : Nat) (M : rd_S), Sh M → i + r = 6 → r < n → F_X12_unknown_23 wF n 76 (nI i) M = F_X12_unknown_44 wF rd_big 76 0 (pA M 86 (fun j => if i ≤ j ∧ j < 6 then 0 else M.1 86 j)) := by
  intro r
  induction r with
  | zero =>
    intro i n M hm hi hn
    obtain ⟨n, rfl⟩ : ∃ q, n = q + 1 := ⟨n - 1, by omega⟩
    have : i = 6 := by omega
    subst this
    show B_X12_unknown_23 wF (F_X12_unknown_23 wF n) 76 (nI 6) M = _
    unfold B_X12_unknown_23
    rw [if_pos (by decide), pA_id M 86 _ (by funext j; rw [if_neg (by omega)])]
  | succ r ih =>
    intro i n M hm hi hn
    obtain ⟨n, rfl⟩ : ∃ q, n = q + 1 := ⟨n - 1, by omega⟩
    show B_X12_unknown_23 wF (F_X12_unknown_23 wF n) 76 (nI i) M = _
    unfold B_X12_unknown_23
    have e : (fun j => if i + 1 ≤ j ∧ j < 6 then 0 else (pI M 86 i 0).1 86 j) = fun j => if i ≤ j ∧ j < 6 then 0 else M.1 86 j := by
      funext j
      by_cases h : i + 1 ≤ j ∧ j < 6
      · rw [if_pos h, if_pos (by omega)]
      · rw [if_neg h]
        by_cases h2 : j = i
        · subst h2; rw [pI_self, if_pos (by omega)]
        · rw [pI_row h2, if_neg (by omega)]
    rw [if_neg (show ¬ (6 : Int32) ≤ nI i from nI_ge (b := 6) (by omega) (by decide)), sh_76_26 hm, rd_cN, ln_86, rd_iN _ (by omega) (by decide), nI_clamp (by omega), rd_letN, rd_letN, nI_1, ih (i + 1) n (pI M 86 i 0) hm (by omega) (by omega), pA_pI, e]
theorem u2 : ∀ (r i n : Nat) (M : rd_S), Sh M → i + r = 10 → r < n → F_X12_unknown_2 wF n 76 (nI i) M = F_X12_unknown_23 wF rd_big 76 0 (pA M 85 (fun j => if i ≤ j ∧ j < 10 then -1 else M.1 85 j)) := by
  intro r
  induction r with
  | zero =>
    intro i n M hm hi hn
    obtain ⟨n, rfl⟩ : ∃ q, n = q + 1 := ⟨n - 1, by omega⟩
    have : i = 10 := by omega
    subst this
    show B_X12_unknown_2 wF (F_X12_unknown_2 wF n) 76 (nI 10) M = _
    unfold B_X12_unknown_2
    rw [if_pos (by decide), pA_id M 85 _ (by funext j; rw [if_neg (by omega)])]
  | succ r ih =>
    intro i n M hm hi hn
    obtain ⟨n, rfl⟩ : ∃ q, n = q + 1 := ⟨n - 1, by omega⟩
    show B_X12_unknown_2 wF (F_X12_unknown_2 wF n) 76 (nI i) M = _
    unfold B_X12_unknown_2
    have e : (fun j => if i + 1 ≤ j ∧ j < 10 then -1 else (pI M 85 i (-1)).1 85 j) = fun j => if i ≤ j ∧ j < 10 then -1 else M.1 85 j := by
      funext j
      by_cases h : i + 1 ≤ j ∧ j < 10
      · rw [if_pos h, if_pos (by omega)]
      · rw [if_neg h]
        by_cases h2 : j = i
        · subst h2; rw [pI_self, if_pos (by omega)]
        · rw [pI_row h2, if_neg (by omega)]
    rw [if_neg (show ¬ (10 : Int32) ≤ nI i from nI_ge (b := 10) (by omega) (by decide)), sh_76_25 hm, rd_cN, ln_85, rd_iN _ (by omega) (by decide), nI_clamp (by omega), rd_letN, rd_letN, nI_1, ih (i + 1) n (pI M 85 i (-1)) hm (by omega) (by omega), pA_pI, e]
theorem m_unknown {M : rd_S} (hm : Sh M) : ∃ M1, F_X12_unknown wF 76 M = some M1 ∧ FrM M1 ∧ Rg 23 31 M M1 := by
  obtain ⟨M1, e1, e2, e3, e4, e5⟩ := u44 11 0 rd_big (pA (pA M 85 (fun j => if 0 ≤ j ∧ j < 10 then -1 else M.1 85 j)) 86 (fun j => if 0 ≤ j ∧ j < 6 then 0 else (pA M 85 (fun j => if 0 ≤ j ∧ j < 10 then -1 else M.1 85 j)).1 86 j)) hm (by decide) (by unfold rd_big; omega)
  have hm1 : Sh M1 := fun a ha => by rw [e2]; exact hm a ha
  unfold F_X12_unknown
  rw [show F_X12_unknown_2 wF rd_big 76 0 M = _ from u2 10 0 rd_big M hm (by decide) (by unfold rd_big; omega), show F_X12_unknown_23 wF rd_big 76 0 (pA M 85 _) = _ from u23 6 0 rd_big _ hm (by decide) (by unfold rd_big; omega), show F_X12_unknown_44 wF rd_big 76 0 _ = _ from e1, show F_X12_unknown_72 wF rd_big 76 0 M1 = _ from u72 704 0 rd_big M1 hm1 (by decide) (by unfold rd_big; omega)]
  refine ⟨_, rfl, ⟨?_, ?_, ?_, ?_, ?_, ?_, ?_, ?_, ?_, ?_, ?_, ?_, ?_⟩, ?_⟩
  · intro j hj
    simp +decide only [pI1, pA1, if_true, if_false]
    rw [e5 85 (by decide) (by decide), pA_ne (by decide), pA_self, if_pos ⟨Nat.zero_le _, hj⟩]
  · intro j hj
    simp +decide only [pI1, pA1, if_true, if_false]
    rw [e5 86 (by decide) (by decide), pA_self, if_pos ⟨Nat.zero_le _, hj⟩]
  · intro j hj
    simp +decide only [pI1, pA1, if_true, if_false]
    rw [e3 j, if_pos ⟨Nat.zero_le _, hj⟩]
  · intro j hj
    simp +decide only [pI1, pA1, if_true, if_false]
    rw [e4 j, if_pos ⟨Nat.zero_le _, hj⟩]
  · simp +decide only [pI1, pA1, if_true, if_false]
  · simp +decide only [pI1, pA1, if_true, if_false]
  · simp +decide only [pI1, pA1, if_true, if_false]
  · simp +decide only [pI1, pA1, if_true, if_false]
  · simp +decide only [pI1, pA1, if_true, if_false]
  · simp +decide only [pI1, pA1, if_true, if_false]
  · simp +decide only [pI1, pA1, if_true, if_false]
  · simp +decide only [pI1, pA1, if_true, if_false]
  · simp +decide only [pI1, pA1, if_true, if_false]
  · have r0 : Rg 23 31 M M1 := by
      refine ⟨fun a _ => by rw [e2]; rfl, fun a j hj => ?_⟩
      by_cases a1 : a = 88
      · have c : col a j = rowc j := by rw [a1]; rfl
        have : 23 ≤ rowc j ∧ rowc j ≤ 31 := by unfold rowc; (repeat' split) <;> omega
        omega
      by_cases a2 : a = 90
      · have c : col a j = rowc j := by rw [a2]; rfl
        have : 23 ≤ rowc j ∧ rowc j ≤ 31 := by unfold rowc; (repeat' split) <;> omega
        omega
      rw [e5 a a1 a2]
      by_cases a3 : a = 86
      · subst a3
        rw [pA_self]
        by_cases h6 : j < 6
        · have : 23 ≤ col6 j ∧ col6 j ≤ 31 := by unfold col6; (repeat' split) <;> omega
          have c : col 86 j = col6 j := rfl
          omega
        · rw [if_neg (by omega), pA_ne (by decide)]
      rw [pA_ne a3]
      by_cases a4 : a = 85
      · have c : col a j = 23 := by rw [a4]; rfl
        omega
      rw [pA_ne a4]
    have c87 : ∀ j, 23 ≤ col 87 j ∧ col 87 j ≤ 31 := fun j => by
      have c : col 87 j = rowc (j / 64) := rfl
      rw [c]
      unfold rowc
      (repeat' split) <;> omega
    exact (((((((((r0.pA c87).pI (by decide)).pI (by decide)).pI (by decide)).pI (by decide)).pI (by decide)).pI (by decide)).pI (by decide)).pI (by decide)).pI (by decide)
theorem c_clear {N : Nat} {S M : rd_S} (hs : Sh S) (h : RCS N S M) : ∃ S1, F_X8_clear wF 13 S = some S1 ∧ FrS S1 ∧ Rg 3 11 S S1 ∧ S1.2 = S.2 := by
  obtain ⟨-, ⟨n1, n2, -⟩, ⟨x1, x2, -⟩, ⟨i1, i2, -⟩, -, -, -, -, ⟨sz, π, -, -, -, p1, p2, p3, -⟩⟩ := h
  unfold F_X8_clear F_X1_clear F_X2_clear F_X0_clear F_X4_clear F_X6_clear F_X9_clear
  simp only [sh_13_0 hs, sh_13_1 hs, sh_13_2 hs, sh_13_3 hs, sh_13_4 hs, sh_13_5 hs, sh_13_6 hs, sh_13_7 hs, sh_13_8 hs, sh_74_0 hs, gR_pI, gR_pA, rd_cN, rd_letN, f_fillA ln_14 (by decide), f_fillA ln_75 (by decide)]
  refine ⟨_, rfl, ⟨?_, ⟨?_, ?_, ?_, ?_, ?_⟩, ⟨?_, ?_, ?_, ?_, ?_, ?_⟩, ⟨?_, ?_, ?_, ?_, ?_, ?_⟩, ⟨?_, ?_, ?_, ?_⟩, ?_, ?_, ?_, ?_, ?_, π, p1, p2, ?_⟩, ?_, rfl⟩
  · intro j hj; simp +decide only [pI1, pA1, if_true, if_false]; rw [if_pos hj]
  · simp +decide only [pI1, pA1, if_true, if_false]; exact n1
  · simp +decide only [pI1, pA1, if_true, if_false]; exact n2
  · simp +decide only [pI1, pA1, if_true, if_false]
  · simp +decide only [pI1, pA1, if_true, if_false]
  · simp +decide only [pI1, pA1, if_true, if_false]
  · simp +decide only [pI1, pA1, if_true, if_false]; exact x1
  · simp +decide only [pI1, pA1, if_true, if_false]; exact x2
  · simp +decide only [pI1, pA1, if_true, if_false]
  · simp +decide only [pI1, pA1, if_true, if_false]
  · simp +decide only [pI1, pA1, if_true, if_false]
  · simp +decide only [pI1, pA1, if_true, if_false]
  · simp +decide only [pI1, pA1, if_true, if_false]; exact i1
  · simp +decide only [pI1, pA1, if_true, if_false]; exact i2
  · simp +decide only [pI1, pA1, if_true, if_false]
  · simp +decide only [pI1, pA1, if_true, if_false]
  · simp +decide only [pI1, pA1, if_true, if_false]
  · simp +decide only [pI1, pA1, if_true, if_false]
  · simp +decide only [pI1, pA1, if_true, if_false]
  · simp +decide only [pI1, pA1, if_true, if_false]
  · simp +decide only [pI1, pA1, if_true, if_false]
  · simp +decide only [pI1, pA1, if_true, if_false]
  · simp +decide only [pI1, pA1, if_true, if_false]
  · simp +decide only [pI1, pA1, if_true, if_false]
  · simp +decide only [pI1, pA1, if_true, if_false]
  · simp +decide only [pI1, pA1, if_true, if_false]
  · intro j hj; simp +decide only [pI1, pA1, if_true, if_false]; rw [if_pos hj]
  · intro k hk
    have q : ∀ a, a ∈ [14, 15, 18, 21, 24, 27, 28, 32, 74, 75] → 34 + 5 * k + 2 ≠ a := by
      intro a ha
      simp only [List.mem_cons, List.not_mem_nil, or_false] at ha
      omega
    simp only [pI_ne (q 14 (by decide)), pA_ne (q 14 (by decide)), pI_ne (q 15 (by decide)), pI_ne (q 18 (by decide)), pI_ne (q 21 (by decide)), pI_ne (q 24 (by decide)), pI_ne (q 27 (by decide)), pI_ne (q 28 (by decide)), pI_ne (q 32 (by decide)), pI_ne (q 74 (by decide)), pA_ne (q 75 (by decide))]
    exact p3 k hk
  · have c14 : ∀ j, 3 ≤ col 14 j ∧ col 14 j ≤ 11 := fun j => ⟨by show 3 ≤ 3; decide, by show 3 ≤ 11; decide⟩
    have c75 : ∀ j, 3 ≤ col 75 j ∧ col 75 j ≤ 11 := fun j => ⟨by show 3 ≤ 10; decide, by show 10 ≤ 11; decide⟩
    refine Rg.pI (Rg.pA ?_ c75) (by decide)
    repeat' (refine Rg.pI ?_ (by decide))
    exact Rg.pA Rg.rf c14
theorem l_clear {N : Nat} {S M : rd_S} (hs : Sh S) (hm : Sh M) (h : RCS N S M) : Both N S M (F_X8_clear wF 13 S) (F_X12_unknown wF 76 M) := by
  obtain ⟨S1, e1, e2, e3, -⟩ := c_clear hs h
  obtain ⟨M1, f1, f2, f3⟩ := m_unknown hm
  exact ⟨S1, M1, e1, f1, fresh e2 f2, e3, f3⟩
