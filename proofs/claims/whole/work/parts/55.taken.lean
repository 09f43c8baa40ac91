/-! A GROUP is TAKEN: the PI, and all of it. -/
theorem l_ident {N : Nat} {S M : rd_S} (hs : Sh S) (hm : Sh M) (h : RCS N S M) (v : Int32) : ∃ S1 M1, F_X8_takeIdentity wF 13 v S = some S1 ∧ B_X12_take_168 wF 76 v M = B_X12_take_205 wF 76 M1 ∧ Nx N S M S1 M1 := by
  unfold F_X8_takeIdentity B_X12_take_168
  by_cases hv : v = -1
  · rw [if_pos hv, if_pos hv]; exact ⟨S, M, rfl, rfl, Nx.rf h⟩
  · have e0 : S.1 14 0 = M.1 85 0 := h.1 0 (by decide)
    have put : ∀ S1 M1, Nx N S M S1 M1 → ∃ S2 M2, B_X8_takeIdentity_30 wF 13 v S1 = some S2 ∧ B_X12_take_198 wF 76 v M1 = B_X12_take_205 wF 76 M2 ∧ Nx N S M S2 M2 := by
      intro S1 M1 n
      unfold B_X8_takeIdentity_30 B_X12_take_198
      rw [sh_13_0 (n.shS hs), rd_cN, ln_14, rd_iT _ (by decide), rd_letN, tn_0, sh_76_25 (n.shM hm), rd_cN, ln_85, rd_iT _ (by decide), rd_letN]
      exact ⟨_, _, rfl, rfl, n.pk 0 v⟩
    rw [if_neg hv, if_neg hv, sh_13_0 hs, rd_cN, ln_14, rd_iT _ (by decide), rd_cN, ln_14, rd_iT _ (by decide), sh_76_25 hm, rd_cN, ln_85, rd_iT _ (by decide), rd_cN, ln_85, rd_iT _ (by decide), tn_0, show gI S 14 0 = M.1 85 0 from e0, show gI M 85 0 = M.1 85 0 from rfl]
    by_cases h1 : M.1 85 0 = -1
    · rw [if_pos h1, if_pos h1]; exact put S M (Nx.rf h)
    · rw [if_neg h1, if_neg h1]
      by_cases h2 : M.1 85 0 = v
      · rw [if_pos h2, if_pos h2]; exact put S M (Nx.rf h)
      · rw [if_neg h2, if_neg h2]
        obtain ⟨S1, M1, e1, e2, n⟩ := l_clear hs hm h
        rw [e1, e2, rd_cN, rd_cN]
        exact put S1 M1 n
/-- the GROUP as it is TAKEN -/
def GH (S M : rd_S) : Prop := (∀ k, k < 4 → S.1 11 k = M.1 81 k ∧ S.1 12 k = M.1 82 k ∧ gok (M.1 81 k) (M.1 82 k)) ∧ S.1 10 2 = M.1 76 20 ∧ (M.1 76 20 = 0 ∨ M.1 76 20 = 1)
theorem gok.kn {w k : Int32} (h : gok w k) : (¬ 2 ≤ k ∧ ∃ v, v < 65536 ∧ w = nI v) ∨ (2 ≤ k ∧ w = -1) := by
  rcases h with ⟨h1, v, hv, e⟩ | ⟨h1, e⟩
  · refine Or.inl ⟨?_, v, hv, e⟩
    rcases h1 with rfl | rfl <;> decide
  · refine Or.inr ⟨?_, e⟩
    rcases h1 with rfl | rfl <;> decide
theorem GH.g4 {S M : rd_S} (h : GH S M) : G4 S M := fun k hk => by
  obtain ⟨h1, -, h3⟩ := h.1 k hk
  rcases h3.kn with ⟨q1, v, hv, e⟩ | ⟨q1, e⟩
  · exact Or.inr ⟨v, by rw [h1, e], e, hv, q1⟩
  · exact Or.inl ⟨by rw [h1, e], q1⟩
def alk (f : Nat → Int32) : Nat → Nat → Bool
  | 0, _ => true
  | r + 1, k => if f k = -1 then false else alk f r (k + 1)
theorem t14 : ∀ (r k n : Nat) (M : rd_S) (b : Bool), Sh M → k + r = 4 → r < n → (∀ j, k ≤ j → j < 4 → gok (M.1 81 j) (M.1 82 j)) → ∃ M1, F_X12_take_14 wF n 76 (if b = true then 1 else 0) (nI k) M = B_X12_take_93 wF 76 (if (b && alk (M.1 81) r k) = true then pI M1 76 17 (M.1 76 17 + 1) else M1) ∧ M1.2 = M.2 ∧
    (∀ j, M1.1 83 j = if k ≤ j ∧ j < 4 then M.1 81 j else M.1 83 j) ∧ (∀ j, M1.1 84 j = if k ≤ j ∧ j < 4 then M.1 82 j else M.1 84 j) ∧ ∀ a, a ≠ 83 → a ≠ 84 → M1.1 a = M.1 a := by
  intro r
  induction r with
  | zero =>
    intro k n M b hm hk hn hg
    obtain ⟨n, rfl⟩ : ∃ q, n = q + 1 := ⟨n - 1, by omega⟩
    have : k = 4 := by omega
    subst this
    refine ⟨M, ?_, rfl, fun j => by rw [if_neg (by omega)], fun j => by rw [if_neg (by omega)], fun _ _ _ => rfl⟩
    show B_X12_take_14 wF (F_X12_take_14 wF n) 76 _ (nI 4) M = _
    unfold B_X12_take_14 alk
    rw [if_pos (by decide), Bool.and_true]
    cases b with
    | true => rw [if_neg (by decide), rd_letN, if_pos rfl]
    | false => rw [if_pos (show (if false = true then (1 : Int32) else 0) = 0 from rfl), if_neg (by decide)]
  | succ r ih =>
    intro k n M b hm hk hn hg
    obtain ⟨n, rfl⟩ : ∃ q, n = q + 1 := ⟨n - 1, by omega⟩
    generalize hM' : pI (pI M 84 k (M.1 82 k)) 83 k (M.1 81 k) = M'
    have hm' : Sh M' := by rw [← hM']; exact hm
    have q81 : M'.1 81 = M.1 81 := by rw [← hM', pI_ne (by decide), pI_ne (by decide)]
    have q82 : M'.1 82 = M.1 82 := by rw [← hM', pI_ne (by decide), pI_ne (by decide)]
    have q17 : M'.1 76 = M.1 76 := by rw [← hM', pI_ne (by decide), pI_ne (by decide)]
    obtain ⟨M1, e1, e2, e3, e4, e5⟩ := ih (k + 1) n M' (b && (if M.1 81 k = -1 then false else true)) hm' (by omega) (by omega) (fun j h1 h2 => by rw [q81, q82]; exact hg j (by omega) h2)
    refine ⟨M1, ?_, by rw [e2, ← hM']; rfl, fun j => ?_, fun j => ?_, fun a h1 h2 => by rw [e5 a h1 h2, ← hM', pI_ne h1, pI_ne h2]⟩
    · show B_X12_take_14 wF (F_X12_take_14 wF n) 76 _ (nI k) M = _
      unfold B_X12_take_14
      have hmA : Sh (pI M 84 k (M.1 82 k)) := hm
      have k1 := f_isKnown hmA (k := k) (by omega)
      have k2 : F_X12_isKnown wF 76 (nI k) M' = _ := f_isKnown hm' (by omega)
      rw [if_neg (show ¬ (4 : Int32) ≤ nI k from nI_ge (b := 4) (by omega) (by decide)), sh_76_22 hm, rd_cN, sh_76_19 hm, rd_cN, ln_82, rd_iN _ (by omega) (by decide), ln_84, rd_iN _ (by omega) (by decide), nI_clamp (by omega), rd_letN, show gI M 82 k = M.1 82 k from rfl, gR_pI, sh_76_21 hm, rd_cN, k1, rd_bN, pI_ne (by decide)]
      unfold B_X12_take_54 B_X12_take_71 B_X12_take_72
      simp only [ln_83, rd_letN, nI_1]
      have i1 : ∀ E : Option rd_S, rd_i (nI k) 4 E = E := fun E => rd_iN _ (by omega) (by decide)
      have c1 : (nI k).toNatClampNeg = k := nI_clamp (by omega)
      rw [q81, q17] at e1
      unfold alk
      rcases (hg k (Nat.le_refl _) (by omega)).kn with ⟨g1, v, hv, g2⟩ | ⟨g1, g2⟩
      · have g3 : ¬ M.1 81 k = -1 := by rw [g2]; exact nI_ne_m1 (by omega)
        rw [if_neg g3, Bool.and_true] at e1
        rw [if_neg g3, if_neg g1, if_neg (by decide), gR_pI, sh_76_18 hm, rd_cN, ln_81, i1, i1, c1, show gI (pI M 84 k (M.1 82 k)) 81 k = M.1 81 k by (show (pI M 84 k (M.1 82 k)).1 81 k = _; rw [pI_ne (by decide)]), hM', k2, rd_bN, q82, if_neg g1]
        cases b with
        | true => rw [if_neg (by decide), if_neg (by decide)]; exact e1
        | false => rw [if_pos (by decide)]; exact e1
      · rw [if_pos g2, Bool.and_false, Bool.false_and] at e1
        rw [if_pos g2, Bool.and_false, if_pos g1, if_pos rfl, i1, c1, show pI (pI M 84 k (M.1 82 k)) 83 k (-1) = M' by (rw [← hM', g2]), k2, rd_bN, q82, if_pos g1, if_pos rfl, ite_self]
        exact e1
    · rw [e3 j, q81]
      by_cases c : k + 1 ≤ j ∧ j < 4
      · rw [if_pos c, if_pos (by omega)]
      · rw [if_neg c, ← hM']
        by_cases c2 : j = k
        · subst c2; rw [pI_self, if_pos (by omega)]
        · rw [pI_row c2, if_neg (by omega), pI_ne (by decide)]
    · rw [e4 j, q82]
      by_cases c : k + 1 ≤ j ∧ j < 4
      · rw [if_pos c, if_pos (by omega)]
      · rw [if_neg c, ← hM', pI_ne (by decide)]
        by_cases c2 : j = k
        · subst c2; rw [pI_self, if_pos (by omega)]
        · rw [pI_row c2, if_neg (by omega)]
/-- what taking leaves as it was in the model -/
def TkM (M M1 : rd_S) : Prop := M1.2 = M.2 ∧ (∀ a j, col a j < 22 → ¬ (a = 76 ∧ (j = 16 ∨ j = 17)) → M1.1 a j = M.1 a j) ∧ M1.1 76 16 = M.1 76 16 + 1 ∧ M1.1 76 17 = M.1 76 17 + (if alk (M.1 81) 4 0 = true then 1 else 0)
theorem l_take {N : Nat} {S M : rd_S} (hN : N < 1000000) (hs : Sh S) (hm : Sh M) (h : RCS N S M) (hg : GH S M) : ∃ S1 M1, F_X8_take wF 13 10 S = some S1 ∧ F_X12_take wF 76 M = some M1 ∧ RCS (N + 1) S1 M1 ∧ RCg S1 M1 ∧ Rg 3 11 S S1 ∧ TkM M M1 := by
  obtain ⟨g1, g2, g3⟩ := id hg
  obtain ⟨M1, e1, e2, e3, e4, e5⟩ := t14 4 0 rd_big (pI M 76 16 (M.1 76 16 + 1)) true hm (by decide) (by unfold rd_big; omega) (fun j _ hj => by rw [pI_ne (by decide), pI_ne (by decide)]; exact (g1 j hj).2.2)
  rw [pI_ne (by decide), pI_row (by decide), Bool.true_and] at e1
  generalize hM2 : (if alk (M.1 81) 4 0 = true then pI M1 76 17 (M.1 76 17 + 1) else M1) = M2 at e1
  have q0 : M2.2 = M.2 := by
    rw [← hM2]
    split
    · exact e2
    · exact e2
  have q76 : ∀ j, j ≠ 17 → M2.1 76 j = (pI M 76 16 (M.1 76 16 + 1)).1 76 j := fun j hj => by
    rw [← hM2]
    split
    · rw [pI_row hj, e5 76 (by decide) (by decide)]
    · rw [e5 76 (by decide) (by decide)]
  have qa : ∀ a, a ≠ 76 → M2.1 a = M1.1 a := fun a ha => by
    rw [← hM2]
    split
    · rw [pI_ne ha]
    · rfl
  have q17 : M2.1 76 17 = M.1 76 17 + (if alk (M.1 81) 4 0 = true then 1 else 0) := by
    rw [← hM2]
    split
    · rw [pI_self]
    · rw [e5 76 (by decide) (by decide), pI_row (by decide), Int32.add_zero]
  have q83 : ∀ j, j < 4 → M2.1 83 j = M.1 81 j := fun j hj => by rw [qa 83 (by decide), e3 j, if_pos ⟨Nat.zero_le _, hj⟩, pI_ne (by decide)]
  have q84 : ∀ j, j < 4 → M2.1 84 j = M.1 82 j := fun j hj => by rw [qa 84 (by decide), e4 j, if_pos ⟨Nat.zero_le _, hj⟩, pI_ne (by decide)]
  have qo : ∀ a, a ≠ 76 → a ≠ 83 → a ≠ 84 → M2.1 a = M.1 a := fun a h1 h2 h3 => by rw [qa a h1, e5 a h2 h3, pI_ne h1]
  have hm2 : Sh M2 := fun a ha => by rw [q0]; exact hm a ha
  have eT : F_X12_take wF 76 M = B_X12_take_93 wF 76 M2 := by
    unfold F_X12_take
    rw [rd_letN]; exact e1
  -- the type, then the PI
  generalize ht0 : (if M.1 81 1 = -1 then -1 else rd_ush (M.1 81 1) 11) = t0
  have e93 : B_X12_take_93 wF 76 M2 = B_X12_take_123 wF 76 t0 76 (pI M2 76 24 1) := by
    unfold B_X12_take_93
    rw [rd_letN, k_m1 (show Sh (pI M2 76 24 1) from hm2), rd_bN, pI_ne (by decide), qo 82 (by decide) (by decide) (by decide)]
    rcases (g1 1 (by decide)).2.2.kn with ⟨u1, v, hv, u2⟩ | ⟨u1, u2⟩
    · rw [if_neg u1, if_neg (by decide), gR_pI, sh_76_18 hm2, rd_cN, ln_81, rd_iT _ (by decide), tn_1, show gI (pI M2 76 24 1) 81 1 = M.1 81 1 by (show (pI M2 76 24 1).1 81 1 = _; rw [pI_ne (by decide), qo 81 (by decide) (by decide) (by decide)]), ← ht0, if_neg (by rw [u2]; exact nI_ne_m1 (by omega)), u2, shr_11 (by omega), and_31 (by omega), ush_11 (by omega), show v / 2048 % 32 = v / 2048 by omega]
    · rw [if_pos u1, if_pos rfl, ← ht0, if_pos u2]
  generalize hM3 : pI (pI M2 76 24 1) 76 23 t0 = M3
  have hm3 : Sh M3 := by rw [← hM3]; exact hm2
  have p76 : ∀ j, j ≠ 17 → j ≠ 16 → j ≠ 23 → j ≠ 24 → M3.1 76 j = M.1 76 j := fun j h1 h2 h3 h4 => by rw [← hM3, pI_row h3, pI_row h4, q76 j h1, pI_row h2]
  have po : ∀ a, a ≠ 76 → a ≠ 83 → a ≠ 84 → M3.1 a = M.1 a := fun a h1 h2 h3 => by rw [← hM3, pI_ne h1, pI_ne h1, qo a h1 h2 h3]
  have hag : ∀ c, 23 ≤ c → Ag c M M3 := fun c hc a j e => by
    by_cases a1 : a = 76
    · subst a1
      have c17 : col 76 17 = 21 := rfl
      have c16 : col 76 16 = 21 := rfl
      have c23 : col 76 23 = 22 := rfl
      have c24 : col 76 24 = 22 := rfl
      refine p76 j ?_ ?_ ?_ ?_
      · rintro rfl; omega
      · rintro rfl; omega
      · rintro rfl; omega
      · rintro rfl; omega
    · by_cases a2 : a = 83
      · subst a2; have : col 83 j = 22 := rfl; omega
      · by_cases a3 : a = 84
        · subst a3; have : col 84 j = 22 := rfl; omega
        · rw [po a a1 a2 a3]
  have hR3 : RCS N S M3 := h.cg (fun _ _ _ _ _ _ => rfl) (fun c hc _ => hag c hc) rfl
  have hG3 : G4 S M3 := fun k hk => by
    have := hg.g4 k hk
    unfold Un Kn at this ⊢
    rw [po 81 (by decide) (by decide) (by decide), po 82 (by decide) (by decide) (by decide)]
    exact this
  have hRg : RCg S M3 := by
    refine Or.inr ⟨by rw [← hM3, pI_row (by decide), pI_self], fun k hk => ?_, ?_⟩
    · rw [← hM3, pI_ne (by decide), pI_ne (by decide), pI_ne (by decide), pI_ne (by decide), q83 k hk, q84 k hk]; exact g1 k hk
    · have e83 : M3.1 83 1 = M.1 81 1 := by rw [← hM3, pI_ne (by decide), pI_ne (by decide)]; exact q83 1 (by decide)
      rw [e83, ht0, ← hM3, pI_self]
  have ht3 : ∀ b, Kn S M3 1 b → M3.1 76 23 = nI (b / 2048) := fun b hb => by
    obtain ⟨-, b1, b2, -⟩ := hb
    rw [po 81 (by decide) (by decide) (by decide)] at b1
    rw [← hM3, pI_self, ← ht0, if_neg (by rw [b1]; exact nI_ne_m1 (by omega)), b1, ush_11 (by omega)]
  -- the PI
  have eI : ∃ v, F_X3_identity wF 10 S = some (v, S) ∧ B_X12_take_123 wF 76 t0 76 (pI M2 76 24 1) = B_X12_take_168 wF 76 v M3 := by
    unfold F_X3_identity B_X3_identity_15 B_X3_identity_28 B_X12_take_123 B_X12_take_167
    rw [rd_letN, hM3, k_c0 hs, rd_bN, k_m0 hm3, rd_bN, w_c0 hs, rd_bN, w_c2 hs, rd_bN, k_m2 hm3, rd_bN, sh_76_18 hm3, rd_cN, ln_81, rd_iT _ (by decide), rd_cN, ln_81, rd_iT _ (by decide), tn_0, tn_2, show gI S 10 2 = M.1 76 20 from g2, show gI M3 76 20 = M.1 76 20 from p76 20 (by decide) (by decide) (by decide) (by decide)]
    rcases hG3 0 (by decide) with u | ⟨w, u⟩
    · rw [if_pos u.1, if_pos rfl, if_pos u.2, if_pos rfl]
      by_cases e20 : M.1 76 20 = 0
      · refine ⟨S.1 11 0, by rw [if_pos e20], ?_⟩
        rw [if_pos e20, ite_self, u.1]
      · refine ⟨S.1 11 2, by rw [if_neg e20], ?_⟩
        rw [if_neg e20]
        rcases hG3 2 (by decide) with y | ⟨w, y⟩
        · rw [if_pos y.2, if_pos rfl, y.1]
        · rw [if_neg y.2.2.2, if_neg (by decide), y.1, show gI M3 81 2 = nI w from y.2.1]
    · refine ⟨S.1 11 0, by rw [if_neg u.ne, if_neg (by decide)], ?_⟩
      rw [if_neg u.2.2.2, if_neg (by decide), u.1, show gI M3 81 0 = nI w from u.2.1]
  obtain ⟨v, v1, v2⟩ := eI
  obtain ⟨S4, M4, i1, i2, n4⟩ := l_ident hs hm3 hR3 v
  have hs4 := n4.shS hs
  have hm4 := n4.shM hm3
  have b5 := l_behind hN hs4 hm4 n4.1 (hG3.cg n4.2.1 n4.2.2) (fun b hb => by
    rw [n4.2.2.at 76 23 (c := 22) rfl (by decide)]
    refine ht3 b ?_
    obtain ⟨k1, k2, k3, k4⟩ := hb
    refine ⟨?_, ?_, k3, ?_⟩
    · rw [← n4.2.1.at 11 1 (c := 2) rfl (by decide)]; exact k1
    · rw [← n4.2.2.at 81 1 (c := 21) rfl (by decide)]; exact k2
    · rw [← n4.2.2.at 82 1 (c := 21) rfl (by decide)]; exact k4)
  obtain ⟨S5, M5, f1, f2, f3, f4, f5⟩ := b5
  have r5 : Rg 3 11 S S5 := n4.2.1.tr f4
  have m5 : Rg 23 31 M3 M5 := n4.2.2.tr f5
  refine ⟨S5, M5, ?_, ?_, f3, hRg.cg (r5.ag (by decide)) (m5.ag (by decide)), r5, ?_, ?_, ?_, ?_⟩
  · unfold F_X8_take
    rw [v1, rd_bN, i1, rd_cN]; exact f1
  · rw [eT, e93, v2, i2, f2]
  · have : M5.2 = M3.2 := funext fun a => m5.1 a (by omega)
    rw [this, ← hM3]; exact q0
  · intro a j hc hne
    rw [m5.2 a j (by omega)]
    by_cases a1 : a = 76
    · subst a1
      refine p76 j (fun q => hne ⟨rfl, Or.inr q⟩) (fun q => hne ⟨rfl, Or.inl q⟩) ?_ ?_
      · rintro rfl; exact absurd hc (by decide)
      · rintro rfl; exact absurd hc (by decide)
    · rw [po a a1]
      · rintro rfl; exact absurd hc (show ¬ 22 < 22 by decide)
      · rintro rfl; exact absurd hc (show ¬ 22 < 22 by decide)
  · rw [m5.at 76 16 (c := 21) rfl (by decide), ← hM3, pI_row (by decide), pI_row (by decide), q76 16 (by decide), pI_self]
  · rw [m5.at 76 17 (c := 21) rfl (by decide), ← hM3, pI_row (by decide), pI_row (by decide)]; exact q17
