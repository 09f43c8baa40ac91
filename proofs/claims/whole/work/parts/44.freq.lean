/-! The LIST of frequencies. -/
theorem cpl : ∀ (r k n g : Nat) (M : rd_S), Sh M → k + r = g → g ≤ 25 → r < n → M.1 76 37 = nI g → ∃ M1, F_X12_finish_14 wF n 76 (nI k) M = some (pI (pI (pI (pI M1 76 35 (nI g)) 86 3 (M.1 86 3 + 1)) 76 38 0) 76 39 0) ∧ M1.2 = M.2 ∧
    (∀ j, M1.1 91 j = if k ≤ j ∧ j < g then M.1 92 j else M.1 91 j) ∧ ∀ a, a ≠ 91 → M1.1 a = M.1 a := by
  intro r
  induction r with
  | zero =>
    intro k n g M hm hk hg hn h37
    obtain ⟨n, rfl⟩ : ∃ m, n = m + 1 := ⟨n - 1, by omega⟩
    have : k = g := by omega
    subst this
    refine ⟨M, ?_, rfl, fun j => by rw [if_neg (by omega)], fun _ _ => rfl⟩
    show B_X12_finish_14 wF (F_X12_finish_14 wF n) 76 (nI k) M = _
    unfold B_X12_finish_14
    rw [if_pos (show gI M 76 37 ≤ nI k by show M.1 76 37 ≤ _; rw [h37]; exact nI_le (Nat.le_refl _) (by omega))]
    simp (disch := decide) only [rd_letN, rd_cN, gR_pI, sh_76_26 hm, ln_86, rd_iT, tn_3, gI, h37, pI_ne]
  | succ r ih =>
    intro k n g M hm hk hg hn h37
    obtain ⟨n, rfl⟩ : ∃ m, n = m + 1 := ⟨n - 1, by omega⟩
    obtain ⟨M1, e1, e2, e3, e4⟩ := ih (k + 1) n g (pI M 91 k (M.1 92 k)) hm (by omega) hg (by omega) (by rw [pI_ne (by decide)]; exact h37)
    refine ⟨M1, ?_, e2, ?_, ?_⟩
    · rw [show (pI M 91 k (M.1 92 k)).1 86 = M.1 86 from pI_ne (by decide)] at e1
      rw [← e1]
      show B_X12_finish_14 wF (F_X12_finish_14 wF n) 76 (nI k) M = _
      unfold B_X12_finish_14
      rw [if_neg (show ¬ gI M 76 37 ≤ nI k by show ¬ M.1 76 37 ≤ _; rw [h37]; exact nI_ge (by omega) (by omega)), sh_76_33 hm, rd_cN, sh_76_34 hm, rd_cN, ln_91, ln_92, rd_iN _ (by omega) (by decide), rd_iN _ (by omega) (by decide), nI_clamp (by omega), rd_letN, rd_letN, nI_1]
    · intro j
      rw [e3 j, pI_ne (show 92 ≠ 91 by decide)]
      by_cases c : k + 1 ≤ j ∧ j < g
      · rw [if_pos c, if_pos (by omega)]
      · rw [if_neg c]
        by_cases c2 : j = k
        · subst c2; rw [pI_self, if_pos (by omega)]
        · rw [pI_row c2, if_neg (by omega)]
    · intro a ha; rw [e4 a ha, pI_ne ha]
/-- a LIST under way, perhaps full -/
def LW (wd g : Nat) (S M : rd_S) : Prop := wd ≤ 25 ∧ g ≤ wd ∧ S.1 24 4 = nI wd ∧ M.1 76 36 = nI wd ∧ S.1 24 5 = nI g ∧ M.1 76 37 = nI g ∧ (∀ j, j < g → S.1 25 j = M.1 92 j) ∧ S.1 24 2 = 1 ∧ M.1 76 38 = 1 ∧ S.1 24 3 = 0 ∧ M.1 76 39 = 0 ∧ S.1 24 7 = M.1 86 3 ∧ ∃ ln : Nat, ln ≤ 25 ∧ S.1 24 6 = nI ln ∧ (M.1 76 35 = nI ln ∨ (M.1 76 35 = -1 ∧ ln = 0)) ∧ ∀ j, j < ln → S.1 26 j = M.1 91 j
theorem l_fin {S M : rd_S} {wd g : Nat} (hs : Sh S) (hm : Sh M) (h : LW wd g S M) : ∃ S1 M1, F_X2_finishIfFull wF 24 S = some S1 ∧ F_X12_finish wF 76 M = some M1 ∧ RCl S1 M1 ∧ Rg 7 7 S S1 ∧ Rg 27 27 M M1 := by
  obtain ⟨w1, w2, w3, w4, w5, w6, w7, w8, w9, w10, w11, w12, w13⟩ := h
  unfold F_X2_finishIfFull F_X12_finish
  by_cases hf : wd ≤ g
  · have : g = wd := by omega
    subst this
    obtain ⟨M1, e1, e2, e3, e4⟩ := cpl g 0 rd_big g M hm (by omega) w1 (by unfold rd_big; omega) w6
    rw [if_pos (show gI S 24 4 ≤ gI S 24 5 by show S.1 24 4 ≤ S.1 24 5; rw [w3, w5]; exact nI_le (Nat.le_refl _) (by omega)), if_pos (show gI M 76 36 ≤ gI M 76 37 by show M.1 76 36 ≤ M.1 76 37; rw [w4, w6]; exact nI_le (Nat.le_refl _) (by omega))]
    rw [show F_X12_finish_14 wF rd_big 76 0 M = _ from e1]
    have cp : ∀ E : Option rd_S, rd_cp 0 0 25 25 25 E = E := fun E => if_pos (by decide)
    simp (disch := decide) only [sh_24_0 hs, sh_24_1 hs, rd_cN, ln_25, ln_26, cp, rd_letN, rd_cpy, gI, pI_row, pA_ne, w5, tn_0]
    refine ⟨_, _, rfl, rfl, ?_, ?_, ?_⟩
    · have c25 : (25 : Int32).toNatClampNeg = 25 := by decide
      refine ⟨?_, ?_, ?_, ⟨g, w1, ?_, Or.inl ?_, ?_⟩, Or.inl ⟨?_, ?_⟩⟩
      · simp +decide only [pI1, pA1, if_true, if_false]; rw [w12]
      · simp +decide only [pI1, pA1, if_true, if_false]
      · simp +decide only [pI1, pA1, if_true, if_false]; exact w10
      · simp +decide only [pI1, pA1, if_true, if_false]
      · simp +decide only [pI1, pA1, if_true, if_false]
      · intro j hj
        simp +decide only [pI1, pA1, if_true, if_false]
        rw [c25, pk_cpy_in (Nat.zero_le _) (by omega), Nat.sub_zero, Nat.zero_add, e3 j, if_pos ⟨Nat.zero_le _, hj⟩]
        exact w7 j hj
      · simp +decide only [pI1, pA1, if_true, if_false]
      · simp +decide only [pI1, pA1, if_true, if_false]
    · exact (((Rg.rf.pA (fun _ => ⟨Nat.le_refl _, Nat.le_refl _⟩)).pI (by decide)).pI (by decide)).pI (by decide)
    · have rM : Rg 27 27 M M1 := ⟨fun a _ => by rw [e2], fun a j hj => by
        rw [e4 a]
        rintro rfl
        exact absurd hj (show ¬ (27 < 27 ∨ 27 < 27) by omega)⟩
      exact (((rM.pI (by decide)).pI (by decide)).pI (by decide)).pI (by decide)
  · rw [if_neg (show ¬ gI S 24 4 ≤ gI S 24 5 by show ¬ S.1 24 4 ≤ S.1 24 5; rw [w3, w5]; exact nI_ge (by omega) (by omega)), if_neg (show ¬ gI M 76 36 ≤ gI M 76 37 by show ¬ M.1 76 36 ≤ M.1 76 37; rw [w4, w6]; exact nI_ge (by omega) (by omega))]
    exact ⟨S, M, rfl, rfl, ⟨w12, by rw [w8, w9], by rw [w10, w11], w13, Or.inr ⟨w9, Or.inl w11, wd, g, w1, by omega, w3, w4, w5, w6, w7⟩⟩, Rg.rf, Rg.rf⟩
theorem l_add {S M : rd_S} {wd g : Nat} (hs : Sh S) (hm : Sh M) (h : LW wd g S M) (hg : g < wd) (x : Int32) : ∃ S1 M1, F_X2_add wF 24 x S = some S1 ∧ F_X12_add wF 76 x M = some M1 ∧ RCl S1 M1 ∧ Rg 7 7 S S1 ∧ Rg 27 27 M M1 := by
  obtain ⟨w1, w2, w3, w4, w5, w6, w7, w8, w9, w10, w11, w12, ln, w13, w14, w15, w16⟩ := h
  have hS : Rg 7 7 S (pI (pI S 25 g x) 24 5 (nI (g + 1))) := by refine Rg.pI (Rg.pI Rg.rf ?_) ?_ <;> exact ⟨Nat.le_refl _, Nat.le_refl _⟩
  have hM : Rg 27 27 M (pI (pI M 92 g x) 76 37 (nI (g + 1))) := by refine Rg.pI (Rg.pI Rg.rf ?_) ?_ <;> exact ⟨Nat.le_refl _, Nat.le_refl _⟩
  obtain ⟨S1, M1, e1, e2, e3, e4, e5⟩ := l_fin (wd := wd) (g := g + 1) (hS.sh hs) (hM.sh hm) (by
    refine ⟨w1, by omega, ?_, ?_, ?_, ?_, ?_, ?_, ?_, ?_, ?_, ?_, ln, w13, ?_, ?_, ?_⟩
    · simp +decide only [pI1, if_true, if_false]; exact w3
    · simp +decide only [pI1, if_true, if_false]; exact w4
    · simp +decide only [pI1, if_true, if_false]
    · simp +decide only [pI1, if_true, if_false]
    · intro j hj
      simp +decide only [pI1, if_true, if_false]
      by_cases e : j = g
      · rw [if_pos e, if_pos e]
      · rw [if_neg e, if_neg e]; exact w7 j (by omega)
    · simp +decide only [pI1, if_true, if_false]; exact w8
    · simp +decide only [pI1, if_true, if_false]; exact w9
    · simp +decide only [pI1, if_true, if_false]; exact w10
    · simp +decide only [pI1, if_true, if_false]; exact w11
    · simp +decide only [pI1, if_true, if_false]; exact w12
    · simp +decide only [pI1, if_true, if_false]; exact w14
    · simp +decide only [pI1, if_true, if_false]; exact w15
    · intro j hj
      simp +decide only [pI1, if_true, if_false]; exact w16 j hj)
  refine ⟨S1, M1, ?_, ?_, e3, hS.tr e4, hM.tr e5⟩
  · unfold F_X2_add B_X2_add_39
    rw [if_neg (show ¬ gI S 24 5 < 0 by show ¬ S.1 24 5 < 0; rw [w5]; exact nI_pos (by omega)), sh_24_0 hs, rd_cN, ln_25, if_neg (show ¬ nI 25 ≤ gI S 24 5 by show ¬ nI 25 ≤ S.1 24 5; rw [w5]; exact nI_ge (by omega) (by omega)), rd_cN]
    simp (disch := decide) only [ln_25, gI, w5, rd_letN, pI_ne, nI_1, rd_cI]
    rw [rd_iN _ (by omega) (by decide), nI_clamp (by omega), e1]
  · unfold F_X12_add
    rw [sh_76_34 hm, rd_cN, ln_92]
    simp (disch := decide) only [gI, w6, rd_letN, pI_ne, nI_1, rd_cI]
    rw [rd_iN _ (by omega) (by decide), nI_clamp (by omega), e2]
theorem lowE {v : Nat} (hv : v < 256) : ∃ val : Int32, (∀ S, F_X2_lowWave wF (nI v) S = some (val, S)) ∧ ∀ M : rd_S, (if nI v ≤ 0 then B_X12_frequency0_41 wF (nI v) 76 M else if 16 ≤ nI v then B_X12_frequency0_41 wF (nI v) 76 M else B_X12_frequency0_66 wF (144 + 9 * nI v) 76 M) = B_X12_frequency0_66 wF val 76 M := by
  unfold F_X2_lowWave B_X2_lowWave_20 B_X2_lowWave_44 B_X2_lowWave_45 B_X12_frequency0_41 B_X12_frequency0_65
  have lt : ∀ k, k < 2 ^ 31 → (nI v < nI k ↔ v < k) := fun k hk => nI_ltI (by omega) hk
  have gt : ∀ k, k < 2 ^ 31 → (nI k < nI v ↔ k < v) := fun k hk => nI_ltI hk (by omega)
  have le : ∀ k, k < 2 ^ 31 → (nI v ≤ nI k ↔ v ≤ k) := fun k hk => nI_leI (by omega) hk
  have ge : ∀ k, k < 2 ^ 31 → (nI k ≤ nI v ↔ k ≤ v) := fun k hk => nI_leI hk (by omega)
  have a1 : (nI v < 1 ↔ v < 1) := lt 1 (by decide)
  have a2 : (nI v < 16 ↔ v < 16) := lt 16 (by decide)
  have a3 : ((135 : Int32) < nI v ↔ 135 < v) := gt 135 (by decide)
  have a4 : ((15 : Int32) < nI v ↔ 15 < v) := gt 15 (by decide)
  have a5 : (nI v ≤ 0 ↔ v ≤ 0) := le 0 (by decide)
  have a6 : ((16 : Int32) ≤ nI v ↔ 16 ≤ v) := ge 16 (by decide)
  have a7 : (nI v ≤ 15 ↔ v ≤ 15) := le 15 (by decide)
  have a8 : ((136 : Int32) ≤ nI v ↔ 136 ≤ v) := ge 136 (by decide)
  by_cases h0 : v < 1
  · refine ⟨0, fun S => ?_, fun M => ?_⟩
    · rw [if_pos (a1.mpr h0), if_pos (a2.mpr (by omega))]
    · rw [if_pos (a5.mpr (by omega)), if_pos (a7.mpr (by omega))]
  by_cases h1 : v ≤ 15
  · refine ⟨144 + 9 * nI v, fun S => ?_, fun M => ?_⟩
    · rw [if_neg (fun q => h0 (a1.mp q)), if_neg (fun q => by have := a4.mp q; omega)]
    · rw [if_neg (fun q => by have := a5.mp q; omega), if_neg (fun q => by have := a6.mp q; omega)]
  by_cases h2 : 135 < v
  · refine ⟨0, fun S => ?_, fun M => ?_⟩
    · rw [if_neg (fun q => h0 (a1.mp q)), if_pos (a4.mpr (by omega)), if_neg (fun q => by have := a2.mp q; omega), if_pos (a3.mpr h2)]
    · rw [if_neg (fun q => by have := a5.mp q; omega), if_pos (a6.mpr (by omega)), if_neg (fun q => by have := a7.mp q; omega), if_pos (a8.mpr (by omega))]
  · refine ⟨387 + 9 * nI v, fun S => ?_, fun M => ?_⟩
    · rw [if_neg (fun q => h0 (a1.mp q)), if_pos (a4.mpr (by omega)), if_neg (fun q => by have := a2.mp q; omega), if_neg (fun q => h2 (a3.mp q))]
    · rw [if_neg (fun q => by have := a5.mp q; omega), if_pos (a6.mpr (by omega)), if_neg (fun q => by have := a7.mp q; omega), if_neg (fun q => by have := a8.mp q; omega)]
theorem highE {v : Nat} (hv : v < 256) : ∃ val : Int32, (∀ S, F_X2_veryHighWave wF (nI v) S = some (val, S)) ∧ ∀ M : rd_S, (if nI v ≤ 0 then B_X12_frequency0_170 wF 76 M else if 205 ≤ nI v then B_X12_frequency0_170 wF 76 M else B_X12_frequency0_171 wF (87500 + 100 * nI v) 76 M) = B_X12_frequency0_171 wF val 76 M := by
  unfold F_X2_veryHighWave B_X2_veryHighWave_22 B_X2_veryHighWave_23 B_X12_frequency0_170
  have a1 : (nI v < 1 ↔ v < 1) := nI_ltI (by omega) (b := 1) (by decide)
  have a3 : ((204 : Int32) < nI v ↔ 204 < v) := nI_ltI (a := 204) (by decide) (by omega)
  have a5 : (nI v ≤ 0 ↔ v ≤ 0) := nI_leI (by omega) (b := 0) (by decide)
  have a8 : ((205 : Int32) ≤ nI v ↔ 205 ≤ v) := nI_leI (a := 205) (by decide) (by omega)
  by_cases h0 : v < 1
  · refine ⟨0, fun S => ?_, fun M => ?_⟩
    · rw [if_pos (a1.mpr h0)]
    · rw [if_pos (a5.mpr (by omega))]
  by_cases h2 : 204 < v
  · refine ⟨0, fun S => ?_, fun M => ?_⟩
    · rw [if_neg (fun q => h0 (a1.mp q)), if_pos (a3.mpr h2)]
    · rw [if_neg (fun q => by have := a5.mp q; omega), if_pos (a8.mpr (by omega))]
  · refine ⟨87500 + 100 * nI v, fun S => ?_, fun M => ?_⟩
    · rw [if_neg (fun q => h0 (a1.mp q)), if_neg (fun q => h2 (a3.mp q))]
    · rw [if_neg (fun q => by have := a5.mp q; omega), if_neg (fun q => by have := a8.mp q; omega)]
theorem l_freq {N : Nat} {S M : rd_S} (hs : Sh S) (hm : Sh M) (h : RCS N S M) {v : Nat} (hv : v < 256) : Both N S M (F_X2_take wF 24 (nI v) S) (F_X12_frequency0 wF 76 (nI v) M) := by
  have lift : ∀ {c m : Option rd_S}, (∃ S1 M1, c = some S1 ∧ m = some M1 ∧ RCl S1 M1 ∧ Rg 7 7 S S1 ∧ Rg 27 27 M M1) → Both N S M c m := by
    rintro c m ⟨S1, M1, rfl, rfl, e3, e4, e5⟩
    exact Nx.both ⟨h.l e4 e5 e3, e4.mo (by decide) (by decide), e5.mo (by decide) (by decide)⟩
  obtain ⟨w1, w2, w3, ⟨ln, l1, l2, l3, l4⟩, w5⟩ := h.2.2.2.2.1
  have low : ∀ c m : Option rd_S, c = c := fun c _ => rfl
  -- neither a low wave nor a beginning
  have rest1 : (M.1 76 38 = 0 ∨ (M.1 76 38 = 1 ∧ M.1 76 39 = 0)) → Both N S M (B_X2_take_49 wF 24 (nI v) S) (B_X12_frequency0_112 wF 76 (nI v) M) := by
    intro hh
    unfold B_X2_take_49 B_X12_frequency0_112 B_X2_take_71 B_X12_frequency0_134 B_X2_take_93 B_X12_frequency0_174
    simp only [gI, w2]
    rcases hh with h0 | ⟨h1, h2⟩
    · rw [if_pos h0, if_pos h0, if_pos h0, if_pos h0]; exact Both.idle h
    · have h1' : ¬ M.1 76 38 = 0 := by rw [h1]; decide
      rcases w5 with ⟨q, -⟩ | ⟨-, -, wd, g, g1, g2, g3, g4, g5, g6, g7⟩
      · exact absurd q h1'
      rw [if_neg h1', if_neg h1', if_neg h1', if_neg h1']
      by_cases c1 : nI v = 250
      · rw [if_pos c1, if_pos c1, rd_letN, rd_letN]
        refine lift ⟨_, _, rfl, rfl, ?_, Rg.rf.pI (by decide), Rg.rf.pI (by decide)⟩
        refine ⟨?_, ?_, ?_, ⟨ln, l1, ?_, ?_, ?_⟩, Or.inr ⟨?_, Or.inr ?_, wd, g, g1, g2, ?_, ?_, ?_, ?_, ?_⟩⟩ <;> simp +decide only [pI1, if_true, if_false] <;> assumption
      · rw [if_neg c1, if_neg c1]
        by_cases c2 : nI v = 205
        · rw [if_pos c2, if_pos c2]; exact Both.idle h
        · rw [if_neg c2, if_neg c2]
          obtain ⟨val, e1, e2⟩ := highE hv
          rw [e1, e2, rd_bN]
          unfold B_X12_frequency0_171 B_X12_frequency0_174
          rw [rd_cI, rd_cI]
          exact lift (l_add hs hm (wd := wd) (g := g) ⟨g1, by omega, g3, g4, g5, g6, g7, by rw [w2]; exact h1, h1, by rw [w3]; exact h2, h2, w1, ln, l1, l2, l3, l4⟩ g2 val)
  have rest2 : (M.1 76 38 = 0 ∨ (M.1 76 38 = 1 ∧ M.1 76 39 = 0)) → S.1 24 3 = 0 → M.1 76 39 = 0 → Both N S M (F_X2_take wF 24 (nI v) S) (B_X12_frequency0_72 wF 76 (nI v) M) := by
    intro hh z1 z2
    unfold F_X2_take B_X12_frequency0_72
    rw [if_pos (show gI S 24 3 = 0 from z1)]
    by_cases c1 : nI v < 224
    · rw [if_pos c1, if_pos c1]; exact rest1 hh
    · rw [if_neg c1, if_neg c1]
      by_cases c2 : (249 : Int32) < nI v
      · rw [if_pos c2, if_pos c2]; exact rest1 hh
      · rw [if_neg c2, if_neg c2]
        have v1 : 224 ≤ v := by
          rcases Nat.lt_or_ge v 224 with q | q
          · exact absurd (nI_lt (b := 224) q (by decide)) c1
          · exact q
        have v2 : v ≤ 249 := by
          rcases Nat.lt_or_ge 249 v with q | q
          · exact absurd (nI_lt (a := 249) q (by omega)) c2
          · exact q
        have e : nI v - 224 = nI (v - 224) := pk_sub (b := 224) v1
        unfold F_X2_begin B_X2_take_93 B_X12_frequency0_174
        simp only [e, rd_letN, rd_cI]
        have hS : Rg 7 7 S (pI (pI (pI S 24 2 1) 24 4 (nI (v - 224))) 24 5 0) := ((Rg.rf.pI (by decide)).pI (by decide)).pI (by decide)
        have hM : Rg 27 27 M (pI (pI (pI M 76 38 1) 76 36 (nI (v - 224))) 76 37 0) := ((Rg.rf.pI (by decide)).pI (by decide)).pI (by decide)
        obtain ⟨S1, M1, e1, e2, e3, e4, e5⟩ := l_fin (wd := v - 224) (g := 0) (hS.sh hs) (hM.sh hm) (by
          refine ⟨by omega, by omega, ?_, ?_, ?_, ?_, fun j hj => absurd hj (Nat.not_lt_zero _), ?_, ?_, ?_, ?_, ?_, ln, l1, ?_, ?_, ?_⟩ <;> simp +decide only [pI1, if_true, if_false] <;> first | assumption | rfl)
        rw [e1, e2]
        exact lift ⟨S1, M1, rfl, rfl, e3, hS.tr e4, hM.tr e5⟩
  unfold F_X12_frequency0
  rcases w5 with ⟨q1, q2⟩ | ⟨q1, q2, wd, g, g1, g2, g3, g4, g5, g6, g7⟩
  · rw [if_pos (show gI M 76 38 = 0 from q1)]
    exact rest2 (Or.inl q1) (by rw [w3]; exact q2) q2
  · rw [if_neg (show ¬ gI M 76 38 = 0 by show ¬ M.1 76 38 = 0; rw [q1]; decide)]
    rcases q2 with q2 | q2
    · rw [if_pos (show gI M 76 39 = 0 from q2)]
      exact rest2 (Or.inr ⟨q1, q2⟩) (by rw [w3]; exact q2) q2
    · rw [if_neg (show ¬ gI M 76 39 = 0 by show ¬ M.1 76 39 = 0; rw [q2]; decide), rd_letN]
      unfold F_X2_take
      rw [if_neg (show ¬ gI S 24 3 = 0 by show ¬ S.1 24 3 = 0; rw [w3, q2]; decide), rd_letN]
      obtain ⟨val, e1, e2⟩ := lowE hv
      rw [e1, e2, rd_bN]
      unfold B_X12_frequency0_66 B_X12_frequency0_174 B_X2_take_93
      rw [rd_cI, rd_cI]
      have hS : Rg 7 7 S (pI S 24 3 0) := Rg.rf.pI (by decide)
      have hM : Rg 27 27 M (pI M 76 39 0) := Rg.rf.pI (by decide)
      obtain ⟨S1, M1, f1, f2, f3, f4, f5⟩ := l_add (wd := wd) (g := g) (hS.sh hs) (hM.sh hm) (by
        refine ⟨g1, by omega, ?_, ?_, ?_, ?_, ?_, ?_, ?_, ?_, ?_, ?_, ln, l1, ?_, ?_, ?_⟩ <;> simp +decide only [pI1, if_true, if_false] <;> first | assumption | (rw [w2]; assumption)) g2 val
      rw [f1, f2]
      exact lift ⟨S1, M1, rfl, rfl, f3, hS.tr f4, hM.tr f5⟩
