/-! What a GROUP tells: switches, items. -/
theorem tn_0 : (0 : Int32).toNatClampNeg = 0 := by decide
theorem tn_1 : (1 : Int32).toNatClampNeg = 1 := by decide
theorem tn_2 : (2 : Int32).toNatClampNeg = 2 := by decide
theorem tn_3 : (3 : Int32).toNatClampNeg = 3 := by decide
theorem tn_4 : (4 : Int32).toNatClampNeg = 4 := by decide
theorem tn_5 : (5 : Int32).toNatClampNeg = 5 := by decide
theorem tn_6 : (6 : Int32).toNatClampNeg = 6 := by decide
theorem tn_7 : (7 : Int32).toNatClampNeg = 7 := by decide
theorem tn_8 : (8 : Int32).toNatClampNeg = 8 := by decide
theorem tn_9 : (9 : Int32).toNatClampNeg = 9 := by decide
theorem rd_cI {α : Type} (o : Option α) : rd_c o (fun x => some x) = o := by cases o <;> rfl
/-- BLOCK k of the GROUP is known, or not, on both sides -/
def Kn (S M : rd_S) (k v : Nat) : Prop := S.1 11 k = nI v ∧ M.1 81 k = nI v ∧ v < 65536 ∧ ¬ 2 ≤ M.1 82 k
def Un (S M : rd_S) (k : Nat) : Prop := S.1 11 k = -1 ∧ 2 ≤ M.1 82 k
theorem Kn.ne {S M : rd_S} {k v : Nat} (h : Kn S M k v) : ¬ S.1 11 k = -1 := by rw [h.1]; exact nI_ne_m1 (by have := h.2.2.1; omega)
theorem Kn.cg {S M S1 M1 : rd_S} {k v : Nat} (h : Kn S M k v) (hS : Rg 3 11 S S1) (hM : Rg 23 31 M M1) : Kn S1 M1 k v := by
  unfold Kn at h ⊢
  rw [hS.at 11 k (c := 2) rfl (by decide), hM.at 81 k (c := 21) rfl (by decide), hM.at 82 k (c := 21) rfl (by decide)]
  exact h
theorem Un.cg {S M S1 M1 : rd_S} {k : Nat} (h : Un S M k) (hS : Rg 3 11 S S1) (hM : Rg 23 31 M M1) : Un S1 M1 k := by
  unfold Un at h ⊢
  rw [hS.at 11 k (c := 2) rfl (by decide), hM.at 82 k (c := 21) rfl (by decide)]
  exact h
/-- the GROUP as both sides have it -/
def G4 (S M : rd_S) : Prop := ∀ k, k < 4 → Un S M k ∨ ∃ v, Kn S M k v
theorem G4.cg {S M S1 M1 : rd_S} (h : G4 S M) (hS : Rg 3 11 S S1) (hM : Rg 23 31 M M1) : G4 S1 M1 := fun k hk => by
  rcases h k hk with q | ⟨v, q⟩
  · exact Or.inl (q.cg hS hM)
  · exact Or.inr ⟨v, q.cg hS hM⟩
theorem f_isKnown {M : rd_S} (hm : Sh M) {k : Nat} (hk : k < 4) : F_X12_isKnown wF 76 (nI k) M = some (if 2 ≤ M.1 82 k then 0 else 1, M) := by
  simp only [F_X12_isKnown, B_X12_isKnown_15, sh_76_19 hm, rd_cS, ln_82, gI]
  rw [rd_iN _ hk (by decide), nI_clamp (by omega)]
  by_cases h : 2 ≤ M.1 82 k
  · rw [if_pos h, if_pos h, rd_zT _ (by decide)]
  · rw [if_neg h, if_neg h, rd_zT _ (by decide)]
theorem k_c0 {S : rd_S} (hs : Sh S) : F_X3_knows wF 10 0 S = some (if S.1 11 0 = -1 then 0 else 1, S) := f_knows (sh_10_0 hs) ln_11 (k := 0) (by decide)
theorem k_c1 {S : rd_S} (hs : Sh S) : F_X3_knows wF 10 1 S = some (if S.1 11 1 = -1 then 0 else 1, S) := f_knows (sh_10_0 hs) ln_11 (k := 1) (by decide)
theorem k_c2 {S : rd_S} (hs : Sh S) : F_X3_knows wF 10 2 S = some (if S.1 11 2 = -1 then 0 else 1, S) := f_knows (sh_10_0 hs) ln_11 (k := 2) (by decide)
theorem k_c3 {S : rd_S} (hs : Sh S) : F_X3_knows wF 10 3 S = some (if S.1 11 3 = -1 then 0 else 1, S) := f_knows (sh_10_0 hs) ln_11 (k := 3) (by decide)
theorem w_c0 {S : rd_S} (hs : Sh S) : F_X3_what wF 10 0 S = some (S.1 11 0, S) := f_what (sh_10_0 hs) ln_11 (k := 0) (by decide)
theorem w_c1 {S : rd_S} (hs : Sh S) : F_X3_what wF 10 1 S = some (S.1 11 1, S) := f_what (sh_10_0 hs) ln_11 (k := 1) (by decide)
theorem w_c2 {S : rd_S} (hs : Sh S) : F_X3_what wF 10 2 S = some (S.1 11 2, S) := f_what (sh_10_0 hs) ln_11 (k := 2) (by decide)
theorem w_c3 {S : rd_S} (hs : Sh S) : F_X3_what wF 10 3 S = some (S.1 11 3, S) := f_what (sh_10_0 hs) ln_11 (k := 3) (by decide)
theorem k_m0 {M : rd_S} (hm : Sh M) : F_X12_isKnown wF 76 0 M = some (if 2 ≤ M.1 82 0 then 0 else 1, M) := f_isKnown hm (k := 0) (by decide)
theorem k_m1 {M : rd_S} (hm : Sh M) : F_X12_isKnown wF 76 1 M = some (if 2 ≤ M.1 82 1 then 0 else 1, M) := f_isKnown hm (k := 1) (by decide)
theorem k_m2 {M : rd_S} (hm : Sh M) : F_X12_isKnown wF 76 2 M = some (if 2 ≤ M.1 82 2 then 0 else 1, M) := f_isKnown hm (k := 2) (by decide)
theorem k_m3 {M : rd_S} (hm : Sh M) : F_X12_isKnown wF 76 3 M = some (if 2 ≤ M.1 82 3 then 0 else 1, M) := f_isKnown hm (k := 3) (by decide)
/-- what both sides do when they agree: c, m touch the parts of RCS alone -/
def Nx (N : Nat) (S M S1 M1 : rd_S) : Prop := RCS N S1 M1 ∧ Rg 3 11 S S1 ∧ Rg 23 31 M M1
def Both (N : Nat) (S M : rd_S) (c m : Option rd_S) : Prop := ∃ S1 M1, c = some S1 ∧ m = some M1 ∧ Nx N S M S1 M1
theorem Nx.rf {N : Nat} {S M : rd_S} (h : RCS N S M) : Nx N S M S M := ⟨h, Rg.rf, Rg.rf⟩
theorem Nx.tr {N : Nat} {S M S1 M1 S2 M2 : rd_S} (h : Nx N S M S1 M1) (h2 : Nx N S1 M1 S2 M2) : Nx N S M S2 M2 := ⟨h2.1, h.2.1.tr h2.2.1, h.2.2.tr h2.2.2⟩
theorem Nx.both {N : Nat} {S M S1 M1 : rd_S} (h : Nx N S M S1 M1) : Both N S M (some S1) (some M1) := ⟨S1, M1, rfl, rfl, h⟩
theorem Nx.shS {N : Nat} {S M S1 M1 : rd_S} (h : Nx N S M S1 M1) (hs : Sh S) : Sh S1 := h.2.1.sh hs
theorem Nx.shM {N : Nat} {S M S1 M1 : rd_S} (h : Nx N S M S1 M1) (hm : Sh M) : Sh M1 := h.2.2.sh hm
theorem Both.idle {N : Nat} {S M : rd_S} (h : RCS N S M) : Both N S M (some S) (some M) := (Nx.rf h).both
theorem Both.tr {N : Nat} {S M S1 M1 : rd_S} {c m : Option rd_S} (h : Nx N S M S1 M1) (h2 : Both N S1 M1 c m) : Both N S M c m := by
  obtain ⟨S2, M2, e1, e2, h3⟩ := h2
  exact ⟨S2, M2, e1, e2, h.tr h3⟩
theorem Both.seq {N : Nat} {S M : rd_S} {c m : Option rd_S} {f g : rd_S → Option rd_S} (h : Both N S M c m) (h2 : ∀ S1 M1, Nx N S M S1 M1 → Both N S1 M1 (f S1) (g M1)) : Both N S M (rd_c c f) (rd_c m g) := by
  obtain ⟨S1, M1, rfl, rfl, h3⟩ := h
  exact Both.tr h3 (h2 S1 M1 h3)
theorem RCk.pI {S M : rd_S} (h : RCk S M) {j : Nat} {v : Int32} : RCk (pI S 14 j v) (pI M 85 j v) := fun i hi => by
  rw [pI1, pI1, if_pos rfl, if_pos rfl]
  by_cases e : i = j
  · rw [if_pos e, if_pos e]
  · rw [if_neg e, if_neg e]; exact h i hi
theorem cS (j : Nat) : 3 ≤ col 14 j ∧ col 14 j ≤ 3 := ⟨Nat.le_refl _, Nat.le_refl _⟩
theorem cM (j : Nat) : 23 ≤ col 85 j ∧ col 85 j ≤ 23 := ⟨Nat.le_refl _, Nat.le_refl _⟩
theorem Nx.pk {N : Nat} {S M S1 M1 : rd_S} (h : Nx N S M S1 M1) (j : Nat) (v : Int32) : Nx N S M (pI S1 14 j v) (pI M1 85 j v) :=
  ⟨h.1.k (Rg.rf.pI (cS j)) (Rg.rf.pI (cM j)) h.1.1.pI, h.2.1.pI ⟨(cS j).1, Nat.le_trans (cS j).2 (by decide)⟩, h.2.2.pI ⟨(cM j).1, Nat.le_trans (cM j).2 (by decide)⟩⟩
theorem l_flags {N : Nat} {S M : rd_S} (hs : Sh S) (hm : Sh M) (h : RCS N S M) {b : Nat} (hb : Kn S M 1 b) : Both N S M (F_X8_takeSwitches wF 13 (nI b) S) (F_X12_flags wF 76 M) := by
  obtain ⟨-, b1, b2, -⟩ := hb
  have e14 : S.1 14 5 = M.1 85 5 := h.1 5 (by decide)
  simp (disch := first | decide | omega) only [F_X8_takeSwitches, B_X8_takeSwitches_53, F_X12_flags, B_X12_flags_55, F_X11_field, gR_pI, sh_13_0 hs, sh_76_18 hm, sh_76_25 hm, rd_cS, rd_bS, rd_let, ln_14, ln_81, ln_85, rd_iT, gI, tn_1, tn_3, tn_4, tn_5, b1, msk_1, msk_2, ush_0, ush_2, ush_3, ush_4, shr_2, shr_3, shr_4, and_1, and_3, pI_row, e14]
  by_cases h5 : M.1 85 5 = -1
  · rw [if_pos h5, if_pos h5]; exact ((((Nx.rf h).pk 3 _).pk 4 _).pk 5 _).both
  · rw [if_neg h5, if_neg h5]; exact ((((Nx.rf h).pk 3 _).pk 4 _).pk 5 _).both
theorem f_cd {S : rd_S} (hs : Sh S) : F_X3_knowsCAndD wF 10 S = some (if S.1 11 2 = -1 then 0 else if S.1 11 3 = -1 then 0 else 1, S) := by
  simp only [F_X3_knowsCAndD, B_X3_knowsCAndD_20, B_X3_knowsCAndD_21, k_c2 hs, k_c3 hs, rd_bS]
  by_cases h2 : S.1 11 2 = -1
  · simp (disch := decide) only [if_pos h2, if_true, rd_zT]
  · by_cases h3 : S.1 11 3 = -1
    · simp +decide (disch := decide) only [if_neg h2, if_pos h3, if_true, if_false, rd_zT]
    · simp +decide (disch := decide) only [if_neg h2, if_neg h3, if_true, if_false, rd_zT]
theorem l_item {N : Nat} {S M : rd_S} (hs : Sh S) (hm : Sh M) (h : RCS N S M) (hg : G4 S M) (x : Nat) (hx : x < 2) : Both N S M (F_X8_takeItem wF 13 10 (nI (1 - x)) S) (F_X12_programmeItem wF 76 (nI x) M) := by
  have key : ∀ S1 M1, Nx N S M S1 M1 → Both N S1 M1 (B_X8_takeItem_20 wF 13 10 (nI (1 - x)) S1) (B_X12_programmeItem_21 wF 76 (nI x) M1) := by
    intro S1 M1 n
    have hs1 := n.shS hs
    have hm1 := n.shM hm
    simp only [B_X8_takeItem_20, B_X8_takeItem_41, B_X12_programmeItem_21, B_X12_programmeItem_34, k_c2 hs1, k_m2 hm1, w_c2 hs1, rd_bS, rd_cI]
    by_cases hx1 : x = 1
    · subst hx1
      simp +decide only [if_true]
      exact Both.idle n.1
    · have : x = 0 := by omega
      subst this
      simp +decide only [if_false]
      rcases (hg.cg n.2.1 n.2.2) 2 (by decide) with ⟨u1, u2⟩ | ⟨c, c1, c2, c3, c4⟩
      · simp only [if_pos u1, if_pos u2, if_true]; exact Both.idle n.1
      · have c0 : ¬ nI c = -1 := nI_ne_m1 (by omega)
        simp +decide (disch := first | decide | omega) only [if_neg c0, if_neg c4, if_false, c1, F_X8_takeSlow, B_X8_takeSlow_91, F_X11_field, B_X12_programmeItem_69, B_X12_programmeItem_91, B_X12_programmeItem_114, rd_bS, rd_let, rd_cS, sh_13_0 hs1, sh_76_18 hm1, sh_76_25 hm1, gR_pI, ln_14, ln_81, ln_85, rd_iT, gI, c2, tn_2, tn_7, tn_8, tn_9, msk_3, msk_8, msk_12, ush_0, ush_12, shr_12, and_7, and_255, and_4095]
        have hv : c / 4096 % 8 < 8 := by omega
        by_cases v0 : c / 4096 % 8 = 0
        · simp +decide only [v0, if_true, if_false]; exact ((Nx.rf n.1).pk 7 _).both
        · by_cases v3 : c / 4096 % 8 = 3
          · simp +decide only [v3, if_true, if_false]; exact ((Nx.rf n.1).pk 8 _).both
          · by_cases v7 : c / 4096 % 8 = 7
            · simp +decide only [v7, if_true, if_false]; exact ((Nx.rf n.1).pk 9 _).both
            · have n0 : ¬ nI (c / 4096 % 8) = 0 := nI_ne0 (by omega) (by omega)
              have n3 : ¬ nI (c / 4096 % 8) = 3 := fun q => v3 ((nI_eq (by omega) (b := 3) (by decide)).mp q)
              have n7 : ¬ nI (c / 4096 % 8) = 7 := fun q => v7 ((nI_eq (by omega) (b := 7) (by decide)).mp q)
              simp only [if_neg n0, if_neg n3, if_neg n7]; exact Both.idle n.1
  simp only [F_X8_takeItem, F_X12_programmeItem, k_c3 hs, k_m3 hm, w_c3 hs, rd_bS]
  rcases hg 3 (by decide) with ⟨u1, u2⟩ | ⟨d, d1, d2, d3, d4⟩
  · simp only [if_pos u1, if_pos u2, if_true]; exact key S M (Nx.rf h)
  · have d0 : ¬ nI d = -1 := nI_ne_m1 (by omega)
    simp +decide (disch := first | decide | omega) only [if_neg d0, if_neg d4, if_false, d1, d2, rd_let, rd_cS, sh_13_0 hs, sh_76_18 hm, sh_76_25 hm, ln_14, ln_81, ln_85, rd_iT, gI, tn_3, tn_6]
    exact Both.tr ((Nx.rf h).pk 6 _) (key _ _ ((Nx.rf h).pk 6 _))
