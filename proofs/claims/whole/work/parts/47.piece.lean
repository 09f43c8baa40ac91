/-! A PIECE comes, on both sides. -/
theorem smF_cg {f g : Nat → Int32} {st st' : Nat} {Bf : Nat → Int32} : ∀ (r i : Nat), (∀ k, i ≤ k → k < i + r → f (st + k) = g (st' + k)) → smF f st Bf r i = smF g st' Bf r i := by
  intro r
  induction r with
  | zero => intro i _; rfl
  | succ r ih =>
    intro i h
    unfold smF
    rw [h i (Nat.le_refl _) (by omega), ih (i + 1) (fun k h1 h2 => h k (by omega) (by omega))]
theorem fullF_mk (mk P : Nat → Bool) (n : Nat) (hn : 0 < n) : ∀ (r p e : Nat), fullF mk P n r p = some e → ∀ j, p * n ≤ j → j < e → mk (j / n) = true := by
  intro r
  induction r with
  | zero => intro p e h j h1 h2; unfold fullF at h; cases h; omega
  | succ r ih =>
    intro p e h j h1 h2
    unfold fullF at h
    by_cases hb : mk p = true
    · rw [if_pos hb] at h
      cases he : endF P n (p * n) with
      | some e2 =>
        rw [he] at h
        cases h
        have := endF_lt _ _ _ _ he
        have : j / n = p := by
          rw [Nat.div_eq_iff hn]
          omega
        rw [this]; exact hb
      | none =>
        rw [he] at h
        by_cases h3 : (p + 1) * n ≤ j
        · exact ih (p + 1) e h j h3 h2
        · have : j / n = p := by
            rw [Nat.div_eq_iff hn]
            rw [Nat.add_mul, Nat.one_mul] at h3
            omega
          rw [this]; exact hb
    · rw [if_neg hb] at h; cases h
theorem pc_out {s t n k : Nat} (h : t ≠ s) (hk : k < n) : ¬ (s * n ≤ t * n + k ∧ t * n + k < s * n + n) := by
  rcases Nat.lt_or_ge t s with q | q
  · have : (t + 1) * n ≤ s * n := Nat.mul_le_mul_right n q
    rw [Nat.add_mul, Nat.one_mul] at this; omega
  · have : (s + 1) * n ≤ t * n := Nat.mul_le_mul_right n (by omega)
    rw [Nat.add_mul, Nat.one_mul] at this; omega
/-- how both sides stand behind a PIECE -/
def Pcd (d row pcs n cap : Nat) (S M S1 M1 : rd_S) : Prop := RD d row pcs n cap S1 M1 ∧ S1.2 = S.2 ∧ (∀ a, a ≠ d → a ≠ d + 1 → a ≠ d + 2 → S1.1 a = S.1 a) ∧ (∀ j, j ≠ 4 → j ≠ 6 → j ≠ 7 → S1.1 d j = S.1 d j) ∧ M1.2 = M.2 ∧
  (∀ a j, ¬ ((a = 87 ∨ a = 89) ∧ 64 * row ≤ j ∧ j < 64 * row + 64) → ¬ ((a = 88 ∨ a = 90) ∧ j = row) → ¬ (a = (rpC row).1 ∧ j = (rpC row).2) → M1.1 a j = M.1 a j) ∧
  ∃ inc : Int32, S1.1 d 7 = S.1 d 7 + inc ∧ M1.1 (rpC row).1 (rpC row).2 = M.1 (rpC row).1 (rpC row).2 + inc
theorem l_piece {S M : rd_S} (hm : Sh M) {d row pcs n cap s : Nat} (hD : Dc S d pcs cap) (hR : RD d row pcs n cap S M) (hrow : row < 11) (hs : s < pcs) (hn : 1 ≤ n) (hn4 : n ≤ 4) (hpn : pcs * n ≤ cap) (x lo hi : Int32) (Bf : Nat → Int32)
    (hBc : ∀ i, i < n → ∀ S, F_X1_unpacked wF x (nI n) (nI i) S = some (Bf i, S)) (hBm : ∀ i, i < n → ∀ M, F_X12_byteOf wF lo hi (nI n) (nI i) M = some (Bf i, M)) (hBb : ∀ i, i < n → ¬ Bf i = -1)
    (hend : (row = 1 ∧ pcs = 16 ∧ S.1 d 1 = 13) ∨ (row ≠ 1 ∧ pcs = (if row = 2 then 2 else 4) ∧ S.1 d 1 = -1)) :
    ∃ S1 M1, F_X1_take wF d (nI s) (nI n) x S = some S1 ∧ F_X12_piece wF 76 (nI row) (nI s) lo hi (nI n) M = some M1 ∧ Pcd d row pcs n cap S M S1 M1 := by
  obtain ⟨mk, ln, r1, r2, r3, r4, r5, r6, r7, r8⟩ := hR
  have hD' := hD
  obtain ⟨d1, d2, d3, d4, d5, d6, d7⟩ := hD
  have hst : s * n + n ≤ cap := by
    have : (s + 1) * n ≤ pcs * n := Nat.mul_le_mul_right n hs
    rw [Nat.add_mul, Nat.one_mul] at this; omega
  have hmk16 : mk < 2 ^ 16 := Nat.lt_of_lt_of_le r1 (Nat.pow_le_pow_right (by decide) d7)
  generalize hb : (decide (mk.testBit s = true ∧ smF (S.1 (d + 1)) (s * n) Bf n 0 = false)) = b
  generalize hf1 : wrF (S.1 (d + 1)) (s * n) n 0 Bf = f1
  generalize hg1 : wrF (M.1 87) (64 * row + s * n) n 0 Bf = g1
  -- the MARKS behind the comparison, and behind the PIECE
  generalize hmk1 : (if b = true then 0 else mk) = mk1
  generalize hmk2 : mk1 ||| 2 ^ s = mk2
  have m1lt : mk1 < 2 ^ pcs := by
    rw [← hmk1]; split
    · exact Nat.two_pow_pos _
    · exact r1
  have m2lt : mk2 < 2 ^ pcs := by
    rw [← hmk2]; exact Nat.or_lt_two_pow m1lt (Nat.pow_lt_pow_right (by decide) hs)
  have m2lt16 : mk2 < 2 ^ 16 := Nat.lt_of_lt_of_le m2lt (Nat.pow_le_pow_right (by decide) d7)
  have m1lt16 : mk1 < 2 ^ 16 := Nat.lt_of_lt_of_le m1lt (Nat.pow_le_pow_right (by decide) d7)
  have s16 : 2 ^ s < 2 ^ 16 := Nat.pow_lt_pow_right (by decide) (by omega)
  have eOr : nI mk1 ||| rd_shl 1 (nI s) = nI mk2 := by
    have e1 : rd_shl 1 (nI s) = nI (2 ^ s) := (nI_shl (v := 1) (n := s) (by omega) (by omega)).trans (by rw [Nat.one_mul])
    rw [e1, nI_lor (by omega) (by omega), hmk2]
  have tb : ∀ t, mk2.testBit t = true → t = s ∨ (mk.testBit t = true) := by
    intro t ht
    rw [← hmk2, Nat.testBit_or, Nat.testBit_two_pow] at ht
    by_cases e : s = t
    · exact Or.inl e.symm
    · rw [decide_eq_false e, Bool.or_false, ← hmk1] at ht
      by_cases hb2 : b = true
      · rw [if_pos hb2, Nat.zero_testBit] at ht; exact absurd ht (by decide)
      · rw [if_neg hb2] at ht; exact Or.inr ht
  -- the bytes of marked PIECES are the same on both sides
  have by1 : ∀ t k, t < pcs → k < n → mk2.testBit t = true → f1 (t * n + k) = g1 (64 * row + (t * n + k)) ∧ ¬ f1 (t * n + k) = -1 := by
    intro t k ht hk hbit
    rw [← hf1, ← hg1]
    unfold wrF
    by_cases e : t = s
    · subst e
      rw [if_pos (by omega), if_pos (by omega)]
      rw [show t * n + k - t * n = k by omega, show 64 * row + (t * n + k) - (64 * row + t * n) = k by omega]
      exact ⟨rfl, hBb k hk⟩
    · have := pc_out (s := s) e hk
      rw [if_neg (by omega), if_neg (by omega)]
      rcases tb t hbit with q | q
      · exact absurd q e
      · exact r8 t k ht hk q
  -- the class
  have eC : F_X1_take wF d (nI s) (nI n) x S = F_X1_take_62 wF rd_big d (nI s) (nI n) x (nI (s * n)) 0 (if b = true then pI S d 4 0 else S) := by
    unfold F_X1_take
    rw [rd_letN, pk_mul, if_neg (nI_pos (by omega)), show gI S d 0 = nI pcs from d5, if_neg (nI_ge hs (by omega)), if_neg (show ¬ nI n < 1 from nI_nlt (b := 1) hn (by omega)), d1, rd_cN, nI_add, d3, if_pos (nI_le hst (by omega)), c_marked r3 (by omega), rd_bN]
    unfold B_X1_take_59 F_X1_holds
    by_cases hm1 : mk.testBit s = true
    · rw [if_pos hm1, if_neg (by decide), show F_X1_holds_3 wF rd_big d (nI (s * n)) (nI n) x 0 S = _ from c_holds hD' hst x Bf hBc n 0 rd_big (by omega) (by unfold rd_big; omega), rd_bN]
      cases hsm : smF (S.1 (d + 1)) (s * n) Bf n 0 with
      | true =>
        rw [if_pos rfl, if_neg (by decide)]
        have : b = false := by rw [← hb, hsm]; exact decide_eq_false (fun q => absurd q.2 (by decide))
        rw [this, if_neg (by decide)]
      | false =>
        rw [if_pos (show (if false = true then (1 : Int32) else 0) = 0 from rfl), rd_letN]
        have : b = true := by rw [← hb, hsm]; exact decide_eq_true ⟨hm1, rfl⟩
        rw [this, if_pos rfl]
    · rw [if_neg hm1, if_pos rfl]
      have : b = false := by rw [← hb]; exact decide_eq_false (fun q => hm1 q.1)
      rw [this, if_neg (by decide)]
  have eS0 : ∀ j, j ≠ 4 → (if b = true then pI S d 4 0 else S).1 d j = S.1 d j := fun j hj => by
    split
    · rw [pI_row hj]
    · rfl
  have eS1 : ∀ a, a ≠ d → (if b = true then pI S d 4 0 else S).1 a = S.1 a := fun a ha => by
    split
    · rw [pI_ne ha]
    · rfl
  have eS2 : (if b = true then pI S d 4 0 else S).2 = S.2 := by split <;> rfl
  have eS4 : (if b = true then pI S d 4 0 else S).1 d 4 = nI mk1 := by
    rw [← hmk1]
    split
    · rw [pI_self]; rfl
    · exact r3
  -- the model
  have eM : F_X12_piece wF 76 (nI row) (nI s) lo hi (nI n) M = F_X12_piece_90 wF rd_big 76 (nI row) (nI s) lo hi (nI n) 0 (if b = true then pI M 88 row 0 else M) := by
    unfold F_X12_piece
    have := m_same hm hrow (by omega) rfl (by omega) lo hi Bf hBm r4 (s := s) (st := s * n) n 0 rd_big true (by omega) (by unfold rd_big; omega)
    rw [show F_X12_piece_6 wF rd_big 76 (nI row) (nI s) lo hi (nI n) 1 0 M = _ from this, Bool.true_and]
    unfold B_X12_piece_87
    by_cases hm1 : mk.testBit s = true
    · have e : smF (S.1 (d + 1)) (s * n) Bf n 0 = smF (M.1 87) (64 * row + s * n) Bf n 0 := smF_cg n 0 (fun k _ hk => by
        rw [Nat.add_assoc]; exact (r8 s k hs (by omega) hm1).1)
      rw [← e]
      cases hsm : smF (S.1 (d + 1)) (s * n) Bf n 0 with
      | true =>
        have : b = false := by rw [← hb, hsm]; exact decide_eq_false (fun q => absurd q.2 (by decide))
        rw [this, if_neg (fun q => absurd q.2 (by decide)), if_neg (by decide)]
      | false =>
        have : b = true := by rw [← hb, hsm]; exact decide_eq_true ⟨hm1, rfl⟩
        rw [this, if_pos ⟨hm1, rfl⟩, if_pos rfl]
    · have : b = false := by rw [← hb]; exact decide_eq_false (fun q => hm1 q.1)
      rw [this, if_neg (fun q => hm1 q.1), if_neg (by decide)]
  have eM1 : ∀ a j, ¬ (a = 88 ∧ j = row) → (if b = true then pI M 88 row 0 else M).1 a j = M.1 a j := fun a j ha => by
    split
    · rw [pI1]
      by_cases e1 : a = 88
      · rw [if_pos e1, if_neg (fun q => ha ⟨e1, q⟩)]
      · rw [if_neg e1]
    · rfl
  have eM2 : (if b = true then pI M 88 row 0 else M).2 = M.2 := by split <;> rfl
  have eM4 : (if b = true then pI M 88 row 0 else M).1 88 row = nI mk1 := by
    rw [← hmk1]
    split
    · rw [pI_self]; rfl
    · exact r4
  generalize (if b = true then pI S d 4 0 else S) = S0 at eC eS0 eS1 eS2 eS4
  generalize (if b = true then pI M 88 row 0 else M) = M0 at eM eM1 eM2 eM4
  have hm0 : Sh M0 := fun a ha => by rw [eM2]; exact hm a ha
  have e87 : M0.1 87 = M.1 87 := funext fun j => eM1 87 j (fun q => absurd q.1 (by decide))
  have eD1 : S0.1 (d + 1) = S.1 (d + 1) := eS1 _ (by omega)
  have w1 := c_write hst d6 s x Bf hBc n 0 rd_big S0 (show S0.2 d 2 = _ by rw [eS2]; exact d1) d3 (by omega) (by unfold rd_big; omega)
  rw [eD1, hf1] at w1
  have w2 := m_write hrow (by omega) rfl (by omega) lo hi Bf hBm (s := s) (st := s * n) n 0 rd_big M0 hm0 (by omega) (by unfold rd_big; omega)
  rw [e87, hg1, eM4, eOr] at w2
  have w3 : gI (pA S0 (d + 1) f1) d 4 = nI mk1 := by
    show (pA S0 (d + 1) f1).1 d 4 = _
    rw [pA_ne (by omega)]; exact eS4
  rw [w3, eOr, rd_letN] at w1
  generalize hS2 : pI (pA S0 (d + 1) f1) d 4 (nI mk2) = S2 at w1
  generalize hM2 : pI (pA M0 87 g1) 88 row (nI mk2) = M2 at w2
  have q1 : S2.1 (d + 1) = f1 := by rw [← hS2, pI_ne (by omega), pA_self]
  have q2 : S2.1 (d + 2) = S.1 (d + 2) := by rw [← hS2, pI_ne (by omega), pA_ne (by omega), eS1 _ (by omega)]
  have q3 : ∀ j, j ≠ 4 → S2.1 d j = S.1 d j := fun j hj => by rw [← hS2, pI_row hj, pA_ne (by omega), eS0 j hj]
  have q4 : S2.1 d 4 = nI mk2 := by rw [← hS2, pI_self]
  have q5 : S2.2 = S.2 := by rw [← hS2]; exact eS2
  have q6 : ∀ a, a ≠ d → a ≠ d + 1 → S2.1 a = S.1 a := fun a h1 h2 => by rw [← hS2, pI_ne h1, pA_ne h2, eS1 a h1]
  have hD2 : Dc S2 d pcs cap := ⟨show S2.2 d 2 = _ by rw [q5]; exact d1, show S2.2 d 3 = _ by rw [q5]; exact d2, d3, d4, by rw [q3 0 (by decide)]; exact d5, d6, d7⟩
  have p1 : M2.1 87 = g1 := by rw [← hM2, pI_ne (by decide), pA_self]
  have p4 : M2.1 88 row = nI mk2 := by rw [← hM2, pI_self]
  have p5 : M2.2 = M.2 := by rw [← hM2]; exact eM2
  have p6 : ∀ a j, a ≠ 87 → ¬ (a = 88 ∧ j = row) → M2.1 a j = M.1 a j := fun a j h1 h2 => by
    rw [← hM2, pI1]
    by_cases e1 : a = 88
    · rw [if_pos e1, if_neg (fun q => h2 ⟨e1, q⟩), pA_ne h1, eM1 a j h2]
    · rw [if_neg e1, pA_ne h1, eM1 a j h2]
  have hm2 : Sh M2 := fun a ha => by rw [p5]; exact hm a ha
  -- FULL, or not
  generalize hP : (fun j => decide (S2.1 (d + 1) j = S2.1 d 1)) = P
  have fc := c_full hD2 hpn (by omega) q4 pcs 0 rd_big (by omega) (by unfold rd_big; omega)
  rw [hP] at fc
  have hle := fullF_le (fun i => mk2.testBit i) P n cap pcs hpn pcs 0
  have hmk' := fullF_mk (fun i => mk2.testBit i) P n (by omega) pcs 0
  have fm : F_X12_fullSize wF 76 (nI row) (nI n) M2 = some (oI (fullF (fun i => mk2.testBit i) P n pcs 0), M2) := by
    rw [full_eq]
    rcases hend with ⟨h1, h2, h3⟩ | ⟨h1, h2, h3⟩
    · subst h1; subst h2
      rw [m_full1 hm2 hn4 hn p4 m2lt16]
      unfold mfF
      rw [feF_cg (P := P) (P' := fun j => decide (M2.1 87 (64 + j) = 13)) 16 0 (fun q i _ hq hi hb2 => by
        have := (by1 q i (by omega) hi hb2).1
        rw [← hP]
        show decide (S2.1 (d + 1) (q * n + i) = S2.1 d 1) = decide (M2.1 87 (64 + (q * n + i)) = 13)
        rw [q1, q3 1 (by decide), h3, p1, this])]
    · rw [m_fullN hm2 hrow h1 h2 p4 m2lt16]
      unfold mfF
      rw [feF_none pcs 0 (fun q i _ hq hi hb2 => by
        have := (by1 q i (by omega) hi hb2).2
        rw [← hP]
        show decide (S2.1 (d + 1) (q * n + i) = S2.1 d 1) = false
        rw [q1, q3 1 (by decide), h3]
        exact decide_eq_false this), Nat.zero_add]
  unfold F_X1_fullLength at w1
  rw [show F_X1_fullLength_2 wF rd_big d (nI n) 0 S2 = _ from fc, rd_bN] at w1
  rw [fm, rd_bN] at w2
  cases ho : fullF (fun i => mk2.testBit i) P n pcs 0 with
  | none =>
    rw [ho] at w1 w2
    rw [show oI none = -1 from rfl, c_finN, rd_cN] at w1
    rw [show oI none = -1 from rfl, if_pos rfl] at w2
    refine ⟨S2, M2, eC.trans w1, eM.trans w2, ⟨mk2, ln, m2lt, r2, q4, p4, ?_, ?_, ?_, ?_⟩, q5, fun a h1 h2 _ => q6 a h1 h2, fun j h1 _ _ => q3 j h1, p5, ?_, 0, ?_, ?_⟩
    · rw [q3 6 (by decide)]; exact r5
    · rw [p6 90 row (by decide) (by omega)]; exact r6
    · intro j hj; rw [q2, p6 89 _ (by decide) (by omega)]; exact r7 j hj
    · intro t k ht hk hbit; rw [q1, p1]; exact by1 t k ht hk hbit
    · intro a j h1 h2 h3
      by_cases e1 : a = 87
      · subst e1
        rw [p1, ← hg1]
        unfold wrF
        rw [if_neg (by omega)]
      · exact p6 a j e1 (fun q => h2 ⟨Or.inl q.1, q.2⟩)
    · rw [q3 7 (by decide), Int32.add_zero]
    · have : (rpC row).1 ≠ 87 ∧ (rpC row).1 ≠ 88 := by
        unfold rpC
        split
        · exact ⟨(by decide : (86 : Nat) ≠ 87), (by decide : (86 : Nat) ≠ 88)⟩
        · exact ⟨(by decide : (98 : Nat) ≠ 87), (by decide : (98 : Nat) ≠ 88)⟩
      rw [p6 _ _ this.1 (fun q => this.2 q.1), Int32.add_zero]
  | some e =>
    have he : e ≤ cap := hle e (by omega) ho
    rw [ho] at w1 w2
    rw [show oI (some e) = nI e from rfl, c_finS hD2 he, rd_cN] at w1
    rw [show oI (some e) = nI e from rfl, if_neg (nI_ne_m1 (by omega)), show F_X12_piece_161 wF rd_big 76 (nI row) (nI e) 0 M2 = _ from m_copy hrow (by omega) e 0 rd_big M2 hm2 (by omega) (by unfold rd_big; omega)] at w2
    have n1 : (rpC row).1 ≠ 87 ∧ (rpC row).1 ≠ 88 ∧ (rpC row).1 ≠ 89 ∧ (rpC row).1 ≠ 90 := by
      unfold rpC
      split
      · exact ⟨(by decide : (86 : Nat) ≠ 87), (by decide : (86 : Nat) ≠ 88), (by decide : (86 : Nat) ≠ 89), (by decide : (86 : Nat) ≠ 90)⟩
      · exact ⟨(by decide : (98 : Nat) ≠ 87), (by decide : (98 : Nat) ≠ 88), (by decide : (98 : Nat) ≠ 89), (by decide : (98 : Nat) ≠ 90)⟩
    refine ⟨_, _, eC.trans w1, eM.trans w2, ⟨0, e, Nat.two_pow_pos _, he, ?_, ?_, ?_, Or.inl ?_, ?_, ?_⟩, q5, ?_, ?_, p5, ?_, 1, ?_, ?_⟩
    · rw [pI_self]; rfl
    · rw [pI_ne (fun q => n1.2.1 q.symm), pI_self]; rfl
    · rw [pI_row (by decide), pI_row (by decide), pI_self]
    · rw [pI_ne (fun q => n1.2.2.2 q.symm), pI_ne (by decide), pI_self]
    · intro j hj
      rw [pI_ne (by omega), pI_ne (by omega), pI_ne (by omega), pA_self, pk_cpy_in (Nat.zero_le _) (by omega), Nat.sub_zero, Nat.zero_add, pI_ne (fun q => n1.2.2.1 q.symm), pI_ne (by decide), pI_ne (by decide), pA_self, if_pos (by omega), q1, p1]
      have hbit := hmk' e ho j (by omega) hj
      have hlt : j / n < pcs := by
        rw [Nat.div_lt_iff_lt_mul (by omega)]
        have := fullF_le (fun i => mk2.testBit i) P n (pcs * n) pcs (Nat.le_refl _) pcs 0 e (by omega) ho
        omega
      have := by1 (j / n) (j % n) hlt (Nat.mod_lt _ (by omega)) hbit
      rw [show j / n * n + j % n = j by rw [Nat.mul_comm]; exact Nat.div_add_mod j n] at this
      exact this.1
    · intro t k _ _ hbit; rw [Nat.zero_testBit] at hbit; exact absurd hbit (by decide)
    · intro a h1 h2 h3
      rw [pI_ne h1, pI_ne h1, pI_ne h1, pA_ne h3]; exact q6 a h1 h2
    · intro j h1 h2 h3
      rw [pI_row h1, pI_row h3, pI_row h2, pA_ne (by omega)]; exact q3 j h1
    · intro a j h1 h2 h3
      rw [pI1]
      have t1 : (pI (pI (pA M2 89 fun j => if 64 * row + 0 ≤ j ∧ j < 64 * row + e then M2.1 87 j else M2.1 89 j) 90 row (nI e)) 88 row 0).1 a j = M.1 a j := by
        have t2 : (pA M2 89 fun j => if 64 * row + 0 ≤ j ∧ j < 64 * row + e then M2.1 87 j else M2.1 89 j).1 a j = M.1 a j := by
          by_cases e1 : a = 87
          · subst e1
            rw [pA_ne (by decide), p1, ← hg1]
            unfold wrF
            rw [if_neg (by omega)]
          · by_cases e2 : a = 89
            · subst e2
              rw [pA_self, if_neg (by omega)]
              exact p6 89 j (by decide) (by omega)
            · rw [pA_ne e2]
              exact p6 a j e1 (fun q => h2 ⟨Or.inl q.1, q.2⟩)
        rw [pI1, pI1]
        by_cases e1 : a = 88
        · rw [if_pos e1, if_neg (fun q => h2 ⟨Or.inl e1, q⟩), if_neg (by omega), t2]
        · rw [if_neg e1]
          by_cases e2 : a = 90
          · rw [if_pos e2, if_neg (fun q => h2 ⟨Or.inr e2, q⟩), t2]
          · rw [if_neg e2, t2]
      by_cases e1 : a = (rpC row).1
      · rw [if_pos e1, if_neg (fun q => h3 ⟨e1, q⟩)]; exact t1
      · rw [if_neg e1]; exact t1
    · rw [pI_row (by decide), pI_self, q3 7 (by decide)]
    · rw [pI_self, p6 _ _ n1.1 (fun q => n1.2.1 q.1)]
