/-! The latest BLOCKS that count. -/
theorem rem50 {n : Nat} (h : n < 2 ^ 31) : rd_rem (nI n) 50 = nI (n % 50) := pk_rem (d := 50) h (by decide) (by decide)
theorem l_count {cnt : Nat} {S M : rd_S} (hs : Sh S) (hm : Sh M) (h : RCw cnt S M) (hc : cnt < 2 ^ 30) (k : Int32) : ∃ S1 M1, F_X10_add wF 6 (if k = 2 then 1 else 0) S = some S1 ∧ F_X12_count wF 76 k M = some M1 ∧ RCw (cnt + 1) S1 M1 ∧ S1.2 = S.2 ∧ (∀ a, a ≠ 6 → a ≠ 7 → S1.1 a = S.1 a) ∧ M1.2 = M.2 ∧ ∀ a j, a ≠ 79 → ¬ (a = 76 ∧ (j = 11 ∨ j = 12)) → M1.1 a j = M.1 a j := by
  obtain ⟨w1, w2, w3, w4, w5⟩ := h
  have h50 : cnt % 50 < 50 := Nat.mod_lt _ (by decide)
  generalize hf : (if k = 2 then (1 : Int32) else 0) = f
  -- the class
  have eC : ∃ sz bd, F_X10_add wF 6 f S = some (pI (pI (pI (pI (pI S 6 1 sz) 6 3 bd) 7 (cnt % 50) f) 6 3 (bd + f)) 6 2 (nI ((cnt + 1) % 50))) ∧ sz = nI (min (cnt + 1) 50) ∧ bd = (if cnt < 50 then S.1 6 3 else S.1 6 3 - S.1 7 (cnt % 50)) := by
    refine ⟨_, _, ?_, rfl, rfl⟩
    unfold F_X10_add B_X10_add_57 B_X10_add_99
    simp only [gI]
    rw [w3, if_neg (nI_pos (by omega)), if_pos (show nI (cnt % 50) < 50 from nI_lt (b := 50) h50 (by decide)), w2]
    have nx : ∀ X : rd_S, (if (50 : Int32) ≤ nI (cnt % 50) + 1 then some (pI X 6 2 0) else some (pI X 6 2 (nI (cnt % 50) + 1))) = some (pI X 6 2 (nI ((cnt + 1) % 50))) := by
      intro X
      rw [nI_1]
      by_cases q : cnt % 50 = 49
      · rw [if_pos (show (50 : Int32) ≤ nI (cnt % 50 + 1) from nI_le (a := 50) (by omega) (by omega)), show (cnt + 1) % 50 = 0 by omega]
        rfl
      · rw [if_neg (show ¬ (50 : Int32) ≤ nI (cnt % 50 + 1) from nI_ge (b := 50) (by omega) (by decide)), show (cnt + 1) % 50 = cnt % 50 + 1 by omega]
    have i1 : ∀ E : Option rd_S, rd_i (nI (cnt % 50)) 50 E = E := fun E => rd_iN _ h50 (by decide)
    have c1 : (nI (cnt % 50)).toNatClampNeg = cnt % 50 := nI_clamp (by omega)
    by_cases hlt : cnt < 50
    · have m1 : min cnt 50 = cnt := Nat.min_eq_left (by omega)
      have m2 : min (cnt + 1) 50 = cnt + 1 := Nat.min_eq_left (by omega)
      rw [if_neg (show ¬ (50 : Int32) ≤ nI (min cnt 50) from nI_ge (b := 50) (by omega) (by decide)), if_pos hlt, m1, m2, nI_1]
      simp (disch := decide) only [rd_letN, gR_pI, sh_6_0 hs, rd_cN, ln_7, pI_row, pI_ne, w3, i1, c1]
      rw [nx]
      have : pI (pI S 6 1 (nI (cnt + 1))) 6 3 (S.1 6 3) = pI S 6 1 (nI (cnt + 1)) := pA_id _ 6 _ (by
        funext j
        by_cases e : j = 3
        · subst e; rw [pI_row (by decide)]; simp [upd]
        · simp [upd, e])
      rw [this]
    · have m1 : min cnt 50 = 50 := Nat.min_eq_right (by omega)
      have m2 : min (cnt + 1) 50 = 50 := Nat.min_eq_right (by omega)
      rw [if_pos (show (50 : Int32) ≤ nI (min cnt 50) by rw [m1]; decide), if_neg hlt, m2]
      simp (disch := decide) only [rd_letN, gR_pI, sh_6_0 hs, rd_cN, ln_7, pI_row, pI_ne, w3, i1, c1, pI_self]
      rw [nx]
      have : pI S 6 1 (nI 50) = S := pA_id _ 6 _ (by
        funext j
        by_cases e : j = 1
        · subst e; rw [w2, m1]; simp [upd]
        · simp [upd, e])
      rw [this]
  obtain ⟨sz, bd, eC, hsz, hbd⟩ := eC
  -- the model
  have eM : ∃ b1 b2, F_X12_count wF 76 k M = some (pI (pI (pI (pI M 76 12 b1) 79 (cnt % 50) k) 76 11 (nI (cnt + 1))) 76 12 b2) ∧ b1 = bd ∧ b2 = bd + f := by
    refine ⟨_, _, ?_, rfl, rfl⟩
    unfold F_X12_count B_X12_count_37 B_X12_count_69
    have i1 : ∀ E : Option rd_S, rd_i (nI (cnt % 50)) 50 E = E := fun E => rd_iN _ h50 (by decide)
    have c1 : (nI (cnt % 50)).toNatClampNeg = cnt % 50 := nI_clamp (by omega)
    rw [show gI M 76 11 = nI cnt from w1, rem50 (by omega), rd_letN]
    have tl : ∀ X : rd_S, X.2 = M.2 → X.1 76 11 = nI cnt → X.1 76 12 = bd → (rd_c (gR X 76 10) fun b3 => rd_i (nI (cnt % 50)) (wF.2.2 b3) <| rd_let (pI X b3 (nI (cnt % 50)).toNatClampNeg k) fun s4 => rd_let (pI s4 76 11 ((gI s4 76 11) + 1)) fun s5 => if k = 2 then (rd_let (pI s5 76 12 ((gI s5 76 12) + 1)) fun s7 => some s7) else some s5) = some (pI (pI (pI X 79 (cnt % 50) k) 76 11 (nI (cnt + 1))) 76 12 (bd + f)) := by
      intro X x1 x2 x3
      have hx : Sh X := fun a ha => by rw [x1]; exact hm a ha
      rw [sh_76_10 hx, rd_cN, ln_79, i1, c1, rd_letN, show gI (pI X 79 (cnt % 50) k) 76 11 = nI cnt by (show (pI X 79 (cnt % 50) k).1 76 11 = _; rw [pI_ne (by decide)]; exact x2), nI_1, rd_letN]
      have g12 : gI (pI (pI X 79 (cnt % 50) k) 76 11 (nI (cnt + 1))) 76 12 = bd := by
        show (pI (pI X 79 (cnt % 50) k) 76 11 (nI (cnt + 1))).1 76 12 = _
        rw [pI_row (by decide), pI_ne (by decide)]; exact x3
      by_cases hk : k = 2
      · rw [if_pos hk] at hf
        rw [if_pos hk, rd_letN, g12, hf]
      · rw [if_neg hk] at hf
        rw [if_neg hk, ← hf, Int32.add_zero]
        have : pI (pI (pI X 79 (cnt % 50) k) 76 11 (nI (cnt + 1))) 76 12 bd = pI (pI X 79 (cnt % 50) k) 76 11 (nI (cnt + 1)) := pA_id _ 76 _ (by
          funext j
          by_cases e : j = 12
          · subst e; rw [show (pI (pI X 79 (cnt % 50) k) 76 11 (nI (cnt + 1))).1 76 12 = bd from g12]; simp [upd]
          · simp [upd, e])
        rw [this]
    have keep : M.1 76 12 = bd → pI M 76 12 bd = M := fun q => pA_id _ 76 _ (by
      funext j
      by_cases e : j = 12
      · subst e; rw [q]; simp [upd]
      · simp [upd, e])
    by_cases hlt : cnt < 50
    · rw [if_pos (show nI cnt < 50 from nI_lt (b := 50) hlt (by decide))]
      have q : M.1 76 12 = bd := by rw [hbd, if_pos hlt, w4]
      rw [tl M rfl w1 q, keep q]
    · rw [if_neg (show ¬ nI cnt < 50 from nI_nlt (b := 50) (by omega) (by omega)), sh_76_10 hm, rd_cN, ln_79, i1, c1]
      have m1 : min cnt 50 = 50 := Nat.min_eq_right (by omega)
      have f5 := w5 (cnt % 50) (by omega)
      by_cases h2 : M.1 79 (cnt % 50) = 2
      · rw [if_pos h2] at f5
        have q : M.1 76 12 - 1 = bd := by rw [hbd, if_neg hlt, f5, w4]
        rw [if_pos h2, rd_letN, show gI M 76 12 - 1 = bd from q]
        have := tl (pI M 76 12 bd) rfl (by rw [pI_row (by decide)]; exact w1) pI_self
        rw [gR_pI, sh_76_10 hm, rd_cN, ln_79, i1, c1] at this
        rw [gR_pI, sh_76_10 hm, rd_cN, ln_79, i1]
        exact this
      · rw [if_neg h2] at f5
        have q : M.1 76 12 = bd := by rw [hbd, if_neg hlt, f5, Int32.sub_zero, w4]
        have := tl M rfl w1 q
        rw [sh_76_10 hm, rd_cN, ln_79, i1, c1] at this
        rw [if_neg h2, rd_cN, ln_79, i1, keep q]
        exact this
  obtain ⟨b1, b2, eM, hb1, hb2⟩ := eM
  refine ⟨_, _, eC, eM, ⟨?_, ?_, ?_, ?_, ?_⟩, rfl, fun a h1 h2 => ?_, rfl, fun a j h1 h2 => ?_⟩
  · simp +decide only [pI1, if_true, if_false]
  · simp +decide only [pI1, if_true, if_false]; exact hsz
  · simp +decide only [pI1, if_true, if_false]
  · simp +decide only [pI1, if_true, if_false]; exact hb2.symm
  · intro j hj
    simp +decide only [pI1, if_true, if_false]
    by_cases e : j = cnt % 50
    · rw [if_pos e, if_pos e, hf]
    · rw [if_neg e, if_neg e]
      exact w5 j (by omega)
  · rw [pI_ne h1, pI_ne h1, pI_ne h2, pI_ne h1, pI_ne h1]
  · by_cases e : a = 76
    · subst e
      rw [pI_row (fun q => h2 ⟨rfl, Or.inr q⟩), pI_row (fun q => h2 ⟨rfl, Or.inl q⟩), pI_ne h1, pI_row (fun q => h2 ⟨rfl, Or.inr q⟩)]
    · rw [pI_ne e, pI_ne e, pI_ne h1, pI_ne e]
