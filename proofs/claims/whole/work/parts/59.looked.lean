/-! A look's end, and the whole look. -/
def LE (c q : Nat) (S M S1 M1 : rd_S) : Prop := RCa S1 M1 ∧ RCb S1 M1 ∧ LkE c q S M S1 M1 ∧ S1.2 = S.2 ∧ (∀ a, a ≠ 2 → a ≠ 6 → S1.1 a = S.1 a) ∧ (S1.1 2 6 = S.1 2 6 ∧ S1.1 2 7 = S.1 2 7) ∧ M1.2 = M.2 ∧ ∀ a j, ¬ (a = 76 ∧ (j = 5 ∨ j = 7 ∨ j = 9 ∨ j = 11 ∨ j = 12 ∨ j = 15)) → M1.1 a j = M.1 a j
theorem l_end {c q : Nat} {S M : rd_S} (ha : RCa S M) (hb : RCb S M) (hw : RCw c S M) (h8 : M.1 76 8 = nI q) (hp : RCp q S M) : LE c q S M (endC (pI S 2 10 (nI q))) (endM M) := by
  obtain ⟨a1, a2, a3, a4⟩ := id ha
  obtain ⟨b1, b2, b3, b4, b5, b6⟩ := id hb
  obtain ⟨w1, w2, w3, w4, w5⟩ := id hw
  obtain ⟨p1, p2, p3, p4⟩ := id hp
  have e1 : (pI S 2 10 (nI q)).1 6 3 = M.1 76 12 := by rw [pI_ne (by decide)]; exact w4
  have e2 : (pI S 2 10 (nI q)).1 2 5 = M.1 76 2 := by rw [pI_row (by decide)]; exact a2
  unfold endC endM
  rw [e1, e2]
  by_cases hl : M.1 76 2 ≤ M.1 76 12
  · have hl' : ¬ M.1 76 12 < M.1 76 2 := fun x => absurd hl (Int32.not_le.mpr x)
    rw [if_neg hl', if_pos hl]
    refine ⟨⟨?_, ?_, ?_, ?_⟩, ⟨?_, ?_, ?_, ?_, ?_, ?_⟩, Or.inr ⟨?_, ?_, ?_, ⟨?_, ?_, ?_, ?_, ?_⟩, ?_, ?_, ?_, ?_, ?_⟩, rfl, ?_, ⟨?_, ?_⟩, rfl, ?_⟩
    · simp +decide only [pI1, if_true, if_false]; exact a1
    · simp +decide only [pI1, if_true, if_false]; exact a2
    · simp +decide only [pI1, if_true, if_false]; exact a3
    · simp +decide only [pI1, if_true, if_false]; exact a4
    · simp +decide only [pI1, if_true, if_false]; exact b1
    · intro j hj; simp +decide only [pI1, if_true, if_false]; exact b2 j hj
    · simp +decide only [pI1, if_true, if_false]; exact b3
    · simp +decide only [pI1, if_true, if_false]; exact b4
    · simp +decide only [pI1, if_true, if_false]; exact b5
    · simp +decide only [pI1, if_true, if_false]; rw [b6]
    · simp +decide only [pI1, if_true, if_false]
    · simp +decide only [pI1, if_true, if_false]
    · simp +decide only [pI1, if_true, if_false]
    · simp +decide only [pI1, if_true, if_false]
    · simp +decide only [pI1, if_true, if_false]
    · simp +decide only [pI1, if_true, if_false]
    · simp +decide only [pI1, if_true, if_false]
    · intro j hj; exact absurd hj (by omega)
    · simp +decide only [pI1, if_true, if_false]
    · simp +decide only [pI1, if_true, if_false]
    · simp +decide only [pI1, if_true, if_false]
    · simp +decide only [pI1, if_true, if_false]
    · simp +decide only [pI1, if_true, if_false]; exact p4
    · intro a h1 h2
      rw [pI_ne h1, pI_ne h1, pI_ne h1, pI_ne h2, pI_ne h2, pI_ne h2, pI_ne h1, pI_ne h1]
    · simp +decide only [pI1, if_true, if_false]
    · simp +decide only [pI1, if_true, if_false]
    · intro a j hn
      by_cases e : a = 76
      · subst e
        rw [pI_row (by omega), pI_row (by omega), pI_row (by omega), pI_row (by omega), pI_row (by omega), pI_row (by omega)]
      · rw [pI_ne e, pI_ne e, pI_ne e, pI_ne e, pI_ne e, pI_ne e]
  · have hl' : M.1 76 12 < M.1 76 2 := Int32.not_le.mp hl
    rw [if_pos hl', if_neg hl]
    refine ⟨⟨?_, ?_, a3, a4⟩, ⟨?_, ?_, ?_, ?_, ?_, ?_⟩, Or.inl ⟨rfl, rfl, rfl, ?_, ?_, ⟨w1, ?_, ?_, ?_, ?_⟩, h8, pI_self, ⟨?_, ?_, ?_, p4⟩⟩, rfl, ?_, ⟨?_, ?_⟩, rfl, fun _ _ _ => rfl⟩
    · rw [pI_row (by decide)]; exact a1
    · rw [pI_row (by decide)]; exact a2
    · rw [pI_row (by decide)]; exact b1
    · rw [pI_ne (by decide)]; exact b2
    · rw [pI_row (by decide)]; exact b3
    · rw [pI_row (by decide)]; exact b4
    · rw [pI_row (by decide)]; exact b5
    · rw [pI_row (by decide)]; exact b6
    · rw [pI_row (by decide)]
    · rw [pI_row (by decide)]
    · rw [pI_ne (by decide)]; exact w2
    · rw [pI_ne (by decide)]; exact w3
    · rw [pI_ne (by decide)]; exact w4
    · rw [pI_ne (by decide)]; exact w5
    · rw [pI_ne (by decide), pI_ne (by decide)]; exact p1
    · rw [pI_ne (by decide), pI_ne (by decide)]; exact p2
    · rw [pI_ne (by decide)]; exact p3
    · intro a h1 _; rw [pI_ne h1]
    · rw [pI_row (by decide)]
    · rw [pI_row (by decide)]
theorem col_ag {c : Nat} {S S1 : rd_S} (hlo : 3 ≤ c) (hhi : c ≤ 11) (h : ∀ a, 13 ≤ a → S1.1 a = S.1 a) : Ag c S S1 := fun a j e => by
  rw [h a]
  apply Decidable.byContradiction
  intro ha
  have : ∀ a, a < 13 → colC a < 3 := by decide
  have e2 : col a j = colC a := by unfold col; rw [if_pos (by omega)]
  have := this a (by omega)
  omega
theorem colF_hi {j : Nat} (h : 22 ≤ colF j) : ¬ (j = 5 ∨ j = 7 ∨ j = 8 ∨ j = 9 ∨ j = 11 ∨ j = 12 ∨ j = 14 ∨ j = 15 ∨ j = 16 ∨ j = 17 ∨ j = 20 ∨ j = 6) := by
  intro q
  have : colF j = 21 := by
    rcases q with rfl | rfl | rfl | rfl | rfl | rfl | rfl | rfl | rfl | rfl | rfl | rfl <;> decide
  omega
theorem col_agM {c : Nat} {M M1 : rd_S} (hlo : 22 ≤ c) (h : ∀ a j, (83 ≤ a ∨ (a = 76 ∧ ¬ (j = 5 ∨ j = 7 ∨ j = 8 ∨ j = 9 ∨ j = 11 ∨ j = 12 ∨ j = 14 ∨ j = 15 ∨ j = 16 ∨ j = 17 ∨ j = 20 ∨ j = 6))) → M1.1 a j = M.1 a j) : Ag c M M1 := fun a j e => by
  apply h
  by_cases h1 : 83 ≤ a
  · exact Or.inl h1
  · by_cases h2 : a < 76
    · have := col_lo (j := j) h2
      omega
    · have e2 : col a j = colM a j := by unfold col; rw [if_neg h2]
      unfold colM at e2
      by_cases h3 : a < 77
      · rw [if_pos h3] at e2
        exact Or.inr ⟨by omega, colF_hi (by omega)⟩
      · rw [if_neg h3, if_pos (by omega)] at e2
        omega
theorem LkE.cg {c q : Nat} {S M S1 M1 S2 : rd_S} (h : LkE c q S M S1 M1) (h2 : ∀ a, 2 ≤ a → a ≤ 9 → S2.1 a = S1.1 a) : LkE c q S M S2 M1 := by
  have e2 := h2 2 (by decide) (by decide)
  have e3 := h2 3 (by decide) (by decide)
  have e4 := h2 4 (by decide) (by decide)
  have e5 := h2 5 (by decide) (by decide)
  have e6 := h2 6 (by decide) (by decide)
  have e7 := h2 7 (by decide) (by decide)
  unfold LkE RCw RCp at h ⊢
  rw [e2, e3, e4, e5, e6, e7]
  exact h
theorem RCa.cg2 {S M S2 : rd_S} (h : RCa S M) (e : S2.1 2 = S.1 2) : RCa S2 M := by
  unfold RCa at h ⊢; rw [e]; exact h
theorem RCb.cg2 {S M S2 : rd_S} (h : RCb S M) (e : S2.1 2 = S.1 2) (e9 : S2.1 9 = S.1 9) : RCb S2 M := by
  unfold RCb at h ⊢; rw [e, e9]; exact h
theorem l_look {N cnt p V : Nat} {S M : rd_S} (h : RLk N cnt p S M) (hV : V < 67108864) (hc : cnt < 2 ^ 30) (hN : N < 1000000) : ∃ S1 S2 M1, F_X7_lookAt wF 2 (nI V) S = some (if p = 3 then 1 else 0, S1) ∧ (if p = 3 then CT S1 = some S2 else S2 = S1) ∧ F_X12_look wF 76 (nI V) M = some M1 ∧
    (Sh S1 ∧ Sh S2 ∧ Sh M1) ∧ RCa S2 M1 ∧ RCb S2 M1 ∧ RCg S2 M1 ∧ RCS (N + p / 3) S2 M1 ∧ LkE (cnt + 1) ((p + 1) % 4) S M S2 M1 ∧ LkF S M S2 M1 := by
  obtain ⟨S3, M3, c1, c2, c3, c4, c5, c6, c7, c8, c9, c10, c11, c12⟩ := l_half h hV hc
  obtain ⟨hs, hm, ha, hb, hw, hp, p8, p10, hpp, hg, hS⟩ := h
  have hs3 : Sh S3 := fun a x => by rw [c9]; exact hs a x
  have hm3 : Sh M3 := fun a x => by rw [c11]; exact hm a x
  have r2 : S3.1 2 = S.1 2 := c10 2 (by decide) (by decide)
  generalize hMq : pI M3 76 8 (nI ((p + 1) % 4)) = Mq at c2
  have n1 : ∀ a j, ¬ (79 ≤ a ∧ a ≤ 82) → ¬ (a = 76 ∧ (j = 8 ∨ j = 11 ∨ j = 12 ∨ j = 20)) → Mq.1 a j = M.1 a j := fun a j h1 h2 => by
    rw [← hMq]
    by_cases e : a = 76
    · subst e; rw [pI_row (by omega)]; exact c12 76 j h1 (by omega)
    · rw [pI_ne e]; exact c12 a j h1 (by omega)
  have n2 : ∀ a, a ≠ 76 → Mq.1 a = M3.1 a := fun a h1 => by rw [← hMq, pI_ne h1]
  have n20 : Mq.1 76 20 = M3.1 76 20 := by rw [← hMq, pI_row (by decide)]
  have n11 : Mq.1 76 11 = M3.1 76 11 := by rw [← hMq, pI_row (by decide)]
  have n12 : Mq.1 76 12 = M3.1 76 12 := by rw [← hMq, pI_row (by decide)]
  have n8 : Mq.1 76 8 = nI ((p + 1) % 4) := by rw [← hMq, pI_self]
  have n0 : Mq.2 = M.2 := by rw [← hMq]; exact c11
  have hmq : Sh Mq := fun a x => by rw [n0]; exact hm a x
  have haq : RCa S3 Mq := by
    obtain ⟨a1, a2, a3, a4⟩ := ha
    refine ⟨?_, ?_, ?_, ?_⟩
    · rw [r2, n1 76 1 (by decide) (by decide)]; exact a1
    · rw [r2, n1 76 2 (by decide) (by decide)]; exact a2
    · rw [n1 76 1 (by decide) (by decide)]; exact a3
    · rw [n1 76 2 (by decide) (by decide)]; exact a4
  have hbq : RCb S3 Mq := by
    obtain ⟨b1, b2, b3, b4, b5, b6⟩ := hb
    refine ⟨?_, ?_, ?_, ?_, ?_, ?_⟩
    · rw [r2, n1 76 6 (by decide) (by decide)]; exact b1
    · rw [n2 80 (by decide)]; exact c4
    · rw [r2, n1 76 16 (by decide) (by decide)]; exact b3
    · rw [r2, n1 76 17 (by decide) (by decide)]; exact b4
    · rw [r2, n1 76 14 (by decide) (by decide)]; exact b5
    · rw [r2, n1 76 15 (by decide) (by decide)]; exact b6
  have hwq : RCw (cnt + 1) S3 Mq := by
    obtain ⟨w1, w2, w3, w4, w5⟩ := c3
    refine ⟨?_, w2, w3, ?_, ?_⟩
    · rw [n11]; exact w1
    · rw [n12]; exact w4
    · rw [n2 79 (by decide)]; exact w5
  by_cases h3 : p = 3
  · subst h3
    rw [if_pos rfl] at c1 c2 ⊢
    -- the class counts a GROUP
    generalize hS4 : pI (pI S3 2 12 (S3.1 2 12 + 1)) 2 13 (S3.1 2 13 + (if alk (S3.1 4) 4 0 = true then 1 else 0)) = S4
    have s40 : S4.2 = S.2 := by rw [← hS4]; exact c9
    have hs4 : Sh S4 := fun a x => by rw [s40]; exact hs a x
    have s4r : ∀ a, a ≠ 2 → S4.1 a = S3.1 a := fun a x => by rw [← hS4, pI_ne x, pI_ne x]
    have s4f : ∀ j, j ≠ 12 → j ≠ 13 → S4.1 2 j = S3.1 2 j := fun j x y => by rw [← hS4, pI_row y, pI_row x]
    have s412 : S4.1 2 12 = S3.1 2 12 + 1 := by rw [← hS4, pI_row (by decide), pI_self]
    have s413 : S4.1 2 13 = S3.1 2 13 + (if alk (S3.1 4) 4 0 = true then 1 else 0) := by rw [← hS4, pI_self]
    have eC : F_X7_lookAt wF 2 (nI V) S = some (1, endC (pI S4 2 10 0)) := by
      rw [c1]
      unfold B_X7_lookAt_85 B_X7_lookAt_120 B_X7_lookAt_124
      have hs3' : Sh (pI S3 2 12 (S3.1 2 12 + 1)) := hs3
      have e13 : gI (pI S3 2 12 (S3.1 2 12 + 1)) 2 13 = S3.1 2 13 := pI_row (by decide)
      have e4 : (pI S3 2 12 (S3.1 2 12 + 1)).1 4 = S3.1 4 := pI_ne (by decide)
      rw [if_neg (show ¬ (1 : Int32) = 0 by decide), show gI S3 2 12 = S3.1 2 12 from rfl, rd_letN, sh_2_0 hs3', rd_cN, c_whole hs3', rd_bN, e13, e4]
      simp only [rd_letN, if_neg (show ¬ (1 : Int32) = 0 by decide)]
      cases hal : alk (S3.1 4) 4 0
      · rw [hal] at hS4
        rw [if_neg (show ¬ false = true by decide)] at hS4 ⊢
        rw [if_pos rfl, hS4, c_139 hs4 1 0 (Or.inr rfl)]
      · rw [hal] at hS4
        rw [if_pos rfl] at hS4 ⊢
        rw [if_neg (by decide), hS4, c_139 hs4 1 0 (Or.inr rfl)]
    -- copy and take
    generalize hS5 : endC (pI S4 2 10 0) = S5 at eC
    have fr5 : S5.2 = S4.2 ∧ ∀ a, a ≠ 2 → a ≠ 6 → S5.1 a = S4.1 a := by
      rw [← hS5]
      unfold endC
      by_cases q : (pI S4 2 10 0).1 6 3 < (pI S4 2 10 0).1 2 5
      · rw [if_pos q]; exact ⟨rfl, fun a x _ => pI_ne x⟩
      · rw [if_neg q]; exact ⟨rfl, fun a x y => by rw [pI_ne x, pI_ne x, pI_ne x, pI_ne y, pI_ne y, pI_ne y, pI_ne x, pI_ne x]⟩
    have hs5 : Sh S5 := fun a x => by rw [fr5.1]; exact hs4 a x
    have r5 : ∀ a, a ≠ 2 → a ≠ 6 → S5.1 a = S3.1 a := fun a x y => by rw [fr5.2 a x y, s4r a x]
    have v32 : S5.1 3 2 = M3.1 76 20 := by rw [r5 3 (by decide) (by decide), c7, if_pos (by decide)]
    obtain ⟨S6, k1, k2, k3, k4⟩ := c_copy hs5 (by rw [v32]; exact c8)
    have hs6 : Sh S6 := k4.sh hs5
    have rS6 : ∀ a, 13 ≤ a → S6.1 a = S.1 a := fun a x => by
      funext j
      rw [k4.2 a j (by
        by_cases y : a < 76
        · have e2 : col a j = colC a := by unfold col; rw [if_pos y]
          have e3 : ∀ a, a < 76 → 13 ≤ a → colC a < 2 ∨ 2 < colC a := by decide
          rw [e2]; exact e3 a y x
        · have := col_hi (j := j) (show 76 ≤ a by omega)
          omega), r5 a (by omega) (by omega), c10 a (by omega) (by omega)]
    have hS6 : RCS N S6 Mq := hS.cg (fun c x y => col_ag x y rS6) (fun c x _ => col_agM (by omega) (fun a j q => n1 a j (by omega) (by omega))) (by rw [k4.1 33 (by omega), fr5.1, s40])
    have hG6 : GH S6 Mq := by
      refine ⟨fun k hk => ?_, ?_, ?_⟩
      · rw [(k2 k hk).1, (k2 k hk).2, r5 4 (by decide) (by decide), r5 5 (by decide) (by decide), n2 81 (by decide), n2 82 (by decide)]
        exact c5 k (by omega)
      · rw [k3, v32, n20]
      · rw [n20]; exact c8
    obtain ⟨S7, M7, t1, t2, t3, t4, t5, t6, t7, t8, t9⟩ := l_take hN hs6 hmq hS6 hG6
    have hs7 : Sh S7 := t5.sh hs6
    have hm7 : Sh M7 := fun a x => by rw [t6]; exact hmq a x
    have rS7 : ∀ a, a ≤ 9 → S7.1 a = S5.1 a := fun a x => by
      funext j
      have e2 : col a j = colC a := by unfold col; rw [if_pos (by omega)]
      have : ∀ a, a < 10 → colC a < 2 := by decide
      have := this a (by omega)
      rw [t5.2 a j (by omega), k4.2 a j (by omega)]
    have m7 : ∀ j, colF j < 22 → j ≠ 16 → j ≠ 17 → M7.1 76 j = Mq.1 76 j := fun j x y z => t7 76 j (by show colF j < 22; exact x) (by omega)
    have m7r : ∀ a j, 77 ≤ a → a < 83 → M7.1 a j = Mq.1 a j := fun a j x y => t7 a j (by
      have e2 : col a j = colM a j := by unfold col; rw [if_neg (by omega)]
      rw [e2]; unfold colM; rw [if_neg (by omega), if_pos (by omega)]; decide) (by omega)
    have ha7 : RCa S4 M7 := by
      obtain ⟨a1, a2, a3, a4⟩ := haq
      refine ⟨?_, ?_, ?_, ?_⟩
      · rw [s4f 4 (by decide) (by decide), m7 1 (by decide) (by decide) (by decide)]; exact a1
      · rw [s4f 5 (by decide) (by decide), m7 2 (by decide) (by decide) (by decide)]; exact a2
      · rw [m7 1 (by decide) (by decide) (by decide)]; exact a3
      · rw [m7 2 (by decide) (by decide) (by decide)]; exact a4
    have hb7 : RCb S4 M7 := by
      obtain ⟨b1, b2, b3, b4, b5, b6⟩ := hbq
      refine ⟨?_, fun j hj => ?_, ?_, ?_, ?_, ?_⟩
      · rw [s4f 11 (by decide) (by decide), m7 6 (by decide) (by decide) (by decide)]; exact b1
      · rw [s4r 9 (by decide), m7r 80 j (by decide) (by decide)]; exact b2 j hj
      · rw [s412, t8, b3]
      · rw [s413, t9, b4, alk_cg (f := S3.1 4) (g := Mq.1 81) 4 0 (fun j _ hj => by rw [n2 81 (by decide)]; exact (c5 j (by omega)).1)]
      · rw [s4f 14 (by decide) (by decide), m7 14 (by decide) (by decide) (by decide)]; exact b5
      · rw [s4f 15 (by decide) (by decide), m7 15 (by decide) (by decide) (by decide)]; exact b6
    have hw7 : RCw (cnt + 1) S4 M7 := by
      obtain ⟨w1, w2, w3, w4, w5⟩ := hwq
      refine ⟨?_, ?_, ?_, ?_, fun j hj => ?_⟩
      · rw [m7 11 (by decide) (by decide) (by decide)]; exact w1
      · rw [s4r 6 (by decide)]; exact w2
      · rw [s4r 6 (by decide)]; exact w3
      · rw [s4r 6 (by decide), m7 12 (by decide) (by decide) (by decide)]; exact w4
      · rw [s4r 7 (by decide), m7r 79 j (by decide) (by decide)]; exact w5 j hj
    have h87 : M7.1 76 8 = nI 0 := by rw [m7 8 (by decide) (by decide) (by decide)]; exact n8
    have hp7 : RCp 0 S4 M7 := ⟨fun k hk => absurd hk (Nat.not_lt_zero _), fun x => absurd x (by decide), fun x => absurd x (by decide), by rw [m7 20 (by decide) (by decide) (by decide), n20]; exact c8⟩
    obtain ⟨g1, g2, g3, g4, g5, g6, g7, g8⟩ := l_end ha7 hb7 hw7 h87 hp7
    rw [show nI 0 = 0 from rfl, hS5] at g1 g2 g3 g4 g5 g6
    have r7 : ∀ a, 2 ≤ a → a ≤ 9 → S7.1 a = S5.1 a := fun a _ x => rS7 a x
    refine ⟨S5, S7, endM M7, eC, ?_, ?_, ⟨hs5, hs7, fun a x => by rw [g7]; exact hm7 a x⟩, g1.cg2 (rS7 2 (by decide)), g2.cg2 (rS7 2 (by decide)) (rS7 9 (by decide)), ?_, ?_, ?_, ?_⟩
    · unfold CT; rw [k1, rd_cN]; exact t1
    · rw [c2, t2, rd_cN, m_233]
    · exact t4.cg (fun _ _ _ => rfl) (col_agM (by decide) (fun a j q => g8 a j (by omega)))
    · exact t3.cg (fun c _ _ => fun _ _ _ => rfl) (fun c x _ => col_agM (by omega) (fun a j q => g8 a j (by omega))) rfl
    · have g3' := g3.cg r7
      rcases g3' with ⟨x1, x2, x3, x4, x5, x6⟩ | x
      · refine Or.inl ⟨?_, ?_, ?_, ?_, ?_, x6⟩
        · rw [x1, m7 7 (by decide) (by decide) (by decide), n1 76 7 (by decide) (by decide)]
        · rw [x2, m7 5 (by decide) (by decide) (by decide), n1 76 5 (by decide) (by decide)]
        · rw [x3, m7 9 (by decide) (by decide) (by decide), n1 76 9 (by decide) (by decide)]
        · rw [x4, s4f 8 (by decide) (by decide), r2]
        · rw [x5, s4f 9 (by decide) (by decide), r2]
      · exact Or.inr x
    · refine ⟨?_, ?_, ?_, ?_, ?_, fun a x => ?_, fun a x => ?_, ?_⟩
      · rw [rS7 2 (by decide), g6.1, s4f 6 (by decide) (by decide), r2]
      · rw [rS7 2 (by decide), g6.2, s4f 7 (by decide) (by decide), r2]
      · rw [rS7 8 (by decide), r5 8 (by decide) (by decide), c10 8 (by decide) (by decide)]
      · funext j; rw [g8 77 j (by omega), m7r 77 j (by decide) (by decide), n1 77 j (by decide) (by omega)]
      · funext j; rw [g8 78 j (by omega), m7r 78 j (by decide) (by decide), n1 78 j (by decide) (by omega)]
      · funext j
        have := col_hi (j := j) x
        rw [t5.2 a j (by omega), rS6 a (by omega)]
      · funext j
        have := col_lo (j := j) x
        rw [g8 a j (by omega), t7 a j (by omega) (by omega), n1 a j (by omega) (by omega)]
      · rw [g7, t6, n0]
  · rw [if_neg h3] at c1 c2 ⊢
    have eq1 : (p + 1) % 4 = p + 1 := by omega
    rw [eq1] at n8 hMq ⊢
    have hpq : RCp (p + 1) S3 Mq := by
      refine ⟨fun k hk => ?_, fun _ k x y => c6 k (by omega) y, fun _ => ?_, by rw [n20]; exact c8⟩
      · rw [n2 81 (by decide), n2 82 (by decide)]; exact c5 k (by omega)
      · rw [c7, n20]
        by_cases h2 : p = 2
        · rw [if_pos (by omega), if_pos (by omega)]
        · rw [if_neg (by omega), if_neg (by omega)]
    obtain ⟨g1, g2, g3, g4, g5, g6, g7, g8⟩ := l_end haq hbq hwq n8 hpq
    refine ⟨endC (pI S3 2 10 (nI (p + 1))), endC (pI S3 2 10 (nI (p + 1))), endM Mq, ?_, ?_, ?_, ⟨?_, ?_, fun a x => by rw [g7]; exact hmq a x⟩, g1, g2, ?_, ?_, ?_, ?_⟩
    · rw [c1]
      unfold B_X7_lookAt_85 B_X7_lookAt_124
      rw [if_pos rfl, if_pos rfl, show gI S3 2 10 = nI p by (show S3.1 2 10 = _; rw [r2]; exact p10), nI_1, c_139 hs3 0 _ (Or.inl rfl)]
    · rw [if_neg h3]
    · rw [c2, m_233]
    · intro a x; rw [g4, c9]; exact hs a x
    · intro a x; rw [g4, c9]; exact hs a x
    · exact hg.cg (fun a j e => by
        rw [g5 a, c10 a]
        all_goals
          intro q
          have e2 : ∀ a, a < 10 → colC a < 2 := by decide
          have e3 : col a j = colC a := by unfold col; rw [if_pos (by omega)]
          have := e2 a (by omega)
          omega) (col_agM (by decide) (fun a j q => by rw [g8 a j (by omega), n1 a j (by omega) (by omega)]))
    · rw [show N + p / 3 = N by omega]
      exact hS.cg (fun c x y => col_ag x y (fun a z => by rw [g5 a (by omega) (by omega), c10 a (by omega) (by omega)])) (fun c x _ => col_agM (by omega) (fun a j q => by rw [g8 a j (by omega), n1 a j (by omega) (by omega)])) (by rw [g4, c9])
    · rcases g3 with ⟨x1, x2, x3, x4, x5, x6⟩ | x
      · refine Or.inl ⟨?_, ?_, ?_, ?_, ?_, x6⟩
        · rw [x1, n1 76 7 (by decide) (by decide)]
        · rw [x2, n1 76 5 (by decide) (by decide)]
        · rw [x3, n1 76 9 (by decide) (by decide)]
        · rw [x4, r2]
        · rw [x5, r2]
      · exact Or.inr x
    · refine ⟨?_, ?_, ?_, ?_, ?_, fun a x => ?_, fun a x => ?_, ?_⟩
      · rw [g6.1, r2]
      · rw [g6.2, r2]
      · rw [g5 8 (by decide) (by decide), c10 8 (by decide) (by decide)]
      · funext j; rw [g8 77 j (by omega), n1 77 j (by decide) (by omega)]
      · funext j; rw [g8 78 j (by omega), n1 78 j (by decide) (by omega)]
      · rw [g5 a (by omega) (by omega), c10 a (by omega) (by omega)]
      · funext j; rw [g8 a j (by omega), n1 a j (by omega) (by omega)]
      · rw [g7, n0]
