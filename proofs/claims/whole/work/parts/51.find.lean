/-! The OTHERS: the one of a PI, on both sides. -/
theorem RD.mv {d row row' : Nat} {S M S1 M1 : rd_S} (h : RD d row 4 2 8 S M) (h0 : S1.1 d = S.1 d) (h1 : S1.1 (d + 1) = S.1 (d + 1)) (h2 : S1.1 (d + 2) = S.1 (d + 2)) (h88 : M1.1 88 row' = M.1 88 row) (h90 : M1.1 90 row' = M.1 90 row)
    (h87 : ∀ i, i < 8 → M1.1 87 (64 * row' + i) = M.1 87 (64 * row + i)) (h89 : ∀ i, i < 8 → M1.1 89 (64 * row' + i) = M.1 89 (64 * row + i)) : RD d row' 4 2 8 S1 M1 := by
  obtain ⟨mk, ln, r1, r2, r3, r4, r5, r6, r7, r8⟩ := h
  refine ⟨mk, ln, r1, r2, by rw [h0]; exact r3, by rw [h88]; exact r4, by rw [h0]; exact r5, by rw [h90]; exact r6, fun j hj => ?_, fun s k hs hk hb => ?_⟩
  · rw [h2, h89 j (by omega)]; exact r7 j hj
  · rw [h1, h87 _ (by omega)]; exact r8 s k hs hk hb
theorem least_to (P : Nat → Prop) (n : Nat) : ∃ i, i ≤ n ∧ (∀ j, j < i → ¬ P j) ∧ (i < n → P i) := by
  induction n with
  | zero => exact ⟨0, Nat.le_refl _, fun j hj => absurd hj (Nat.not_lt_zero _), fun h => absurd h (Nat.not_lt_zero _)⟩
  | succ n ih =>
    obtain ⟨i, h1, h2, h3⟩ := ih
    by_cases e : i < n
    · exact ⟨i, by omega, h2, fun _ => h3 e⟩
    · have : i = n := by omega
      subst this
      by_cases q : P i
      · exact ⟨i, by omega, h2, fun _ => q⟩
      · refine ⟨i + 1, Nat.le_refl _, fun j hj => ?_, fun h => absurd h (Nat.lt_irrefl _)⟩
        by_cases e2 : j = i
        · subst e2; exact q
        · exact h2 j (by omega)
theorem get_c {S : rd_S} (hs : Sh S) {n j b : Nat} (h1 : S.1 32 1 = nI n) (hj : j < n) (hn : n ≤ 8) (hb : S.2 33 j = some b) : F_X6_get wF 32 (nI j) S = some (some b, S) := by
  unfold F_X6_get B_X6_get_28
  rw [if_neg (nI_pos (by omega)), show gI S 32 1 = nI n from h1, if_neg (nI_ge hj (by omega)), if_pos (show nI j < 8 from nI_lt (b := 8) (by omega) (by decide)), sh_32_0 hs, rd_cN, ln_33, rd_iN _ (by omega) (by decide), nI_clamp (by omega), show gR S 33 j = _ from hb, rd_cN]
/-- the OTHERS ahead of a new one at k -/
def PZ (k : Nat) (π : Nat → Nat) (S M : rd_S) : Prop := k < 8 ∧ S.1 32 1 = nI (k + 1) ∧ M.1 76 53 = nI (k + 1) ∧ (∀ j, j < 8 → π j < 8 ∧ S.2 33 j = some (34 + 5 * π j)) ∧ (∀ i j, i < 8 → j < 8 → π i = π j → i = j) ∧
  (∀ k, k < 8 → S.1 (34 + 5 * k + 2) 0 = 4 ∧ S.1 (34 + 5 * k + 2) 1 = -1) ∧
  ∀ j, j < k → (∀ i, i < 11 → S.1 (34 + 5 * π j + 1) i = M.1 97 (11 * j + i)) ∧ S.1 (34 + 5 * π j + 2) 7 = M.1 98 j ∧ RD (34 + 5 * π j + 2) (3 + j) 4 2 8 S M
theorem col_31 {a j : Nat} (h : a = 97 ∨ a = 98 ∨ ((a = 88 ∨ a = 90) ∧ 3 ≤ j)) : col a j = 31 := by
  rcases h with rfl | rfl | ⟨h, hj⟩
  · rfl
  · rfl
  · have : rowc j = 31 := by
      unfold rowc
      rw [if_neg (by omega), if_neg (by omega), if_neg (by omega)]
    rcases h with rfl | rfl
    · exact this
    · exact this
theorem l_new {k : Nat} {π : Nat → Nat} {S M : rd_S} (hs : Sh S) (hm : Sh M) (h : PZ k π S M) (x : Int32) (hx : M.1 81 3 = x) : ∃ S1 M1, F_X5_begin wF (34 + 5 * π k) x S = some S1 ∧ F_X12_oneMore_195 wF rd_big 76 (nI k) 1 M = some (nI k, M1) ∧ RZ (k + 1) π S1 M1 ∧ Rg 11 11 S S1 ∧ Rg 31 31 M M1 := by
  obtain ⟨z1, z2, z3, z4, z5, z6, z7⟩ := h
  have hp := (z4 k z1).1
  obtain ⟨g1, g2, g3, g4⟩ := gR_other hs hp
  obtain ⟨M1, m1, m2, m3, m4, m5, m6, m7⟩ := s195 z1 10 1 rd_big M hm (by decide) (by decide) (by unfold rd_big; omega)
  generalize hr : 34 + 5 * π k = r at g1 g2 g3 g4
  have l1 := (ln_other hp).1
  rw [hr] at l1
  have eB : F_X5_begin wF r x S = some (pI (pI (pI (pI (pI (pA S (r + 1) (fun j => if j < 11 then -1 else S.1 (r + 1) j)) (r + 1) 0 x) (r + 2) 4 0) (r + 2) 5 (-1)) (r + 2) 6 0) (r + 2) 7 0) := by
    unfold F_X5_begin F_X1_clear
    have t1 : ∀ (f : Nat → Int32), gR (pA S (r + 1) f) r 0 = some (r + 1) := fun f => g1
    have t2 : ∀ (f : Nat → Int32) v, gR (pI (pA S (r + 1) f) (r + 1) 0 v) r 1 = some (r + 2) := fun f v => g2
    rw [g1, rd_cN, f_fillA l1 (by decide), rd_cN, t1, rd_cN, l1, rd_iT _ (by decide), rd_letN, tn_0, t2, rd_cN, rd_letN, rd_letN, rd_letN, rd_letN, rd_cN]
  generalize hS1 : pI (pI (pI (pI (pI (pA S (r + 1) (fun j => if j < 11 then -1 else S.1 (r + 1) j)) (r + 1) 0 x) (r + 2) 4 0) (r + 2) 5 (-1)) (r + 2) 6 0) (r + 2) 7 0 = S1 at eB
  have f0 : S1.2 = S.2 := by rw [← hS1]; rfl
  have f1 : ∀ a, a ≠ r + 1 → a ≠ r + 2 → S1.1 a = S.1 a := fun a h1 h2 => by rw [← hS1, pI_ne h2, pI_ne h2, pI_ne h2, pI_ne h2, pI_ne h1, pA_ne h1]
  have f2 : ∀ i, i < 11 → S1.1 (r + 1) i = if i = 0 then x else -1 := fun i hi => by
    rw [← hS1, pI_ne (by omega), pI_ne (by omega), pI_ne (by omega), pI_ne (by omega), pI1, if_pos rfl, pA_self, if_pos hi]
  have f3 : S1.1 (r + 2) 4 = 0 ∧ S1.1 (r + 2) 6 = 0 ∧ S1.1 (r + 2) 7 = 0 := by
    rw [← hS1]
    refine ⟨?_, ?_, ?_⟩
    · rw [pI_row (by decide), pI_row (by decide), pI_row (by decide), pI_self]
    · rw [pI_row (by decide), pI_self]
    · rw [pI_self]
  have f4 : ∀ i, i < 4 → S1.1 (r + 2) i = S.1 (r + 2) i := fun i hi => by
    rw [← hS1, pI_row (by omega), pI_row (by omega), pI_row (by omega), pI_row (by omega), pI_ne (by omega), pA_ne (by omega)]
  have cr : ∀ i, i < 5 → ∀ j, col (r + i) j = 11 := fun i hi j => by rw [← hr]; exact col_ot hp hi j
  refine ⟨S1, M1, eB, m1, ⟨z1, ?_, ?_, ?_, z5, ?_, ?_⟩, ⟨fun a _ => by rw [f0], fun a j hj => ?_⟩, ⟨fun a _ => by rw [m2], fun a j hj => ?_⟩⟩
  · rw [f1 32 (by omega) (by omega)]; exact z2
  · rw [m7 76 (by decide) (by decide) (by decide) (by decide)]; exact z3
  · intro j hj; rw [f0]; exact z4 j hj
  · intro q hq
    by_cases e : q = π k
    · subst e
      rw [hr, f4 0 (by decide), f4 1 (by decide), ← hr]; exact z6 _ hq
    · rw [f1 _ (by omega) (by omega)]; exact z6 q hq
  · intro j hj
    by_cases e : j = k
    · subst e
      rw [hr]
      refine ⟨fun i hi => ?_, ?_, ⟨0, 0, by decide, by decide, f3.1, ?_, f3.2.1, Or.inr ⟨?_, rfl⟩, fun j hj => absurd hj (Nat.not_lt_zero _), fun s k _ _ q => ?_⟩⟩
      · rw [f2 i hi, m3]
        by_cases e0 : i = 0
        · rw [if_pos e0, if_neg (by omega), if_pos (by omega), hx]
        · rw [if_neg e0, if_pos (by omega)]
      · rw [f3.2.2, m4, if_pos rfl]
      · rw [m5, if_pos rfl]; rfl
      · rw [m6, if_pos rfl]
      · rw [Nat.zero_testBit] at q; exact absurd q (by decide)
    · have hjk : j < k := by omega
      obtain ⟨y1, y2, y3⟩ := z7 j hjk
      have hpj := (z4 j (by omega)).1
      have hne : π j ≠ π k := fun q => e (z5 j k (by omega) (by omega) q)
      refine ⟨fun i hi => ?_, ?_, ?_⟩
      · rw [f1 _ (by omega) (by omega), m3, if_neg (by omega), if_neg (by omega)]; exact y1 i hi
      · rw [f1 _ (by omega) (by omega), m4, if_neg e]; exact y2
      · refine y3.mv (f1 _ (by omega) (by omega)) (f1 _ (by omega) (by omega)) (f1 _ (by omega) (by omega)) ?_ ?_ (fun i _ => ?_) (fun i _ => ?_)
        · rw [m5, if_neg (by omega)]
        · rw [m6, if_neg (by omega)]
        · rw [m7 87 (by decide) (by decide) (by decide) (by decide)]
        · rw [m7 89 (by decide) (by decide) (by decide) (by decide)]
  · rw [f1 a]
    · rintro rfl; have := cr 1 (by decide) j; omega
    · rintro rfl; have := cr 2 (by decide) j; omega
  · by_cases a1 : a = 97
    · have := col_31 (a := a) (j := j) (Or.inl a1); omega
    by_cases a2 : a = 98
    · have := col_31 (a := a) (j := j) (Or.inr (Or.inl a2)); omega
    by_cases a3 : a = 88
    · by_cases j3 : 3 ≤ j
      · have := col_31 (a := a) (j := j) (Or.inr (Or.inr ⟨Or.inl a3, j3⟩)); omega
      · subst a3; rw [m5, if_neg (by omega)]
    by_cases a4 : a = 90
    · by_cases j3 : 3 ≤ j
      · have := col_31 (a := a) (j := j) (Or.inr (Or.inr ⟨Or.inr a4, j3⟩)); omega
      · subst a4; rw [m6, if_neg (by omega)]
    rw [m7 a a1 a2 a3 a4]
theorem l_find {sz : Nat} {π : Nat → Nat} {S M : rd_S} (hs : Sh S) (hm : Sh M) (h : RZ sz π S M) (d : Int32) (hd : M.1 81 3 = d) (x : Int32) : ∃ S1 M1 sz1 π1 i, F_X6_find wF 32 d S = some (some (34 + 5 * π1 i), S1) ∧ F_X12_another wF 76 x M = B_X12_another_47 wF 76 x (nI i) M1 ∧ RZ sz1 π1 S1 M1 ∧ i < sz1 ∧ Rg 11 11 S S1 ∧ Rg 31 31 M M1 := by
  have h' := h
  obtain ⟨z1, z2, z3, z4, z5, z6, z7⟩ := h
  obtain ⟨i, i1, i2, i3⟩ := least_to (fun j => M.1 97 (11 * j) = d) sz
  have ec : F_X6_find wF 32 d S = _ := fd_c hs h' d i1 i2 i3 i 0 rd_big (by omega) (by unfold rd_big; omega)
  have em : F_X12_another wF 76 x M = _ := fd_m hm z1 z3 x i1 (fun j hj => by rw [hd]; exact i2 j hj) (fun hj => by rw [hd]; exact i3 hj) i 0 rd_big (by omega) (by unfold rd_big; omega)
  by_cases hlt : i < sz
  · rw [if_pos hlt] at ec em
    exact ⟨S, M, sz, π, i, ec, em, h', hlt, Rg.rf, Rg.rf⟩
  · rw [if_neg hlt] at ec em
    by_cases h8 : sz = 8
    · subst h8
      -- the oldest goes
      obtain ⟨S1, c1, c2, c3, c4, c5, c6⟩ := rot_c (34 + 5 * π 0) 7 1 rd_big S (by decide) (by decide) (by unfold rd_big; omega) (by exact sh_32_0 hs) (fun j _ h2 => ⟨_, (z4 j h2).2⟩)
      obtain ⟨M1, m1, m2, m3, m4⟩ := s11 77 0 rd_big M hm (by decide) (by unfold rd_big; omega)
      have hm1 : Sh M1 := fun a ha => by rw [m2]; exact hm a ha
      obtain ⟨M2, n1, n2, n3, n4, n5, n6, n7⟩ := s40 7 0 rd_big M1 hm1 (by decide) (by unfold rd_big; omega)
      have hm2 : Sh M2 := fun a ha => by rw [n2]; exact hm1 a ha
      have hs1 : Sh S1 := fun a ha => by rw [c3 a ha]; exact hs a ha
      generalize hM3 : pI (pI M2 76 53 7) 76 53 8 = M3
      have hm3 : Sh M3 := by rw [← hM3]; exact hm2
      have k1 : ∀ a, a ≠ 76 → M3.1 a = M2.1 a := fun a ha => by rw [← hM3, pI_ne ha, pI_ne ha]
      have hx3 : M3.1 81 3 = d := by rw [k1 81 (by decide), n7 81 (by decide) (by decide) (by decide) (by decide) (by decide), m4 81 (by decide)]; exact hd
      have pz : PZ 7 (fun j => if j < 7 then π (j + 1) else π 0) S1 M3 := by
        refine ⟨by decide, by rw [c2]; exact z2, by rw [← hM3, pI_self]; rfl, fun j hj => ?_, fun i j hi hj e => ?_, fun k hk => by rw [c2]; exact z6 k hk, fun j hj => ?_⟩
        · by_cases e : j < 7
          · simp only [if_pos e]
            exact ⟨(z4 _ (by omega)).1, by rw [c4 j (by omega) e]; exact (z4 _ (by omega)).2⟩
          · have : j = 7 := by omega
            subst this
            simp only [if_neg e]
            exact ⟨(z4 0 (by decide)).1, c5⟩
        · by_cases e1 : i < 7
          · by_cases e2 : j < 7
            · simp only [if_pos e1, if_pos e2] at e
              have := z5 _ _ (by omega) (by omega) e; omega
            · simp only [if_pos e1, if_neg e2] at e
              have := z5 _ _ (by omega) (by omega) e; omega
          · by_cases e2 : j < 7
            · simp only [if_neg e1, if_pos e2] at e
              have := z5 _ _ (by omega) (by omega) e; omega
            · omega
        · simp only [if_pos hj]
          obtain ⟨y1, y2, y3⟩ := z7 (j + 1) (by omega)
          refine ⟨fun i hi => ?_, ?_, ?_⟩
          · rw [c2, k1 97 (by decide), n7 97 (by decide) (by decide) (by decide) (by decide) (by decide), m3, if_pos (by omega), show 11 * j + i + 11 = 11 * (j + 1) + i by omega]; exact y1 i hi
          · rw [c2, k1 98 (by decide), n3, if_pos (by omega), m4 98 (by decide)]; exact y2
          · refine y3.mv (by rw [c2]) (by rw [c2]) (by rw [c2]) ?_ ?_ (fun i hi => ?_) (fun i hi => ?_)
            · rw [k1 88 (by decide), n4 88 _ (Or.inl rfl), if_pos (by omega), m4 88 (by decide), Nat.add_assoc]
            · rw [k1 90 (by decide), n4 90 _ (Or.inr rfl), if_pos (by omega), m4 90 (by decide), Nat.add_assoc]
            · rw [k1 87 (by decide), n5 87 _ i (Or.inl rfl) hi, if_pos (by omega), m4 87 (by decide), Nat.add_assoc 3 j 1]
            · rw [k1 89 (by decide), n5 89 _ i (Or.inr rfl) hi, if_pos (by omega), m4 89 (by decide), Nat.add_assoc 3 j 1]
      obtain ⟨S4, M4, p1, p2, p3, p4, p5⟩ := l_new hs1 hm3 pz d hx3
      have rS : Rg 11 11 S S1 := ⟨fun a ha => c3 a (by omega), fun a j _ => by rw [c2]⟩
      have rM : Rg 31 31 M M3 := by
        rw [← hM3]
        refine Rg.pI (Rg.pI ⟨fun a _ => by rw [n2, m2], fun a j hj => ?_⟩ (by decide)) (by decide)
        by_cases a1 : a = 97
        · have := col_31 (a := a) (j := j) (Or.inl a1); omega
        by_cases a2 : a = 98
        · have := col_31 (a := a) (j := j) (Or.inr (Or.inl a2)); omega
        by_cases a3 : a = 88 ∨ a = 90
        · by_cases j3 : 3 ≤ j
          · have := col_31 (a := a) (j := j) (Or.inr (Or.inr ⟨a3, j3⟩)); omega
          · rw [n4 a j a3, if_neg (by omega), m4 a a1]
        by_cases a4 : a = 87 ∨ a = 89
        · by_cases j3 : j < 192
          · rw [n6 a j a4 j3, m4 a a1]
          · have : col a j = 31 := by
              have e : rowc (j / 64) = 31 := by
                have : 3 ≤ j / 64 := by omega
                unfold rowc
                rw [if_neg (by omega), if_neg (by omega), if_neg (by omega)]
              rcases a4 with rfl | rfl
              · exact e
              · exact e
            omega
        rw [n7 a (fun q => a4 (Or.inl q)) (fun q => a3 (Or.inl q)) (fun q => a4 (Or.inr q)) (fun q => a3 (Or.inr q)) a2, m4 a a1]
      refine ⟨S4, M4, 8, _, 7, ?_, ?_, p3, by decide, rS.tr p4, rM.tr p5⟩
      · rw [ec]
        unfold F_X6_append
        rw [if_pos (show (8 : Int32) ≤ gI S 32 1 by show (8 : Int32) ≤ S.1 32 1; rw [z2]; decide), sh_32_0 hs, rd_cN, ln_33, rd_iT _ (by decide), tn_0, show gR S 33 0 = _ from (z4 0 (by decide)).2, rd_cN, show F_X6_append_39 wF rd_big 32 (34 + 5 * π 0) 1 S = _ from c1, rd_bN, rd_mS]
        have : F_X5_begin wF (34 + 5 * π 0) d S1 = some S4 := p1
        rw [this, rd_cN]
        rfl
      · rw [em]
        unfold F_X12_oneMore
        rw [if_pos (show gI M 76 53 = 8 from z3), show F_X12_oneMore_11 wF rd_big 76 0 M = _ from m1, show F_X12_oneMore_40 wF rd_big 76 0 M1 = _ from n1]
        unfold B_X12_oneMore_178
        have e7 : gI (pI M2 76 53 7) 76 53 = 7 := pI_self
        rw [rd_letN, e7, rd_letN, show (7 : Int32) + 1 = 8 by decide, hM3, show F_X12_oneMore_195 wF rd_big 76 7 1 M3 = _ from p2, rd_bN]
    · have : i = sz := by omega
      subst this
      have pz : PZ i π (pI S 32 1 (nI (i + 1))) (pI M 76 53 (nI (i + 1))) := by
        refine ⟨by omega, pI_self, pI_self, z4, z5, fun k hk => by rw [pI_ne (by omega)]; exact z6 k hk, fun j hj => ?_⟩
        obtain ⟨y1, y2, y3⟩ := z7 j hj
        refine ⟨fun q hq => by rw [pI_ne (by omega), pI_ne (by decide)]; exact y1 q hq, by rw [pI_ne (by omega), pI_ne (by decide)]; exact y2, ?_⟩
        exact y3.mv (pI_ne (by omega)) (pI_ne (by omega)) (pI_ne (by omega)) (by rw [pI_ne (by decide)]) (by rw [pI_ne (by decide)]) (fun q _ => by rw [pI_ne (by decide)]) (fun q _ => by rw [pI_ne (by decide)])
      have rS : Rg 11 11 S (pI S 32 1 (nI (i + 1))) := Rg.rf.pI (by decide)
      have rM : Rg 31 31 M (pI M 76 53 (nI (i + 1))) := Rg.rf.pI (by decide)
      obtain ⟨S4, M4, p1, p2, p3, p4, p5⟩ := l_new (rS.sh hs) (rM.sh hm) pz d (by rw [pI_ne (by decide)]; exact hd)
      refine ⟨S4, M4, i + 1, π, i, ?_, ?_, p3, by omega, rS.tr p4, rM.tr p5⟩
      · rw [ec]
        unfold F_X6_append
        have e1 : gI S 32 1 + 1 = nI (i + 1) := by show S.1 32 1 + 1 = _; rw [z2, nI_1]
        have e2 : gI (pI S 32 1 (nI (i + 1))) 32 1 - 1 = nI i := by show (pI S 32 1 (nI (i + 1))).1 32 1 - 1 = _; rw [pI_self, nI_pred]
        rw [if_neg (show ¬ (8 : Int32) ≤ gI S 32 1 by show ¬ (8 : Int32) ≤ S.1 32 1; rw [z2]; exact nI_ge (b := 8) (by omega) (by decide)), rd_letN, e1, e2, get_c (rS.sh hs) (n := i + 1) (j := i) pI_self (by omega) (by omega) (b := 34 + 5 * π i) (z4 i (by omega)).2, rd_bN, rd_bN, rd_mS, p1, rd_cN]
      · rw [em]
        unfold F_X12_oneMore B_X12_oneMore_178
        rw [if_neg (show ¬ gI M 76 53 = 8 by show ¬ M.1 76 53 = 8; rw [z3]; exact fun q => h8 ((nI_eq (by omega) (b := 8) (by decide)).mp q)), show gI M 76 53 = nI i from z3, rd_letN, nI_1, rd_letN, p2, rd_bN]
