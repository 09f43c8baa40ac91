/-! SYNC begins: the BLOCKS that are there are looked at. -/
def FinY (cm came : Nat) (S M : rd_S) : Prop := (∃ c q, c ≤ cm ∧ q < 4 ∧ M.1 76 7 = 1 ∧ M.1 76 5 = nI came ∧ M.1 76 9 = 0 ∧ S.1 2 9 = 0 ∧ RCw c S M ∧ M.1 76 8 = nI q ∧ S.1 2 10 = nI q ∧ RCp q S M) ∨
  (M.1 76 7 = 0 ∧ M.1 76 5 = 0 ∧ M.1 76 9 = 0 ∧ RCw 0 S M ∧ M.1 76 12 = 0 ∧ S.1 2 8 = 0 ∧ S.1 2 9 = 0 ∧ S.1 2 10 = -1 ∧ (M.1 76 20 = 0 ∨ M.1 76 20 = 1))
theorem LkF.rf {S M : rd_S} : LkF S M S M := ⟨rfl, rfl, rfl, rfl, rfl, fun _ _ => rfl, fun _ _ => rfl, rfl⟩
theorem LkF.tr {S M S1 M1 S2 M2 : rd_S} (h : LkF S M S1 M1) (g : LkF S1 M1 S2 M2) : LkF S M S2 M2 := by
  obtain ⟨h1, h2, h3, h4, h5, h6, h7, h8⟩ := h
  obtain ⟨g1, g2, g3, g4, g5, g6, g7, g8⟩ := g
  exact ⟨g1.trans h1, g2.trans h2, g3.trans h3, g4.trans h4, g5.trans h5, fun a x => (g6 a x).trans (h6 a x), fun a x => (g7 a x).trans (h7 a x), g8.trans h8⟩
theorem c_sEnd {n x p : Nat} {x2 : Int32} {S : rd_S} (h2 : x2 = 0 ∨ x2 = 1) (hx : x < p) (hp : p < 5) : F_X7_synchronise_27 wF (n + 1) 2 (nI x) x2 (nI p) S = some (x2, S) := by
  show B_X7_synchronise_27 wF (F_X7_synchronise_27 wF n) 2 _ _ _ S = _
  unfold B_X7_synchronise_27 B_X7_synchronise_81
  rw [if_pos (nI_lt hx (by omega)), rd_zT _ h2]
theorem c_sLost {n : Nat} {x1 x2 x3 : Int32} {S : rd_S} (h2 : x2 = 0 ∨ x2 = 1) (h : S.1 2 10 = -1) : F_X7_synchronise_27 wF (n + 1) 2 x1 x2 x3 S = some (x2, S) := by
  show B_X7_synchronise_27 wF (F_X7_synchronise_27 wF n) 2 _ _ _ S = _
  unfold B_X7_synchronise_27 B_X7_synchronise_81
  rw [rd_zT _ h2, show gI S 2 10 = -1 from h]
  by_cases q : x1 < x3
  · rw [if_pos q]
  · rw [if_neg q, if_pos rfl]
theorem m_sEnd {n x p : Nat} {x4 : Int32} {M : rd_S} (hx : x < p) (hp : p < 5) : F_X12_search_167 wF (n + 1) 76 (nI x) x4 (nI p) M = some M := by
  show B_X12_search_167 wF (F_X12_search_167 wF n) 76 _ _ _ M = _
  unfold B_X12_search_167 B_X12_search_242
  rw [if_pos (nI_lt hx (by omega))]
theorem m_sLost {n : Nat} {x1 x4 x5 : Int32} {M : rd_S} (h : M.1 76 7 = 0) : F_X12_search_167 wF (n + 1) 76 x1 x4 x5 M = some M := by
  show B_X12_search_167 wF (F_X12_search_167 wF n) 76 _ _ _ M = _
  unfold B_X12_search_167 B_X12_search_242
  rw [show gI M 76 7 = 0 from h]
  by_cases q : x1 < x5
  · rw [if_pos q]
  · rw [if_neg q, if_pos rfl]
theorem mul26 : ∀ k, k < 5 → 26 * nI k = nI (26 * k) := by decide +kernel
theorem l_sy {N came nw x : Nat} {h : Nat → Bool} (hN : N < 1000000) (hc : came < 2 ^ 30) (h52 : 52 ≤ came) (hx : x < 4) : ∀ (r p n n' cnt : Nat) (S M : rd_S), p + r = x + 1 → r < n → r < n' → RLk N cnt p S M → RG came nw h S M → M.1 76 7 = 1 → M.1 76 9 = 0 → S.1 2 9 = 0 → cnt ≤ p → (p = 0 → (∀ k, k < 4 → S.1 4 k = -1 ∧ S.1 5 k = 3) ∧ S.1 3 2 = 0) →
    ∃ v S1 S2 M1, F_X7_synchronise_27 wF n 2 (nI x) 0 (nI p) S = some (v, S1) ∧ ((v = 1 ∧ CT S1 = some S2) ∨ (v = 0 ∧ S2 = S1)) ∧ F_X12_search_167 wF n' 76 (nI x) (nI came) (nI p) M = some M1 ∧ (Sh S1 ∧ Sh S2 ∧ Sh M1) ∧ RCa S2 M1 ∧ RCb S2 M1 ∧ RCg S2 M1 ∧ RCS (N + 1) S2 M1 ∧ LkF S M S2 M1 ∧ FinY 4 came S2 M1 := by
  intro r
  induction r with
  | zero =>
    intro p n n' cnt S M hp hn hn' hR hG h7 h9 s9 hcp hz
    obtain ⟨n, rfl⟩ : ∃ q, n = q + 1 := ⟨n - 1, by omega⟩
    obtain ⟨n', rfl⟩ : ∃ q, n' = q + 1 := ⟨n' - 1, by omega⟩
    obtain ⟨hs, hm, ha, hb, hw, hp4, p8, p10, hpp, hg, hS⟩ := hR
    refine ⟨0, S, S, M, c_sEnd (Or.inl rfl) (by omega) (by omega), Or.inr ⟨rfl, rfl⟩, m_sEnd (by omega) (by omega), ⟨hs, hs, hm⟩, ha, hb, hg, hS.mono (by omega), LkF.rf, Or.inl ⟨cnt, p, by omega, hp4, h7, hG.2.2.2.2.1, h9, s9, hw, p8, p10, hpp⟩⟩
  | succ r ih =>
    intro p n n' cnt S M hp hn hn' hR hG h7 h9 s9 hcp hz
    obtain ⟨n, rfl⟩ : ∃ q, n = q + 1 := ⟨n - 1, by omega⟩
    obtain ⟨n', rfl⟩ : ∃ q, n' = q + 1 := ⟨n' - 1, by omega⟩
    have hR' := hR
    obtain ⟨hs, hm, ha, hb, hw, hp4, p8, p10, hpp, hg, hS⟩ := hR
    have exp' : nI x - nI p = nI (x - p) := pk_sub (by omega)
    have eC : F_X7_synchronise_27 wF (n + 1) 2 (nI x) 0 (nI p) S = rd_b (F_X7_wordAhead wF 2 (nI (x - p)) S) fun v9 s8 => if v9 = (-1) then (rd_let (pI s8 2 10 ((gI s8 2 10) + 1)) fun s11 => F_X7_synchronise_27 wF n 2 (nI x) 0 (nI (p + 1)) s11) else (rd_b (F_X7_lookAt wF 2 v9 s8) fun v14 s13 => F_X7_synchronise_27 wF n 2 (nI x) v14 (nI (p + 1)) s13) := by
      show B_X7_synchronise_27 wF (F_X7_synchronise_27 wF n) 2 _ _ _ S = _
      unfold B_X7_synchronise_27 B_X7_synchronise_75
      rw [if_neg (nI_nlt (by omega) (by omega)), show gI S 2 10 = nI p from p10, if_neg (nI_ne_m1 (by omega)), exp', nI_1]
      simp only [rd_letN]
    have eM : F_X12_search_167 wF (n' + 1) 76 (nI x) (nI came) (nI p) M = if nI came < nI (26 * (x - p + 1)) then F_X12_search_167 wF n' 76 (nI x) (nI came) (nI (p + 1)) (pI (pI (pI M 82 p 3) 81 p (-1)) 76 8 (nI (p + 1))) else rd_b (F_X12_ended wF 76 (nI (26 * (x - p))) M) fun v29 s28 => rd_c (F_X12_look wF 76 v29 s28) fun s30 => F_X12_search_167 wF n' 76 (nI x) (nI came) (nI (p + 1)) s30 := by
      show B_X12_search_167 wF (F_X12_search_167 wF n') 76 _ _ _ M = _
      unfold B_X12_search_167 B_X12_search_236
      have ip : ∀ E : Option rd_S, rd_i (nI p) 4 E = E := fun E => rd_iN _ hp4 (by decide)
      have hmA : Sh (pI M 82 p 3) := hm
      have cp : (nI p).toNatClampNeg = p := nI_clamp (by omega)
      rw [if_neg (nI_nlt (by omega) (by omega)), show gI M 76 7 = 1 from h7, if_neg (by decide), exp', nI_1, mul26 (x - p + 1) (by omega), mul26 (x - p) (by omega)]
      rw [sh_76_19 hm, rd_cN, ln_82, ip, cp, rd_letN, sh_76_18 hmA, rd_cN, ln_81, ip, rd_letN, nI_1, rd_letN, rd_letN]
      simp only [rd_letN]
    rw [eC, eM, c_ahead hs hG (by omega), rd_bN]
    by_cases q : 26 * (x - p) + 26 ≤ came
    · -- the BLOCK is there
      have hV := WN_lt h (26 * (x - p))
      rw [if_pos q, if_neg (nI_ne_m1 (by omega)), if_neg (nI_nlt (by omega) (by omega)), m_ended hm hG.2.2.2.2.1 hG.2.2.2.2.2 q (by omega) hc, rd_bN]
      obtain ⟨S1, S2, M1, k1, k2, k3, ⟨k4, k5, k6⟩, k7, k8, k9, k10, k11, k12⟩ := l_look hR' hV (by omega) hN
      rw [k1, k3, rd_bN, rd_cN]
      obtain ⟨f1, f2, f3, f4, f5, f6, f7, f8⟩ := id k12
      by_cases h3 : p = 3
      · rw [if_pos h3] at k2 ⊢
        subst h3
        obtain ⟨n, rfl⟩ : ∃ q, n = q + 1 := ⟨n - 1, by omega⟩
        obtain ⟨n', rfl⟩ : ∃ q, n' = q + 1 := ⟨n' - 1, by omega⟩
        refine ⟨1, S1, S2, M1, c_sEnd (Or.inr rfl) (by omega) (by omega), Or.inl ⟨rfl, k2⟩, m_sEnd (by omega) (by omega), ⟨k4, k5, k6⟩, k7, k8, k9, k10, k12, ?_⟩
        rcases k11 with ⟨y1, y2, y3, y4, y5, y6, y7, y8, y9⟩ | y
        · exact Or.inl ⟨cnt + 1, 0, by omega, by decide, y1.trans h7, y2.trans hG.2.2.2.2.1, y3.trans h9, y5.trans s9, y6, y7, y8, y9⟩
        · exact Or.inr y
      · rw [if_neg h3] at k2 ⊢
        subst k2
        rw [show N + p / 3 = N by omega] at k10
        rw [show (p + 1) % 4 = p + 1 by omega] at k11
        rcases k11 with ⟨y1, y2, y3, y4, y5, y6, y7, y8, y9⟩ | ⟨y1, y2, y3, y4, y5, y6, y7, y8, y9⟩
        · have hG1 : RG came nw h S2 M1 := by
            obtain ⟨r1, r2, r3, r4, r5, r6⟩ := hG
            exact ⟨y4.trans r1, f2.trans r2, r3, by rw [f3]; exact r4, y2.trans r5, by rw [f4]; exact r6⟩
          obtain ⟨v, A1, A2, B1, z1, z2, z3, z4, z5, z6, z7, z8, z9, z10⟩ := ih (p + 1) n n' (cnt + 1) S2 M1 (by omega) (by omega) (by omega) ⟨k5, k6, k7, k8, y6, by omega, y7, y8, y9, k9, k10⟩ hG1 (y1.trans h7) (y3.trans h9) (y5.trans s9) (by omega) (fun e => absurd e (by omega))
          exact ⟨v, A1, A2, B1, z1, z2, z3, z4, z5, z6, z7, z8, k12.tr z9, z10⟩
        · obtain ⟨n, rfl⟩ : ∃ q, n = q + 1 := ⟨n - 1, by omega⟩
          obtain ⟨n', rfl⟩ : ∃ q, n' = q + 1 := ⟨n' - 1, by omega⟩
          exact ⟨0, S2, S2, M1, c_sLost (Or.inl rfl) y8, Or.inr ⟨rfl, rfl⟩, m_sLost y1, ⟨k5, k5, k6⟩, k7, k8, k9, k10.mono (by omega), k12, Or.inr ⟨y1, y2, y3, y4, y5, y6, y7, y8, y9⟩⟩
    · -- it is not
      rw [if_neg q, if_pos rfl, rd_letN, if_pos (nI_lt (by omega) (by omega)), show gI S 2 10 = nI p from p10, nI_1]
      have hp1 : p < 2 := by omega
      generalize hS1 : pI S 2 10 (nI (p + 1)) = S1
      generalize hM1 : pI (pI (pI M 82 p 3) 81 p (-1)) 76 8 (nI (p + 1)) = M1
      have sr : ∀ a, a ≠ 2 → S1.1 a = S.1 a := fun a e => by rw [← hS1, pI_ne e]
      have sf : ∀ j, j ≠ 10 → S1.1 2 j = S.1 2 j := fun j e => by rw [← hS1, pI_row e]
      have mr : ∀ a, a ≠ 76 → a ≠ 81 → a ≠ 82 → M1.1 a = M.1 a := fun a e1 e2 e3 => by rw [← hM1, pI_ne e1, pI_ne e2, pI_ne e3]
      have mf : ∀ j, j ≠ 8 → M1.1 76 j = M.1 76 j := fun j e => by rw [← hM1, pI_row e, pI_ne (by decide), pI_ne (by decide)]
      have m81 : ∀ j, M1.1 81 j = if j = p then -1 else M.1 81 j := fun j => by rw [← hM1, pI_ne (by decide), pI1, if_pos rfl, pI_ne (by decide)]
      have m82 : ∀ j, M1.1 82 j = if j = p then 3 else M.1 82 j := fun j => by rw [← hM1, pI_ne (by decide), pI_ne (by decide), pI1, if_pos rfl]
      have s0 : S1.2 = S.2 := by rw [← hS1]; rfl
      have m0 : M1.2 = M.2 := by rw [← hM1]; rfl
      have hs1 : Sh S1 := fun a e => by rw [s0]; exact hs a e
      have hm1 : Sh M1 := fun a e => by rw [m0]; exact hm a e
      have fr : LkF S M S1 M1 := ⟨sf 6 (by decide), sf 7 (by decide), sr 8 (by decide), mr 77 (by decide) (by decide) (by decide), mr 78 (by decide) (by decide) (by decide), fun a e => sr a (by omega), fun a e => mr a (by omega) (by omega) (by omega), m0⟩
      obtain ⟨q1, q2, q3, q4⟩ := hpp
      have emp : ∀ k, p ≤ k → k < 4 → S.1 4 k = -1 ∧ S.1 5 k = 3 := fun k e1 e2 => by
        by_cases e : p = 0
        · exact (hz e).1 k e2
        · exact q2 (by omega) k e1 e2
      have em2 : S.1 3 2 = 0 := by
        by_cases e : p = 0
        · exact (hz e).2
        · rw [q3 (by omega), if_neg (by omega)]
      have hpp1 : RCp (p + 1) S1 M1 := by
        refine ⟨fun k hk => ?_, fun _ k e1 e2 => ?_, fun _ => ?_, ?_⟩
        · rw [sr 4 (by decide), sr 5 (by decide), m81, m82]
          by_cases e : k = p
          · rw [if_pos e, if_pos e, e]
            exact ⟨(emp p (Nat.le_refl _) hp4).1, (emp p (Nat.le_refl _) hp4).2, Or.inr ⟨Or.inr rfl, rfl⟩⟩
          · rw [if_neg e, if_neg e]; exact q1 k (by omega)
        · rw [sr 4 (by decide), sr 5 (by decide)]; exact emp k (by omega) e2
        · rw [sr 3 (by decide), em2, if_neg (by omega)]
        · rw [mf 20 (by decide)]; exact q4
      have ha1 : RCa S1 M1 := by
        obtain ⟨a1, a2, a3, a4⟩ := ha
        exact ⟨by rw [sf 4 (by decide), mf 1 (by decide)]; exact a1, by rw [sf 5 (by decide), mf 2 (by decide)]; exact a2, by rw [mf 1 (by decide)]; exact a3, by rw [mf 2 (by decide)]; exact a4⟩
      have hb1 : RCb S1 M1 := by
        obtain ⟨b1, b2, b3, b4, b5, b6⟩ := hb
        exact ⟨by rw [sf 11 (by decide), mf 6 (by decide)]; exact b1, by rw [sr 9 (by decide), mr 80 (by decide) (by decide) (by decide)]; exact b2, by rw [sf 12 (by decide), mf 16 (by decide)]; exact b3, by rw [sf 13 (by decide), mf 17 (by decide)]; exact b4, by rw [sf 14 (by decide), mf 14 (by decide)]; exact b5, by rw [sf 15 (by decide), mf 15 (by decide)]; exact b6⟩
      have hw1 : RCw cnt S1 M1 := by
        obtain ⟨w1, w2, w3, w4, w5⟩ := hw
        exact ⟨by rw [mf 11 (by decide)]; exact w1, by rw [sr 6 (by decide)]; exact w2, by rw [sr 6 (by decide)]; exact w3, by rw [sr 6 (by decide), mf 12 (by decide)]; exact w4, by rw [sr 7 (by decide), mr 79 (by decide) (by decide) (by decide)]; exact w5⟩
      have agM : ∀ c, 22 ≤ c → Ag c M M1 := fun c e => col_agM e (fun a j e2 => by
        by_cases e3 : a = 76
        · subst e3; exact mf j (by omega)
        · rw [mr a e3 (by omega) (by omega)])
      have hg1 : RCg S1 M1 := hg.cg (fun a j e => by
        rw [sr a]
        intro e4; subst e4; exact absurd (show colC 2 = 2 from e) (by decide)) (agM 22 (by decide))
      have hS1' : RCS N S1 M1 := hS.cg (fun c e1 e2 => col_ag e1 e2 (fun a e3 => sr a (by omega))) (fun c e1 _ => agM c (by omega)) (by rw [s0])
      have hG1 : RG came nw h S1 M1 := by
        obtain ⟨r1, r2, r3, r4, r5, r6⟩ := hG
        exact ⟨by rw [sf 8 (by decide)]; exact r1, by rw [sf 7 (by decide)]; exact r2, r3, by rw [sr 8 (by decide)]; exact r4, by rw [mf 5 (by decide)]; exact r5, by rw [mr 77 (by decide) (by decide) (by decide)]; exact r6⟩
      obtain ⟨v, A1, A2, B1, z1, z2, z3, z4, z5, z6, z7, z8, z9, z10⟩ := ih (p + 1) n n' cnt S1 M1 (by omega) (by omega) (by omega) ⟨hs1, hm1, ha1, hb1, hw1, by omega, by rw [← hM1, pI_self], by rw [← hS1, pI_self], hpp1, hg1, hS1'⟩ hG1 (by rw [mf 7 (by decide)]; exact h7) (by rw [mf 9 (by decide)]; exact h9) (by rw [sf 9 (by decide)]; exact s9) (by omega) (fun e => absurd e (by omega))
      exact ⟨v, A1, A2, B1, z1, z2, z3, z4, z5, z6, z7, z8, fr.tr z9, z10⟩
