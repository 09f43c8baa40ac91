/-! SEARCH: both sides look for a fitting hit. -/
theorem min104 (c : Nat) : (if (104 : Int32) < nI (min c 104) + 1 then (104 : Int32) else nI (min c 104) + 1) = nI (min (c + 1) 104) := by
  rw [nI_1]
  by_cases q : 104 ≤ c
  · rw [Nat.min_eq_right q, Nat.min_eq_right (by omega)]; decide
  · rw [Nat.min_eq_left (by omega), if_neg (show ¬ (104 : Int32) < nI (c + 1) from nI_nlt (a := 104) (by omega) (by omega)), Nat.min_eq_left (by omega)]
theorem c_min (x y : Int32) (S : rd_S) : F_J9_min_7cf53 wF x y S = some (if y < x then y else x, S) := by
  unfold F_J9_min_7cf53 B_J9_min_7cf53_10
  by_cases q : y < x
  · rw [if_pos q, if_pos q]
  · rw [if_neg q, if_neg q]
theorem l_search {came nw : Nat} {b : Bool} {h : Nat → Bool} {S M : rd_S} (hs : Sh S) (hm : Sh M) (hc : came + 1 < 2 ^ 30) (h6 : S.1 2 6 = nI (WN (hpsh b h) 0)) (h8 : S.1 2 8 = nI (min came 104)) (h7 : S.1 2 7 = nI nw) (hnw : nw < 79) (hr : ∀ d, d < came → d < 79 → S.1 8 ((nw + 79 - d) % 79) = nI (WN h d))
    (m5 : M.1 76 5 = nI (came + 1)) (mb : ∀ k, k < came + 1 → k < 128 → M.1 77 ((came + 1 - 1 - k) % 128) = b2i (hpsh b h k)) (m0 : M.1 78 (came % 128) = -1) (mh : ∀ d, d + 26 ≤ came → d < 127 → M.1 78 ((came - 1 - d) % 128) = plcF (nI (WN h d))) :
    ∃ Sx My, Sx.2 = S.2 ∧ (∀ a, a ≠ 2 → a ≠ 8 → Sx.1 a = S.1 a) ∧ (∀ j, j ≠ 7 → j ≠ 8 → Sx.1 2 j = S.1 2 j) ∧ My.2 = M.2 ∧ (∀ a, a ≠ 78 → My.1 a = M.1 a) ∧ (∀ d, d + 26 ≤ came + 1 → d < 128 → My.1 78 ((came + 1 - 1 - d) % 128) = plcF (nI (WN (hpsh b h) d))) ∧ RG (came + 1) ((nw + 1) % 79) (hpsh b h) Sx My ∧
    ((F_X7_search wF 2 S = some (-1, Sx) ∧ F_X12_search wF 76 M = some My) ∨ ∃ P, P < 4 ∧ 52 ≤ came + 1 ∧ F_X7_search wF 2 S = some (nI P, Sx) ∧ F_X12_search wF 76 M = ST P (came + 1) My) := by
  have hnx : (nw + 1) % 79 < 79 := Nat.mod_lt _ (by decide)
  generalize hnw' : (nw + 1) % 79 = nw' at hnx ⊢
  generalize hW : WN (hpsh b h) 0 = W at h6
  have hWl : W < 67108864 := by rw [← hW]; exact WN_lt _ _
  generalize hSx : pI (pI (pI S 2 8 (nI (min (came + 1) 104))) 2 7 (nI nw')) 8 nw' (nI W) = Sx
  have x0 : Sx.2 = S.2 := by rw [← hSx]; rfl
  have hsx : Sh Sx := fun a ha => by rw [x0]; exact hs a ha
  have xr : ∀ a, a ≠ 2 → a ≠ 8 → Sx.1 a = S.1 a := fun a h1 h2 => by rw [← hSx, pI_ne h2, pI_ne h1, pI_ne h1]
  have x2 : ∀ j, j ≠ 7 → j ≠ 8 → Sx.1 2 j = S.1 2 j := fun j h1 h2 => by rw [← hSx, pI_ne (by decide), pI_row h1, pI_row h2]
  have x8 : Sx.1 2 8 = nI (min (came + 1) 104) := by rw [← hSx, pI_ne (by decide), pI_row (by decide), pI_self]
  have x7 : Sx.1 2 7 = nI nw' := by rw [← hSx, pI_ne (by decide), pI_self]
  have xw : ∀ j, Sx.1 8 j = if j = nw' then nI W else S.1 8 j := fun j => by rw [← hSx, pI1, if_pos rfl, pI_ne (by decide), pI_ne (by decide)]
  have hRG : RG (came + 1) nw' (hpsh b h) Sx M := by
    refine ⟨x8, x7, hnx, fun d h1 h2 => ?_, m5, mb⟩
    rw [xw]
    by_cases e : d = 0
    · subst e; rw [if_pos (by omega), hW]
    · obtain ⟨d, rfl⟩ : ∃ q, d = q + 1 := ⟨d - 1, by omega⟩
      rw [if_neg (by omega), WN_psh, ← hr d (by omega) (by omega)]
      exact congrArg (S.1 8) (by omega)
  have eS : F_X7_search wF 2 S = rd_b (F_X7_hitAhead wF 2 (nI 0) Sx) fun v9 s8 => if v9 = (-1) then (some (-1, s8)) else (rd_b (F_X7_isSync wF 2 v9 s8) fun v12 s11 => if v12 = 0 then (some (-1, s11)) else (some (v9, s11))) := by
    unfold F_X7_search B_X7_search_43 B_X7_search_44 B_X7_search_83 B_X7_search_84
    have g7 : gI (pI S 2 8 (nI (min (came + 1) 104))) 2 7 = nI nw := by
      show (pI S 2 8 _).1 2 7 = _; rw [pI_row (by decide)]; exact h7
    have tl : ∀ t : Int32, t = nI nw' → (rd_let (pI (pI S 2 8 (nI (min (came + 1) 104))) 2 7 t) fun s5 => rd_c (gR s5 2 2) fun b6 => rd_i (gI s5 2 7) (wF.2.2 b6) <| rd_let (pI s5 b6 (gI s5 2 7).toNatClampNeg (gI s5 2 6)) fun s7 => rd_b (F_X7_hitAhead wF 2 0 s7) fun v9 s8 => if v9 = (-1) then (some (-1, s8)) else (rd_b (F_X7_isSync wF 2 v9 s8) fun v12 s11 => if v12 = 0 then (some ((-1 : Int32), s11)) else (some (v9, s11)))) =
        rd_b (F_X7_hitAhead wF 2 (nI 0) Sx) fun v9 s8 => if v9 = (-1) then (some (-1, s8)) else (rd_b (F_X7_isSync wF 2 v9 s8) fun v12 s11 => if v12 = 0 then (some (-1, s11)) else (some (v9, s11))) := by
      rintro t rfl
      have hsq : Sh (pI (pI S 2 8 (nI (min (came + 1) 104))) 2 7 (nI nw')) := hs
      have q7 : gI (pI (pI S 2 8 (nI (min (came + 1) 104))) 2 7 (nI nw')) 2 7 = nI nw' := pI_self
      have q6 : gI (pI (pI S 2 8 (nI (min (came + 1) 104))) 2 7 (nI nw')) 2 6 = nI W := by
        show (pI (pI S 2 8 _) 2 7 _).1 2 6 = _; rw [pI_row (by decide), pI_row (by decide)]; exact h6
      rw [rd_letN, sh_2_2 hsq, rd_cN, ln_8, q7, q6, rd_iN _ hnx (by decide), nI_clamp (by omega), hSx, rd_letN, nI_0]
    rw [show gI S 2 8 = nI (min came 104) from h8, c_min, rd_bN, min104, rd_letN, g7, if_neg (nI_pos (by omega)), nI_1]
    by_cases q : nw = 78
    · rw [if_pos (show (79 : Int32) ≤ nI (nw + 1) from nI_le (a := 79) (by omega) (by omega))]
      exact tl 0 (by rw [← hnw', q]; rfl)
    · rw [if_neg (show ¬ (79 : Int32) ≤ nI (nw + 1) from nI_ge (b := 79) (by omega) (by decide))]
      exact tl (nI (nw + 1)) (by congr 1; omega)
  have hit0 := c_hit (i := 0) hsx hRG (by decide)
  have e26 : 26 * 0 = 0 := rfl
  rw [e26, hW, Nat.zero_add] at hit0
  rw [hit0, rd_bN] at eS
  by_cases h26 : 26 ≤ came + 1
  · rw [if_pos h26] at eS
    have eM : F_X12_search wF 76 M = if letF (restF (nI W)) = -1 then some M else B_X12_search_35 wF 76 (plcF (nI W)) M := by
      unfold F_X12_search
      have := m_ended (d := 0) hm m5 mb (by omega) (by decide) hc
      rw [hW] at this
      have e0 : F_X12_ended wF 76 0 M = some (nI W, M) := by rw [← nI_0]; exact this
      rw [show gI M 76 5 = nI (came + 1) from m5, if_pos (show (26 : Int32) ≤ nI (came + 1) from nI_le (a := 26) h26 (by omega)), e0, rd_bN, f_X12_letterOf, rd_bN]
      unfold plcF
      generalize letF (restF (nI W)) = l
      by_cases q1 : l = -1
      · rw [if_pos q1, if_pos q1]
      · rw [if_neg q1, if_neg q1]
        by_cases q2 : l = 4
        · rw [if_pos q2, if_pos q2]
        · rw [if_neg q2, if_neg q2]
    rcases plc_cases (nI W) with ⟨l1, l2⟩ | ⟨l1, P, hP, l2⟩
    · rw [if_pos l1] at eM
      rw [l2, if_pos rfl] at eS
      refine ⟨Sx, M, x0, xr, x2, rfl, fun _ _ => rfl, fun d h1 h2 => ?_, hRG, Or.inl ⟨eS, eM⟩⟩
      by_cases e : d = 0
      · subst e; rw [show (came + 1 - 1 - 0) % 128 = came % 128 by omega, m0, hW, l2]
      · obtain ⟨d, rfl⟩ : ∃ q, d = q + 1 := ⟨d - 1, by omega⟩
        rw [WN_psh, ← mh d (by omega) (by omega)]
        exact congrArg (M.1 78) (by omega)
    · rw [if_neg l1, l2] at eM
      rw [l2, if_neg (nI_ne_m1 (by omega))] at eS
      generalize hMy : pI M 78 (came % 128) (nI P) = My
      have y0 : My.2 = M.2 := by rw [← hMy]; rfl
      have hmy : Sh My := fun a ha => by rw [y0]; exact hm a ha
      have yr : ∀ a, a ≠ 78 → My.1 a = M.1 a := fun a ha => by rw [← hMy, pI_ne ha]
      have y5 : My.1 76 5 = nI (came + 1) := by rw [yr 76 (by decide)]; exact m5
      have yh : ∀ d, d + 26 ≤ came + 1 → d < 128 → My.1 78 ((came + 1 - 1 - d) % 128) = plcF (nI (WN (hpsh b h) d)) := by
        intro d h1 h2
        rw [← hMy, pI1, if_pos rfl]
        by_cases e : d = 0
        · subst e; rw [if_pos (by omega), hW, l2]
        · obtain ⟨d, rfl⟩ : ∃ q, d = q + 1 := ⟨d - 1, by omega⟩
          rw [if_neg (by omega), WN_psh, ← mh d (by omega) (by omega)]
          exact congrArg (M.1 78) (by omega)
      have hRGy : RG (came + 1) nw' (hpsh b h) Sx My := by
        obtain ⟨r1, r2, r3, r4, r5, r6⟩ := hRG
        exact ⟨r1, r2, r3, r4, y5, by rw [yr 77 (by decide)]; exact r6⟩
      have e35 : B_X12_search_35 wF 76 (nI P) M = F_X12_search_56 wF rd_big 76 (nI P) 0 (nI 1) My := by
        unfold B_X12_search_35
        have hx : came % 128 < 128 := Nat.mod_lt _ (by decide)
        have ec : nI (came + 1) - 1 = nI came := pk_sub (b := 1) (by omega)
        rw [sh_76_4 hm, rd_cN, show gI M 76 5 = nI (came + 1) from m5, ec, and_127 (by omega), ln_78, rd_iN _ hx (by decide), nI_clamp (by omega), hMy, rd_letN]
        rfl
      have e56 := m_s56 (P := P) hmy y5 hc yh 3 1 rd_big false (by decide) (by unfold rd_big; omega)
      rw [if_neg (show ¬ false = true by decide), Bool.false_or] at e56
      have eI := c_sync (P := P) hsx hRGy hP 3 1 rd_big (by decide) (by unfold rd_big; omega)
      have eI' : F_X7_isSync wF 2 (nI P) Sx = some (if anB (hitB (came + 1) P (hpsh b h)) 3 1 = true then 1 else 0, Sx) := eI
      rw [eI', rd_bN] at eS
      rw [e35, e56] at eM
      refine ⟨Sx, My, x0, xr, x2, y0, yr, yh, hRGy, ?_⟩
      cases han : anB (hitB (came + 1) P (hpsh b h)) 3 1
      · rw [han, if_neg (show ¬ false = true by decide), if_pos rfl] at eS
        rw [han, if_neg (show ¬ false = true by decide)] at eM
        exact Or.inl ⟨eS, eM⟩
      · obtain ⟨k, k1, -, k3⟩ := anB_t 3 1 han
        unfold hitB at k3
        have k4 := of_decide_eq_true (Bool.and_eq_true_iff.mp k3).1
        rw [han, if_pos rfl, if_neg (by decide)] at eS
        rw [han, if_pos rfl] at eM
        exact Or.inr ⟨P, hP, by omega, eS, eM⟩
  · rw [if_neg h26, if_pos rfl] at eS
    have eM : F_X12_search wF 76 M = some M := by
      unfold F_X12_search
      rw [show gI M 76 5 = nI (came + 1) from m5, if_neg (show ¬ (26 : Int32) ≤ nI (came + 1) from nI_ge (b := 26) (by omega) (by decide))]
    exact ⟨Sx, M, x0, xr, x2, rfl, fun _ _ => rfl, fun d h1 _ => absurd h1 (by omega), hRG, Or.inl ⟨eS, eM⟩⟩
