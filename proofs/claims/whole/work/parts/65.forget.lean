/-! forget, on both sides. -/
theorem m_f20 : ∀ (r i n : Nat) (M : rd_S), Sh M → i + r = 3 → r < n → F_X12_forget_20 wF n 76 (nI i) M = some (pI (pI (pI (pI (pI (pI (pA M 80 (fun j => if i ≤ j ∧ j < 3 then 0 else M.1 80 j)) 76 14 0) 76 15 0) 76 16 0) 76 17 0) 76 24 0) 76 8 0) := by
  intro r
  induction r with
  | zero =>
    intro i n M hm hi hn
    obtain ⟨n, rfl⟩ : ∃ q, n = q + 1 := ⟨n - 1, by omega⟩
    have : i = 3 := by omega
    subst this
    show B_X12_forget_20 wF (F_X12_forget_20 wF n) 76 (nI 3) M = _
    unfold B_X12_forget_20
    rw [if_pos (by decide), pA_id M 80 _ (by funext j; rw [if_neg (by omega)])]
    simp only [rd_letN]
  | succ r ih =>
    intro i n M hm hi hn
    obtain ⟨n, rfl⟩ : ∃ q, n = q + 1 := ⟨n - 1, by omega⟩
    show B_X12_forget_20 wF (F_X12_forget_20 wF n) 76 (nI i) M = _
    unfold B_X12_forget_20
    have e : (fun j => if i + 1 ≤ j ∧ j < 3 then 0 else (pI M 80 i 0).1 80 j) = fun j => if i ≤ j ∧ j < 3 then 0 else M.1 80 j := by
      funext j
      by_cases h : i + 1 ≤ j ∧ j < 3
      · rw [if_pos h, if_pos (by omega)]
      · rw [if_neg h]
        by_cases h2 : j = i
        · subst h2; rw [pI_self, if_pos (by omega)]
        · rw [pI_row h2, if_neg (by omega)]
    rw [if_neg (show ¬ (3 : Int32) ≤ nI i from nI_ge (b := 3) (by omega) (by decide)), sh_76_13 hm, rd_cN, ln_80, rd_iN _ (by omega) (by decide), nI_clamp (by omega), rd_letN, rd_letN, nI_1, ih (i + 1) n (pI M 80 i 0) hm (by omega) (by omega), pA_pI, e]
def fgC (S : rd_S) : rd_S := pI (pI (pI (pI (pI (pI (pI (pI (pI (pI (pI (pA S 9 (fun j => if j < 3 then 0 else S.1 9 j)) 6 1 0) 6 2 0) 6 3 0) 2 8 0) 2 9 0) 2 10 (-1)) 2 11 0) 2 12 0) 2 13 0) 2 14 0) 2 15 0
theorem c_fg {S : rd_S} (hs : Sh S) : F_X7_clear wF 2 S = some (fgC S) := by
  unfold F_X7_clear F_X7_beginSearch F_X10_clear fgC
  rw [sh_2_3 hs, rd_cN, f_fillA ln_9 (by decide), rd_cN, gR_pA, sh_2_1 hs, rd_cN]
  simp only [rd_letN, rd_cN]
theorem c_clr2 {S : rd_S} (hs : Sh S) : F_X3_clear wF 10 (-1) S = some (pI (pA (pA S 11 (fun j => if j < 4 then -1 else S.1 11 j)) 12 (fun j => if j < 4 then -1 else (pA S 11 (fun j => if j < 4 then -1 else S.1 11 j)).1 12 j)) 10 2 0) := by
  unfold F_X3_clear
  rw [sh_10_0 hs, rd_cN, f_fillA ln_11 (by decide), rd_cN, gR_pA, sh_10_1 hs, rd_cN, f_fillA ln_12 (by decide), rd_cN, rd_letN]
theorem FrM.cg {M M1 : rd_S} (h : FrM M) (h1 : ∀ a, 83 ≤ a → M1.1 a = M.1 a) (h2 : ∀ j, 31 ≤ j → M1.1 76 j = M.1 76 j) : FrM M1 := by
  unfold FrM at h ⊢
  rw [h1 85 (by decide), h1 86 (by decide), h1 88 (by decide), h1 90 (by decide), h2 31 (by decide), h2 32 (by decide), h2 35 (by decide), h2 38 (by decide), h2 39 (by decide), h2 43 (by decide), h2 45 (by decide), h2 50 (by decide), h2 53 (by decide)]
  exact h
def vd (o : Option rd_S) : Option (Int32 × rd_S) := rd_c o fun s => some (0, s)
theorem vd_inv {o : Option rd_S} {v : Int32} {S : rd_S} (h : vd o = some (v, S)) : o = some S := by
  unfold vd at h
  cases o with
  | none => exact absurd h (by simp [rd_c])
  | some s =>
    rw [rd_cN] at h
    obtain ⟨-, rfl⟩ := Prod.mk.inj (Option.some.inj h)
    rfl
theorem l_forget {N : Nat} : Jnt N N (fun S => vd (F_X11_forget wF 1 S)) (fun S => vd (F_X12_forget wF 76 S)) := by
  intro S M h
  obtain ⟨hs, hm, ⟨cnt, came, hh, q1, q2, qa, qb, qw, ⟨h6, h5, hbits, nw, hnw, h7, hring⟩, qst⟩, hg, hS⟩ := h
  have m20 : M.1 76 20 = 0 ∨ M.1 76 20 = 1 := by
    rcases qst with ⟨-, -, -, -, -, -, -, z⟩ | ⟨-, p, v, -, -, -, -, -, -, -, -, -, -, z⟩
    · exact z
    · exact z
  -- the class
  generalize hS1 : pI (pA (pA (fgC S) 11 (fun j => if j < 4 then -1 else (fgC S).1 11 j)) 12 (fun j => if j < 4 then -1 else (pA (fgC S) 11 (fun j => if j < 4 then -1 else (fgC S).1 11 j)).1 12 j)) 10 2 0 = S1
  have s0 : S1.2 = S.2 := by rw [← hS1]; rfl
  have hs1 : Sh S1 := fun a e => by rw [s0]; exact hs a e
  have sr : ∀ a, a ≠ 2 → a ≠ 6 → a ≠ 9 → a ≠ 10 → a ≠ 11 → a ≠ 12 → S1.1 a = S.1 a := fun a e1 e2 e3 e4 e5 e6 => by
    rw [← hS1, pI_ne e4, pA_ne e6, pA_ne e5]
    unfold fgC
    rw [pI_ne e1, pI_ne e1, pI_ne e1, pI_ne e1, pI_ne e1, pI_ne e1, pI_ne e1, pI_ne e1, pI_ne e2, pI_ne e2, pI_ne e2, pA_ne e3]
  have s2 : S1.1 2 = (fgC S).1 2 := by rw [← hS1, pI_ne (by decide), pA_ne (by decide), pA_ne (by decide)]
  have s6 : S1.1 6 = (fgC S).1 6 := by rw [← hS1, pI_ne (by decide), pA_ne (by decide), pA_ne (by decide)]
  have s9 : S1.1 9 = (fgC S).1 9 := by rw [← hS1, pI_ne (by decide), pA_ne (by decide), pA_ne (by decide)]
  have s11 : ∀ k, k < 4 → S1.1 11 k = -1 ∧ S1.1 12 k = -1 := fun k hk => by
    rw [← hS1]
    constructor
    · rw [pI_ne (by decide), pA_ne (by decide), pA_self, if_pos hk]
    · rw [pI_ne (by decide), pA_self, if_pos hk]
  have hS' : RCS N S1 M := hS.cg (fun c c1 c2 => col_ag c1 c2 (fun a e => sr a (by omega) (by omega) (by omega) (by omega) (by omega) (by omega))) (fun c _ _ _ _ _ => rfl) (by rw [s0])
  obtain ⟨S2, k1, k2, k3, k4⟩ := c_clear hs1 hS'
  have rS2 : ∀ a, a < 13 → S2.1 a = S1.1 a := fun a e => by
    funext j
    have e2 : col a j = colC a := by unfold col; rw [if_pos (by omega)]
    have : ∀ a, a < 13 → colC a < 3 := by decide
    have := this a e
    exact k3.2 a j (by omega)
  have rS2' : ∀ a, 76 ≤ a → S2.1 a = S1.1 a := fun a e => by
    funext j
    have := col_hi (j := j) e
    exact k3.2 a j (by omega)
  have eC : F_X11_forget wF 1 S = some S2 := by
    unfold F_X11_forget
    have hf : Sh (fgC S) := hs
    rw [sh_1_0 hs, rd_cN, c_fg hs, rd_cN, sh_1_1 hf, rd_cN, c_clr2 hf, rd_cN, hS1, sh_1_2 hs1, rd_cN, k1, rd_cN]
  -- the model
  obtain ⟨M1, u1, u2, u3⟩ := m_unknown (M := th M) hm
  have hm1 : Sh M1 := u3.sh hm
  have m10 : M1.2 = M.2 := funext fun a => u3.1 a (by omega)
  have m1f : ∀ j, colF j = 21 → M1.1 76 j = M.1 76 j := fun j e => by
    rw [u3.2 76 j (by have : col 76 j = colF j := rfl; omega), th_row (fun q => by subst q; exact absurd e (by decide))]
  have m1r : ∀ a, a < 83 → a ≠ 76 → M1.1 a = M.1 a := fun a e e2 => by
    funext j
    rw [u3.2 a j (by
      by_cases q : a < 76
      · have := col_lo (j := j) q; omega
      · have c : col a j = colM a j := by unfold col; rw [if_neg q]
        rw [c]; unfold colM; rw [if_neg (by omega), if_pos e]; decide), th_ne e2]
  generalize hMx : pI (pI (pI (pI (pI (pI M1 76 7 0) 76 5 0) 76 9 0) 76 11 0) 76 12 0) 76 6 0 = Mx
  have hmx : Sh Mx := by rw [← hMx]; exact hm1
  generalize hM3 : pI (pI (pI (pI (pI (pI (pA Mx 80 (fun j => if 0 ≤ j ∧ j < 3 then 0 else Mx.1 80 j)) 76 14 0) 76 15 0) 76 16 0) 76 17 0) 76 24 0) 76 8 0 = M3
  have eM : F_X12_forget wF 76 M = some M3 := by
    unfold F_X12_forget F_X12_restart
    rw [rd_letN, show F_X12_unknown wF 76 (pI M 76 0 0) = some M1 from u1, rd_cN]
    simp only [rd_letN, rd_cN]
    rw [hMx, show F_X12_forget_20 wF rd_big 76 0 Mx = _ from m_f20 3 0 rd_big Mx hmx (by decide) (by unfold rd_big; omega), hM3]
  have y0 : M3.2 = M1.2 := by rw [← hM3, ← hMx]; rfl
  have yr : ∀ a, a ≠ 76 → a ≠ 80 → M3.1 a = M1.1 a := fun a e1 e2 => by
    rw [← hM3, pI_ne e1, pI_ne e1, pI_ne e1, pI_ne e1, pI_ne e1, pI_ne e1, pA_ne e2, ← hMx, pI_ne e1, pI_ne e1, pI_ne e1, pI_ne e1, pI_ne e1, pI_ne e1]
  have y80 : ∀ j, j < 3 → M3.1 80 j = 0 := fun j e => by
    rw [← hM3, pI_ne (by decide), pI_ne (by decide), pI_ne (by decide), pI_ne (by decide), pI_ne (by decide), pI_ne (by decide), pA_self, if_pos ⟨Nat.zero_le _, e⟩]
  have yf : ∀ j, ¬ (j = 5 ∨ j = 6 ∨ j = 7 ∨ j = 8 ∨ j = 9 ∨ j = 11 ∨ j = 12 ∨ j = 14 ∨ j = 15 ∨ j = 16 ∨ j = 17 ∨ j = 24) → M3.1 76 j = M1.1 76 j := fun j e => by
    rw [← hM3, pI_row (by omega), pI_row (by omega), pI_row (by omega), pI_row (by omega), pI_row (by omega), pI_row (by omega), pA_ne (by decide), ← hMx, pI_row (by omega), pI_row (by omega), pI_row (by omega), pI_row (by omega), pI_row (by omega), pI_row (by omega)]
  have yz : ∀ j, (j = 5 ∨ j = 6 ∨ j = 7 ∨ j = 8 ∨ j = 9 ∨ j = 11 ∨ j = 12 ∨ j = 14 ∨ j = 15 ∨ j = 16 ∨ j = 17 ∨ j = 24) → M3.1 76 j = 0 := fun j e => by
    rw [← hM3, ← hMx]
    rcases e with rfl | rfl | rfl | rfl | rfl | rfl | rfl | rfl | rfl | rfl | rfl | rfl <;> simp +decide only [pI1, pA1, if_true, if_false]
  have x2 : ∀ j, ¬ (8 ≤ j ∧ j ≤ 15) → S2.1 2 j = S.1 2 j := fun j e => by
    rw [rS2 2 (by decide), s2]
    unfold fgC
    rw [pI_row (by omega), pI_row (by omega), pI_row (by omega), pI_row (by omega), pI_row (by omega), pI_row (by omega), pI_row (by omega), pI_row (by omega), pI_ne (by decide), pI_ne (by decide), pI_ne (by decide), pA_ne (by decide)]
  have xz : ∀ j, (j = 8 ∨ j = 9 ∨ j = 11 ∨ j = 12 ∨ j = 13 ∨ j = 14 ∨ j = 15) → S2.1 2 j = 0 := fun j e => by
    rw [rS2 2 (by decide), s2]
    unfold fgC
    rcases e with rfl | rfl | rfl | rfl | rfl | rfl | rfl <;> simp +decide only [pI1, pA1, if_true, if_false]
  have x10 : S2.1 2 10 = -1 := by
    rw [rS2 2 (by decide), s2]
    unfold fgC
    simp +decide only [pI1, pA1, if_true, if_false]
  have x6 : S2.1 6 1 = 0 ∧ S2.1 6 2 = 0 ∧ S2.1 6 3 = 0 := by
    rw [rS2 6 (by decide), s6]
    unfold fgC
    simp +decide only [pI1, pA1, if_true, if_false, and_self]
  have x9 : ∀ j, j < 3 → S2.1 9 j = 0 := fun j e => by
    rw [rS2 9 (by decide), s9]
    unfold fgC
    rw [pI_ne (by decide), pI_ne (by decide), pI_ne (by decide), pI_ne (by decide), pI_ne (by decide), pI_ne (by decide), pI_ne (by decide), pI_ne (by decide), pI_ne (by decide), pI_ne (by decide), pI_ne (by decide), pA_self, if_pos e]
  have hs2 : Sh S2 := k3.sh hs1
  have hm3 : Sh M3 := fun a e => by rw [y0]; exact hm1 a e
  refine ⟨0, S2, M3, by show vd _ = _; rw [eC]; rfl, by show vd _ = _; rw [eM]; rfl, ⟨hs2, hm3, ⟨0, 0, hh, Nat.zero_le _, Nat.zero_le _, ?_, ?_, ?_, ⟨?_, ?_, fun k e => absurd e (Nat.not_lt_zero _), nw, hnw, ?_, fun _ d e => absurd e (Nat.not_lt_zero _)⟩, Or.inl ⟨yz 7 (by omega), x10, ?_, xz 9 (by omega), fun d e => absurd e (by omega), rfl, yz 12 (by omega), ?_⟩⟩, Or.inl ⟨yz 24 (by omega), fun k e => ?_⟩, fresh k2 (u2.cg (fun a e => yr a (by omega) (by omega)) (fun j e => yf j (by omega)))⟩, fun a e => ?_, fun a e => ?_, y0.trans m10⟩
  · obtain ⟨a1, a2, a3, a4⟩ := qa
    have z1 : M3.1 76 1 = M.1 76 1 := by rw [yf 1 (by decide), m1f 1 (by decide)]
    have z2 : M3.1 76 2 = M.1 76 2 := by rw [yf 2 (by decide), m1f 2 (by decide)]
    refine ⟨?_, ?_, ?_, ?_⟩
    · rw [x2 4 (by decide), z1]; exact a1
    · rw [x2 5 (by decide), z2]; exact a2
    · rw [z1]; exact a3
    · rw [z2]; exact a4
  · exact ⟨by rw [xz 11 (by decide), yz 6 (by decide)], fun j e => by rw [x9 j e, y80 j e], by rw [xz 12 (by decide), yz 16 (by decide)], by rw [xz 13 (by decide), yz 17 (by decide)], by rw [xz 14 (by decide), yz 14 (by decide)], by rw [xz 15 (by decide), yz 15 (by decide)]⟩
  · exact ⟨(yz 11 (by decide)).trans nI_0.symm, x6.1.trans nI_0.symm, x6.2.1.trans nI_0.symm, by rw [x6.2.2, yz 12 (by decide)], fun j e => absurd e (by omega)⟩
  · rw [x2 6 (by decide)]; exact h6
  · rw [yz 5 (by decide), nI_0]
  · rw [x2 7 (by decide)]; exact h7
  · rw [xz 8 (by decide), show min 0 104 = 0 from rfl, nI_0]
  · rw [yf 20 (by decide), m1f 20 (by decide)]; exact m20
  · rw [rS2 11 (by decide), rS2 12 (by decide)]; exact s11 k e
  · rw [rS2' a e, sr a (by omega) (by omega) (by omega) (by omega) (by omega) (by omega)]
  · rw [yr a (by omega) (by omega), m1r a (by omega) (by omega)]
