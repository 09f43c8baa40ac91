/-! TAGS and TIME. -/
theorem nI_orM {a b m : Nat} (n : Nat) (hm : 2 ^ n = m) (hb : b < m) (ha : a * m < 2 ^ 31) (hn : n < 31) : nI (a * m) ||| nI b = nI (a * m + b) := by
  subst hm; exact nI_or hb ha hn
theorem rd_letN {α β : Type} (x : α) (f : α → β) : rd_let x f = f x := (rd_letE x f).trans (Eq.refl _)
theorem rd_cN {α γ : Type} (x : α) (f : α → Option γ) : rd_c (some x) f = f x := (rd_cS x f).trans (Eq.refl _)
theorem rd_bN {α β γ : Type} (x : α) (y : β) (f : α → β → Option γ) : rd_b (some (x, y)) f = f x y := (rd_bS x y f).trans (Eq.refl _)
theorem f_field {v lo len a b : Nat} (h : v < 65536) (h1 : lo < 14) (h2 : len < 16) (ha : 2 ^ lo = a) (hb : 2 ^ len = b) (w : rd_W) (S : rd_S) : F_X11_field w (nI v) (nI lo) (nI len) S = some (nI (v / a % b), S) := by
  unfold F_X11_field
  have hp : 2 ^ len ≤ 2 ^ 15 := Nat.pow_le_pow_right (by decide) (by omega)
  have hq : 1 ≤ 2 ^ len := Nat.one_le_two_pow
  have e1 : rd_shl 1 (nI len) = nI (2 ^ len) := (nI_shl (v := 1) (n := len) (by omega) (by omega)).trans (by rw [Nat.one_mul])
  have e2 : nI (2 ^ len) - 1 = nI (2 ^ len - 1) := pk_sub (b := 1) hq
  rw [nI_ush (by omega) (by omega), e1, e2, pk_andN (by have := Nat.div_le_self v (2 ^ lo); omega) len (pk_tn (by omega)), ha, hb]
theorem fl_4_1 {v : Nat} (h : v < 65536) (w : rd_W) (S : rd_S) : F_X11_field w (nI v) 4 1 S = some (nI (v / 16 % 2), S) := f_field (lo := 4) (len := 1) (a := 16) (b := 2) h (by decide) (by decide) (by decide) (by decide) w S
theorem fl_3_1 {v : Nat} (h : v < 65536) (w : rd_W) (S : rd_S) : F_X11_field w (nI v) 3 1 S = some (nI (v / 8 % 2), S) := f_field (lo := 3) (len := 1) (a := 8) (b := 2) h (by decide) (by decide) (by decide) (by decide) w S
theorem fl_0_2 {v : Nat} (h : v < 65536) (w : rd_W) (S : rd_S) : F_X11_field w (nI v) 0 2 S = some (nI (v % 4), S) := (f_field (lo := 0) (len := 2) (a := 1) (b := 4) h (by decide) (by decide) (by decide) (by decide) w S).trans (by rw [Nat.div_one])
theorem fl_2_1 {v : Nat} (h : v < 65536) (w : rd_W) (S : rd_S) : F_X11_field w (nI v) 2 1 S = some (nI (v / 4 % 2), S) := f_field (lo := 2) (len := 1) (a := 4) (b := 2) h (by decide) (by decide) (by decide) (by decide) w S
theorem fl_0_1 {v : Nat} (h : v < 65536) (w : rd_W) (S : rd_S) : F_X11_field w (nI v) 0 1 S = some (nI (v % 2), S) := (f_field (lo := 0) (len := 1) (a := 1) (b := 2) h (by decide) (by decide) (by decide) (by decide) w S).trans (by rw [Nat.div_one])
theorem fl_0_3 {v : Nat} (h : v < 65536) (w : rd_W) (S : rd_S) : F_X11_field w (nI v) 0 3 S = some (nI (v % 8), S) := (f_field (lo := 0) (len := 3) (a := 1) (b := 8) h (by decide) (by decide) (by decide) (by decide) w S).trans (by rw [Nat.div_one])
theorem fl_13_3 {v : Nat} (h : v < 65536) (w : rd_W) (S : rd_S) : F_X11_field w (nI v) 13 3 S = some (nI (v / 8192 % 8), S) := f_field (lo := 13) (len := 3) (a := 8192) (b := 8) h (by decide) (by decide) (by decide) (by decide) w S
theorem fl_7_6 {v : Nat} (h : v < 65536) (w : rd_W) (S : rd_S) : F_X11_field w (nI v) 7 6 S = some (nI (v / 128 % 64), S) := f_field (lo := 7) (len := 6) (a := 128) (b := 64) h (by decide) (by decide) (by decide) (by decide) w S
theorem fl_1_6 {v : Nat} (h : v < 65536) (w : rd_W) (S : rd_S) : F_X11_field w (nI v) 1 6 S = some (nI (v / 2 % 64), S) := f_field (lo := 1) (len := 6) (a := 2) (b := 64) h (by decide) (by decide) (by decide) (by decide) w S
theorem fl_11_5 {v : Nat} (h : v < 65536) (w : rd_W) (S : rd_S) : F_X11_field w (nI v) 11 5 S = some (nI (v / 2048 % 32), S) := f_field (lo := 11) (len := 5) (a := 2048) (b := 32) h (by decide) (by decide) (by decide) (by decide) w S
theorem fl_5_6 {v : Nat} (h : v < 65536) (w : rd_W) (S : rd_S) : F_X11_field w (nI v) 5 6 S = some (nI (v / 32 % 64), S) := f_field (lo := 5) (len := 6) (a := 32) (b := 64) h (by decide) (by decide) (by decide) (by decide) w S
theorem fl_0_5 {v : Nat} (h : v < 65536) (w : rd_W) (S : rd_S) : F_X11_field w (nI v) 0 5 S = some (nI (v % 32), S) := (f_field (lo := 0) (len := 5) (a := 1) (b := 32) h (by decide) (by decide) (by decide) (by decide) w S).trans (by rw [Nat.div_one])
theorem fl_12_4 {v : Nat} (h : v < 65536) (w : rd_W) (S : rd_S) : F_X11_field w (nI v) 12 4 S = some (nI (v / 4096 % 16), S) := f_field (lo := 12) (len := 4) (a := 4096) (b := 16) h (by decide) (by decide) (by decide) (by decide) w S
theorem fl_6_6 {v : Nat} (h : v < 65536) (w : rd_W) (S : rd_S) : F_X11_field w (nI v) 6 6 S = some (nI (v / 64 % 64), S) := f_field (lo := 6) (len := 6) (a := 64) (b := 64) h (by decide) (by decide) (by decide) (by decide) w S
theorem fl_5_1 {v : Nat} (h : v < 65536) (w : rd_W) (S : rd_S) : F_X11_field w (nI v) 5 1 S = some (nI (v / 32 % 2), S) := f_field (lo := 5) (len := 1) (a := 32) (b := 2) h (by decide) (by decide) (by decide) (by decide) w S
theorem fl_1_15 {v : Nat} (h : v < 65536) (w : rd_W) (S : rd_S) : F_X11_field w (nI v) 1 15 S = some (nI (v / 2 % 32768), S) := f_field (lo := 1) (len := 15) (a := 2) (b := 32768) h (by decide) (by decide) (by decide) (by decide) w S
theorem fl_0_4 {v : Nat} (h : v < 65536) (w : rd_W) (S : rd_S) : F_X11_field w (nI v) 0 4 S = some (nI (v % 16), S) := (f_field (lo := 0) (len := 4) (a := 1) (b := 16) h (by decide) (by decide) (by decide) (by decide) w S).trans (by rw [Nat.div_one])
theorem fl_8_8 {v : Nat} (h : v < 65536) (w : rd_W) (S : rd_S) : F_X11_field w (nI v) 8 8 S = some (nI (v / 256 % 256), S) := f_field (lo := 8) (len := 8) (a := 256) (b := 256) h (by decide) (by decide) (by decide) (by decide) w S
theorem fl_0_8 {v : Nat} (h : v < 65536) (w : rd_W) (S : rd_S) : F_X11_field w (nI v) 0 8 S = some (nI (v % 256), S) := (f_field (lo := 0) (len := 8) (a := 1) (b := 256) h (by decide) (by decide) (by decide) (by decide) w S).trans (by rw [Nat.div_one])
theorem fl_12_3 {v : Nat} (h : v < 65536) (w : rd_W) (S : rd_S) : F_X11_field w (nI v) 12 3 S = some (nI (v / 4096 % 8), S) := f_field (lo := 12) (len := 3) (a := 4096) (b := 8) h (by decide) (by decide) (by decide) (by decide) w S
theorem fl_0_12 {v : Nat} (h : v < 65536) (w : rd_W) (S : rd_S) : F_X11_field w (nI v) 0 12 S = some (nI (v % 4096), S) := (f_field (lo := 0) (len := 12) (a := 1) (b := 4096) h (by decide) (by decide) (by decide) (by decide) w S).trans (by rw [Nat.div_one])
theorem fl_10_1 {v : Nat} (h : v < 65536) (w : rd_W) (S : rd_S) : F_X11_field w (nI v) 10 1 S = some (nI (v / 1024 % 2), S) := f_field (lo := 10) (len := 1) (a := 1024) (b := 2) h (by decide) (by decide) (by decide) (by decide) w S
theorem fl_5_5 {v : Nat} (h : v < 65536) (w : rd_W) (S : rd_S) : F_X11_field w (nI v) 5 5 S = some (nI (v / 32 % 32), S) := f_field (lo := 5) (len := 5) (a := 32) (b := 32) h (by decide) (by decide) (by decide) (by decide) w S
theorem fl_4_4 {v : Nat} (h : v < 65536) (w : rd_W) (S : rd_S) : F_X11_field w (nI v) 4 4 S = some (nI (v / 16 % 16), S) := f_field (lo := 4) (len := 4) (a := 16) (b := 16) h (by decide) (by decide) (by decide) (by decide) w S
theorem RCt.mono {N N' : Nat} {S M : rd_S} (h : RCt N S M) (hn : N ≤ N') : RCt N' S M := by
  obtain ⟨h1, h2⟩ := h
  refine ⟨h1, ?_⟩
  rcases h2 with h2 | ⟨a, q, D, hh, mm, o, b1, b2, r⟩
  · exact Or.inl h2
  · exact Or.inr ⟨a, q, D, hh, mm, o, b1, Nat.le_trans b2 hn, r⟩
theorem RCS.mono {N N' : Nat} {S M : rd_S} (h : RCS N S M) (hn : N ≤ N') : RCS N' S M := by
  obtain ⟨hk, hn0, hx, hi, hl, ht, ho, hq, hz⟩ := h
  exact ⟨hk, hn0, hx, hi, hl, ht.mono hn, ho, hq, hz⟩
theorem Both.up {N : Nat} {S M : rd_S} {c m : Option rd_S} (h : Both N S M c m) : Both (N + 1) S M c m := by
  obtain ⟨S1, M1, e1, e2, h1, h2, h3⟩ := h
  exact ⟨S1, M1, e1, e2, h1.mono (Nat.le_succ N), h2, h3⟩
theorem l_tags {N : Nat} {S M : rd_S} (hs : Sh S) (hm : Sh M) (h : RCS N S M) {b c d : Nat} (hb : Kn S M 1 b) (hc : Kn S M 2 c) (hd : Kn S M 3 d) : Both N S M (F_X9_take wF 74 (nI b) (nI c) (nI d) S) (F_X12_tags wF 76 M) := by
  obtain ⟨-, b1, b2, -⟩ := hb
  obtain ⟨-, c1, c2, -⟩ := hc
  obtain ⟨-, d1, d2, -⟩ := hd
  have o1 : nI (b % 8 * 8) ||| nI (c / 8192 % 8) = nI (b % 8 * 8 + c / 8192 % 8) := nI_or (n := 3) (by omega) (by omega) (by decide)
  have o2 : nI (c % 2 * 32) ||| nI (d / 2048 % 32) = nI (c % 2 * 32 + d / 2048 % 32) := nI_or (n := 5) (by omega) (by omega) (by decide)
  have hq := h.2.2.2.2.2.2.2.1
  simp (disch := first | decide | omega) only [F_X9_take, F_X12_tags, F_X11_field, gR_pI, sh_74_0 hs, sh_76_18 hm, sh_76_44 hm, sh_76_26 hm, rd_cS, rd_bS, rd_let, ln_75, ln_81, ln_96, ln_86, rd_iT, gI, tn_0, tn_1, tn_2, tn_3, tn_4, tn_5, tn_6, tn_7, b1, c1, d1, msk_1, msk_3, msk_5, msk_6, ush_0, ush_1, ush_3, ush_4, ush_5, ush_7, ush_11, ush_13, shr_1, shr_3, shr_4, shr_5, shr_7, shr_11, shr_13, and_1, and_7, and_31, and_63, shl_3, shl_5, o1, o2, pI_ne]
  refine Nx.both ?_
  have rS : ∀ S1 : rd_S, Rg 10 10 S S1 → ∀ j v, Rg 10 10 S (pI S1 75 j v) := fun S1 r j v => r.pI ⟨Nat.le_refl _, Nat.le_refl _⟩
  have rM : ∀ M1 : rd_S, Rg 30 30 M M1 → ∀ j v, Rg 30 30 M (pI M1 96 j v) := fun S1 r j v => r.pI ⟨Nat.le_refl _, Nat.le_refl _⟩
  have hS := (rS _ (rS _ (rS _ (rS _ (rS _ (rS _ (rS _ (rS _ Rg.rf 0 (nI (b / 16 % 2))) 1 (nI (b / 8 % 2))) 2 (nI (b % 8 * 8 + c / 8192 % 8))) 3 (nI (c / 128 % 64))) 4 (nI (c / 2 % 64))) 5 (nI (c % 2 * 32 + d / 2048 % 32))) 6 (nI (d / 32 % 64))) 7 (nI (d % 32))).pI (a := 74) (j := 1) (v := S.1 74 1 + 1) (by decide)
  have hM := ((rM _ (rM _ (rM _ (rM _ (rM _ (rM _ (rM _ (rM _ Rg.rf 0 (nI (b / 16 % 2))) 1 (nI (b / 8 % 2))) 2 (nI (b % 8 * 8 + c / 8192 % 8))) 3 (nI (c / 128 % 64))) 4 (nI (c / 2 % 64))) 5 (nI (c % 2 * 32 + d / 2048 % 32))) 6 (nI (d / 32 % 64))) 7 (nI (d % 32))).pI (a := 76) (j := 45) (v := 1) (by decide)).pI (a := 86) (j := 5) (v := M.1 86 5 + 1) (by decide)
  refine ⟨h.q hS hM ?_, hS.mo (by decide) (by decide), hM.mo (by decide) (by decide)⟩
  refine ⟨?_, Or.inr ⟨?_, ?_, ?_⟩⟩
  · rw [pI_self, pI_self, hq.1]
  · simp +decide only [pI1, if_true, if_false]
  · intro j hj
    match j, hj with
    | 0, _ => simp +decide only [pI1, if_true, if_false]
    | 1, _ => simp +decide only [pI1, if_true, if_false]
    | 2, _ => simp +decide only [pI1, if_true, if_false]
    | 3, _ => simp +decide only [pI1, if_true, if_false]
    | 4, _ => simp +decide only [pI1, if_true, if_false]
    | 5, _ => simp +decide only [pI1, if_true, if_false]
    | 6, _ => simp +decide only [pI1, if_true, if_false]
    | 7, _ => simp +decide only [pI1, if_true, if_false]
  · intro j hj
    match j, hj with
    | 0, _ => simp +decide only [pI1, if_true, if_false]; exact ⟨_, by omega, rfl⟩
    | 1, _ => simp +decide only [pI1, if_true, if_false]; exact ⟨_, by omega, rfl⟩
    | 2, _ => simp +decide only [pI1, if_true, if_false]; exact ⟨_, by omega, rfl⟩
    | 3, _ => simp +decide only [pI1, if_true, if_false]; exact ⟨_, by omega, rfl⟩
    | 4, _ => simp +decide only [pI1, if_true, if_false]; exact ⟨_, by omega, rfl⟩
    | 5, _ => simp +decide only [pI1, if_true, if_false]; exact ⟨_, by omega, rfl⟩
    | 6, _ => simp +decide only [pI1, if_true, if_false]; exact ⟨_, by omega, rfl⟩
    | 7, _ => simp +decide only [pI1, if_true, if_false]; exact ⟨_, by omega, rfl⟩
theorem l_clock {N : Nat} {S M : rd_S} (hs : Sh S) (hm : Sh M) (h : RCS N S M) {b c d : Nat} (hb : Kn S M 1 b) (hc : Kn S M 2 c) (hd : Kn S M 3 d) (hN : N < 1000000) : Both (N + 1) S M (F_X0_take wF 27 (nI b) (nI c) (nI d) S) (F_X12_clock wF 76 M) := by
  obtain ⟨-, b1, b2, -⟩ := hb
  obtain ⟨-, c1, c2, -⟩ := hc
  obtain ⟨-, d1, d2, -⟩ := hd
  have o1 : nI (c % 2 * 16) ||| nI (d / 4096 % 16) = nI (c % 2 * 16 + d / 4096 % 16) := nI_or (n := 4) (by omega) (by omega) (by decide)
  have o2 : nI (b % 4 * 32768) ||| nI (c / 2 % 32768) = nI (b % 4 * 32768 + c / 2 % 32768) := nI_orM 15 (by decide) (by omega) (by omega) (by decide)
  have ht := h.2.2.2.2.2.1
  unfold F_X0_take F_X12_clock
  simp (disch := first | decide | omega) only [sh_76_18 hm, sh_76_26 hm, rd_cN, ln_81, ln_86, rd_iT, gI, gR_pI, tn_1, tn_2, tn_3, tn_4, b1, c1, d1, fl_0_1, fl_12_4, fl_6_6, fl_0_5, fl_0_2, fl_1_15, fl_5_1, rd_bN, rd_letN, shr_1, shr_5, shr_6, shr_12, and_1, and_3, and_15, and_31, and_63, and_32767, shl_4, shl_15, o1, o2, B_X0_take_57, B_X0_take_110, B_X12_clock_65, B_X12_clock_125, pI_ne, pI_row]
  by_cases h1 : (23 : Int32) < nI (c % 2 * 16 + d / 4096 % 16)
  · rw [if_pos h1, if_pos h1]; exact (Both.idle h).up
  by_cases h2 : (59 : Int32) < nI (d / 64 % 64)
  · rw [if_neg h1, if_neg h1, if_pos h2, if_pos h2]; exact (Both.idle h).up
  by_cases h3 : nI (d % 32) ≤ (28 : Int32)
  · have k1 : c % 2 * 16 + d / 4096 % 16 < 24 := by
      rcases Nat.lt_or_ge (c % 2 * 16 + d / 4096 % 16) 24 with q | q
      · exact q
      · exact absurd (nI_lt (a := 23) q (by omega)) h1
    have k2 : d / 64 % 64 < 60 := by
      rcases Nat.lt_or_ge (d / 64 % 64) 60 with q | q
      · exact q
      · exact absurd (nI_lt (a := 59) q (by omega)) h2
    have k3 : d % 32 ≤ 28 := (nI_leI (by omega) (b := 28) (by decide)).mp h3
    rw [if_neg h1, if_neg h1, if_neg h2, if_neg h2, if_pos h3, if_pos h3]
    have fin : ∀ v : Int32, v = nI (d % 32) ∨ v = -nI (d % 32) → Both (N + 1) S M
        (some (pI (pI (pI (pI (pI S 27 0 (nI (b % 4 * 32768 + c / 2 % 32768))) 27 1 (nI (c % 2 * 16 + d / 4096 % 16))) 27 2 (nI (d / 64 % 64))) 27 3 v) 27 4 (S.1 27 4 + 1)))
        (some (pI (pI (pI (pI (pI (pI M 76 46 (nI (b % 4 * 32768 + c / 2 % 32768))) 76 47 (nI (c % 2 * 16 + d / 4096 % 16))) 76 48 (nI (d / 64 % 64))) 76 49 v) 76 50 1) 86 4 (M.1 86 4 + 1))) := by
      intro v hv
      refine Nx.both ?_
      have hS := (((((Rg.rf (lo := 8) (hi := 8) (S := S)).pI (a := 27) (j := 0) (v := nI (b % 4 * 32768 + c / 2 % 32768)) (by decide)).pI (a := 27) (j := 1) (v := nI (c % 2 * 16 + d / 4096 % 16)) (by decide)).pI (a := 27) (j := 2) (v := nI (d / 64 % 64)) (by decide)).pI (a := 27) (j := 3) (v := v) (by decide)).pI (a := 27) (j := 4) (v := S.1 27 4 + 1) (by decide)
      have hM := ((((((Rg.rf (lo := 28) (hi := 28) (S := M)).pI (a := 76) (j := 46) (v := nI (b % 4 * 32768 + c / 2 % 32768)) (by decide)).pI (a := 76) (j := 47) (v := nI (c % 2 * 16 + d / 4096 % 16)) (by decide)).pI (a := 76) (j := 48) (v := nI (d / 64 % 64)) (by decide)).pI (a := 76) (j := 49) (v := v) (by decide)).pI (a := 76) (j := 50) (v := 1) (by decide)).pI (a := 86) (j := 4) (v := M.1 86 4 + 1) (by decide)
      refine ⟨(h.mono (Nat.le_succ N)).t hS hM ?_, hS.mo (by decide) (by decide), hM.mo (by decide) (by decide)⟩
      obtain ⟨t1, t2⟩ := ht
      have tq : ∃ q : Nat, q ≤ N ∧ S.1 27 4 = nI q := by
        rcases t2 with ⟨-, t2⟩ | ⟨-, q, _, _, _, _, -, q2, q3, -⟩
        · exact ⟨0, Nat.zero_le _, t2⟩
        · exact ⟨q, q2, q3⟩
      obtain ⟨q, q1, q2⟩ := tq
      refine ⟨by rw [pI_self, pI_self, t1], Or.inr ⟨?_, q + 1, _, _, _, _, by omega, by omega, ?_, (show b % 4 * 32768 + c / 2 % 32768 < 131072 by omega), k1, k2, k3, ?_, ?_, ?_, ?_, ?_, ?_, ?_, ?_⟩⟩
      · simp +decide only [pI1, if_true, if_false]
      · rw [pI_self, q2, nI_1]
      · simp +decide only [pI1, if_true, if_false]
      · simp +decide only [pI1, if_true, if_false]
      · simp +decide only [pI1, if_true, if_false]
      · simp +decide only [pI1, if_true, if_false]; exact hv
      · simp +decide only [pI1, if_true, if_false]
      · simp +decide only [pI1, if_true, if_false]
      · simp +decide only [pI1, if_true, if_false]
      · simp +decide only [pI1, if_true, if_false]
    by_cases h4 : nI (d / 32 % 2) = 1
    · rw [if_pos h4, if_pos h4]; exact fin _ (Or.inr rfl)
    · rw [if_neg h4, if_neg h4]; exact fin _ (Or.inl rfl)
  · rw [if_neg h1, if_neg h1, if_neg h2, if_neg h2, if_neg h3, if_neg h3]; exact (Both.idle h).up
