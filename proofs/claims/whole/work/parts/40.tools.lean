/-! Numbers: shifts and masks of small numbers; the colours of the cells: which part of the relation reads which. -/
theorem nI_ush {v n : Nat} (h : v < 2 ^ 31) (hn : n < 32) : rd_ush (nI v) (nI n) = nI (v / 2 ^ n) := pk_ushrN (by omega) (nI n) n (s_u n hn)
theorem nI_shr {v n : Nat} (h : v < 2 ^ 31) (hn : n < 32) : rd_shr (nI v) (nI n) = nI (v / 2 ^ n) := pk_shrN h (nI n &&& 31) n (s_l n hn)
theorem nI_shl {v n : Nat} (hn : n < 32) (h : v * 2 ^ n < 2 ^ 32) : rd_shl (nI v) (nI n) = nI (v * 2 ^ n) := pk_shlN (nI n &&& 31) n (s_l n hn) h
theorem ush_1 {v : Nat} (h : v < 2 ^ 31) : rd_ush (nI v) 1 = nI (v / 2) := nI_ush (n := 1) h (by decide)
theorem shr_1 {v : Nat} (h : v < 2 ^ 31) : rd_shr (nI v) 1 = nI (v / 2) := nI_shr (n := 1) h (by decide)
theorem ush_2 {v : Nat} (h : v < 2 ^ 31) : rd_ush (nI v) 2 = nI (v / 4) := nI_ush (n := 2) h (by decide)
theorem shr_2 {v : Nat} (h : v < 2 ^ 31) : rd_shr (nI v) 2 = nI (v / 4) := nI_shr (n := 2) h (by decide)
theorem ush_3 {v : Nat} (h : v < 2 ^ 31) : rd_ush (nI v) 3 = nI (v / 8) := nI_ush (n := 3) h (by decide)
theorem shr_3 {v : Nat} (h : v < 2 ^ 31) : rd_shr (nI v) 3 = nI (v / 8) := nI_shr (n := 3) h (by decide)
theorem ush_4 {v : Nat} (h : v < 2 ^ 31) : rd_ush (nI v) 4 = nI (v / 16) := nI_ush (n := 4) h (by decide)
theorem shr_4 {v : Nat} (h : v < 2 ^ 31) : rd_shr (nI v) 4 = nI (v / 16) := nI_shr (n := 4) h (by decide)
theorem ush_5 {v : Nat} (h : v < 2 ^ 31) : rd_ush (nI v) 5 = nI (v / 32) := nI_ush (n := 5) h (by decide)
theorem shr_5 {v : Nat} (h : v < 2 ^ 31) : rd_shr (nI v) 5 = nI (v / 32) := nI_shr (n := 5) h (by decide)
theorem ush_6 {v : Nat} (h : v < 2 ^ 31) : rd_ush (nI v) 6 = nI (v / 64) := nI_ush (n := 6) h (by decide)
theorem shr_6 {v : Nat} (h : v < 2 ^ 31) : rd_shr (nI v) 6 = nI (v / 64) := nI_shr (n := 6) h (by decide)
theorem ush_7 {v : Nat} (h : v < 2 ^ 31) : rd_ush (nI v) 7 = nI (v / 128) := nI_ush (n := 7) h (by decide)
theorem shr_7 {v : Nat} (h : v < 2 ^ 31) : rd_shr (nI v) 7 = nI (v / 128) := nI_shr (n := 7) h (by decide)
theorem ush_8 {v : Nat} (h : v < 2 ^ 31) : rd_ush (nI v) 8 = nI (v / 256) := nI_ush (n := 8) h (by decide)
theorem shr_8 {v : Nat} (h : v < 2 ^ 31) : rd_shr (nI v) 8 = nI (v / 256) := nI_shr (n := 8) h (by decide)
theorem ush_9 {v : Nat} (h : v < 2 ^ 31) : rd_ush (nI v) 9 = nI (v / 512) := nI_ush (n := 9) h (by decide)
theorem shr_9 {v : Nat} (h : v < 2 ^ 31) : rd_shr (nI v) 9 = nI (v / 512) := nI_shr (n := 9) h (by decide)
theorem ush_10 {v : Nat} (h : v < 2 ^ 31) : rd_ush (nI v) 10 = nI (v / 1024) := nI_ush (n := 10) h (by decide)
theorem shr_10 {v : Nat} (h : v < 2 ^ 31) : rd_shr (nI v) 10 = nI (v / 1024) := nI_shr (n := 10) h (by decide)
theorem ush_11 {v : Nat} (h : v < 2 ^ 31) : rd_ush (nI v) 11 = nI (v / 2048) := nI_ush (n := 11) h (by decide)
theorem shr_11 {v : Nat} (h : v < 2 ^ 31) : rd_shr (nI v) 11 = nI (v / 2048) := nI_shr (n := 11) h (by decide)
theorem ush_12 {v : Nat} (h : v < 2 ^ 31) : rd_ush (nI v) 12 = nI (v / 4096) := nI_ush (n := 12) h (by decide)
theorem shr_12 {v : Nat} (h : v < 2 ^ 31) : rd_shr (nI v) 12 = nI (v / 4096) := nI_shr (n := 12) h (by decide)
theorem ush_13 {v : Nat} (h : v < 2 ^ 31) : rd_ush (nI v) 13 = nI (v / 8192) := nI_ush (n := 13) h (by decide)
theorem shr_13 {v : Nat} (h : v < 2 ^ 31) : rd_shr (nI v) 13 = nI (v / 8192) := nI_shr (n := 13) h (by decide)
theorem ush_0 {v : Nat} (h : v < 2 ^ 31) : rd_ush (nI v) 0 = nI v := (nI_ush (n := 0) h (by decide)).trans (by rw [Nat.pow_zero, Nat.div_one])
theorem and_1 {v : Nat} (h : v < 2 ^ 31) : nI v &&& 1 = nI (v % 2) := pk_andN (by omega) 1 (by decide)
theorem and_3 {v : Nat} (h : v < 2 ^ 31) : nI v &&& 3 = nI (v % 4) := pk_andN (by omega) 2 (by decide)
theorem and_7 {v : Nat} (h : v < 2 ^ 31) : nI v &&& 7 = nI (v % 8) := pk_andN (by omega) 3 (by decide)
theorem and_15 {v : Nat} (h : v < 2 ^ 31) : nI v &&& 15 = nI (v % 16) := pk_andN (by omega) 4 (by decide)
theorem and_31 {v : Nat} (h : v < 2 ^ 31) : nI v &&& 31 = nI (v % 32) := pk_andN (by omega) 5 (by decide)
theorem and_63 {v : Nat} (h : v < 2 ^ 31) : nI v &&& 63 = nI (v % 64) := pk_andN (by omega) 6 (by decide)
theorem and_127 {v : Nat} (h : v < 2 ^ 31) : nI v &&& 127 = nI (v % 128) := pk_andN (by omega) 7 (by decide)
theorem and_255 {v : Nat} (h : v < 2 ^ 31) : nI v &&& 255 = nI (v % 256) := pk_andN (by omega) 8 (by decide)
theorem and_4095 {v : Nat} (h : v < 2 ^ 31) : nI v &&& 4095 = nI (v % 4096) := pk_andN (by omega) 12 (by decide)
theorem and_32767 {v : Nat} (h : v < 2 ^ 31) : nI v &&& 32767 = nI (v % 32768) := pk_andN (by omega) 15 (by decide)
theorem and_65535 {v : Nat} (h : v < 2 ^ 31) : nI v &&& 65535 = nI (v % 65536) := pk_andN (by omega) 16 (by decide)
theorem msk_1 : rd_shl 1 1 - 1 = 1 := by decide
theorem msk_2 : rd_shl 1 2 - 1 = 3 := by decide
theorem msk_3 : rd_shl 1 3 - 1 = 7 := by decide
theorem msk_4 : rd_shl 1 4 - 1 = 15 := by decide
theorem msk_5 : rd_shl 1 5 - 1 = 31 := by decide
theorem msk_6 : rd_shl 1 6 - 1 = 63 := by decide
theorem msk_8 : rd_shl 1 8 - 1 = 255 := by decide
theorem msk_12 : rd_shl 1 12 - 1 = 4095 := by decide
theorem msk_15 : rd_shl 1 15 - 1 = 32767 := by decide
theorem shl_3 {v : Nat} (h : v < 268435456) : rd_shl (nI v) 3 = nI (v * 8) := nI_shl (n := 3) (by decide) (by omega)
theorem shl_4 {v : Nat} (h : v < 134217728) : rd_shl (nI v) 4 = nI (v * 16) := nI_shl (n := 4) (by decide) (by omega)
theorem shl_5 {v : Nat} (h : v < 67108864) : rd_shl (nI v) 5 = nI (v * 32) := nI_shl (n := 5) (by decide) (by omega)
theorem shl_15 {v : Nat} (h : v < 65536) : rd_shl (nI v) 15 = nI (v * 32768) := nI_shl (n := 15) (by decide) (by omega)
theorem shl_16 {v : Nat} (h : v < 32768) : rd_shl (nI v) 16 = nI (v * 65536) := nI_shl (n := 16) (by decide) (by omega)
theorem nI_or {a b n : Nat} (hb : b < 2 ^ n) (ha : a * 2 ^ n < 2 ^ 31) (hn : n < 31) : nI (a * 2 ^ n) ||| nI b = nI (a * 2 ^ n + b) := by
  have hab : a * 2 ^ n + b < 2 ^ 32 := by
    have : 2 ^ n < 2 ^ 31 := Nat.pow_lt_pow_right (by decide) hn
    omega
  have e : a * 2 ^ n + b = a * 2 ^ n ||| b := (Nat.mul_comm (2 ^ n) a ▸ Nat.two_pow_add_eq_or_of_lt hb a)
  apply Int32.toBitVec_inj.mp
  apply BitVec.eq_of_toNat_eq
  rw [Int32.toBitVec_or, BitVec.toNat_or, pk_tn (by omega), pk_tn (by omega), pk_tn hab, e]
/-! colours -/
def rowc (r : Nat) : Nat := if r = 0 then 24 else if r = 1 then 25 else if r = 2 then 26 else 31
def colF (j : Nat) : Nat := if j = 31 then 25 else if j = 32 then 26 else if 35 ≤ j ∧ j ≤ 39 then 27 else if 46 ≤ j ∧ j ≤ 50 then 28 else if j = 43 then 29 else if j = 45 then 30 else if j = 53 then 31 else if j = 23 ∨ j = 24 then 22 else if j = 0 then 20 else 21
def col6 (j : Nat) : Nat := if j = 0 then 24 else if j = 1 then 25 else if j = 2 then 26 else if j = 3 then 27 else if j = 4 then 28 else if j = 5 then 30 else 20
def colC (a : Nat) : Nat := if a < 2 then 0 else if a < 10 then 1 else if a < 13 then 2 else if a < 14 then 0 else if a < 15 then 3 else if a < 18 then 4 else if a < 21 then 5 else if a < 24 then 6 else if a < 27 then 7 else if a < 28 then 8 else if a < 32 then 9 else if a < 74 then 11 else 10
def colM (a j : Nat) : Nat := if a < 77 then colF j else if a < 83 then 21 else if a < 85 then 22 else if a < 86 then 23 else if a < 87 then col6 j else if a < 88 then rowc (j / 64) else if a < 89 then rowc j else if a < 90 then rowc (j / 64) else if a < 91 then rowc j else if a < 93 then 27 else if a < 96 then 29 else if a < 97 then 30 else if a < 99 then 31 else 20
def col (a j : Nat) : Nat := if a < 76 then colC a else colM a j
theorem rowc_ge (r : Nat) : 20 ≤ rowc r := by unfold rowc; (repeat' split) <;> omega
theorem colF_ge (j : Nat) : 20 ≤ colF j := by unfold colF; (repeat' split) <;> omega
theorem col6_ge (j : Nat) : 20 ≤ col6 j := by unfold col6; (repeat' split) <;> omega
theorem colC_lo : ∀ a, a < 76 → colC a < 20 := by decide
theorem colM_hi (a j : Nat) : 20 ≤ colM a j := by
  have h1 := rowc_ge (j / 64)
  have h2 := rowc_ge j
  have h3 := colF_ge j
  have h4 := col6_ge j
  unfold colM
  (repeat' split) <;> omega
theorem col_lo {a j : Nat} (h : a < 76) : col a j < 20 := by unfold col; rw [if_pos h]; exact colC_lo a h
theorem col_hi {a j : Nat} (h : 76 ≤ a) : 20 ≤ col a j := by unfold col; rw [if_neg (by omega)]; exact colM_hi a j
theorem col_87 {r k : Nat} (h : k < 64) : col 87 (64 * r + k) = rowc r := by
  show rowc ((64 * r + k) / 64) = _
  rw [Nat.mul_add_div (by decide), Nat.div_eq_of_lt h, Nat.add_zero]
theorem col_89 {r k : Nat} (h : k < 64) : col 89 (64 * r + k) = rowc r := by
  show rowc ((64 * r + k) / 64) = _
  rw [Nat.mul_add_div (by decide), Nat.div_eq_of_lt h, Nat.add_zero]
/-- only cells of the colours lo .. hi are touched -/
def Rg (lo hi : Nat) (S S1 : rd_S) : Prop := (∀ a, a ≠ 33 ∨ 11 < lo ∨ hi < 11 → S1.2 a = S.2 a) ∧ ∀ a j, (col a j < lo ∨ hi < col a j) → S1.1 a j = S.1 a j
theorem Rg.rf {lo hi : Nat} {S : rd_S} : Rg lo hi S S := ⟨fun _ _ => rfl, fun _ _ _ => rfl⟩
theorem Rg.pI {lo hi : Nat} {S S1 : rd_S} (h : Rg lo hi S S1) {a j : Nat} {v : Int32} (hc : lo ≤ col a j ∧ col a j ≤ hi) : Rg lo hi S (pI S1 a j v) :=
  ⟨fun b hb => h.1 b hb, fun b k hk => by
    rw [pI1]
    by_cases e : b = a
    · by_cases e2 : k = j
      · subst e; subst e2; omega
      · rw [if_pos e, if_neg e2]; exact h.2 b k hk
    · rw [if_neg e]; exact h.2 b k hk⟩
theorem Rg.pA {lo hi : Nat} {S S1 : rd_S} (h : Rg lo hi S S1) {a : Nat} {f : Nat → Int32} (hc : ∀ j, lo ≤ col a j ∧ col a j ≤ hi) : Rg lo hi S (pA S1 a f) :=
  ⟨fun b hb => h.1 b hb, fun b k hk => by
    rw [pA1]
    by_cases e : b = a
    · subst e; have := hc k; omega
    · rw [if_neg e]; exact h.2 b k hk⟩
theorem Rg.tr {lo hi : Nat} {S S1 S2 : rd_S} (h : Rg lo hi S S1) (h2 : Rg lo hi S1 S2) : Rg lo hi S S2 :=
  ⟨fun a ha => (h2.1 a ha).trans (h.1 a ha), fun a j hj => (h2.2 a j hj).trans (h.2 a j hj)⟩
theorem Rg.mo {lo hi lo' hi' : Nat} {S S1 : rd_S} (h : Rg lo hi S S1) (h1 : lo' ≤ lo) (h2 : hi ≤ hi') : Rg lo' hi' S S1 :=
  ⟨fun a ha => h.1 a (by omega), fun a j hj => h.2 a j (by omega)⟩
theorem Rg.sh {lo hi : Nat} {S S1 : rd_S} (h : Rg lo hi S S1) (hs : Sh S) : Sh S1 := fun a ha => (h.1 a (Or.inl ha)).trans (hs a ha)
theorem Rg.at {lo hi : Nat} {S S1 : rd_S} (h : Rg lo hi S S1) (a j : Nat) {c : Nat} (hc : col a j = c) (hn : c < lo ∨ hi < c) : S1.1 a j = S.1 a j := h.2 a j (by omega)
/-- one colour agrees -/
def Ag (c : Nat) (S S1 : rd_S) : Prop := ∀ a j, col a j = c → S1.1 a j = S.1 a j
theorem Rg.ag {lo hi : Nat} {S S1 : rd_S} (h : Rg lo hi S S1) {c : Nat} (hn : c < lo ∨ hi < c) : Ag c S S1 := fun a j e => h.2 a j (by omega)
theorem Ag.row {c : Nat} {S S1 : rd_S} (h : Ag c S S1) (a : Nat) (hc : ∀ j, col a j = c) : S1.1 a = S.1 a := funext fun j => h a j (hc j)
theorem RD.cg {d row pcs n cap cs cm : Nat} {S M S1 M1 : rd_S} (h : RD d row pcs n cap S M) (hd : ∀ j, col d j = cs ∧ col (d + 1) j = cs ∧ col (d + 2) j = cs) (hr : rowc row = cm) (hS : Ag cs S S1) (hM : Ag cm M M1) (hcap : cap ≤ 64) (hpn : pcs * n ≤ 64) : RD d row pcs n cap S1 M1 := by
  obtain ⟨mk, ln, h1, h2, h3, h4, h5, h6, h7, h8⟩ := h
  have e0 : S1.1 d = S.1 d := hS.row d (fun j => (hd j).1)
  have e1 : S1.1 (d + 1) = S.1 (d + 1) := hS.row _ (fun j => (hd j).2.1)
  have e2 : S1.1 (d + 2) = S.1 (d + 2) := hS.row _ (fun j => (hd j).2.2)
  refine ⟨mk, ln, h1, h2, ?_, ?_, ?_, ?_, ?_, ?_⟩
  · rw [e0]; exact h3
  · rw [hM 88 row hr]; exact h4
  · rw [e0]; exact h5
  · rw [hM 90 row hr]; exact h6
  · intro j hj; rw [e2, hM 89 _ ((col_89 (by omega)).trans hr)]; exact h7 j hj
  · intro s k hs hk hb
    have : s * n + k < pcs * n := by
      have : (s + 1) * n ≤ pcs * n := Nat.mul_le_mul_right n hs
      rw [Nat.add_mul, Nat.one_mul] at this; omega
    rw [e1, hM 87 _ ((col_87 (by omega)).trans hr)]; exact h8 s k hs hk hb
theorem RCk.cg {S M S1 M1 : rd_S} (h : RCk S M) (hS : Ag 3 S S1) (hM : Ag 23 M M1) : RCk S1 M1 := by
  intro j hj; rw [hS 14 j rfl, hM 85 j rfl]; exact h j hj
theorem RCn.cg {S M S1 M1 : rd_S} (h : RCn S M) (hS : Ag 4 S S1) (hM : Ag 24 M M1) : RCn S1 M1 := by
  obtain ⟨h1, h2, h3, h4⟩ := h
  exact ⟨by rw [hS 15 0 rfl]; exact h1, by rw [hS 15 1 rfl]; exact h2, by rw [hS 15 7 rfl, hM 86 0 rfl]; exact h3, h4.cg (fun _ => ⟨rfl, rfl, rfl⟩) rfl hS hM (by decide) (by decide)⟩
theorem RCx.cg {S M S1 M1 : rd_S} (h : RCx S M) (hS : Ag 5 S S1) (hM : Ag 25 M M1) : RCx S1 M1 := by
  obtain ⟨h1, h2, h3, h4⟩ := h
  refine ⟨by rw [hS 18 0 rfl]; exact h1, by rw [hS 18 1 rfl]; exact h2, by rw [hS 18 7 rfl, hM 86 1 rfl]; exact h3, ?_⟩
  rw [hS 18 5 rfl, hM 76 31 rfl, hS 18 4 rfl]
  rcases h4 with ⟨a, b, c, d⟩ | ⟨f, v, hf, hv, a, b, d⟩
  · exact Or.inl ⟨a, b, c, d.cg (fun _ => ⟨rfl, rfl, rfl⟩) rfl hS hM (by decide) (by decide)⟩
  · exact Or.inr ⟨f, v, hf, hv, a, b, d.cg (fun _ => ⟨rfl, rfl, rfl⟩) rfl hS hM (by decide) (by split <;> decide)⟩
theorem RCi.cg {S M S1 M1 : rd_S} (h : RCi S M) (hS : Ag 6 S S1) (hM : Ag 26 M M1) : RCi S1 M1 := by
  obtain ⟨h1, h2, h3, h4, h5, h6⟩ := h
  refine ⟨by rw [hS 21 0 rfl]; exact h1, by rw [hS 21 1 rfl]; exact h2, by rw [hS 21 7 rfl, hM 86 2 rfl]; exact h3, h4.cg (fun _ => ⟨rfl, rfl, rfl⟩) rfl hS hM (by decide) (by decide), ?_, ?_⟩
  · rw [hS 21 5 rfl, hM 76 32 rfl]; exact h5
  · rw [hS 21 4 rfl, hM 76 32 rfl]; exact h6
theorem RCl.cg {S M S1 M1 : rd_S} (h : RCl S M) (hS : Ag 7 S S1) (hM : Ag 27 M M1) : RCl S1 M1 := by
  unfold RCl at h ⊢
  rw [hS 24 7 rfl, hS 24 2 rfl, hS 24 3 rfl, hS 24 4 rfl, hS 24 5 rfl, hS 24 6 rfl, hS.row 25 (fun _ => rfl), hS.row 26 (fun _ => rfl), hM 86 3 rfl, hM 76 35 rfl, hM 76 36 rfl, hM 76 37 rfl, hM 76 38 rfl, hM 76 39 rfl, hM.row 91 (fun _ => rfl), hM.row 92 (fun _ => rfl)]
  exact h
theorem RCt.cg {N : Nat} {S M S1 M1 : rd_S} (h : RCt N S M) (hS : Ag 8 S S1) (hM : Ag 28 M M1) : RCt N S1 M1 := by
  unfold RCt at h ⊢
  rw [hS.row 27 (fun _ => rfl), hM 86 4 rfl, hM 76 46 rfl, hM 76 47 rfl, hM 76 48 rfl, hM 76 49 rfl, hM 76 50 rfl]
  exact h
theorem RCo.cg {S M S1 M1 : rd_S} (h : RCo S M) (hS : Ag 9 S S1) (hM : Ag 29 M M1) : RCo S1 M1 := by
  unfold RCo at h ⊢
  rw [hS.row 28 (fun _ => rfl), hS.row 29 (fun _ => rfl), hS.row 30 (fun _ => rfl), hS.row 31 (fun _ => rfl), hM 76 43 rfl, hM.row 93 (fun _ => rfl), hM.row 94 (fun _ => rfl), hM.row 95 (fun _ => rfl)]
  exact h
theorem RCq.cg {S M S1 M1 : rd_S} (h : RCq S M) (hS : Ag 10 S S1) (hM : Ag 30 M M1) : RCq S1 M1 := by
  unfold RCq at h ⊢
  rw [hS.row 74 (fun _ => rfl), hS.row 75 (fun _ => rfl), hM 86 5 rfl, hM 76 45 rfl, hM.row 96 (fun _ => rfl)]
  exact h
theorem colC_ot : ∀ k, k < 8 → ∀ i, i < 5 → colC (34 + 5 * k + i) = 11 := by decide
theorem col_ot {k i : Nat} (hk : k < 8) (hi : i < 5) (j : Nat) : col (34 + 5 * k + i) j = 11 := by unfold col; rw [if_pos (by omega)]; exact colC_ot k hk i hi
theorem RCz.cg {S M S1 M1 : rd_S} (h : RCz S M) (hS : Ag 11 S S1) (hM : Ag 31 M M1) (hR : S1.2 33 = S.2 33) : RCz S1 M1 := by
  obtain ⟨sz, π, h1, h2, h3, h4, h5, h6, h7⟩ := h
  refine ⟨sz, π, h1, ?_, ?_, ?_, h5, ?_, ?_⟩
  · rw [hS 32 1 rfl]; exact h2
  · rw [hM 76 53 rfl]; exact h3
  · intro j hj; rw [hR]; exact h4 j hj
  · intro k hk; rw [hS.row (34 + 5 * k + 2) (col_ot hk (by decide))]; exact h6 k hk
  · intro j hj
    obtain ⟨q1, q2, q3⟩ := h7 j hj
    have hp := (h4 j (by omega)).1
    refine ⟨?_, ?_, ?_⟩
    · intro i hi; rw [hS.row _ (col_ot hp (by decide)), hM.row 97 (fun _ => rfl)]; exact q1 i hi
    · rw [hS.row _ (col_ot hp (by decide)), hM.row 98 (fun _ => rfl)]; exact q2
    · exact q3.cg (fun j => ⟨col_ot hp (i := 2) (by decide) j, col_ot hp (i := 3) (by decide) j, col_ot hp (i := 4) (by decide) j⟩) (by unfold rowc; rw [if_neg (by omega), if_neg (by omega), if_neg (by omega)]) hS hM (by decide) (by decide)
theorem RCg.cg {S M S1 M1 : rd_S} (h : RCg S M) (hS : Ag 2 S S1) (hM : Ag 22 M M1) : RCg S1 M1 := by
  unfold RCg at h ⊢
  rw [hS.row 11 (fun _ => rfl), hS.row 12 (fun _ => rfl), hM 76 23 rfl, hM 76 24 rfl, hM.row 83 (fun _ => rfl), hM.row 84 (fun _ => rfl)]
  exact h
theorem RCr.cg {N : Nat} {S M S1 M1 : rd_S} (h : RCr N S M) (hS : Ag 1 S S1) (hM : Ag 21 M M1) : RCr N S1 M1 := by
  unfold RCr RCa RCb RCw RCh RCs RCy RCp at h ⊢
  rw [hS.row 2 (fun _ => rfl), hS.row 3 (fun _ => rfl), hS.row 4 (fun _ => rfl), hS.row 5 (fun _ => rfl), hS.row 6 (fun _ => rfl), hS.row 7 (fun _ => rfl), hS.row 8 (fun _ => rfl), hS.row 9 (fun _ => rfl),
    hM 76 1 rfl, hM 76 2 rfl, hM 76 5 rfl, hM 76 6 rfl, hM 76 7 rfl, hM 76 8 rfl, hM 76 9 rfl, hM 76 11 rfl, hM 76 12 rfl, hM 76 14 rfl, hM 76 15 rfl, hM 76 16 rfl, hM 76 17 rfl, hM 76 20 rfl,
    hM.row 77 (fun _ => rfl), hM.row 78 (fun _ => rfl), hM.row 79 (fun _ => rfl), hM.row 80 (fun _ => rfl), hM.row 81 (fun _ => rfl), hM.row 82 (fun _ => rfl)]
  exact h
theorem RCS.k {N : Nat} {S M S1 M1 : rd_S} (h : RCS N S M) (hS : Rg 3 3 S S1) (hM : Rg 23 23 M M1) (hn : RCk S1 M1) : RCS N S1 M1 := by
  obtain ⟨hk, hn0, hx, hi, hl, ht, ho, hq, hz⟩ := h
  exact ⟨hn, hn0.cg (hS.ag (by decide)) (hM.ag (by decide)), hx.cg (hS.ag (by decide)) (hM.ag (by decide)), hi.cg (hS.ag (by decide)) (hM.ag (by decide)), hl.cg (hS.ag (by decide)) (hM.ag (by decide)), ht.cg (hS.ag (by decide)) (hM.ag (by decide)), ho.cg (hS.ag (by decide)) (hM.ag (by decide)), hq.cg (hS.ag (by decide)) (hM.ag (by decide)), hz.cg (hS.ag (by decide)) (hM.ag (by decide)) (hS.1 33 (by decide))⟩
theorem RCS.n {N : Nat} {S M S1 M1 : rd_S} (h : RCS N S M) (hS : Rg 4 4 S S1) (hM : Rg 24 24 M M1) (hn : RCn S1 M1) : RCS N S1 M1 := by
  obtain ⟨hk, hn0, hx, hi, hl, ht, ho, hq, hz⟩ := h
  exact ⟨hk.cg (hS.ag (by decide)) (hM.ag (by decide)), hn, hx.cg (hS.ag (by decide)) (hM.ag (by decide)), hi.cg (hS.ag (by decide)) (hM.ag (by decide)), hl.cg (hS.ag (by decide)) (hM.ag (by decide)), ht.cg (hS.ag (by decide)) (hM.ag (by decide)), ho.cg (hS.ag (by decide)) (hM.ag (by decide)), hq.cg (hS.ag (by decide)) (hM.ag (by decide)), hz.cg (hS.ag (by decide)) (hM.ag (by decide)) (hS.1 33 (by decide))⟩
theorem RCS.x {N : Nat} {S M S1 M1 : rd_S} (h : RCS N S M) (hS : Rg 5 5 S S1) (hM : Rg 25 25 M M1) (hn : RCx S1 M1) : RCS N S1 M1 := by
  obtain ⟨hk, hn0, hx, hi, hl, ht, ho, hq, hz⟩ := h
  exact ⟨hk.cg (hS.ag (by decide)) (hM.ag (by decide)), hn0.cg (hS.ag (by decide)) (hM.ag (by decide)), hn, hi.cg (hS.ag (by decide)) (hM.ag (by decide)), hl.cg (hS.ag (by decide)) (hM.ag (by decide)), ht.cg (hS.ag (by decide)) (hM.ag (by decide)), ho.cg (hS.ag (by decide)) (hM.ag (by decide)), hq.cg (hS.ag (by decide)) (hM.ag (by decide)), hz.cg (hS.ag (by decide)) (hM.ag (by decide)) (hS.1 33 (by decide))⟩
theorem RCS.i {N : Nat} {S M S1 M1 : rd_S} (h : RCS N S M) (hS : Rg 6 6 S S1) (hM : Rg 26 26 M M1) (hn : RCi S1 M1) : RCS N S1 M1 := by
  obtain ⟨hk, hn0, hx, hi, hl, ht, ho, hq, hz⟩ := h
  exact ⟨hk.cg (hS.ag (by decide)) (hM.ag (by decide)), hn0.cg (hS.ag (by decide)) (hM.ag (by decide)), hx.cg (hS.ag (by decide)) (hM.ag (by decide)), hn, hl.cg (hS.ag (by decide)) (hM.ag (by decide)), ht.cg (hS.ag (by decide)) (hM.ag (by decide)), ho.cg (hS.ag (by decide)) (hM.ag (by decide)), hq.cg (hS.ag (by decide)) (hM.ag (by decide)), hz.cg (hS.ag (by decide)) (hM.ag (by decide)) (hS.1 33 (by decide))⟩
theorem RCS.l {N : Nat} {S M S1 M1 : rd_S} (h : RCS N S M) (hS : Rg 7 7 S S1) (hM : Rg 27 27 M M1) (hn : RCl S1 M1) : RCS N S1 M1 := by
  obtain ⟨hk, hn0, hx, hi, hl, ht, ho, hq, hz⟩ := h
  exact ⟨hk.cg (hS.ag (by decide)) (hM.ag (by decide)), hn0.cg (hS.ag (by decide)) (hM.ag (by decide)), hx.cg (hS.ag (by decide)) (hM.ag (by decide)), hi.cg (hS.ag (by decide)) (hM.ag (by decide)), hn, ht.cg (hS.ag (by decide)) (hM.ag (by decide)), ho.cg (hS.ag (by decide)) (hM.ag (by decide)), hq.cg (hS.ag (by decide)) (hM.ag (by decide)), hz.cg (hS.ag (by decide)) (hM.ag (by decide)) (hS.1 33 (by decide))⟩
theorem RCS.t {N : Nat} {S M S1 M1 : rd_S} (h : RCS N S M) (hS : Rg 8 8 S S1) (hM : Rg 28 28 M M1) (hn : RCt N S1 M1) : RCS N S1 M1 := by
  obtain ⟨hk, hn0, hx, hi, hl, ht, ho, hq, hz⟩ := h
  exact ⟨hk.cg (hS.ag (by decide)) (hM.ag (by decide)), hn0.cg (hS.ag (by decide)) (hM.ag (by decide)), hx.cg (hS.ag (by decide)) (hM.ag (by decide)), hi.cg (hS.ag (by decide)) (hM.ag (by decide)), hl.cg (hS.ag (by decide)) (hM.ag (by decide)), hn, ho.cg (hS.ag (by decide)) (hM.ag (by decide)), hq.cg (hS.ag (by decide)) (hM.ag (by decide)), hz.cg (hS.ag (by decide)) (hM.ag (by decide)) (hS.1 33 (by decide))⟩
theorem RCS.o {N : Nat} {S M S1 M1 : rd_S} (h : RCS N S M) (hS : Rg 9 9 S S1) (hM : Rg 29 29 M M1) (hn : RCo S1 M1) : RCS N S1 M1 := by
  obtain ⟨hk, hn0, hx, hi, hl, ht, ho, hq, hz⟩ := h
  exact ⟨hk.cg (hS.ag (by decide)) (hM.ag (by decide)), hn0.cg (hS.ag (by decide)) (hM.ag (by decide)), hx.cg (hS.ag (by decide)) (hM.ag (by decide)), hi.cg (hS.ag (by decide)) (hM.ag (by decide)), hl.cg (hS.ag (by decide)) (hM.ag (by decide)), ht.cg (hS.ag (by decide)) (hM.ag (by decide)), hn, hq.cg (hS.ag (by decide)) (hM.ag (by decide)), hz.cg (hS.ag (by decide)) (hM.ag (by decide)) (hS.1 33 (by decide))⟩
theorem RCS.q {N : Nat} {S M S1 M1 : rd_S} (h : RCS N S M) (hS : Rg 10 10 S S1) (hM : Rg 30 30 M M1) (hn : RCq S1 M1) : RCS N S1 M1 := by
  obtain ⟨hk, hn0, hx, hi, hl, ht, ho, hq, hz⟩ := h
  exact ⟨hk.cg (hS.ag (by decide)) (hM.ag (by decide)), hn0.cg (hS.ag (by decide)) (hM.ag (by decide)), hx.cg (hS.ag (by decide)) (hM.ag (by decide)), hi.cg (hS.ag (by decide)) (hM.ag (by decide)), hl.cg (hS.ag (by decide)) (hM.ag (by decide)), ht.cg (hS.ag (by decide)) (hM.ag (by decide)), ho.cg (hS.ag (by decide)) (hM.ag (by decide)), hn, hz.cg (hS.ag (by decide)) (hM.ag (by decide)) (hS.1 33 (by decide))⟩
theorem RCS.z {N : Nat} {S M S1 M1 : rd_S} (h : RCS N S M) (hS : Rg 11 11 S S1) (hM : Rg 31 31 M M1) (hn : RCz S1 M1) : RCS N S1 M1 := by
  obtain ⟨hk, hn0, hx, hi, hl, ht, ho, hq, hz⟩ := h
  exact ⟨hk.cg (hS.ag (by decide)) (hM.ag (by decide)), hn0.cg (hS.ag (by decide)) (hM.ag (by decide)), hx.cg (hS.ag (by decide)) (hM.ag (by decide)), hi.cg (hS.ag (by decide)) (hM.ag (by decide)), hl.cg (hS.ag (by decide)) (hM.ag (by decide)), ht.cg (hS.ag (by decide)) (hM.ag (by decide)), ho.cg (hS.ag (by decide)) (hM.ag (by decide)), hq.cg (hS.ag (by decide)) (hM.ag (by decide)), hn⟩
theorem RCS.cg {N : Nat} {S M S1 M1 : rd_S} (h : RCS N S M) (hS : ∀ c, 3 ≤ c → c ≤ 11 → Ag c S S1) (hM : ∀ c, 23 ≤ c → c ≤ 31 → Ag c M M1) (hR : S1.2 33 = S.2 33) : RCS N S1 M1 := by
  obtain ⟨hk, hn, hx, hi, hl, ht, ho, hq, hz⟩ := h
  exact ⟨hk.cg (hS 3 (by decide) (by decide)) (hM 23 (by decide) (by decide)), hn.cg (hS 4 (by decide) (by decide)) (hM 24 (by decide) (by decide)), hx.cg (hS 5 (by decide) (by decide)) (hM 25 (by decide) (by decide)), hi.cg (hS 6 (by decide) (by decide)) (hM 26 (by decide) (by decide)), hl.cg (hS 7 (by decide) (by decide)) (hM 27 (by decide) (by decide)), ht.cg (hS 8 (by decide) (by decide)) (hM 28 (by decide) (by decide)), ho.cg (hS 9 (by decide) (by decide)) (hM 29 (by decide) (by decide)), hq.cg (hS 10 (by decide) (by decide)) (hM 30 (by decide) (by decide)), hz.cg (hS 11 (by decide) (by decide)) (hM 31 (by decide) (by decide)) hR⟩
theorem RC.cg {N : Nat} {S M S1 M1 : rd_S} (h : RC N S M) (hS : ∀ a, a < 76 → S1.1 a = S.1 a) (hM : ∀ a j, 76 ≤ a → ¬ (a = 76 ∧ j = 0) → M1.1 a j = M.1 a j) (hs : Sh S1) (hm : Sh M1) (hR : S1.2 33 = S.2 33) : RC N S1 M1 := by
  obtain ⟨-, -, h1, h2, h3⟩ := h
  have aS : ∀ c, c < 20 → Ag c S S1 := fun c hc a j e => by
    have : a < 76 := by
      rcases Nat.lt_or_ge a 76 with q | q
      · exact q
      · have := col_hi (j := j) q; omega
    rw [hS a this]
  have aM : ∀ c, 21 ≤ c → Ag c M M1 := fun c hc a j e => by
    refine hM a j ?_ ?_
    · rcases Nat.lt_or_ge a 76 with q | q
      · have := col_lo (j := j) q; omega
      · exact q
    · rintro ⟨rfl, rfl⟩
      have : col 76 0 = 20 := rfl
      omega
  exact ⟨hs, hm, h1.cg (aS 1 (by decide)) (aM 21 (by decide)), h2.cg (aS 2 (by decide)) (aM 22 (by decide)), h3.cg (fun c _ h => aS c (by omega)) (fun c h _ => aM c (by omega)) hR⟩
