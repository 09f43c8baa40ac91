/-! NAME, TEXT and KIND. -/
theorem nI_orW {a b : Nat} (n : Nat) (hb : b < 2 ^ n) (hab : a * 2 ^ n + b < 2 ^ 32) : nI (a * 2 ^ n) ||| nI b = nI (a * 2 ^ n + b) := by
  have e : a * 2 ^ n + b = a * 2 ^ n ||| b := (Nat.mul_comm (2 ^ n) a ▸ Nat.two_pow_add_eq_or_of_lt hb a)
  apply Int32.toBitVec_inj.mp
  apply BitVec.eq_of_toNat_eq
  rw [Int32.toBitVec_or, BitVec.toNat_or, pk_tn (by omega), pk_tn (by omega), pk_tn hab, e]
theorem nI_ushW {v n : Nat} (h : v < 2 ^ 32) (hn : n < 32) : rd_ush (nI v) (nI n) = nI (v / 2 ^ n) := pk_ushrN h (nI n) n (s_u n hn)
theorem and_255W {v : Nat} (h : v < 2 ^ 32) : nI v &&& 255 = nI (v % 256) := pk_andN h 8 (by decide)
def by2 (v i : Nat) : Int32 := if i = 0 then nI (v / 256 % 256) else nI (v % 256)
def by4 (c d i : Nat) : Int32 := if i < 2 then by2 c i else by2 d (i - 2)
theorem by2_c {v : Nat} (h : v < 65536) : ∀ i, i < 2 → ∀ S : rd_S, F_X1_unpacked wF (nI v) (nI 2) (nI i) S = some (by2 v i, S) := by
  intro i hi S
  match i, hi with
  | 0, _ =>
    show some (rd_ush (nI v) (8 * ((nI 2 - 1) - nI 0)) &&& 255, S) = _
    rw [show (8 : Int32) * ((nI 2 - 1) - nI 0) = nI 8 by decide, nI_ush (by omega) (by decide), and_255 (by omega)]
    rfl
  | 1, _ =>
    show some (rd_ush (nI v) (8 * ((nI 2 - 1) - nI 1)) &&& 255, S) = _
    rw [show (8 : Int32) * ((nI 2 - 1) - nI 1) = nI 0 by decide, nI_ush (by omega) (by decide), Nat.pow_zero, Nat.div_one, and_255 (by omega)]
    rfl
theorem by2_m {v : Nat} (h : v < 65536) (hi : Int32) : ∀ i, i < 2 → ∀ M : rd_S, F_X12_byteOf wF (nI v) hi (nI 2) (nI i) M = some (by2 v i, M) := by
  intro i hi' M
  unfold F_X12_byteOf B_X12_byteOf_14 B_X12_byteOf_15 B_X12_byteOf_41
  rw [if_neg (by decide)]
  match i, hi' with
  | 0, _ =>
    rw [if_pos (by decide), shr_8 (by omega), and_255 (by omega)]; rfl
  | 1, _ =>
    rw [if_neg (by decide), and_255 (by omega)]; rfl
theorem by2_b (v : Nat) : ∀ i, i < 2 → ¬ by2 v i = -1 := by
  intro i _
  unfold by2
  split
  · exact nI_ne_m1 (by omega)
  · exact nI_ne_m1 (by omega)
theorem by4_x {c d : Nat} (hc : c < 65536) (hd : d < 65536) : rd_shl (nI c) 16 ||| nI d = nI (c * 65536 + d) := by
  have e1 : rd_shl (nI c) 16 = nI (c * 2 ^ 16) := nI_shl (n := 16) (by decide) (by omega)
  rw [e1, nI_orW 16 (by omega) (by omega)]
theorem by4_c {c d : Nat} (hc : c < 65536) (hd : d < 65536) : ∀ i, i < 4 → ∀ S : rd_S, F_X1_unpacked wF (nI (c * 65536 + d)) (nI 4) (nI i) S = some (by4 c d i, S) := by
  intro i hi S
  have g : ∀ k, k < 32 → rd_ush (nI (c * 65536 + d)) (nI k) &&& 255 = nI ((c * 65536 + d) / 2 ^ k % 256) := fun k hk => by
    rw [nI_ushW (by omega) hk, and_255W (by have := Nat.div_le_self (c * 65536 + d) (2 ^ k); omega)]
  match i, hi with
  | 0, _ =>
    show some (rd_ush _ (8 * ((nI 4 - 1) - nI 0)) &&& 255, S) = some (nI (c / 256 % 256), S)
    rw [show (8 : Int32) * ((nI 4 - 1) - nI 0) = nI 24 by decide, g 24 (by decide), show (c * 65536 + d) / 2 ^ 24 % 256 = c / 256 % 256 by omega]
  | 1, _ =>
    show some (rd_ush _ (8 * ((nI 4 - 1) - nI 1)) &&& 255, S) = some (nI (c % 256), S)
    rw [show (8 : Int32) * ((nI 4 - 1) - nI 1) = nI 16 by decide, g 16 (by decide), show (c * 65536 + d) / 2 ^ 16 % 256 = c % 256 by omega]
  | 2, _ =>
    show some (rd_ush _ (8 * ((nI 4 - 1) - nI 2)) &&& 255, S) = some (nI (d / 256 % 256), S)
    rw [show (8 : Int32) * ((nI 4 - 1) - nI 2) = nI 8 by decide, g 8 (by decide), show (c * 65536 + d) / 2 ^ 8 % 256 = d / 256 % 256 by omega]
  | 3, _ =>
    show some (rd_ush _ (8 * ((nI 4 - 1) - nI 3)) &&& 255, S) = some (nI (d % 256), S)
    rw [show (8 : Int32) * ((nI 4 - 1) - nI 3) = nI 0 by decide, g 0 (by decide), show (c * 65536 + d) / 2 ^ 0 % 256 = d % 256 by omega]
theorem by4_m {c d : Nat} (hc : c < 65536) (hd : d < 65536) : ∀ i, i < 4 → ∀ M : rd_S, F_X12_byteOf wF (nI d) (nI c) (nI 4) (nI i) M = some (by4 c d i, M) := by
  intro i hi M
  unfold F_X12_byteOf B_X12_byteOf_14 B_X12_byteOf_15 B_X12_byteOf_41
  rw [if_pos (show nI 4 = 4 from rfl)]
  match i, hi with
  | 0, _ => rw [if_neg (by decide), if_pos (by decide), shr_8 (by omega), and_255 (by omega)]; rfl
  | 1, _ => rw [if_neg (by decide), if_neg (by decide), and_255 (by omega)]; rfl
  | 2, _ => rw [if_pos (by decide), if_pos (by decide), shr_8 (by omega), and_255 (by omega)]; rfl
  | 3, _ => rw [if_pos (by decide), if_neg (by decide), and_255 (by omega)]; rfl
theorem by4_b (c d : Nat) : ∀ i, i < 4 → ¬ by4 c d i = -1 := by
  intro i _
  unfold by4
  split
  · exact by2_b c i (by omega)
  · exact by2_b d (i - 2) (by omega)
theorem Pcd.rg {d row pcs n cap cs : Nat} {S M S1 M1 : rd_S} (h : Pcd d row pcs n cap S M S1 M1) (hd : ∀ j, col d j = cs ∧ col (d + 1) j = cs ∧ col (d + 2) j = cs) (hrow : row < 11) : Rg cs cs S S1 ∧ Rg (rowc row) (rowc row) M M1 := by
  obtain ⟨-, h2, h3, -, h5, h6, -⟩ := h
  refine ⟨⟨fun a _ => by rw [h2], fun a j hj => ?_⟩, ⟨fun a _ => by rw [h5], fun a j hj => ?_⟩⟩
  · rw [h3 a]
    · rintro rfl; have := (hd j).1; omega
    · rintro rfl; have := (hd j).2.1; omega
    · rintro rfl; have := (hd j).2.2; omega
  · apply h6 a j
    · rintro ⟨q1, q2, q3⟩
      have e : j = 64 * row + (j - 64 * row) := by omega
      have c1 : col 87 j = rowc row := by rw [e]; exact col_87 (by omega)
      have c2 : col 89 j = rowc row := by rw [e]; exact col_89 (by omega)
      rcases q1 with rfl | rfl <;> omega
    · rintro ⟨q1, rfl⟩
      have c1 : col 88 j = rowc j := rfl
      have c2 : col 90 j = rowc j := rfl
      rcases q1 with rfl | rfl <;> omega
    · rintro ⟨rfl, rfl⟩
      have : col (rpC row).1 (rpC row).2 = rowc row := by
        by_cases q : row < 3
        · have e : rpC row = (86, row) := if_pos q
          rw [e]
          match row, q with
          | 0, _ => rfl
          | 1, _ => rfl
          | 2, _ => rfl
        · have e : rpC row = (98, row - 3) := if_neg q
          rw [e]
          show 31 = rowc row
          unfold rowc
          rw [if_neg (by omega), if_neg (by omega), if_neg (by omega)]
      omega
theorem ln_p {a b n : Nat} (h : a = b) (hl : wF.2.2 b = n) : wF.2.2 a = n := (congrArg wF.2.2 h).trans hl
theorem l_name {N : Nat} {S M : rd_S} (hs : Sh S) (hm : Sh M) (h : RCS N S M) {p d : Nat} (hp : p < 4) (hd : d < 65536) : Both N S M (F_X1_take wF 15 (nI p) 2 (nI d) S) (F_X12_piece wF 76 0 (nI p) (nI d) 0 2 M) := by
  obtain ⟨n1, n2, n3, n4⟩ := h.2.1
  obtain ⟨S1, M1, e1, e2, e3⟩ := l_piece hm (d := 15) (row := 0) (pcs := 4) (n := 2) (cap := 8) (s := p) ⟨sh_15_2 hs, sh_15_3 hs, ln_p (by decide) ln_16, ln_p (by decide) ln_17, n1, by decide, by decide⟩ n4 (by decide) hp (by decide) (by decide) (by decide) (nI d) (nI d) 0 (by2 d) (by2_c hd) (by2_m hd 0) (by2_b d) (Or.inr ⟨by decide, rfl, n2⟩)
  obtain ⟨r1, r2⟩ := e3.rg (cs := 4) (fun _ => ⟨rfl, rfl, rfl⟩) (by decide)
  obtain ⟨f1, -, -, f4, -, -, inc, f7, f8⟩ := e3
  refine ⟨S1, M1, e1, e2, h.n r1 r2 ⟨?_, ?_, ?_, f1⟩, r1.mo (by decide) (by decide), r2.mo (by decide) (by decide)⟩
  · rw [f4 0 (by decide) (by decide) (by decide)]; exact n1
  · rw [f4 1 (by decide) (by decide) (by decide)]; exact n2
  · rw [f7, n3]; exact f8.symm
theorem RD.zero {d row pcs n n' cap : Nat} {S M : rd_S} (h : RD d row pcs n cap S M) (h4 : S.1 d 4 = 0) : RD d row pcs n' cap S M ∧ M.1 88 row = 0 := by
  obtain ⟨mk, ln, r1, r2, r3, r4, r5, r6, r7, r8⟩ := h
  refine ⟨⟨0, ln, Nat.two_pow_pos _, r2, h4, by rw [r4, ← r3, h4]; rfl, r5, r6, r7, fun s k _ _ q => ?_⟩, by rw [r4, ← r3, h4]⟩
  rw [Nat.zero_testBit] at q; exact absurd q (by decide)
/-- all MARKS go, on both sides -/
theorem RD.wipe {d row pcs n n' cap : Nat} {S M : rd_S} (h : RD d row pcs n cap S M) : RD d row pcs n' cap (pI S d 4 0) (pI M 88 row 0) := by
  obtain ⟨mk, ln, r1, r2, r3, r4, r5, r6, r7, r8⟩ := h
  refine ⟨0, ln, Nat.two_pow_pos _, r2, pI_self, pI_self, ?_, ?_, ?_, fun s k _ _ q => ?_⟩
  · rw [pI_row (by decide)]; exact r5
  · rw [pI_ne (by decide)]; exact r6
  · intro j hj; rw [pI_ne (by omega), pI_ne (by decide)]; exact r7 j hj
  · rw [Nat.zero_testBit] at q; exact absurd q (by decide)
theorem RD.key {d row pcs n cap : Nat} {S M : rd_S} (h : RD d row pcs n cap S M) (x y : Int32) (j : Nat) (hr : d ≠ 76) : RD d row pcs n cap (pI S d 5 x) (pI M 76 j y) := by
  obtain ⟨mk, ln, r1, r2, r3, r4, r5, r6, r7, r8⟩ := h
  refine ⟨mk, ln, r1, r2, ?_, ?_, ?_, ?_, ?_, ?_⟩
  · rw [pI_row (by decide)]; exact r3
  · rw [pI_ne (by decide)]; exact r4
  · rw [pI_row (by decide)]; exact r5
  · rw [pI_ne (by decide)]; exact r6
  · intro i hi; rw [pI_ne (by omega), pI_ne (by decide)]; exact r7 i hi
  · intro s k h1 h2 h3; rw [pI_ne (by omega), pI_ne (by decide)]; exact r8 s k h1 h2 h3
/-- a TEXT whose FLAG and version are f and v -/
def XT (f v : Nat) (S M : rd_S) : Prop := S.1 18 0 = 16 ∧ S.1 18 1 = 13 ∧ S.1 18 7 = M.1 86 1 ∧ S.1 18 5 = nI (2 * v + f) ∧ M.1 76 31 = nI (f * 2 + v) ∧ RD 18 1 16 (if v = 0 then 4 else 2) 64 S M
theorem l_turn {S M : rd_S} (hm : Sh M) (h : RCx S M) {f v : Nat} (hf : f < 2) (hv : v < 2) : ∃ S1 M0, F_X1_turn wF 18 (nI (2 * v + f)) S = some S1 ∧ (∀ K : rd_S → Option rd_S, (if gI M 76 31 = -1 then K M else if gI M 76 31 = nI (f * 2 + v) then K M else rd_c (gR M 76 28) fun b18 => rd_i 1 (wF.2.2 b18) <| rd_let (pI M b18 (1 : Int32).toNatClampNeg 0) fun s19 => K s19) = K M0) ∧
    XT f v S1 (pI M0 76 31 (nI (f * 2 + v))) ∧ Rg 5 5 S S1 ∧ Rg 25 25 M M0 := by
  obtain ⟨x1, x2, x3, x4⟩ := h
  unfold F_X1_turn B_X1_turn_13
  rcases x4 with ⟨y1, y2, y3, y4⟩ | ⟨f', v', h1, h2, y1, y2, y4⟩
  · refine ⟨pI (pI S 18 4 0) 18 5 (nI (2 * v + f)), M, ?_, fun K => ?_, ⟨?_, ?_, ?_, ?_, ?_, ?_⟩, (Rg.rf.pI (by decide)).pI (by decide), Rg.rf⟩
    · rw [if_neg (show ¬ nI (2 * v + f) = gI S 18 5 by show ¬ nI (2 * v + f) = S.1 18 5; rw [y1]; exact nI_ne_m1 (by omega)), rd_letN, rd_letN]
    · rw [if_pos (show gI M 76 31 = -1 from y2)]
    · simp +decide only [pI1, if_true, if_false]; exact x1
    · simp +decide only [pI1, if_true, if_false]; exact x2
    · simp +decide only [pI1, if_true, if_false]; exact x3
    · rw [pI_self]
    · rw [pI_self]
    · have : RD 18 1 16 (if v = 0 then 4 else 2) 64 (pI S 18 4 0) M := by
        have q := (y4.zero (n' := if v = 0 then 4 else 2) y3).1
        rw [show pI S 18 4 0 = S from pA_id S 18 _ (by
          funext j
          by_cases e : j = 4
          · subst e; simp [upd, y3]
          · simp [upd, e])]
        exact q
      exact this.key _ _ _ (by decide)
  · have b1 : ∀ w : Int32, w = nI (f * 2 + v) → ¬ w = -1 := fun w hw => by rw [hw]; exact nI_ne_m1 (by omega)
    have m31 : ¬ gI M 76 31 = -1 := by show ¬ M.1 76 31 = -1; rw [y2]; exact nI_ne_m1 (by omega)
    by_cases e : f' = f ∧ v' = v
    · obtain ⟨rfl, rfl⟩ := e
      refine ⟨pI S 18 5 (nI (2 * v' + f')), M, ?_, fun K => ?_, ⟨?_, ?_, ?_, ?_, ?_, ?_⟩, Rg.rf.pI (by decide), Rg.rf⟩
      · rw [if_pos (show nI (2 * v' + f') = gI S 18 5 from y1.symm), rd_letN]
      · rw [if_neg m31, if_pos (show gI M 76 31 = nI (f' * 2 + v') from y2)]
      · rw [pI_row (by decide)]; exact x1
      · rw [pI_row (by decide)]; exact x2
      · rw [pI_row (by decide), pI_ne (by decide)]; exact x3
      · rw [pI_self]
      · rw [pI_self]
      · exact y4.key _ _ _ (by decide)
    · refine ⟨pI (pI S 18 4 0) 18 5 (nI (2 * v + f)), pI M 88 1 0, ?_, fun K => ?_, ⟨?_, ?_, ?_, ?_, ?_, ?_⟩, (Rg.rf.pI (by decide)).pI (by decide), Rg.rf.pI (by decide)⟩
      · rw [if_neg (show ¬ nI (2 * v + f) = gI S 18 5 by
          show ¬ nI (2 * v + f) = S.1 18 5
          rw [y1]
          exact fun q => e (by have := (nI_eq (by omega) (by omega)).mp q; omega)), rd_letN, rd_letN]
      · rw [if_neg m31, if_neg (show ¬ gI M 76 31 = nI (f * 2 + v) by
          show ¬ M.1 76 31 = _
          rw [y2]
          exact fun q => e (by have := (nI_eq (by omega) (by omega)).mp q; omega)), sh_76_28 hm, rd_cN, ln_88, rd_iT _ (by decide), rd_letN, tn_1]
      · simp +decide only [pI1, if_true, if_false]; exact x1
      · simp +decide only [pI1, if_true, if_false]; exact x2
      · simp +decide only [pI1, if_true, if_false]; exact x3
      · rw [pI_self]
      · rw [pI_self]
      · exact (y4.wipe).key _ _ _ (by decide)
/-- a TEXT's PIECE, behind its turn -/
theorem l_textP {N : Nat} {S M S1 M1 : rd_S} (hs : Sh S) (hm : Sh M) (h : RCS N S M) {f v : Nat} (hf : f < 2) (hv : v < 2) (hx : XT f v S1 M1) (r1 : Rg 5 5 S S1) (r2 : Rg 25 25 M M1) {p : Nat} (hp : p < 16) (x lo hi : Int32) (Bf : Nat → Int32)
    (hBc : ∀ i, i < (if v = 0 then 4 else 2) → ∀ S, F_X1_unpacked wF x (nI (if v = 0 then 4 else 2)) (nI i) S = some (Bf i, S)) (hBm : ∀ i, i < (if v = 0 then 4 else 2) → ∀ M, F_X12_byteOf wF lo hi (nI (if v = 0 then 4 else 2)) (nI i) M = some (Bf i, M)) (hBb : ∀ i, i < (if v = 0 then 4 else 2) → ¬ Bf i = -1) :
    Both N S M (F_X1_take wF 18 (nI p) (nI (if v = 0 then 4 else 2)) x S1) (F_X12_piece wF 76 1 (nI p) lo hi (nI (if v = 0 then 4 else 2)) M1) := by
  obtain ⟨x1, x2, x3, x4, x5, x6⟩ := hx
  have hn : (if v = 0 then 4 else 2) ≤ 4 ∧ 1 ≤ (if v = 0 then 4 else 2) := by split <;> decide
  obtain ⟨S2, M2, e1, e2, e3⟩ := l_piece (r2.sh hm) (d := 18) (row := 1) (pcs := 16) (n := if v = 0 then 4 else 2) (cap := 64) (s := p) ⟨sh_18_2 (r1.sh hs), sh_18_3 (r1.sh hs), ln_p (by decide) ln_19, ln_p (by decide) ln_20, x1, by decide, by decide⟩ x6 (by decide) hp hn.2 hn.1 (by omega) x lo hi Bf hBc hBm hBb (Or.inl ⟨rfl, rfl, x2⟩)
  obtain ⟨s1, s2⟩ := e3.rg (cs := 5) (fun _ => ⟨rfl, rfl, rfl⟩) (by decide)
  obtain ⟨f1, -, -, f4, -, f6, inc, f7, f8⟩ := e3
  have t1 := r1.tr s1
  have t2 := r2.tr s2
  refine ⟨S2, M2, e1, e2, h.x t1 t2 ⟨?_, ?_, ?_, Or.inr ⟨f, v, hf, hv, ?_, ?_, f1⟩⟩, t1.mo (by decide) (by decide), t2.mo (by decide) (by decide)⟩
  · rw [f4 0 (by decide) (by decide) (by decide)]; exact x1
  · rw [f4 1 (by decide) (by decide) (by decide)]; exact x2
  · rw [f7, x3]; exact f8.symm
  · rw [f4 5 (by decide) (by decide) (by decide)]; exact x4
  · rw [f6 76 31 (by decide) (by decide) (by decide)]; exact x5
