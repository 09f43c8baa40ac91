/-! A DRAFT, the class's side. -/
theorem bt_nI {v i : Nat} (hi : i < 32) : bt (nI v) i = v.testBit i := by
  show (BitVec.ofNat 32 v).getLsbD i = _
  rw [BitVec.getLsbD_ofNat, decide_eq_true hi, Bool.true_and]
theorem nI_lor {a b : Nat} (ha : a < 2 ^ 31) (hb : b < 2 ^ 31) : nI a ||| nI b = nI (a ||| b) := by
  apply Int32.toBitVec_inj.mp
  apply BitVec.eq_of_toNat_eq
  have := Nat.or_lt_two_pow ha hb
  rw [Int32.toBitVec_or, BitVec.toNat_or, pk_tn (by omega), pk_tn (by omega), pk_tn (by omega)]
theorem ush_bit {v i : Nat} (hi : i < 32) : (rd_ush (nI v) (nI i) &&& 1 = 1) ↔ v.testBit i = true := by rw [ush1 _ hi, bt_nI hi]
theorem shr_bit {v i : Nat} (hi : i < 32) : (rd_shr (nI v) (nI i) &&& 1 = 1) ↔ v.testBit i = true := by rw [shr1 _ hi, bt_nI hi]
theorem shr_bit0 {v i : Nat} (hi : i < 32) : (rd_shr (nI v) (nI i) &&& 1 = 0) ↔ v.testBit i = false := by
  have h := shr_bit (v := v) hi
  rw [and1] at h ⊢
  cases hb : v.testBit i with
  | true =>
    have h2 := h.mpr hb
    rw [h2]
    exact ⟨fun q => absurd q (by decide), fun q => absurd q (by decide)⟩
  | false =>
    refine ⟨fun _ => rfl, fun _ => ?_⟩
    split
    · next q => rw [if_pos q] at h; have := h.mp rfl; rw [hb] at this; exact absurd this (by decide)
    · rfl
theorem pA_pI (S : rd_S) (a j : Nat) (v : Int32) (f : Nat → Int32) : pA (pI S a j v) a f = pA S a f := by
  have : (pA (pI S a j v) a f).1 = (pA S a f).1 := by
    funext b k
    rw [pA1, pA1]
    by_cases h : b = a
    · rw [if_pos h, if_pos h]
    · rw [if_neg h, if_neg h, pI1, if_neg h]
  exact Prod.ext this rfl
theorem pA_id (S : rd_S) (a : Nat) (f : Nat → Int32) (h : f = S.1 a) : pA S a f = S := by
  have : (pA S a f).1 = S.1 := by
    funext b k
    rw [pA1]
    by_cases hb : b = a
    · rw [if_pos hb, h, hb]
    · rw [if_neg hb]
  exact Prod.ext this rfl
/-- a DRAFT's cells as made -/
def Dc (S : rd_S) (d pcs cap : Nat) : Prop := gR S d 2 = some (d + 1) ∧ gR S d 3 = some (d + 2) ∧ wF.2.2 (d + 1) = cap ∧ wF.2.2 (d + 2) = cap ∧ S.1 d 0 = nI pcs ∧ cap ≤ 64 ∧ pcs ≤ 16
theorem c_marked {S : rd_S} {d mk s : Nat} (h : S.1 d 4 = nI mk) (hs : s < 32) : F_X1_isMarked wF d (nI s) S = some (if mk.testBit s = true then 1 else 0, S) := by
  unfold F_X1_isMarked B_X1_isMarked_17
  rw [show gI S d 4 = nI mk from h]
  by_cases hb : mk.testBit s = true
  · rw [if_pos ((ush_bit hs).mpr hb), if_pos hb, rd_zT _ (by decide)]
  · rw [if_neg (fun q => hb ((ush_bit hs).mp q)), if_neg hb, rd_zT _ (by decide)]
/-- whether the bytes are those -/
def smF (f : Nat → Int32) (st : Nat) (Bf : Nat → Int32) : Nat → Nat → Bool
  | 0, _ => true
  | r + 1, i => if f (st + i) = Bf i then smF f st Bf r (i + 1) else false
theorem c_holds {S : rd_S} {d pcs cap st n : Nat} (hd : Dc S d pcs cap) (hn : st + n ≤ cap) (x : Int32) (Bf : Nat → Int32) (hB : ∀ i, i < n → ∀ S, F_X1_unpacked wF x (nI n) (nI i) S = some (Bf i, S)) :
    ∀ (r i m : Nat), i + r = n → r < m → F_X1_holds_3 wF m d (nI st) (nI n) x (nI i) S = some (if smF (S.1 (d + 1)) st Bf r i = true then 1 else 0, S) := by
  obtain ⟨d1, d2, d3, d4, d5, d6, d7⟩ := hd
  intro r
  induction r with
  | zero =>
    intro i m hi hm
    obtain ⟨m, rfl⟩ : ∃ q, m = q + 1 := ⟨m - 1, by omega⟩
    show B_X1_holds_3 wF (F_X1_holds_3 wF m) d (nI st) (nI n) x (nI i) S = _
    unfold B_X1_holds_3
    rw [if_pos (nI_le (by omega) (by omega))]
    rfl
  | succ r ih =>
    intro i m hi hm
    obtain ⟨m, rfl⟩ : ∃ q, m = q + 1 := ⟨m - 1, by omega⟩
    show B_X1_holds_3 wF (F_X1_holds_3 wF m) d (nI st) (nI n) x (nI i) S = _
    unfold B_X1_holds_3 smF
    rw [if_neg (nI_ge (by omega) (by omega)), d1, rd_cN, f_at d3 (by omega), rd_bN, hB i (by omega), rd_bN, nI_add, atF_nI (by omega) (by omega)]
    by_cases h : S.1 (d + 1) (st + i) = Bf i
    · rw [if_pos h, rd_letN, nI_1, ih (i + 1) m (by omega) (by omega), if_pos h]
    · rw [if_neg h, if_neg h]
      rfl
/-- the bytes of a PIECE, written -/
def wrF (f : Nat → Int32) (st n i : Nat) (Bf : Nat → Int32) : Nat → Int32 := fun j => if st + i ≤ j ∧ j < st + n then Bf (j - st) else f j
theorem wrF_step (f : Nat → Int32) (st n i : Nat) (Bf : Nat → Int32) (hi : i < n) : wrF (upd f (st + i) (Bf i)) st n (i + 1) Bf = wrF f st n i Bf := by
  funext j
  unfold wrF
  by_cases h : st + (i + 1) ≤ j ∧ j < st + n
  · rw [if_pos h, if_pos (by omega)]
  · rw [if_neg h]
    by_cases h2 : j = st + i
    · subst h2
      rw [if_pos (by omega), Nat.add_sub_cancel_left]
      simp [upd]
    · rw [if_neg (by omega)]
      simp [upd, h2]
theorem c_write {d st n cap : Nat} (hn : st + n ≤ cap) (hcap : cap ≤ 64) (s : Nat) (x : Int32) (Bf : Nat → Int32) (hB : ∀ i, i < n → ∀ S, F_X1_unpacked wF x (nI n) (nI i) S = some (Bf i, S)) :
    ∀ (r i m : Nat) (S : rd_S), gR S d 2 = some (d + 1) → wF.2.2 (d + 1) = cap → i + r = n → r < m → F_X1_take_62 wF m d (nI s) (nI n) x (nI st) (nI i) S =
      (rd_let (pI (pA S (d + 1) (wrF (S.1 (d + 1)) st n i Bf)) d 4 ((gI (pA S (d + 1) (wrF (S.1 (d + 1)) st n i Bf)) d 4) ||| (rd_shl 1 (nI s)))) fun s11 => rd_b (F_X1_fullLength wF d (nI n) s11) fun v13 s12 => rd_c (F_X1_finish wF d v13 s12) fun s14 => some s14) := by
  intro r
  induction r with
  | zero =>
    intro i m S d1 d3 hi hm
    obtain ⟨m, rfl⟩ : ∃ q, m = q + 1 := ⟨m - 1, by omega⟩
    show B_X1_take_62 wF (F_X1_take_62 wF m) d (nI s) (nI n) x (nI st) (nI i) S = _
    unfold B_X1_take_62
    rw [if_pos (nI_le (by omega) (by omega)), pA_id S (d + 1) _ (by funext j; unfold wrF; rw [if_neg (by omega)])]
  | succ r ih =>
    intro i m S d1 d3 hi hm
    obtain ⟨m, rfl⟩ : ∃ q, m = q + 1 := ⟨m - 1, by omega⟩
    have e := ih (i + 1) m (pI S (d + 1) (st + i) (Bf i)) d1 d3 (by omega) (by omega)
    rw [pA_pI] at e
    have e2 : (pI S (d + 1) (st + i) (Bf i)).1 (d + 1) = upd (S.1 (d + 1)) (st + i) (Bf i) := pA_self
    rw [e2, wrF_step _ _ _ _ _ (by omega)] at e
    rw [← e]
    show B_X1_take_62 wF (F_X1_take_62 wF m) d (nI s) (nI n) x (nI st) (nI i) S = _
    unfold B_X1_take_62
    rw [if_neg (nI_ge (by omega) (by omega)), d1, rd_cN, hB i (by omega), rd_bN, nI_add, d3, rd_iN _ (by omega) (by omega), nI_clamp (by omega), rd_letN, rd_letN, nI_1]
/-- the first byte in [a, a + r) that ends the whole -/
def endF (P : Nat → Bool) : Nat → Nat → Option Nat
  | 0, _ => none
  | r + 1, a => if P a = true then some a else endF P r (a + 1)
def oI (o : Option Nat) : Int32 := match o with
  | none => -1
  | some e => nI e
theorem endF_lt (P : Nat → Bool) : ∀ (r a e : Nat), endF P r a = some e → a ≤ e ∧ e < a + r := by
  intro r
  induction r with
  | zero => intro a e h; cases h
  | succ r ih =>
    intro a e h
    unfold endF at h
    by_cases hp : P a = true
    · rw [if_pos hp] at h; cases h; omega
    · rw [if_neg hp] at h; have := ih _ _ h; omega
theorem c_end {S : rd_S} {d pcs cap st n : Nat} (hd : Dc S d pcs cap) (hn : st + n ≤ cap) : ∀ (r i m : Nat), i + r = n → r < m → F_X1_endWithin_2 wF m d (nI st) (nI n) (nI (st + i)) S = some (oI (endF (fun j => decide (S.1 (d + 1) j = S.1 d 1)) r (st + i)), S) := by
  obtain ⟨d1, d2, d3, d4, d5, d6, d7⟩ := hd
  intro r
  induction r with
  | zero =>
    intro i m hi hm
    obtain ⟨m, rfl⟩ : ∃ q, m = q + 1 := ⟨m - 1, by omega⟩
    show B_X1_endWithin_2 wF (F_X1_endWithin_2 wF m) d (nI st) (nI n) (nI (st + i)) S = _
    unfold B_X1_endWithin_2
    rw [nI_add, if_pos (nI_le (by omega) (by omega))]
    rfl
  | succ r ih =>
    intro i m hi hm
    obtain ⟨m, rfl⟩ : ∃ q, m = q + 1 := ⟨m - 1, by omega⟩
    show B_X1_endWithin_2 wF (F_X1_endWithin_2 wF m) d (nI st) (nI n) (nI (st + i)) S = _
    unfold B_X1_endWithin_2 B_X1_endWithin_37
    rw [nI_add, if_neg (nI_ge (by omega) (by omega)), if_neg (nI_pos (by omega)), d1, rd_cN, d3, if_neg (nI_ge (by omega) (by omega)), rd_cN, d3, rd_iN _ (by omega) (by omega), nI_clamp (by omega)]
    unfold endF
    by_cases h : S.1 (d + 1) (st + i) = S.1 d 1
    · rw [if_pos h, if_pos (decide_eq_true h)]; rfl
    · rw [if_neg h, if_neg (fun q => h (of_decide_eq_true q)), rd_letN, nI_1]
      exact ih (i + 1) m (by omega) (by omega)
/-- how many bytes a FULL DRAFT gives -/
def fullF (mk P : Nat → Bool) (n : Nat) : Nat → Nat → Option Nat
  | 0, p => some (p * n)
  | r + 1, p => if mk p = true then (match endF P n (p * n) with
    | some e => some e
    | none => fullF mk P n r (p + 1)) else none
theorem nI_ne_neg {e : Nat} (h : e < 2 ^ 31) : ¬ oI (some e) = -1 := nI_ne_m1 h
theorem c_full {S : rd_S} {d pcs cap mk n : Nat} (hd : Dc S d pcs cap) (hn : pcs * n ≤ cap) (hn0 : n < 64) (hmk : S.1 d 4 = nI mk) : ∀ (r p m : Nat), p + r = pcs → r < m → F_X1_fullLength_2 wF m d (nI n) (nI p) S = some (oI (fullF (fun i => mk.testBit i) (fun j => decide (S.1 (d + 1) j = S.1 d 1)) n r p), S) := by
  have hd' := hd
  obtain ⟨d1, d2, d3, d4, d5, d6, d7⟩ := hd
  intro r
  induction r with
  | zero =>
    intro p m hp hm
    obtain ⟨m, rfl⟩ : ∃ q, m = q + 1 := ⟨m - 1, by omega⟩
    have : p = pcs := by omega
    subst this
    show B_X1_fullLength_2 wF (F_X1_fullLength_2 wF m) d (nI n) (nI p) S = _
    unfold B_X1_fullLength_2
    rw [show gI S d 0 = nI p from d5, if_pos (nI_le (Nat.le_refl _) (by omega)), pk_mul]
    rfl
  | succ r ih =>
    intro p m hp hm
    obtain ⟨m, rfl⟩ : ∃ q, m = q + 1 := ⟨m - 1, by omega⟩
    have hpn : p * n + n ≤ cap := by
      have : (p + 1) * n ≤ pcs * n := Nat.mul_le_mul_right n (by omega)
      rw [Nat.add_mul, Nat.one_mul] at this; omega
    show B_X1_fullLength_2 wF (F_X1_fullLength_2 wF m) d (nI n) (nI p) S = _
    unfold B_X1_fullLength_2 fullF
    rw [show gI S d 0 = nI pcs from d5, if_neg (nI_ge (by omega) (by omega)), c_marked hmk (by omega), rd_bN]
    by_cases hb : mk.testBit p = true
    · rw [if_pos hb, if_pos hb, if_neg (by decide), pk_mul]
      unfold F_X1_endWithin
      have := c_end hd' hpn n 0 rd_big (by omega) (by unfold rd_big; omega)
      rw [Nat.add_zero] at this
      rw [this, rd_bN]
      cases he : endF (fun j => decide (S.1 (d + 1) j = S.1 d 1)) n (p * n) with
      | some e =>
        have := endF_lt _ _ _ _ he
        rw [if_neg (nI_ne_neg (by omega))]
      | none =>
        rw [if_pos (show oI none = -1 from rfl), rd_letN, nI_1]
        exact ih (p + 1) m (by omega) (by omega)
    · rw [if_neg hb, if_neg hb, if_pos rfl]
      rfl
theorem fullF_le (mk P : Nat → Bool) (n cap pcs : Nat) (hn : pcs * n ≤ cap) : ∀ (r p e : Nat), p + r = pcs → fullF mk P n r p = some e → e ≤ cap := by
  intro r
  induction r with
  | zero => intro p e hp h; unfold fullF at h; cases h; have : p = pcs := by omega
            subst this; exact hn
  | succ r ih =>
    intro p e hp h
    have hpn : p * n + n ≤ cap := by
      have : (p + 1) * n ≤ pcs * n := Nat.mul_le_mul_right n (by omega)
      rw [Nat.add_mul, Nat.one_mul] at this; omega
    unfold fullF at h
    by_cases hb : mk p = true
    · rw [if_pos hb] at h
      cases he : endF P n (p * n) with
      | some e2 => rw [he] at h; cases h; have := endF_lt _ _ _ _ he; omega
      | none => rw [he] at h; exact ih (p + 1) e (by omega) h
    · rw [if_neg hb] at h; cases h
theorem c_finS {S : rd_S} {d pcs cap e : Nat} (hd : Dc S d pcs cap) (he : e ≤ cap) : F_X1_finish wF d (nI e) S = some (pI (pI (pI (pA S (d + 2) (va_cpy (S.1 (d + 1)) (S.1 (d + 2)) 0 0 e)) d 6 (nI e)) d 7 (S.1 d 7 + 1)) d 4 0) := by
  obtain ⟨d1, d2, d3, d4, d5, d6, d7⟩ := hd
  unfold F_X1_finish
  rw [if_neg (nI_pos (by omega)), d1, rd_cN, d3, if_pos (nI_le (by omega) (by omega)), rd_cN, d2, rd_cN, d3, d4]
  unfold rd_cp rd_cpy
  rw [if_pos (show ¬ (0 : Int32) < 0 ∧ ¬ (0 : Int32) < 0 ∧ ¬ nI e < 0 ∧ (0 : Int32).toNatClampNeg + (nI e).toNatClampNeg ≤ cap ∧ (0 : Int32).toNatClampNeg + (nI e).toNatClampNeg ≤ cap from ⟨by decide, by decide, nI_pos (by omega), by rw [nI_clamp (by omega), tn_0]; omega, by rw [nI_clamp (by omega), tn_0]; omega⟩)]
  rw [rd_letN, rd_letN, rd_letN, rd_letN]
  show some (pI (pI (pI (pA S (d + 2) (va_cpy (S.1 (d + 1)) (S.1 (d + 2)) (0 : Int32).toNatClampNeg (0 : Int32).toNatClampNeg (nI e).toNatClampNeg)) d 6 (nI e)) d 7 ((pI (pA S (d + 2) (va_cpy (S.1 (d + 1)) (S.1 (d + 2)) (0 : Int32).toNatClampNeg (0 : Int32).toNatClampNeg (nI e).toNatClampNeg)) d 6 (nI e)).1 d 7 + 1)) d 4 0) = _
  rw [nI_clamp (by omega), tn_0, pI_row (by decide), pA_ne (by omega)]
theorem c_finN {S : rd_S} {d : Nat} : F_X1_finish wF d (-1) S = some S := by
  unfold F_X1_finish B_X1_finish_13
  rw [if_pos (by decide)]
