/-! Int32 by its bits: a starting text of the kit (laws/BITS.to-paste). -/
def bt (x : Int32) (i : Nat) : Bool := x.toBitVec.getLsbD i
theorem b_ext {x y : Int32} (h : ∀ i, i < 32 → bt x i = bt y i) : x = y := Int32.toBitVec_inj.mp (BitVec.eq_of_getLsbD_eq (fun i hi => h i hi))
theorem b_or (x y : Int32) (i : Nat) : bt (x ||| y) i = (bt x i || bt y i) := by unfold bt; rw [Int32.toBitVec_or, BitVec.getLsbD_or]
theorem b_and (x y : Int32) (i : Nat) : bt (x &&& y) i = (bt x i && bt y i) := by unfold bt; rw [Int32.toBitVec_and, BitVec.getLsbD_and]
theorem b_xor (x y : Int32) (i : Nat) : bt (x ^^^ y) i = (bt x i ^^ bt y i) := by unfold bt; rw [Int32.toBitVec_xor, BitVec.getLsbD_xor]
theorem b_big {x : Int32} {i : Nat} (h : 32 ≤ i) : bt x i = false := BitVec.getLsbD_of_ge _ _ h
theorem b_255 (i : Nat) : bt 255 i = decide (i < 8) := by
  rcases Nat.lt_or_ge i 32 with h | h
  · exact (by decide +kernel : ∀ i, i < 32 → bt 255 i = decide (i < 8)) i h
  · rw [b_big h, decide_eq_false (by omega)]
theorem b_65535 (i : Nat) : bt 65535 i = decide (i < 16) := by
  rcases Nat.lt_or_ge i 32 with h | h
  · exact (by decide +kernel : ∀ i, i < 32 → bt 65535 i = decide (i < 16)) i h
  · rw [b_big h, decide_eq_false (by omega)]
theorem b_m1 : ∀ i, i < 32 → bt (-1) i = true := by decide +kernel
theorem b_0 (i : Nat) : bt 0 i = false := BitVec.getLsbD_zero
theorem s_l : ∀ n, n < 32 → ((nI n &&& 31).toBitVec.smod 32).toNat = n := by decide +kernel
theorem s_u : ∀ n, n < 32 → (((nI n).toUInt32 &&& Int32.toUInt32 31).toBitVec % 32).toNat = n := by decide +kernel
theorem b_shl (n : Nat) (hn : n < 32) (x : Int32) {i : Nat} (hi : i < 32) : bt (x <<< (nI n &&& 31)) i = (decide (n ≤ i) && bt x (i - n)) := by
  unfold bt
  rw [Int32.toBitVec_shiftLeft]
  show (x.toBitVec <<< ((nI n &&& 31).toBitVec.smod 32).toNat).getLsbD i = _
  rw [s_l n hn, BitVec.getLsbD_shiftLeft]
  rcases Nat.lt_or_ge i n with h | h
  · simp [h, Nat.not_le.mpr h]
  · simp [hi, h, Nat.not_lt.mpr h]
theorem b_ushr (n : Nat) (hn : n < 32) (x : Int32) (i : Nat) : bt ((x.toUInt32 >>> ((nI n).toUInt32 &&& Int32.toUInt32 31)).toInt32) i = bt x (n + i) := by
  show (x.toUInt32 >>> ((nI n).toUInt32 &&& Int32.toUInt32 31)).toBitVec.getLsbD i = x.toUInt32.toBitVec.getLsbD (n + i)
  rw [UInt32.toBitVec_shiftRight]
  show (x.toUInt32.toBitVec >>> (((nI n).toUInt32 &&& Int32.toUInt32 31).toBitVec % 32).toNat).getLsbD i = _
  rw [s_u n hn, BitVec.getLsbD_ushiftRight]
theorem b_sshr (n : Nat) (hn : n < 32) (x : Int32) {i : Nat} (hi : i < 32) : bt (x >>> (nI n &&& 31)) i = if n + i < 32 then bt x (n + i) else bt x 31 := by
  unfold bt
  rw [Int32.toBitVec_shiftRight]
  show (x.toBitVec.sshiftRight ((nI n &&& 31).toBitVec.smod 32).toNat).getLsbD i = _
  rw [s_l n hn, BitVec.getLsbD_sshiftRight, BitVec.msb_eq_getLsbD_last]
  simp [hi]
/-! REST, LETTERS, BURSTS: both sides' loops are these functions. -/
def rs (i : Nat) (x : Int32) : Int32 := if bt x i = true then x ^^^ rd_shl 1465 (nI (i - 10)) else x
def rdown : Nat → Int32 → Int32
  | 0, x => x
  | k + 1, x => rdown k (rs (10 + k) x)
def restF (x : Int32) : Int32 := rdown 16 x
theorem bt_1 (i : Nat) : bt 1 i = decide (i = 0) := by
  rcases Nat.lt_or_ge i 32 with h | h
  · exact (by decide +kernel : ∀ i, i < 32 → bt 1 i = decide (i = 0)) i h
  · rw [b_big h, decide_eq_false (by omega)]
theorem and1 (x : Int32) : x &&& 1 = if bt x 0 = true then 1 else 0 := by
  apply b_ext
  intro i hi
  rw [b_and, bt_1]
  by_cases h : i = 0
  · subst h
    cases hx : bt x 0 <;> simp [bt_1, b_0]
  · by_cases hx : bt x 0 = true <;> simp [h, hx, bt_1, b_0]
theorem ush1 (x : Int32) {i : Nat} (hi : i < 32) : (rd_ush x (nI i) &&& 1 = 1) ↔ bt x i = true := by
  rw [and1]
  have e : bt (rd_ush x (nI i)) 0 = bt x i := by unfold rd_ush; rw [b_ushr i hi]; rfl
  rw [e]
  cases bt x i <;> simp
theorem shr1 (x : Int32) {i : Nat} (hi : i < 32) : (rd_shr x (nI i) &&& 1 = 1) ↔ bt x i = true := by
  rw [and1]
  have e : bt (rd_shr x (nI i)) 0 = bt x i := by unfold rd_shr; rw [b_sshr i hi x (by omega)]; simp [hi]
  rw [e]
  cases bt x i <;> simp
theorem nI_m1 (k : Nat) : nI (k + 1) + (-1) = nI k := pk_m1 k
theorem nI_s10 (k : Nat) : nI (10 + k) - 10 = nI (10 + k - 10) := pk_sub (b := 10) (by omega)
theorem rest_X11 (w : rd_W) (S : rd_S) : ∀ (k n : Nat) (x : Int32), k ≤ 16 → k < n → F_X11_rest_5 w n x (nI (9 + k)) S = some (rdown k x, S) := by
  intro k
  induction k with
  | zero =>
    intro n x _ hn
    obtain ⟨m, rfl⟩ : ∃ m, n = m + 1 := ⟨n - 1, by omega⟩
    show B_X11_rest_5 w (F_X11_rest_5 w m) x (nI 9) S = _
    unfold B_X11_rest_5
    rw [if_pos (by decide)]
    rfl
  | succ k ih =>
    intro n x hk hn
    obtain ⟨m, rfl⟩ : ∃ m, n = m + 1 := ⟨n - 1, by omega⟩
    show B_X11_rest_5 w (F_X11_rest_5 w m) x (nI (9 + (k + 1))) S = _
    have e0 : 9 + (k + 1) = 10 + k := by omega
    have e1 : 10 + k = (9 + k) + 1 := by omega
    unfold B_X11_rest_5
    rw [e0, if_neg (fun h => by have := (nI_ltI (b := 10) (by omega) (by omega)).mp h; omega)]
    have hs : ∀ y, B_X11_rest_31 w (F_X11_rest_5 w m) y (nI (10 + k)) S = some (rdown k y, S) := fun y => by
      unfold B_X11_rest_31
      show F_X11_rest_5 w m y (nI (10 + k) + (-1)) S = _
      rw [e1, nI_m1]
      exact ih m y (by omega) (by omega)
    simp only [ush1 x (i := 10 + k) (by omega), rd_let, hs, nI_s10]
    show _ = some (rdown k (rs (10 + k) x), S)
    unfold rs
    by_cases h : bt x (10 + k) = true
    · rw [if_pos h, if_pos h]
    · rw [if_neg h, if_neg h]
theorem rest_X12 (w : rd_W) (S : rd_S) : ∀ (k n : Nat) (x : Int32), k ≤ 16 → k < n → F_X12_rest_5 w n x (nI (9 + k)) S = some (rdown k x, S) := by
  intro k
  induction k with
  | zero =>
    intro n x _ hn
    obtain ⟨m, rfl⟩ : ∃ m, n = m + 1 := ⟨n - 1, by omega⟩
    show B_X12_rest_5 w (F_X12_rest_5 w m) x (nI 9) S = _
    unfold B_X12_rest_5
    rw [if_pos (by decide)]
    rfl
  | succ k ih =>
    intro n x hk hn
    obtain ⟨m, rfl⟩ : ∃ m, n = m + 1 := ⟨n - 1, by omega⟩
    show B_X12_rest_5 w (F_X12_rest_5 w m) x (nI (9 + (k + 1))) S = _
    have e0 : 9 + (k + 1) = 10 + k := by omega
    have e1 : 10 + k = (9 + k) + 1 := by omega
    unfold B_X12_rest_5
    rw [e0, if_neg (fun h => by have := (nI_ltI (b := 10) (by omega) (by omega)).mp h; omega)]
    have hs : ∀ y, B_X12_rest_31 w (F_X12_rest_5 w m) y (nI (10 + k)) S = some (rdown k y, S) := fun y => by
      unfold B_X12_rest_31
      show F_X12_rest_5 w m y (nI (10 + k) + (-1)) S = _
      rw [e1, nI_m1]
      exact ih m y (by omega) (by omega)
    simp only [shr1 x (i := 10 + k) (by omega), rd_let, hs, nI_s10]
    show _ = some (rdown k (rs (10 + k) x), S)
    unfold rs
    by_cases h : bt x (10 + k) = true
    · rw [if_pos h, if_pos h]
    · rw [if_neg h, if_neg h]
theorem f_X11_rest (w : rd_W) (x : Int32) (S : rd_S) : F_X11_rest w x S = some (restF x, S) := rest_X11 w S 16 rd_big x (by omega) (by unfold rd_big; omega)
theorem f_X12_rest (w : rd_W) (x : Int32) (S : rd_S) : F_X12_rest w x S = some (restF x, S) := rest_X12 w S 16 rd_big x (by omega) (by unfold rd_big; omega)
theorem rs_xor (i : Nat) (x y : Int32) : rs i (x ^^^ y) = rs i x ^^^ rs i y := by
  unfold rs
  rw [b_xor]
  apply b_ext
  intro j hj
  cases hx : bt x i <;> cases hy : bt y i <;> simp [b_xor]
  all_goals (cases bt x j <;> cases bt y j <;> cases bt (rd_shl 1465 (nI (i - 10))) j <;> rfl)
theorem rdown_xor : ∀ (k : Nat) (x y : Int32), rdown k (x ^^^ y) = rdown k x ^^^ rdown k y
  | 0, _, _ => rfl
  | k + 1, x, y => by
    show rdown k (rs (10 + k) (x ^^^ y)) = rdown k (rs (10 + k) x) ^^^ rdown k (rs (10 + k) y)
    rw [rs_xor, rdown_xor k]
theorem restF_xor (x y : Int32) : restF (x ^^^ y) = restF x ^^^ restF y := rdown_xor 16 x y
/-- the LETTER whose OFFSET is r -/
def letF (r : Int32) : Int32 := if r = 252 then 0 else if r = 408 then 1 else if r = 360 then 2 else if r = 436 then 3 else if r = 848 then 4 else -1
theorem letterOf_X11 (w : rd_W) (r : Int32) (S : rd_S) (n : Nat) : F_X11_letterOf_7 w (n + 6) r 0 S = some (letF r, S) := by
  show B_X11_letterOf_7 w (B_X11_letterOf_7 w (B_X11_letterOf_7 w (B_X11_letterOf_7 w (B_X11_letterOf_7 w (B_X11_letterOf_7 w (F_X11_letterOf_7 w n)))))) r 0 S = _
  simp only [B_X11_letterOf_7, rd_let, rd_i, letF]
  by_cases h0 : r = 252
  · subst h0; rfl
  by_cases h1 : r = 408
  · subst h1; rfl
  by_cases h2 : r = 360
  · subst h2; rfl
  by_cases h3 : r = 436
  · subst h3; rfl
  by_cases h4 : r = 848
  · subst h4; rfl
  rw [if_neg h0, if_neg h1, if_neg h2, if_neg h3, if_neg h4]
  rw [if_neg (by decide), if_pos (by decide), if_neg (fun h => h0 h.symm), if_neg (by decide), if_pos (by decide), if_neg (fun h => h1 h.symm), if_neg (by decide), if_pos (by decide), if_neg (fun h => h2 h.symm), if_neg (by decide), if_pos (by decide), if_neg (fun h => h3 h.symm), if_neg (by decide), if_pos (by decide), if_neg (fun h => h4 h.symm), if_pos (by decide)]
theorem f_X11_letterOf (w : rd_W) (x : Int32) (S : rd_S) : F_X11_letterOf w x S = some (letF (restF x), S) := by
  unfold F_X11_letterOf
  rw [f_X11_rest, rd_bS]
  exact letterOf_X11 w _ S 99994
def offF (l : Int32) : Int32 := if l = 0 then 252 else if l = 1 then 408 else if l = 2 then 360 else if l = 3 then 436 else 848
theorem f_X12_offset (w : rd_W) (l : Int32) (S : rd_S) : F_X12_offset w l S = some (offF l, S) := by
  unfold F_X12_offset B_X12_offset_46 offF
  by_cases h0 : l = 0
  · simp [h0]
  by_cases h1 : l = 1
  · simp [h0, h1]
  by_cases h2 : l = 2
  · simp [h0, h1, h2]
  by_cases h3 : l = 3
  · simp [h0, h1, h2, h3]
  simp [h0, h1, h2, h3]
theorem f_X12_isGood (w : rd_W) (x l : Int32) (S : rd_S) : F_X12_isGood w x l S = some (if restF x = offF l then 1 else 0, S) := by
  unfold F_X12_isGood B_X12_isGood_16
  rw [f_X12_rest, rd_bS, f_X12_offset, rd_bS]
  by_cases h : restF x = offF l
  · rw [if_pos h, if_pos h, rd_zT _ (by decide)]
  · rw [if_neg h, if_neg h, rd_zT _ (by decide)]
theorem letterOf_X12 (w : rd_W) (x : Int32) (S : rd_S) (n : Nat) : F_X12_letterOf_2 w (n + 6) x 0 S = some (letF (restF x), S) := by
  show B_X12_letterOf_2 w (B_X12_letterOf_2 w (B_X12_letterOf_2 w (B_X12_letterOf_2 w (B_X12_letterOf_2 w (B_X12_letterOf_2 w (F_X12_letterOf_2 w n)))))) x 0 S = _
  simp only [B_X12_letterOf_2, rd_let, f_X12_isGood, rd_bS, letF]
  generalize restF x = r
  by_cases h0 : r = 252
  · subst h0; rfl
  by_cases h1 : r = 408
  · subst h1; rfl
  by_cases h2 : r = 360
  · subst h2; rfl
  by_cases h3 : r = 436
  · subst h3; rfl
  by_cases h4 : r = 848
  · subst h4; rfl
  rw [if_neg h0, if_neg h1, if_neg h2, if_neg h3, if_neg h4]
  rw [show offF 0 = 252 from rfl, show offF (0 + 1) = 408 from rfl, show offF (0 + 1 + 1) = 360 from rfl, show offF (0 + 1 + 1 + 1) = 436 from rfl, show offF (0 + 1 + 1 + 1 + 1) = 848 from rfl]
  rw [if_neg h0, if_neg h1, if_neg h2, if_neg h3, if_neg h4]
  rw [if_neg (by decide), if_pos (by decide), if_neg (by decide), if_pos (by decide), if_neg (by decide), if_pos (by decide), if_neg (by decide), if_pos (by decide), if_neg (by decide), if_pos (by decide), if_pos (by decide)]
theorem f_X12_letterOf (w : rd_W) (x : Int32) (S : rd_S) : F_X12_letterOf w x S = some (letF (restF x), S) := letterOf_X12 w x S 99994
