/-! The relation of the class's rows (of S) to the model's rows (of M). -/
def b2i (b : Bool) : Int32 := if b = true then 1 else 0
/-- the latest 26 bits, d bits ago: h k is the k-th latest bit -/
def wn (h : Nat → Bool) (d : Nat) : Nat → Nat
  | 0 => 0
  | k + 1 => wn h d k + (if h (d + k) = true then 2 ^ k else 0)
def WN (h : Nat → Bool) (d : Nat) : Nat := wn h d 26
def plcF (v : Int32) : Int32 := if letF (restF v) = 4 then 2 else letF (restF v)
/-- a BLOCK as it was looked at: known, or not -/
def gok (wd kd : Int32) : Prop := ((kd = 0 ∨ kd = 1) ∧ ∃ v : Nat, v < 65536 ∧ wd = nI v) ∨ ((kd = 2 ∨ kd = 3) ∧ wd = -1)
def RCa (S M : rd_S) : Prop := S.1 2 4 = M.1 76 1 ∧ S.1 2 5 = M.1 76 2 ∧ (∃ L : Nat, L < 6 ∧ M.1 76 1 = nI L) ∧ (∃ l : Nat, 1 ≤ l ∧ l ≤ 50 ∧ M.1 76 2 = nI l)
def RCb (S M : rd_S) : Prop := S.1 2 11 = M.1 76 6 ∧ (∀ j, j < 3 → S.1 9 j = M.1 80 j) ∧ S.1 2 12 = M.1 76 16 ∧ S.1 2 13 = M.1 76 17 ∧ S.1 2 14 = M.1 76 14 ∧ S.1 2 15 = M.1 76 15
def RCw (cnt : Nat) (S M : rd_S) : Prop := M.1 76 11 = nI cnt ∧ S.1 6 1 = nI (min cnt 50) ∧ S.1 6 2 = nI (cnt % 50) ∧ S.1 6 3 = M.1 76 12 ∧ ∀ j, j < min cnt 50 → S.1 7 j = if M.1 79 j = 2 then 1 else 0
def RCh (came : Nat) (h : Nat → Bool) (S M : rd_S) : Prop := S.1 2 6 = nI (WN h 0) ∧ M.1 76 5 = nI came ∧ (∀ k, k < came → k < 128 → M.1 77 ((came - 1 - k) % 128) = b2i (h k)) ∧
  ∃ nw, nw < 79 ∧ S.1 2 7 = nI nw ∧ (M.1 76 7 = 0 → ∀ d, d < came → d < 79 → S.1 8 ((nw + 79 - d) % 79) = nI (WN h d))
def RCs (cnt came : Nat) (h : Nat → Bool) (S M : rd_S) : Prop := S.1 2 10 = -1 ∧ S.1 2 8 = nI (min came 104) ∧ S.1 2 9 = 0 ∧ (∀ d, d + 26 ≤ came → d < 128 → M.1 78 ((came - 1 - d) % 128) = plcF (nI (WN h d))) ∧ cnt = 0 ∧ M.1 76 12 = 0 ∧ (M.1 76 20 = 0 ∨ M.1 76 20 = 1)
def RCp (p : Nat) (S M : rd_S) : Prop := (∀ k, k < p → S.1 4 k = M.1 81 k ∧ S.1 5 k = M.1 82 k ∧ gok (M.1 81 k) (M.1 82 k)) ∧ (0 < p → ∀ k, p ≤ k → k < 4 → S.1 4 k = -1 ∧ S.1 5 k = 3) ∧ (0 < p → S.1 3 2 = if p = 3 then M.1 76 20 else 0) ∧ (M.1 76 20 = 0 ∨ M.1 76 20 = 1)
def RCy (came : Nat) (S M : rd_S) : Prop := ∃ p v : Nat, p < 4 ∧ v < 26 ∧ 26 ≤ came ∧ M.1 76 8 = nI p ∧ S.1 2 10 = nI p ∧ M.1 76 9 = nI v ∧ S.1 2 9 = nI v ∧ RCp p S M
/-- bits, SEARCH and SYNC; nothing of them is beyond N -/
def RCr (N : Nat) (S M : rd_S) : Prop := ∃ (cnt came : Nat) (h : Nat → Bool), cnt ≤ N ∧ came ≤ N ∧ RCa S M ∧ RCb S M ∧ RCw cnt S M ∧ RCh came h S M ∧ ((M.1 76 7 = 0 ∧ RCs cnt came h S M) ∨ (M.1 76 7 = 1 ∧ RCy came S M))
def RCg (S M : rd_S) : Prop := (M.1 76 24 = 0 ∧ ∀ k, k < 4 → S.1 11 k = -1 ∧ S.1 12 k = -1) ∨
  (M.1 76 24 = 1 ∧ (∀ k, k < 4 → S.1 11 k = M.1 83 k ∧ S.1 12 k = M.1 84 k ∧ gok (M.1 83 k) (M.1 84 k)) ∧ M.1 76 23 = if M.1 83 1 = -1 then -1 else rd_ush (M.1 83 1) 11)
def RCk (S M : rd_S) : Prop := ∀ j, j < 10 → S.1 14 j = M.1 85 j
/-- a DRAFT at d (its bytes at d + 1, what is finished at d + 2) against the model's row: pcs PIECES of n bytes, at most cap bytes -/
def RD (d row pcs n cap : Nat) (S M : rd_S) : Prop := ∃ mk ln : Nat, mk < 2 ^ pcs ∧ ln ≤ cap ∧ S.1 d 4 = nI mk ∧ M.1 88 row = nI mk ∧ S.1 d 6 = nI ln ∧ (M.1 90 row = nI ln ∨ (M.1 90 row = -1 ∧ ln = 0)) ∧ (∀ j, j < ln → S.1 (d + 2) j = M.1 89 (64 * row + j)) ∧
  (∀ s k, s < pcs → k < n → mk.testBit s = true → S.1 (d + 1) (s * n + k) = M.1 87 (64 * row + (s * n + k)) ∧ ¬ S.1 (d + 1) (s * n + k) = -1)
def RCn (S M : rd_S) : Prop := S.1 15 0 = 4 ∧ S.1 15 1 = -1 ∧ S.1 15 7 = M.1 86 0 ∧ RD 15 0 4 2 8 S M
def RCx (S M : rd_S) : Prop := S.1 18 0 = 16 ∧ S.1 18 1 = 13 ∧ S.1 18 7 = M.1 86 1 ∧ ((S.1 18 5 = -1 ∧ M.1 76 31 = -1 ∧ S.1 18 4 = 0 ∧ RD 18 1 16 4 64 S M) ∨ ∃ f v : Nat, f < 2 ∧ v < 2 ∧ S.1 18 5 = nI (2 * v + f) ∧ M.1 76 31 = nI (f * 2 + v) ∧ RD 18 1 16 (if v = 0 then 4 else 2) 64 S M)
def RCi (S M : rd_S) : Prop := S.1 21 0 = 2 ∧ S.1 21 1 = -1 ∧ S.1 21 7 = M.1 86 2 ∧ RD 21 2 2 4 8 S M ∧ S.1 21 5 = M.1 76 32 ∧ ((M.1 76 32 = -1 ∧ S.1 21 4 = 0) ∨ ∃ f : Nat, f < 2 ∧ M.1 76 32 = nI f)
def RCl (S M : rd_S) : Prop := S.1 24 7 = M.1 86 3 ∧ S.1 24 2 = M.1 76 38 ∧ S.1 24 3 = M.1 76 39 ∧ (∃ ln : Nat, ln ≤ 25 ∧ S.1 24 6 = nI ln ∧ (M.1 76 35 = nI ln ∨ (M.1 76 35 = -1 ∧ ln = 0)) ∧ ∀ j, j < ln → S.1 26 j = M.1 91 j) ∧
  ((M.1 76 38 = 0 ∧ M.1 76 39 = 0) ∨ (M.1 76 38 = 1 ∧ (M.1 76 39 = 0 ∨ M.1 76 39 = 1) ∧ ∃ wd g : Nat, wd ≤ 25 ∧ g < wd ∧ S.1 24 4 = nI wd ∧ M.1 76 36 = nI wd ∧ S.1 24 5 = nI g ∧ M.1 76 37 = nI g ∧ ∀ j, j < g → S.1 25 j = M.1 92 j))
def RCt (N : Nat) (S M : rd_S) : Prop := S.1 27 4 = M.1 86 4 ∧ ((M.1 76 50 = 0 ∧ S.1 27 4 = 0) ∨ (M.1 76 50 = 1 ∧ ∃ q D hh mm o : Nat, 1 ≤ q ∧ q ≤ N ∧ S.1 27 4 = nI q ∧ D < 131072 ∧ hh < 24 ∧ mm < 60 ∧ o ≤ 28 ∧ M.1 76 46 = nI D ∧ M.1 76 47 = nI hh ∧ M.1 76 48 = nI mm ∧ (M.1 76 49 = nI o ∨ M.1 76 49 = -nI o) ∧ S.1 27 0 = M.1 76 46 ∧ S.1 27 1 = M.1 76 47 ∧ S.1 27 2 = M.1 76 48 ∧ S.1 27 3 = M.1 76 49))
def RCo (S M : rd_S) : Prop := ∃ sz : Nat, sz ≤ 8 ∧ S.1 28 3 = nI sz ∧ M.1 76 43 = nI sz ∧ ∀ j, j < sz → S.1 29 j = M.1 93 j ∧ S.1 30 j = M.1 94 j ∧ S.1 31 j = M.1 95 j
def RCq (S M : rd_S) : Prop := S.1 74 1 = M.1 86 5 ∧ ((M.1 76 45 = 0 ∧ ∀ j, j < 8 → S.1 75 j = -1) ∨ (M.1 76 45 = 1 ∧ (∀ j, j < 8 → S.1 75 j = M.1 96 j) ∧ ∀ j, j < 8 → ∃ v : Nat, v < 64 ∧ M.1 96 j = nI v))
/-- the OTHERS: which row stands where -/
def RCz (S M : rd_S) : Prop := ∃ (sz : Nat) (π : Nat → Nat), sz ≤ 8 ∧ S.1 32 1 = nI sz ∧ M.1 76 53 = nI sz ∧ (∀ j, j < 8 → π j < 8 ∧ S.2 33 j = some (34 + 5 * π j)) ∧ (∀ i j, i < 8 → j < 8 → π i = π j → i = j) ∧
  (∀ k, k < 8 → S.1 (34 + 5 * k + 2) 0 = 4 ∧ S.1 (34 + 5 * k + 2) 1 = -1) ∧
  ∀ j, j < sz → (∀ i, i < 11 → S.1 (34 + 5 * π j + 1) i = M.1 97 (11 * j + i)) ∧ S.1 (34 + 5 * π j + 2) 7 = M.1 98 j ∧ RD (34 + 5 * π j + 2) (3 + j) 4 2 8 S M
/-- what GROUPS tell -/
def RCS (N : Nat) (S M : rd_S) : Prop := RCk S M ∧ RCn S M ∧ RCx S M ∧ RCi S M ∧ RCl S M ∧ RCt N S M ∧ RCo S M ∧ RCq S M ∧ RCz S M
def RC (N : Nat) (S M : rd_S) : Prop := Sh S ∧ Sh M ∧ RCr N S M ∧ RCg S M ∧ RCS N S M
/-! reading behind a write -/
theorem pI1 (S : rd_S) (a j : Nat) (v : Int32) (b k : Nat) : (pI S a j v).1 b k = if b = a then (if k = j then v else S.1 b k) else S.1 b k := gI_pI S a j v b k
theorem pI2 (S : rd_S) (a j : Nat) (v : Int32) : (pI S a j v).2 = S.2 := rfl
theorem pA1 (S : rd_S) (a : Nat) (f : Nat → Int32) (b k : Nat) : (pA S a f).1 b k = if b = a then f k else S.1 b k := gI_pA S a f b k
theorem pA2 (S : rd_S) (a : Nat) (f : Nat → Int32) : (pA S a f).2 = S.2 := rfl
theorem pI_ne {S : rd_S} {a j : Nat} {v : Int32} {b : Nat} (h : b ≠ a) : (pI S a j v).1 b = S.1 b := by
  funext k; rw [pI1, if_neg h]
theorem pI_row {S : rd_S} {a j : Nat} {v : Int32} {k : Nat} (h : k ≠ j) : (pI S a j v).1 a k = S.1 a k := by rw [pI1, if_pos rfl, if_neg h]
theorem pI_self {S : rd_S} {a j : Nat} {v : Int32} : (pI S a j v).1 a j = v := by rw [pI1, if_pos rfl, if_pos rfl]
theorem pA_ne {S : rd_S} {a : Nat} {f : Nat → Int32} {b : Nat} (h : b ≠ a) : (pA S a f).1 b = S.1 b := by
  funext k; rw [pA1, if_neg h]
theorem pA_self {S : rd_S} {a : Nat} {f : Nat → Int32} : (pA S a f).1 a = f := by
  funext k; rw [pA1, if_pos rfl]
/-- RdsDesk.at -/
def atF (f : Nat → Int32) (n : Nat) (x : Int32) : Int32 := if 0 ≤ x.toInt ∧ x.toInt < n then f x.toNatClampNeg else -1
theorem i32_0 : (0 : Int32).toInt = 0 := by decide
theorem f_at {a n : Nat} (hl : wF.2.2 a = n) (hn : n < 2 ^ 31) (x : Int32) (S : rd_S) : F_X11_at wF a x S = some (atF (S.1 a) n x, S) := by
  unfold F_X11_at B_X11_at_10 B_X11_at_17 atF
  rw [hl]
  by_cases h0 : x < 0
  · rw [if_pos h0, if_neg]
    rw [Int32.lt_iff_toInt_lt, i32_0] at h0
    omega
  · rw [if_neg h0]
    rw [Int32.lt_iff_toInt_lt, i32_0] at h0
    by_cases h1 : x < nI n
    · rw [if_pos h1]
      rw [Int32.lt_iff_toInt_lt, nI_toInt hn] at h1
      rw [rd_iT _ (vp_in_iff.mpr ⟨by omega, h1⟩), if_pos ⟨by omega, h1⟩]
    · rw [if_neg h1]
      rw [Int32.lt_iff_toInt_lt, nI_toInt hn] at h1
      rw [if_neg (by omega)]
theorem atF_nI {f : Nat → Int32} {n k : Nat} (h : k < n) (hn : n < 2 ^ 31) : atF f n (nI k) = f k := by
  unfold atF
  rw [nI_toInt (by omega), nI_clamp (by omega), if_pos ⟨by omega, by omega⟩]
theorem atF_neg {f : Nat → Int32} {n : Nat} {x : Int32} (h : x < 0) : atF f n x = -1 := by
  unfold atF
  rw [Int32.lt_iff_toInt_lt, i32_0] at h
  rw [if_neg (by omega)]
theorem atF_big {f : Nat → Int32} {n : Nat} {x : Int32} (h : nI n ≤ x) (hn : n < 2 ^ 31) : atF f n x = -1 := by
  unfold atF
  rw [Int32.le_iff_toInt_le, nI_toInt hn] at h
  rw [if_neg (by omega)]
