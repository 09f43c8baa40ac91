/-! A DRAFT, the model's side; FULL on both sides. -/
def feF (mk P : Nat → Bool) (n : Nat) : Nat → Nat → Option (Nat × Nat)
  | 0, _ => none
  | r + 1, p => if mk p = true then (match endF P n (p * n) with
    | some e => some (p, e)
    | none => feF mk P n r (p + 1)) else feF mk P n r (p + 1)
def allF (mk : Nat → Bool) : Nat → Nat → Bool
  | 0, _ => true
  | r + 1, p => if mk p = true then allF mk r (p + 1) else false
theorem feF_ge (mk P : Nat → Bool) (n : Nat) : ∀ (r p s e : Nat), feF mk P n r p = some (s, e) → p ≤ s ∧ s < p + r ∧ s * n ≤ e ∧ e < s * n + n := by
  intro r
  induction r with
  | zero => intro p s e h; cases h
  | succ r ih =>
    intro p s e h
    unfold feF at h
    by_cases hm : mk p = true
    · rw [if_pos hm] at h
      cases he : endF P n (p * n) with
      | some e2 => rw [he] at h; cases h; have := endF_lt _ _ _ _ he; omega
      | none => rw [he] at h; have := ih _ _ _ h; omega
    · rw [if_neg hm] at h; have := ih _ _ _ h; omega
/-- what the model makes of it -/
def mfF (mk P : Nat → Bool) (n r p : Nat) : Option Nat := match feF mk P n r p with
  | some (s, e) => if allF mk (s + 1 - p) p = true then some e else none
  | none => if allF mk r p = true then some ((p + r) * n) else none
theorem full_eq (mk P : Nat → Bool) (n : Nat) : ∀ (r p : Nat), fullF mk P n r p = mfF mk P n r p := by
  intro r
  induction r with
  | zero => intro p; rfl
  | succ r ih =>
    intro p
    by_cases hm : mk p = true
    · cases he : endF P n (p * n) with
      | some e =>
        have e1 : feF mk P n (r + 1) p = some (p, e) := by rw [feF, if_pos hm, he]
        have e2 : allF mk (p + 1 - p) p = true := by rw [Nat.add_sub_cancel_left, allF, if_pos hm, allF]
        rw [fullF, if_pos hm, he, mfF, e1]
        show some e = if allF mk (p + 1 - p) p = true then some e else none
        rw [if_pos e2]
      | none =>
        have e1 : feF mk P n (r + 1) p = feF mk P n r (p + 1) := by rw [feF, if_pos hm, he]
        have e3 : ∀ q, allF mk (q + 1) p = allF mk q (p + 1) := fun q => by rw [allF, if_pos hm]
        rw [fullF, if_pos hm, he, mfF, e1]
        show fullF mk P n r (p + 1) = _
        rw [ih (p + 1), mfF]
        cases hf : feF mk P n r (p + 1) with
        | some q =>
          obtain ⟨s, e⟩ := q
          have := feF_ge _ _ _ _ _ _ _ hf
          show (if allF mk (s + 1 - (p + 1)) (p + 1) = true then some e else none) = if allF mk (s + 1 - p) p = true then some e else none
          rw [show s + 1 - p = (s + 1 - (p + 1)) + 1 by omega, e3]
        | none =>
          show (if allF mk r (p + 1) = true then some ((p + 1 + r) * n) else none) = if allF mk (r + 1) p = true then some ((p + (r + 1)) * n) else none
          rw [e3, show p + 1 + r = p + (r + 1) by omega]
    · have e1 : feF mk P n (r + 1) p = feF mk P n r (p + 1) := by rw [feF, if_neg hm]
      have e3 : ∀ q, allF mk (q + 1) p = false := fun q => by rw [allF, if_neg hm]
      rw [fullF, if_neg hm, mfF, e1]
      cases hf : feF mk P n r (p + 1) with
      | some q =>
        obtain ⟨s, e⟩ := q
        have := feF_ge _ _ _ _ _ _ _ hf
        show none = if allF mk (s + 1 - p) p = true then some e else none
        rw [show s + 1 - p = (s + 1 - (p + 1)) + 1 by omega, e3, if_neg (by decide)]
      | none =>
        show none = if allF mk (r + 1) p = true then some ((p + (r + 1)) * n) else none
        rw [e3, if_neg (by decide)]
theorem endF_cg {P P' : Nat → Bool} : ∀ (r a : Nat), (∀ j, a ≤ j → j < a + r → P j = P' j) → endF P r a = endF P' r a := by
  intro r
  induction r with
  | zero => intro a _; rfl
  | succ r ih =>
    intro a h
    unfold endF
    rw [h a (Nat.le_refl _) (by omega), ih (a + 1) (fun j h1 h2 => h j (by omega) (by omega))]
theorem feF_cg {mk P P' : Nat → Bool} {n : Nat} : ∀ (r p : Nat), (∀ q i, p ≤ q → q < p + r → i < n → mk q = true → P (q * n + i) = P' (q * n + i)) → feF mk P n r p = feF mk P' n r p := by
  intro r
  induction r with
  | zero => intro p _; rfl
  | succ r ih =>
    intro p h
    unfold feF
    rw [ih (p + 1) (fun q i h1 h2 => h q i (by omega) (by omega))]
    by_cases hm : mk p = true
    · rw [if_pos hm, if_pos hm, endF_cg (P := P) (P' := P') n (p * n) (fun j h1 h2 => by
        have := h p (j - p * n) (Nat.le_refl _) (by omega) (by omega) hm
        rw [show p * n + (j - p * n) = j by omega] at this
        exact this)]
    · rw [if_neg hm, if_neg hm]
theorem endF_none {P : Nat → Bool} : ∀ (r a : Nat), (∀ j, a ≤ j → j < a + r → P j = false) → endF P r a = none := by
  intro r
  induction r with
  | zero => intro a _; rfl
  | succ r ih =>
    intro a h
    unfold endF
    rw [h a (Nat.le_refl _) (by omega), if_neg (by decide), ih (a + 1) (fun j h1 h2 => h j (by omega) (by omega))]
theorem feF_none {mk P : Nat → Bool} {n : Nat} : ∀ (r p : Nat), (∀ q i, p ≤ q → q < p + r → i < n → mk q = true → P (q * n + i) = false) → feF mk P n r p = none := by
  intro r
  induction r with
  | zero => intro p _; rfl
  | succ r ih =>
    intro p h
    unfold feF
    rw [ih (p + 1) (fun q i h1 h2 => h q i (by omega) (by omega))]
    by_cases hm : mk p = true
    · rw [if_pos hm, endF_none n (p * n) (fun j h1 h2 => by
        have := h p (j - p * n) (Nat.le_refl _) (by omega) (by omega) hm
        rw [show p * n + (j - p * n) = j by omega] at this
        exact this)]
    · rw [if_neg hm]
theorem allF_iff {mk : Nat → Bool} : ∀ (r p : Nat), allF mk r p = true ↔ ∀ i, i < r → mk (p + i) = true := by
  intro r
  induction r with
  | zero => intro p; exact ⟨fun _ i hi => absurd hi (Nat.not_lt_zero _), fun _ => rfl⟩
  | succ r ih =>
    intro p
    unfold allF
    by_cases hm : mk p = true
    · rw [if_pos hm, ih (p + 1)]
      refine ⟨fun h i hi => ?_, fun h i hi => by rw [show p + 1 + i = p + (i + 1) by omega]; exact h (i + 1) (by omega)⟩
      by_cases e : i = 0
      · subst e; exact hm
      · have := h (i - 1) (by omega)
        rw [show p + 1 + (i - 1) = p + i by omega] at this
        exact this
    · rw [if_neg hm]
      exact ⟨fun q => absurd q (by decide), fun h => absurd (h 0 (by omega)) hm⟩
theorem mask_iff (mk p : Nat) : mk % 2 ^ p = 2 ^ p - 1 ↔ allF (fun i => mk.testBit i) p 0 = true := by
  rw [allF_iff]
  constructor
  · intro h i hi
    have := congrArg (fun z => z.testBit i) h
    simp only [Nat.testBit_mod_two_pow, Nat.testBit_two_pow_sub_one, decide_eq_true hi, Bool.true_and] at this
    rw [Nat.zero_add]; exact this
  · intro h
    apply Nat.eq_of_testBit_eq
    intro i
    rw [Nat.testBit_mod_two_pow, Nat.testBit_two_pow_sub_one]
    by_cases hi : i < p
    · have := h i hi
      rw [Nat.zero_add] at this
      rw [decide_eq_true hi, Bool.true_and]; exact this
    · rw [decide_eq_false hi, Bool.false_and]
/-- the model's mask -/
theorem m_115 {M : rd_S} (hm : Sh M) {row mk pc : Nat} (hrow : row < 11) (hmk : M.1 88 row = nI mk) (hmk2 : mk < 2 ^ 16) (hpc : pc ≤ 16) (x : Int32) : B_X12_fullSize_115 wF 76 (nI row) (nI pc) x M = some (if allF (fun i => mk.testBit i) pc 0 = true then x else -1, M) := by
  unfold B_X12_fullSize_115 B_X12_fullSize_141
  have hp : 2 ^ pc ≤ 2 ^ 16 := Nat.pow_le_pow_right (by decide) hpc
  have hq : 1 ≤ 2 ^ pc := Nat.one_le_two_pow
  have e1 : rd_shl 1 (nI pc) = nI (2 ^ pc) := (nI_shl (v := 1) (n := pc) (by omega) (by omega)).trans (by rw [Nat.one_mul])
  have e2 : nI (2 ^ pc) - 1 = nI (2 ^ pc - 1) := pk_sub (b := 1) hq
  have e3 : mk % 2 ^ pc < 2 ^ pc := Nat.mod_lt _ hq
  rw [sh_76_28 hm, rd_cN, ln_88, rd_iN _ hrow (by decide), nI_clamp (by omega), show gI M 88 row = nI mk from hmk, e1, e2, pk_andN (by omega) pc (pk_tn (by omega))]
  by_cases h : allF (fun i => mk.testBit i) pc 0 = true
  · rw [if_pos h, if_pos (by rw [(mask_iff mk pc).mpr h])]
  · rw [if_neg h, if_neg (fun q => h ((mask_iff mk pc).mp ((nI_eq (by omega) (by omega)).mp q)))]
/-- what the model has found so far -/
def encF (n : Nat) (o : Option (Nat × Nat)) : Int32 × Int32 := match o with
  | none => (16, nI (16 * n))
  | some (s, e) => (nI (s + 1), nI e)
def enc2 (p : Nat) (o : Option Nat) (q : Int32 × Int32) : Int32 × Int32 := match o with
  | none => q
  | some e => (nI (p + 1), nI e)
theorem m_in {M : rd_S} (hm : Sh M) (k35 : Nat → Int32 → Int32 → Int32 → Int32 → Int32 → rd_S → Option (Int32 × rd_S)) {n p : Nat} (hn : n ≤ 4) (hp : p < 16) (q0 : Int32 × Int32) :
    ∀ (r m : Nat), r ≤ n → r < m → F_X12_fullSize_62 wF k35 m 76 1 (nI n) (enc2 p (endF (fun j => decide (M.1 87 (64 + j) = 13)) (n - r) (p * n + r)) q0).1 (enc2 p (endF (fun j => decide (M.1 87 (64 + j) = 13)) (n - r) (p * n + r)) q0).2 (nI p) (nI r + (-1)) M =
      k35 76 1 (nI n) (enc2 p (endF (fun j => decide (M.1 87 (64 + j) = 13)) n (p * n)) q0).1 (enc2 p (endF (fun j => decide (M.1 87 (64 + j) = 13)) n (p * n)) q0).2 (nI p + (-1)) M := by
  intro r
  induction r with
  | zero =>
    intro m hr hm1
    obtain ⟨m, rfl⟩ : ∃ q, m = q + 1 := ⟨m - 1, by omega⟩
    show B_X12_fullSize_62 wF k35 (F_X12_fullSize_62 wF k35 m) 76 1 (nI n) _ _ (nI p) (nI 0 + (-1)) M = _
    unfold B_X12_fullSize_62 B_X12_fullSize_109
    rw [if_pos (by decide), rd_letN, Nat.sub_zero, Nat.add_zero]
  | succ r ih =>
    intro m hr hm1
    obtain ⟨m, rfl⟩ : ∃ q, m = q + 1 := ⟨m - 1, by omega⟩
    have hpn : p * n + r < 64 := by
      have h1 : p * n ≤ 15 * n := Nat.mul_le_mul_right n (by omega)
      omega
    rw [← ih m (by omega) (by omega)]
    show B_X12_fullSize_62 wF k35 (F_X12_fullSize_62 wF k35 m) 76 1 (nI n) _ _ (nI p) (nI (r + 1) + (-1)) M = _
    unfold B_X12_fullSize_62 B_X12_fullSize_103
    have ix : (1 : Int32) * 64 + nI p * nI n + nI r = nI (64 + (p * n + r)) := by
      show nI 1 * nI 64 + nI p * nI n + nI r = _
      rw [pk_mul, pk_mul, nI_add, nI_add, Nat.one_mul, Nat.add_assoc]
    rw [nI_m1, if_neg (nI_pos (by omega)), sh_76_27 hm, rd_cN, rd_letN, ix, ln_87, rd_iN _ (by omega) (by decide), nI_clamp (by omega)]
    have e0 : endF (fun j => decide (M.1 87 (64 + j) = 13)) (n - r) (p * n + r) = if M.1 87 (64 + (p * n + r)) = 13 then some (p * n + r) else endF (fun j => decide (M.1 87 (64 + j) = 13)) (n - (r + 1)) (p * n + (r + 1)) := by
      rw [show n - r = (n - (r + 1)) + 1 by omega]
      show (if decide (M.1 87 (64 + (p * n + r)) = 13) = true then _ else _) = _
      by_cases h : M.1 87 (64 + (p * n + r)) = 13
      · rw [if_pos h, if_pos (decide_eq_true h)]
      · rw [if_neg h, if_neg (fun q => h (of_decide_eq_true q))]; rfl
    rw [e0]
    by_cases h : M.1 87 (64 + (p * n + r)) = 13
    · rw [if_pos h, if_pos h, rd_letN, rd_letN, rd_letN, pk_mul, nI_add, nI_1]
      rfl
    · rw [if_neg h, if_neg h, rd_letN]
theorem enc_step (n p : Nat) (o : Option Nat) (q : Option (Nat × Nat)) : enc2 p o (encF n q) = encF n (match o with
    | some e => some (p, e)
    | none => q) := by cases o <;> rfl
theorem m_out {M : rd_S} (hm : Sh M) {n mk : Nat} (hn : n ≤ 4) (hn1 : 1 ≤ n) (hmk : M.1 88 1 = nI mk) (hmk2 : mk < 2 ^ 16) :
    ∀ (r m : Nat), r ≤ 16 → r < m → F_X12_fullSize_35 wF m 76 1 (nI n) (encF n (feF (fun i => mk.testBit i) (fun j => decide (M.1 87 (64 + j) = 13)) n (16 - r) r)).1 (encF n (feF (fun i => mk.testBit i) (fun j => decide (M.1 87 (64 + j) = 13)) n (16 - r) r)).2 (nI r + (-1)) M =
      some (oI (mfF (fun i => mk.testBit i) (fun j => decide (M.1 87 (64 + j) = 13)) n 16 0), M) := by
  intro r
  induction r with
  | zero =>
    intro m hr hm1
    obtain ⟨m, rfl⟩ : ∃ q, m = q + 1 := ⟨m - 1, by omega⟩
    show B_X12_fullSize_35 wF (F_X12_fullSize_35 wF m) 76 1 (nI n) _ _ (nI 0 + (-1)) M = _
    unfold B_X12_fullSize_35
    rw [if_pos (by decide), Nat.sub_zero]
    unfold mfF
    cases hf : feF (fun i => mk.testBit i) (fun j => decide (M.1 87 (64 + j) = 13)) n 16 0 with
    | none =>
      show B_X12_fullSize_115 wF 76 (nI 1) (nI 16) (nI (16 * n)) M = some (oI (if allF (fun i => mk.testBit i) 16 0 = true then some ((0 + 16) * n) else none), M)
      rw [m_115 hm (by decide) hmk hmk2 (by decide), Nat.zero_add]
      by_cases h : allF (fun i => mk.testBit i) 16 0 = true
      · rw [if_pos h, if_pos h]; rfl
      · rw [if_neg h, if_neg h]; rfl
    | some q =>
      obtain ⟨s, e⟩ := q
      have := feF_ge _ _ _ _ _ _ _ hf
      show B_X12_fullSize_115 wF 76 (nI 1) (nI (s + 1)) (nI e) M = some (oI (if allF (fun i => mk.testBit i) (s + 1 - 0) 0 = true then some e else none), M)
      rw [m_115 hm (by decide) hmk hmk2 (by omega), Nat.sub_zero]
      by_cases h : allF (fun i => mk.testBit i) (s + 1) 0 = true
      · rw [if_pos h, if_pos h]; rfl
      · rw [if_neg h, if_neg h]; rfl
  | succ r ih =>
    intro m hr hm1
    obtain ⟨m, rfl⟩ : ∃ q, m = q + 1 := ⟨m - 1, by omega⟩
    rw [← ih m (by omega) (by omega)]
    show B_X12_fullSize_35 wF (F_X12_fullSize_35 wF m) 76 1 (nI n) _ _ (nI (r + 1) + (-1)) M = _
    unfold B_X12_fullSize_35
    have i1 : ∀ E : Option (Int32 × rd_S), rd_i 1 11 E = E := fun E => rd_iT _ (by decide)
    have e0 : feF (fun i => mk.testBit i) (fun j => decide (M.1 87 (64 + j) = 13)) n (16 - r) r = if mk.testBit r = true then (match endF (fun j => decide (M.1 87 (64 + j) = 13)) n (r * n) with
        | some e => some (r, e)
        | none => feF (fun i => mk.testBit i) (fun j => decide (M.1 87 (64 + j) = 13)) n (16 - (r + 1)) (r + 1)) else feF (fun i => mk.testBit i) (fun j => decide (M.1 87 (64 + j) = 13)) n (16 - (r + 1)) (r + 1) := by
      rw [show 16 - r = (16 - (r + 1)) + 1 by omega, feF]
    rw [nI_m1, if_neg (nI_pos (by omega)), sh_76_28 hm, rd_cN, ln_88, i1, tn_1, show gI M 88 1 = nI mk from hmk, e0]
    by_cases hb : mk.testBit r = true
    · rw [if_neg (fun q => by have := (shr_bit0 (by omega)).mp q; rw [hb] at this; exact absurd this (by decide)), if_pos hb, rd_letN, ← enc_step]
      have e1 : nI n - 1 = nI n + (-1) := by
        obtain ⟨k, rfl⟩ : ∃ k, n = k + 1 := ⟨n - 1, by omega⟩
        rw [nI_m1, nI_pred]
      have := m_in hm (F_X12_fullSize_35 wF m) hn (show r < 16 by omega) (encF n (feF (fun i => mk.testBit i) (fun j => decide (M.1 87 (64 + j) = 13)) n (16 - (r + 1)) (r + 1))) n rd_big (Nat.le_refl _) (by unfold rd_big; omega)
      rw [Nat.sub_self] at this
      rw [e1]
      exact this
    · rw [if_pos ((shr_bit0 (by omega)).mpr (by simpa using hb)), if_neg hb]
      unfold B_X12_fullSize_109
      rw [rd_letN]
theorem m_full1 {M : rd_S} (hm : Sh M) {n mk : Nat} (hn : n ≤ 4) (hn1 : 1 ≤ n) (hmk : M.1 88 1 = nI mk) (hmk2 : mk < 2 ^ 16) : F_X12_fullSize wF 76 (nI 1) (nI n) M = some (oI (mfF (fun i => mk.testBit i) (fun j => decide (M.1 87 (64 + j) = 13)) n 16 0), M) := by
  unfold F_X12_fullSize B_X12_fullSize_20
  rw [if_pos (show nI 1 = 1 from rfl), rd_letN, if_pos (show nI 1 = 1 from rfl), show (16 : Int32) * nI n = nI (16 * n) from pk_mul 16 n]
  exact m_out hm hn hn1 hmk hmk2 16 rd_big (Nat.le_refl _) (by unfold rd_big; omega)
theorem m_fullN {M : rd_S} (hm : Sh M) {row n mk pcs : Nat} (hrow : row < 11) (h1 : row ≠ 1) (hp : pcs = if row = 2 then 2 else 4) (hmk : M.1 88 row = nI mk) (hmk2 : mk < 2 ^ 16) : F_X12_fullSize wF 76 (nI row) (nI n) M = some (oI (if allF (fun i => mk.testBit i) pcs 0 = true then some (pcs * n) else none), M) := by
  unfold F_X12_fullSize B_X12_fullSize_20
  have n1 : ¬ nI row = 1 := fun q => h1 ((nI_eq (by omega) (b := 1) (by decide)).mp q)
  rw [if_neg n1]
  have oi : ∀ c : Bool, (if c = true then nI (pcs * n) else -1) = oI (if c = true then some (pcs * n) else none) := fun c => by cases c <;> rfl
  by_cases h2 : row = 2
  · rw [if_pos h2] at hp
    subst hp
    rw [if_pos (show nI row = 2 by rw [h2]; rfl), rd_letN, if_neg n1, show (2 : Int32) * nI n = nI (2 * n) from pk_mul 2 n]
    rw [show B_X12_fullSize_115 wF 76 (nI row) 2 (nI (2 * n)) M = _ from m_115 hm hrow hmk hmk2 (pc := 2) (by decide) _, oi]
  · rw [if_neg h2] at hp
    subst hp
    have n2 : ¬ nI row = 2 := fun q => h2 ((nI_eq (by omega) (b := 2) (by decide)).mp q)
    rw [if_neg n2, rd_letN, if_neg n1, show (4 : Int32) * nI n = nI (4 * n) from pk_mul 4 n]
    rw [show B_X12_fullSize_115 wF 76 (nI row) 4 (nI (4 * n)) M = _ from m_115 hm hrow hmk hmk2 (pc := 4) (by decide) _, oi]
/-- the same bytes? -/
theorem m_same {M : rd_S} (hm : Sh M) {row s n st mk : Nat} (hrow : row < 11) (hs : s < 16) (hst : s * n = st) (hn : st + n ≤ 64) (lo hi : Int32) (Bf : Nat → Int32) (hB : ∀ i, i < n → ∀ M, F_X12_byteOf wF lo hi (nI n) (nI i) M = some (Bf i, M)) (hmk : M.1 88 row = nI mk) :
    ∀ (r i m : Nat) (b : Bool), i + r = n → r < m → F_X12_piece_6 wF m 76 (nI row) (nI s) lo hi (nI n) (if b = true then 1 else 0) (nI i) M =
      B_X12_piece_87 wF 76 (nI row) (nI s) lo hi (nI n) (if mk.testBit s = true ∧ (b && smF (M.1 87) (64 * row + st) Bf r i) = false then pI M 88 row 0 else M) := by
  intro r
  induction r with
  | zero =>
    intro i m b hi1 hm1
    obtain ⟨m, rfl⟩ : ∃ q, m = q + 1 := ⟨m - 1, by omega⟩
    show B_X12_piece_6 wF (F_X12_piece_6 wF m) 76 (nI row) (nI s) lo hi (nI n) _ (nI i) M = _
    unfold B_X12_piece_6 smF
    rw [if_pos (nI_le (by omega) (by omega)), sh_76_28 hm, rd_cN, ln_88, rd_iN _ hrow (by decide), nI_clamp (by omega), show gI M 88 row = nI mk from hmk, Bool.and_true]
    by_cases hb : mk.testBit s = true
    · rw [if_pos ((shr_bit (by omega)).mpr hb)]
      cases b with
      | false => rw [if_pos (by decide), rd_cN, ln_88, rd_iN _ hrow (by decide), rd_letN, if_pos ⟨hb, rfl⟩]
      | true => rw [if_neg (by decide), if_neg (fun q => absurd q.2 (by decide))]
    · rw [if_neg (fun q => hb ((shr_bit (by omega)).mp q)), if_neg (fun q => hb q.1)]
  | succ r ih =>
    intro i m b hi1 hm1
    obtain ⟨m, rfl⟩ : ∃ q, m = q + 1 := ⟨m - 1, by omega⟩
    show B_X12_piece_6 wF (F_X12_piece_6 wF m) 76 (nI row) (nI s) lo hi (nI n) _ (nI i) M = _
    unfold B_X12_piece_6 B_X12_piece_52 B_X12_piece_53
    rw [if_neg (nI_ge (by omega) (by omega))]
    have ix : nI row * 64 + nI s * nI n + nI i = nI (64 * row + st + i) := by
      show nI row * nI 64 + nI s * nI n + nI i = _
      rw [pk_mul, pk_mul, nI_add, nI_add, hst, Nat.mul_comm row 64]
    cases b with
    | false =>
      rw [if_pos (by decide), rd_letN, nI_1, Bool.false_and]
      have := ih (i + 1) m false (by omega) (by omega)
      rw [Bool.false_and] at this
      exact this
    | true =>
      rw [if_neg (by decide), sh_76_27 hm, rd_cN, rd_letN, ix, ln_87, rd_iN _ (by omega) (by decide), hB i (by omega), rd_bN, nI_clamp (by omega), rd_letN, nI_1, Bool.true_and]
      unfold smF
      by_cases h : M.1 87 (64 * row + st + i) = Bf i
      · rw [if_pos h, if_pos h]
        have := ih (i + 1) m true (by omega) (by omega)
        rw [Bool.true_and] at this
        exact this
      · rw [if_neg h, if_neg h]
        have := ih (i + 1) m false (by omega) (by omega)
        rw [Bool.false_and] at this
        rw [rd_letN]
        exact this
theorem m_write {row s n st : Nat} (hrow : row < 11) (hs : s < 16) (hst : s * n = st) (hn : st + n ≤ 64) (lo hi : Int32) (Bf : Nat → Int32) (hB : ∀ i, i < n → ∀ M, F_X12_byteOf wF lo hi (nI n) (nI i) M = some (Bf i, M)) :
    ∀ (r i m : Nat) (M : rd_S), Sh M → i + r = n → r < m → F_X12_piece_90 wF m 76 (nI row) (nI s) lo hi (nI n) (nI i) M =
      (rd_b (F_X12_fullSize wF 76 (nI row) (nI n) (pI (pA M 87 (wrF (M.1 87) (64 * row + st) n i Bf)) 88 row (M.1 88 row ||| rd_shl 1 (nI s)))) fun v11 s10 => if v11 = -1 then some s10 else F_X12_piece_161 wF rd_big 76 (nI row) v11 0 s10) := by
  intro r
  induction r with
  | zero =>
    intro i m M hm hi1 hm1
    obtain ⟨m, rfl⟩ : ∃ q, m = q + 1 := ⟨m - 1, by omega⟩
    show B_X12_piece_90 wF (F_X12_piece_90 wF m) 76 (nI row) (nI s) lo hi (nI n) (nI i) M = _
    unfold B_X12_piece_90
    rw [if_pos (nI_le (by omega) (by omega)), pA_id M 87 _ (by funext j; unfold wrF; rw [if_neg (by omega)]), sh_76_28 hm, rd_cN, ln_88, rd_iN _ hrow (by decide), rd_iN _ hrow (by decide), nI_clamp (by omega), rd_letN]
  | succ r ih =>
    intro i m M hm hi1 hm1
    obtain ⟨m, rfl⟩ : ∃ q, m = q + 1 := ⟨m - 1, by omega⟩
    have e := ih (i + 1) m (pI M 87 (64 * row + st + i) (Bf i)) hm (by omega) (by omega)
    have e2 : (pI M 87 (64 * row + st + i) (Bf i)).1 87 = upd (M.1 87) (64 * row + st + i) (Bf i) := pA_self
    rw [pA_pI, e2, wrF_step _ _ _ _ _ (by omega), pI_ne (by decide)] at e
    rw [← e]
    show B_X12_piece_90 wF (F_X12_piece_90 wF m) 76 (nI row) (nI s) lo hi (nI n) (nI i) M = _
    unfold B_X12_piece_90
    have ix : nI row * 64 + nI s * nI n + nI i = nI (64 * row + st + i) := by
      show nI row * nI 64 + nI s * nI n + nI i = _
      rw [pk_mul, pk_mul, nI_add, nI_add, hst, Nat.mul_comm row 64]
    rw [if_neg (nI_ge (by omega) (by omega)), sh_76_27 hm, rd_cN, hB i (by omega), rd_bN, ix, ln_87, rd_iN _ (by omega) (by decide), nI_clamp (by omega), rd_letN, rd_letN, nI_1]
/-- how often a DRAFT was FULL -/
def rpC (row : Nat) : Nat × Nat := if row < 3 then (86, row) else (98, row - 3)
theorem m_copy {row e : Nat} (hrow : row < 11) (he : e ≤ 64) : ∀ (r i m : Nat) (M : rd_S), Sh M → i + r = e → r < m → F_X12_piece_161 wF m 76 (nI row) (nI e) (nI i) M =
    some (pI (pI (pI (pA M 89 (fun j => if 64 * row + i ≤ j ∧ j < 64 * row + e then M.1 87 j else M.1 89 j)) 90 row (nI e)) 88 row 0) (rpC row).1 (rpC row).2 (M.1 (rpC row).1 (rpC row).2 + 1)) := by
  intro r
  induction r with
  | zero =>
    intro i m M hm hi1 hm1
    obtain ⟨m, rfl⟩ : ∃ q, m = q + 1 := ⟨m - 1, by omega⟩
    show B_X12_piece_161 wF (F_X12_piece_161 wF m) 76 (nI row) (nI e) (nI i) M = _
    unfold B_X12_piece_161 B_X12_piece_243
    rw [if_pos (nI_le (by omega) (by omega)), pA_id M 89 _ (by funext j; rw [if_neg (by omega)]), sh_76_30 hm, rd_cN, ln_90, rd_iN _ hrow (by decide), nI_clamp (by omega), rd_letN, gR_pI, sh_76_28 hm, rd_cN, ln_88, rd_iN _ hrow (by decide), rd_letN]
    by_cases h3 : row < 3
    · have e1 : rpC row = (86, row) := if_pos h3
      rw [e1, if_neg (show ¬ (3 : Int32) ≤ nI row from nI_ge (b := 3) h3 (by decide)), gR_pI, gR_pI, sh_76_26 hm, rd_cN, ln_86, rd_iN _ (by omega) (by decide), rd_iN _ (by omega) (by decide), rd_letN]
      show some (pI _ 86 row ((pI (pI M 90 row (nI e)) 88 row 0).1 86 row + 1)) = _
      rw [pI_ne (by decide), pI_ne (by decide)]
    · have e1 : rpC row = (98, row - 3) := if_neg h3
      have e2 : nI row - 3 = nI (row - 3) := pk_sub (b := 3) (by omega)
      rw [e1, if_pos (show (3 : Int32) ≤ nI row from nI_le (a := 3) (by omega) (by omega)), gR_pI, gR_pI, sh_76_52 hm, rd_cN, rd_letN, e2, ln_98, rd_iN _ (by omega) (by decide), rd_iN _ (by omega) (by decide), rd_letN, nI_clamp (by omega)]
      show some (pI _ 98 (row - 3) ((pI (pI M 90 row (nI e)) 88 row 0).1 98 (row - 3) + 1)) = _
      rw [pI_ne (by decide), pI_ne (by decide)]
  | succ r ih =>
    intro i m M hm hi1 hm1
    obtain ⟨m, rfl⟩ : ∃ q, m = q + 1 := ⟨m - 1, by omega⟩
    have e1 := ih (i + 1) m (pI M 89 (64 * row + i) (M.1 87 (64 * row + i))) hm (by omega) (by omega)
    rw [pA_pI] at e1
    have e2 : (fun j => if 64 * row + (i + 1) ≤ j ∧ j < 64 * row + e then (pI M 89 (64 * row + i) (M.1 87 (64 * row + i))).1 87 j else (pI M 89 (64 * row + i) (M.1 87 (64 * row + i))).1 89 j) = fun j => if 64 * row + i ≤ j ∧ j < 64 * row + e then M.1 87 j else M.1 89 j := by
      funext j
      rw [pI_ne (show 87 ≠ 89 by decide)]
      by_cases h : 64 * row + (i + 1) ≤ j ∧ j < 64 * row + e
      · rw [if_pos h, if_pos (by omega)]
      · rw [if_neg h]
        by_cases h2 : j = 64 * row + i
        · subst h2; rw [pI_self, if_pos (by omega)]
        · rw [pI_row h2, if_neg (by omega)]
    have e3 : (pI M 89 (64 * row + i) (M.1 87 (64 * row + i))).1 (rpC row).1 = M.1 (rpC row).1 := pI_ne (by
      unfold rpC
      split
      · exact (by decide : (86 : Nat) ≠ 89)
      · exact (by decide : (98 : Nat) ≠ 89))
    rw [e2, e3] at e1
    rw [← e1]
    show B_X12_piece_161 wF (F_X12_piece_161 wF m) 76 (nI row) (nI e) (nI i) M = _
    unfold B_X12_piece_161
    have ix : nI row * 64 + nI i = nI (64 * row + i) := by
      show nI row * nI 64 + nI i = _
      rw [pk_mul, nI_add, Nat.mul_comm row 64]
    rw [if_neg (nI_ge (by omega) (by omega)), sh_76_29 hm, rd_cN, sh_76_27 hm, rd_cN, rd_letN, ix, ln_87, ln_89, rd_iN _ (by omega) (by decide), rd_iN _ (by omega) (by decide), nI_clamp (by omega), rd_letN, rd_letN, nI_1]
