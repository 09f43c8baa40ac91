/-! The OTHERS: finding one, making one. -/
theorem f_fill {a n : Nat} (hl : wF.2.2 a = n) (hn : n < 1000) (v : Int32) : ∀ (r i m : Nat) (S : rd_S), i + r = n → r < m → F_J7_fill_53178_5 wF m a v (nI i) (nI n) S = some (pA S a (fun j => if i ≤ j ∧ j < n then v else S.1 a j)) := by
  intro r
  induction r with
  | zero =>
    intro i m S hi hm
    obtain ⟨m, rfl⟩ : ∃ q, m = q + 1 := ⟨m - 1, by omega⟩
    show B_J7_fill_53178_5 wF (F_J7_fill_53178_5 wF m) a v (nI i) (nI n) S = _
    unfold B_J7_fill_53178_5
    rw [if_pos (nI_le (by omega) (by omega)), pA_id S a _ (by funext j; rw [if_neg (by omega)])]
  | succ r ih =>
    intro i m S hi hm
    obtain ⟨m, rfl⟩ : ∃ q, m = q + 1 := ⟨m - 1, by omega⟩
    show B_J7_fill_53178_5 wF (F_J7_fill_53178_5 wF m) a v (nI i) (nI n) S = _
    unfold B_J7_fill_53178_5
    rw [if_neg (nI_ge (by omega) (by omega)), hl, rd_iN _ (by omega) (by omega), nI_clamp (by omega), rd_letN, rd_letN, nI_1, ih (i + 1) m _ (by omega) (by omega), pA_pI]
    have e : (fun j => if i + 1 ≤ j ∧ j < n then v else (pI S a i v).1 a j) = fun j => if i ≤ j ∧ j < n then v else S.1 a j := by
      funext j
      by_cases h : i + 1 ≤ j ∧ j < n
      · rw [if_pos h, if_pos (by omega)]
      · rw [if_neg h]
        by_cases h2 : j = i
        · subst h2; rw [pI_self, if_pos (by omega)]
        · rw [pI_row h2, if_neg (by omega)]
    rw [e]
theorem f_fillA {a n : Nat} (hl : wF.2.2 a = n) (hn : n < 1000) (v : Int32) (S : rd_S) : F_J7_fill_53178 wF a v S = some (pA S a (fun j => if j < n then v else S.1 a j)) := by
  unfold F_J7_fill_53178
  rw [rd_letN, hl, show F_J7_fill_53178_5 wF rd_big a v 0 (nI n) S = _ from f_fill hl hn v n 0 rd_big S (by omega) (by unfold rd_big; omega)]
  have e : (fun j => if 0 ≤ j ∧ j < n then v else S.1 a j) = fun j => if j < n then v else S.1 a j := by
    funext j
    by_cases h : j < n
    · rw [if_pos h, if_pos ⟨Nat.zero_le _, h⟩]
    · rw [if_neg h, if_neg (fun q => h q.2)]
  rw [e]
/-- the OTHERS, with their order -/
def RZ (sz : Nat) (π : Nat → Nat) (S M : rd_S) : Prop := sz ≤ 8 ∧ S.1 32 1 = nI sz ∧ M.1 76 53 = nI sz ∧ (∀ j, j < 8 → π j < 8 ∧ S.2 33 j = some (34 + 5 * π j)) ∧ (∀ i j, i < 8 → j < 8 → π i = π j → i = j) ∧
  (∀ k, k < 8 → S.1 (34 + 5 * k + 2) 0 = 4 ∧ S.1 (34 + 5 * k + 2) 1 = -1) ∧
  ∀ j, j < sz → (∀ i, i < 11 → S.1 (34 + 5 * π j + 1) i = M.1 97 (11 * j + i)) ∧ S.1 (34 + 5 * π j + 2) 7 = M.1 98 j ∧ RD (34 + 5 * π j + 2) (3 + j) 4 2 8 S M
theorem RZ.get {sz : Nat} {π : Nat → Nat} {S M : rd_S} (hs : Sh S) (h : RZ sz π S M) {j : Nat} (hj : j < sz) : F_X6_get wF 32 (nI j) S = some (some (34 + 5 * π j), S) := by
  obtain ⟨z1, z2, z3, z4, -⟩ := h
  unfold F_X6_get B_X6_get_28
  rw [if_neg (nI_pos (by omega)), show gI S 32 1 = nI sz from z2, if_neg (nI_ge hj (by omega)), if_pos (show nI j < 8 from nI_lt (b := 8) (by omega) (by decide)), sh_32_0 hs, rd_cN, ln_33, rd_iN _ (by omega) (by decide), nI_clamp (by omega), show gR S 33 j = _ from (z4 j (by omega)).2, rd_cN]
theorem RZ.tell {sz : Nat} {π : Nat → Nat} {S M : rd_S} (hs : Sh S) (h : RZ sz π S M) {j : Nat} (hj : j < sz) : F_X5_tell wF (34 + 5 * π j) 0 S = some (M.1 97 (11 * j), S) := by
  obtain ⟨z1, z2, z3, z4, z5, z6, z7⟩ := h
  have hp := (z4 j (by omega)).1
  unfold F_X5_tell B_X5_tell_24
  rw [if_neg (by decide), (gR_other hs hp).1, rd_cN, f_at (ln_other hp).1 (by decide), rd_bN, show atF (S.1 (34 + 5 * π j + 1)) 11 0 = _ from atF_nI (k := 0) (by decide) (by decide), (z7 j hj).1 0 (by decide)]
  rfl
/-- the class's way to the one of a PI -/
theorem fd_c {sz : Nat} {π : Nat → Nat} {S M : rd_S} (hs : Sh S) (h : RZ sz π S M) (x : Int32) {i : Nat} (hi : i ≤ sz) (h1 : ∀ j, j < i → ¬ M.1 97 (11 * j) = x) (h2 : i < sz → M.1 97 (11 * i) = x) : ∀ (r k n : Nat), k + r = i → r < n →
    F_X6_find_2 wF n 32 x (nI k) S = if i < sz then some (some (34 + 5 * π i), S) else (rd_b (F_X6_append wF 32 S) fun o3 s2 => rd_m o3 (some (none, s2)) (fun b4 => rd_c (F_X5_begin wF b4 x s2) fun s6 => some (some b4, s6))) := by
  have z1 := h.1
  have z2 := h.2.1
  intro r
  induction r with
  | zero =>
    intro k n hk hn
    obtain ⟨n, rfl⟩ : ∃ q, n = q + 1 := ⟨n - 1, by omega⟩
    have : k = i := by omega
    subst this
    show B_X6_find_2 wF (F_X6_find_2 wF n) 32 x (nI k) S = _
    unfold B_X6_find_2 B_X6_find_51
    rw [show gI S 32 1 = nI sz from z2]
    by_cases hlt : k < sz
    · rw [if_neg (nI_ge hlt (by omega)), if_pos hlt, h.get hs hlt, rd_bN, rd_mS, h.tell hs hlt, rd_bN, if_pos (h2 hlt)]
    · rw [if_pos (nI_le (by omega) (by omega)), if_neg hlt]
  | succ r ih =>
    intro k n hk hn
    obtain ⟨n, rfl⟩ : ∃ q, n = q + 1 := ⟨n - 1, by omega⟩
    rw [← ih (k + 1) n (by omega) (by omega)]
    show B_X6_find_2 wF (F_X6_find_2 wF n) 32 x (nI k) S = _
    unfold B_X6_find_2 B_X6_find_31
    rw [show gI S 32 1 = nI sz from z2, if_neg (nI_ge (by omega) (by omega)), h.get hs (by omega), rd_bN, rd_mS, h.tell hs (by omega), rd_bN, if_neg (h1 k (by omega)), rd_letN, nI_1]
theorem fd_m {sz : Nat} {M : rd_S} (hm : Sh M) (z1 : sz ≤ 8) (z3 : M.1 76 53 = nI sz) (x : Int32) {i : Nat} (hi : i ≤ sz) (h1 : ∀ j, j < i → ¬ M.1 97 (11 * j) = M.1 81 3) (h2 : i < sz → M.1 97 (11 * i) = M.1 81 3) : ∀ (r k n : Nat), k + r = i → r < n →
    F_X12_another_2 wF n 76 x (nI k) M = if i < sz then B_X12_another_47 wF 76 x (nI i) M else (rd_b (F_X12_oneMore wF 76 M) fun v4 s3 => B_X12_another_47 wF 76 x v4 s3) := by
  have ix : ∀ k, (11 : Int32) * nI k = nI (11 * k) := fun k => pk_mul 11 k
  intro r
  induction r with
  | zero =>
    intro k n hk hn
    obtain ⟨n, rfl⟩ : ∃ q, n = q + 1 := ⟨n - 1, by omega⟩
    have : k = i := by omega
    subst this
    show B_X12_another_2 wF (F_X12_another_2 wF n) 76 x (nI k) M = _
    unfold B_X12_another_2 B_X12_another_34
    rw [show gI M 76 53 = nI sz from z3]
    by_cases hlt : k < sz
    · rw [if_neg (nI_ge hlt (by omega)), if_pos hlt, sh_76_51 hm, rd_cN, rd_letN, ix, ln_97, rd_iN _ (by omega) (by decide), sh_76_18 hm, rd_cN, ln_81, rd_iT _ (by decide), nI_clamp (by omega), tn_3, if_pos (h2 hlt), if_neg (fun q => by have := (nI_eq (by omega) (by omega)).mp q; omega)]
    · have : k = sz := by omega
      rw [if_pos (nI_le (by omega) (by omega)), if_neg hlt, if_pos (by rw [this])]
  | succ r ih =>
    intro k n hk hn
    obtain ⟨n, rfl⟩ : ∃ q, n = q + 1 := ⟨n - 1, by omega⟩
    rw [← ih (k + 1) n (by omega) (by omega)]
    show B_X12_another_2 wF (F_X12_another_2 wF n) 76 x (nI k) M = _
    unfold B_X12_another_2
    rw [show gI M 76 53 = nI sz from z3, if_neg (nI_ge (by omega) (by omega)), sh_76_51 hm, rd_cN, rd_letN, ix, ln_97, rd_iN _ (by omega) (by decide), sh_76_18 hm, rd_cN, ln_81, rd_iT _ (by decide), nI_clamp (by omega), tn_3, if_neg (h1 k (by omega)), rd_letN, nI_1]
/-- the class's rows turn round -/
theorem rot_c (a1 : Nat) : ∀ (r k n : Nat) (S : rd_S), 1 ≤ k → k + r = 8 → r < n → S.2 32 0 = some 33 → (∀ j, k ≤ j → j < 8 → ∃ b, S.2 33 j = some b) → ∃ S1, F_X6_append_39 wF n 32 a1 (nI k) S = some (some a1, S1) ∧ S1.1 = S.1 ∧ (∀ a, a ≠ 33 → S1.2 a = S.2 a) ∧
    (∀ j, k - 1 ≤ j → j < 7 → S1.2 33 j = S.2 33 (j + 1)) ∧ S1.2 33 7 = some a1 ∧ ∀ j, j < k - 1 → S1.2 33 j = S.2 33 j := by
  intro r
  induction r with
  | zero =>
    intro k n S h1 hk hn hR hb
    obtain ⟨n, rfl⟩ : ∃ q, n = q + 1 := ⟨n - 1, by omega⟩
    have : k = 8 := by omega
    subst this
    refine ⟨pR S 33 7 (some a1), ?_, rfl, fun a ha => ?_, fun j h2 h3 => by omega, ?_, fun j hj => ?_⟩
    · show B_X6_append_39 wF (F_X6_append_39 wF n) 32 a1 (nI 8) S = _
      unfold B_X6_append_39
      rw [if_pos (by decide), show gR S 32 0 = some 33 from hR, rd_cN, ln_33, rd_iT _ (by decide), rd_letN, tn_7]
    · simp [pR, va_up, ha]
    · simp [pR, va_up]
    · have : j ≠ 7 := by omega
      simp [pR, va_up, this]
  | succ r ih =>
    intro k n S h1 hk hn hR hb
    obtain ⟨n, rfl⟩ : ∃ q, n = q + 1 := ⟨n - 1, by omega⟩
    obtain ⟨b, hb1⟩ := hb k (Nat.le_refl _) (by omega)
    have w : ∀ j, j ≠ k - 1 → (pR S 33 (k - 1) (some b)).2 33 j = S.2 33 j := fun j hj => by simp [pR, va_up, hj]
    have w2 : (pR S 33 (k - 1) (some b)).2 33 (k - 1) = some b := by simp [pR, va_up]
    have w3 : ∀ a, a ≠ 33 → (pR S 33 (k - 1) (some b)).2 a = S.2 a := fun a ha => by simp [pR, va_up, ha]
    obtain ⟨S1, e1, e2, e3, e4, e5, e6⟩ := ih (k + 1) n (pR S 33 (k - 1) (some b)) (by omega) (by omega) (by omega) (by rw [w3 32 (by decide)]; exact hR) (fun j h2 h3 => by rw [w j (by omega)]; exact hb j (by omega) h3)
    refine ⟨S1, ?_, e2, fun a ha => by rw [e3 a ha, w3 a ha], fun j h2 h3 => ?_, e5, fun j hj => ?_⟩
    · rw [← e1]
      show B_X6_append_39 wF (F_X6_append_39 wF n) 32 a1 (nI k) S = _
      unfold B_X6_append_39
      have e : nI k - 1 = nI (k - 1) := pk_sub (b := 1) h1
      rw [if_neg (show ¬ (8 : Int32) ≤ nI k from nI_ge (b := 8) (by omega) (by decide)), show gR S 32 0 = some 33 from hR, rd_cN, rd_cN, ln_33, rd_iN _ (by omega) (by decide), nI_clamp (by omega), show gR S 33 k = some b from hb1, rd_cN, e, rd_iN _ (by omega) (by decide), nI_clamp (by omega), rd_letN, rd_letN, nI_1]
    · by_cases h4 : j = k - 1
      · subst h4
        rw [e6 _ (by omega), w2, show k - 1 + 1 = k by omega, hb1]
      · rw [e4 j (by omega) h3, w _ (by omega)]
    · rw [e6 j (by omega), w _ (by omega)]
/-! the model's shift -/
theorem s11 : ∀ (r i n : Nat) (M : rd_S), Sh M → i + r = 77 → r < n → ∃ M1, F_X12_oneMore_11 wF n 76 (nI i) M = F_X12_oneMore_40 wF rd_big 76 0 M1 ∧ M1.2 = M.2 ∧ (∀ j, M1.1 97 j = if i ≤ j ∧ j < 77 then M.1 97 (j + 11) else M.1 97 j) ∧ ∀ a, a ≠ 97 → M1.1 a = M.1 a := by
  intro r
  induction r with
  | zero =>
    intro i n M hm hi hn
    obtain ⟨n, rfl⟩ : ∃ q, n = q + 1 := ⟨n - 1, by omega⟩
    have : i = 77 := by omega
    subst this
    refine ⟨M, ?_, rfl, fun j => by rw [if_neg (by omega)], fun _ _ => rfl⟩
    show B_X12_oneMore_11 wF (F_X12_oneMore_11 wF n) 76 (nI 77) M = _
    unfold B_X12_oneMore_11
    rw [if_pos (by decide)]
  | succ r ih =>
    intro i n M hm hi hn
    obtain ⟨n, rfl⟩ : ∃ q, n = q + 1 := ⟨n - 1, by omega⟩
    obtain ⟨M1, e1, e2, e3, e4⟩ := ih (i + 1) n (pI M 97 i (M.1 97 (i + 11))) hm (by omega) (by omega)
    refine ⟨M1, ?_, e2, fun j => ?_, fun a ha => by rw [e4 a ha, pI_ne ha]⟩
    · rw [← e1]
      show B_X12_oneMore_11 wF (F_X12_oneMore_11 wF n) 76 (nI i) M = _
      unfold B_X12_oneMore_11
      have ix : nI i + 11 = nI (i + 11) := nI_add i 11
      rw [if_neg (show ¬ (77 : Int32) ≤ nI i from nI_ge (b := 77) (by omega) (by decide)), sh_76_51 hm, rd_cN, rd_cN, rd_letN, ix, ln_97, rd_iN _ (by omega) (by decide), rd_iN _ (by omega) (by decide), nI_clamp (by omega), nI_clamp (by omega), rd_letN, rd_letN, nI_1]
    · rw [e3 j]
      by_cases c : i + 1 ≤ j ∧ j < 77
      · rw [if_pos c, if_pos (by omega), pI_row (by omega)]
      · rw [if_neg c]
        by_cases c2 : j = i
        · subst c2; rw [pI_self, if_pos (by omega)]
        · rw [pI_row c2, if_neg (by omega)]
theorem s98 (k40 : Nat → Int32 → rd_S → Option (Int32 × rd_S)) {k : Nat} (hk : k < 7) : ∀ (r i n : Nat) (M : rd_S), Sh M → i + r = 8 → r < n → ∃ M1, F_X12_oneMore_98 wF k40 n 76 (nI k) (nI i) M = k40 76 (nI (k + 1)) M1 ∧ M1.2 = M.2 ∧
    (∀ a j, (a = 87 ∨ a = 89) → M1.1 a j = if 64 * (3 + k) + i ≤ j ∧ j < 64 * (3 + k) + 8 then M.1 a (j + 64) else M.1 a j) ∧ ∀ a, a ≠ 87 → a ≠ 89 → M1.1 a = M.1 a := by
  intro r
  induction r with
  | zero =>
    intro i n M hm hi hn
    obtain ⟨n, rfl⟩ : ∃ q, n = q + 1 := ⟨n - 1, by omega⟩
    have : i = 8 := by omega
    subst this
    refine ⟨M, ?_, rfl, fun a j _ => by rw [if_neg (by omega)], fun _ _ _ => rfl⟩
    show B_X12_oneMore_98 wF k40 (F_X12_oneMore_98 wF k40 n) 76 (nI k) (nI 8) M = _
    unfold B_X12_oneMore_98
    rw [if_pos (by decide), rd_letN, nI_1]
  | succ r ih =>
    intro i n M hm hi hn
    obtain ⟨n, rfl⟩ : ∃ q, n = q + 1 := ⟨n - 1, by omega⟩
    obtain ⟨M1, e1, e2, e3, e4⟩ := ih (i + 1) n (pI (pI M 87 (64 * (3 + k) + i) (M.1 87 (64 * (3 + k) + i + 64))) 89 (64 * (3 + k) + i) (M.1 89 (64 * (3 + k) + i + 64))) hm (by omega) (by omega)
    refine ⟨M1, ?_, e2, fun a j ha => ?_, fun a h1 h2 => by rw [e4 a h1 h2, pI_ne h2, pI_ne h1]⟩
    · rw [← e1]
      show B_X12_oneMore_98 wF k40 (F_X12_oneMore_98 wF k40 n) 76 (nI k) (nI i) M = _
      unfold B_X12_oneMore_98
      have i1 : (3 + nI k + 1) * 64 + nI i = nI (64 * (3 + k) + i + 64) := by
        show (nI 3 + nI k + nI 1) * nI 64 + nI i = _
        rw [nI_add, nI_add, pk_mul, nI_add, show (3 + k + 1) * 64 + i = 64 * (3 + k) + i + 64 by omega]
      have i2 : (3 + nI k) * 64 + nI i = nI (64 * (3 + k) + i) := by
        show (nI 3 + nI k) * nI 64 + nI i = _
        rw [nI_add, pk_mul, nI_add, show (3 + k) * 64 + i = 64 * (3 + k) + i by omega]
      rw [if_neg (show ¬ (8 : Int32) ≤ nI i from nI_ge (b := 8) (by omega) (by decide)), i1, i2]
      have l1 : ∀ E : Option (Int32 × rd_S), rd_i (nI (64 * (3 + k) + i + 64)) 704 E = E := fun E => rd_iN _ (by omega) (by decide)
      have l2 : ∀ E : Option (Int32 × rd_S), rd_i (nI (64 * (3 + k) + i)) 704 E = E := fun E => rd_iN _ (by omega) (by decide)
      have l3 : (nI (64 * (3 + k) + i + 64)).toNatClampNeg = 64 * (3 + k) + i + 64 := nI_clamp (by omega)
      have l4 : (nI (64 * (3 + k) + i)).toNatClampNeg = 64 * (3 + k) + i := nI_clamp (by omega)
      simp (disch := decide) only [sh_76_27 hm, sh_76_29 hm, gR_pI, rd_cN, rd_letN, ln_87, ln_89, l1, l2, l3, l4, nI_1, gI, pI_ne]
    · rw [e3 a j ha]
      have w : ∀ q, q ≠ 64 * (3 + k) + i → (pI (pI M 87 (64 * (3 + k) + i) (M.1 87 (64 * (3 + k) + i + 64))) 89 (64 * (3 + k) + i) (M.1 89 (64 * (3 + k) + i + 64))).1 a q = M.1 a q := fun q hq => by
        rw [pI1, pI1, if_neg hq, if_neg hq, ite_self, ite_self]
      by_cases c : 64 * (3 + k) + (i + 1) ≤ j ∧ j < 64 * (3 + k) + 8
      · rw [if_pos c, if_pos (by omega), w _ (by omega)]
      · rw [if_neg c]
        by_cases c2 : j = 64 * (3 + k) + i
        · subst c2
          rw [if_pos (by omega)]
          rcases ha with rfl | rfl
          · rw [pI_ne (by decide), pI_self]
          · rw [pI_self]
        · rw [if_neg (by omega), w _ c2]
theorem s40 : ∀ (r k n : Nat) (M : rd_S), Sh M → k + r = 7 → r < n → ∃ M1, F_X12_oneMore_40 wF n 76 (nI k) M = B_X12_oneMore_178 wF 76 (pI M1 76 53 7) ∧ M1.2 = M.2 ∧ (∀ j, M1.1 98 j = if k ≤ j ∧ j < 7 then M.1 98 (j + 1) else M.1 98 j) ∧
    (∀ a j, (a = 88 ∨ a = 90) → M1.1 a j = if 3 + k ≤ j ∧ j < 10 then M.1 a (j + 1) else M.1 a j) ∧
    (∀ a q i, (a = 87 ∨ a = 89) → i < 8 → M1.1 a (64 * q + i) = if 3 + k ≤ q ∧ q < 10 then M.1 a (64 * (q + 1) + i) else M.1 a (64 * q + i)) ∧
    (∀ a j, (a = 87 ∨ a = 89) → j < 192 → M1.1 a j = M.1 a j) ∧ ∀ a, a ≠ 87 → a ≠ 88 → a ≠ 89 → a ≠ 90 → a ≠ 98 → M1.1 a = M.1 a := by
  intro r
  induction r with
  | zero =>
    intro k n M hm hk hn
    obtain ⟨n, rfl⟩ : ∃ q, n = q + 1 := ⟨n - 1, by omega⟩
    have : k = 7 := by omega
    subst this
    refine ⟨M, ?_, rfl, fun j => by rw [if_neg (by omega)], fun a j _ => by rw [if_neg (by omega)], fun a q i _ _ => by rw [if_neg (by omega)], fun _ _ _ _ => rfl, fun _ _ _ _ _ _ => rfl⟩
    show B_X12_oneMore_40 wF (F_X12_oneMore_40 wF n) 76 (nI 7) M = _
    unfold B_X12_oneMore_40
    rw [if_pos (by decide), rd_letN]
  | succ r ih =>
    intro k n M hm hk hn
    obtain ⟨n, rfl⟩ : ∃ q, n = q + 1 := ⟨n - 1, by omega⟩
    generalize hM' : pI (pI (pI M 98 k (M.1 98 (k + 1))) 88 (3 + k) (M.1 88 (3 + k + 1))) 90 (3 + k) (M.1 90 (3 + k + 1)) = M'
    have hm' : Sh M' := by rw [← hM']; exact hm
    obtain ⟨M2, f1, f2, f3, f4⟩ := s98 (F_X12_oneMore_40 wF n) (k := k) (by omega) 8 0 rd_big M' hm' (by omega) (by unfold rd_big; omega)
    have hm2 : Sh M2 := fun a ha => by rw [f2]; exact hm' a ha
    obtain ⟨M1, e1, e2, e3, e4, e5, e6, e7⟩ := ih (k + 1) n M2 hm2 (by omega) (by omega)
    have g98 : ∀ j, M2.1 98 j = if j = k then M.1 98 (k + 1) else M.1 98 j := fun j => by
      rw [f4 98 (by decide) (by decide), ← hM', pI_ne (by decide), pI_ne (by decide), pI1, if_pos rfl]
    have g88 : ∀ j, M2.1 88 j = if j = 3 + k then M.1 88 (3 + k + 1) else M.1 88 j := fun j => by
      rw [f4 88 (by decide) (by decide), ← hM', pI_ne (by decide), pI1, if_pos rfl, pI_ne (by decide)]
    have g90 : ∀ j, M2.1 90 j = if j = 3 + k then M.1 90 (3 + k + 1) else M.1 90 j := fun j => by
      rw [f4 90 (by decide) (by decide), ← hM', pI1, if_pos rfl, pI_ne (by decide), pI_ne (by decide)]
    have g87 : ∀ a j, (a = 87 ∨ a = 89) → M'.1 a j = M.1 a j := fun a j ha => by
      rw [← hM']
      rcases ha with rfl | rfl
      · rw [pI_ne (by decide), pI_ne (by decide), pI_ne (by decide)]
      · rw [pI_ne (by decide), pI_ne (by decide), pI_ne (by decide)]
    refine ⟨M1, ?_, ?_, fun j => ?_, fun a j ha => ?_, fun a q i ha hi => ?_, fun a j ha hj => ?_, fun a h1 h2 h3 h4 h5 => ?_⟩
    · rw [← e1, ← f1]
      show B_X12_oneMore_40 wF (F_X12_oneMore_40 wF n) 76 (nI k) M = _
      unfold B_X12_oneMore_40
      have i1 : 3 + nI k + 1 = nI (3 + k + 1) := by
        show nI 3 + nI k + nI 1 = _
        rw [nI_add, nI_add]
      have i2 : 3 + nI k = nI (3 + k) := nI_add 3 k
      rw [if_neg (show ¬ (7 : Int32) ≤ nI k from nI_ge (b := 7) (by omega) (by decide)), i1, i2]
      have l1 : ∀ E : Option (Int32 × rd_S), rd_i (nI (k + 1)) 8 E = E := fun E => rd_iN _ (by omega) (by decide)
      have l2 : ∀ E : Option (Int32 × rd_S), rd_i (nI k) 8 E = E := fun E => rd_iN _ (by omega) (by decide)
      have l3 : ∀ E : Option (Int32 × rd_S), rd_i (nI (3 + k + 1)) 11 E = E := fun E => rd_iN _ (by omega) (by decide)
      have l4 : ∀ E : Option (Int32 × rd_S), rd_i (nI (3 + k)) 11 E = E := fun E => rd_iN _ (by omega) (by decide)
      have c1 : (nI (k + 1)).toNatClampNeg = k + 1 := nI_clamp (by omega)
      have c2 : (nI k).toNatClampNeg = k := nI_clamp (by omega)
      have c3 : (nI (3 + k + 1)).toNatClampNeg = 3 + k + 1 := nI_clamp (by omega)
      have c4 : (nI (3 + k)).toNatClampNeg = 3 + k := nI_clamp (by omega)
      simp (disch := decide) only [sh_76_52 hm, sh_76_28 hm, sh_76_30 hm, gR_pI, rd_cN, rd_letN, ln_98, ln_88, ln_90, nI_1, l1, l2, l3, l4, c1, c2, c3, c4, gI, pI_ne]
      rw [← hM']
      rfl
    · rw [e2, f2, ← hM']; rfl
    · rw [e3 j, g98, g98]
      by_cases c : k + 1 ≤ j ∧ j < 7
      · rw [if_pos c, if_neg (by omega), if_pos (by omega)]
      · rw [if_neg c]
        by_cases c2 : j = k
        · rw [if_pos c2, if_pos (by omega), c2]
        · rw [if_neg c2, if_neg (by omega)]
    · rw [e4 a j ha]
      rcases ha with rfl | rfl
      · rw [g88, g88]
        by_cases c : 3 + (k + 1) ≤ j ∧ j < 10
        · rw [if_pos c, if_neg (by omega), if_pos (by omega)]
        · rw [if_neg c]
          by_cases c2 : j = 3 + k
          · rw [if_pos c2, if_pos (by omega), c2]
          · rw [if_neg c2, if_neg (by omega)]
      · rw [g90, g90]
        by_cases c : 3 + (k + 1) ≤ j ∧ j < 10
        · rw [if_pos c, if_neg (by omega), if_pos (by omega)]
        · rw [if_neg c]
          by_cases c2 : j = 3 + k
          · rw [if_pos c2, if_pos (by omega), c2]
          · rw [if_neg c2, if_neg (by omega)]
    · rw [e5 a q i ha hi, f3 a _ ha, f3 a _ ha, g87 a _ ha, g87 a _ ha, g87 a _ ha, g87 a _ ha]
      by_cases c : 3 + (k + 1) ≤ q ∧ q < 10
      · rw [if_pos c, if_neg (by omega), if_pos (by omega)]
      · rw [if_neg c]
        by_cases c2 : q = 3 + k
        · rw [if_pos (by omega), if_pos (by omega), show 64 * q + i + 64 = 64 * (q + 1) + i by omega]
        · rw [if_neg (by omega), if_neg (by omega)]
    · rw [e6 a j ha hj, f3 a j ha, if_neg (by omega), g87 a j ha]
    · rw [e7 a h1 h2 h3 h4 h5, f4 a h1 h3, ← hM', pI_ne h4, pI_ne h2, pI_ne h5]
/-- the model's new one -/
theorem s195 {k : Nat} (hk : k < 8) : ∀ (r i n : Nat) (M : rd_S), Sh M → 1 ≤ i → i + r = 11 → r < n → ∃ M1, F_X12_oneMore_195 wF n 76 (nI k) (nI i) M = some (nI k, M1) ∧ M1.2 = M.2 ∧
    (∀ j, M1.1 97 j = if 11 * k + i ≤ j ∧ j < 11 * k + 11 then -1 else if j = 11 * k then M.1 81 3 else M.1 97 j) ∧ (∀ j, M1.1 98 j = if j = k then 0 else M.1 98 j) ∧ (∀ j, M1.1 88 j = if j = 3 + k then 0 else M.1 88 j) ∧ (∀ j, M1.1 90 j = if j = 3 + k then -1 else M.1 90 j) ∧
    ∀ a, a ≠ 97 → a ≠ 98 → a ≠ 88 → a ≠ 90 → M1.1 a = M.1 a := by
  intro r
  induction r with
  | zero =>
    intro i n M hm h1 hi hn
    obtain ⟨n, rfl⟩ : ∃ q, n = q + 1 := ⟨n - 1, by omega⟩
    have : i = 11 := by omega
    subst this
    refine ⟨pI (pI (pI (pI M 97 (11 * k) (M.1 81 3)) 98 k 0) 88 (3 + k) 0) 90 (3 + k) (-1), ?_, rfl, fun j => ?_, fun j => ?_, fun j => ?_, fun j => ?_, fun a q1 q2 q3 q4 => ?_⟩
    · show B_X12_oneMore_195 wF (F_X12_oneMore_195 wF n) 76 (nI k) (nI 11) M = _
      unfold B_X12_oneMore_195
      have i1 : (11 : Int32) * nI k = nI (11 * k) := pk_mul 11 k
      have i2 : 3 + nI k = nI (3 + k) := nI_add 3 k
      rw [if_pos (by decide), i1, i2]
      have l1 : ∀ E : Option (Int32 × rd_S), rd_i (nI (11 * k)) 88 E = E := fun E => rd_iN _ (by omega) (by decide)
      have l2 : ∀ E : Option (Int32 × rd_S), rd_i (nI k) 8 E = E := fun E => rd_iN _ (by omega) (by decide)
      have l4 : ∀ E : Option (Int32 × rd_S), rd_i (nI (3 + k)) 11 E = E := fun E => rd_iN _ (by omega) (by decide)
      have c1 : (nI (11 * k)).toNatClampNeg = 11 * k := nI_clamp (by omega)
      have c2 : (nI k).toNatClampNeg = k := nI_clamp (by omega)
      have c4 : (nI (3 + k)).toNatClampNeg = 3 + k := nI_clamp (by omega)
      simp (disch := decide) only [sh_76_51 hm, sh_76_18 hm, sh_76_52 hm, sh_76_28 hm, sh_76_30 hm, gR_pI, rd_cN, rd_letN, ln_97, ln_81, ln_98, ln_88, ln_90, l1, l2, l4, c1, c2, c4, gI, rd_iT, tn_3]
    · rw [pI_ne (by decide), pI_ne (by decide), pI_ne (by decide), pI1, if_pos rfl, if_neg (show ¬ (11 * k + 11 ≤ j ∧ j < 11 * k + 11) by omega)]
    · rw [pI_ne (by decide), pI_ne (by decide), pI1, if_pos rfl, pI_ne (by decide)]
    · rw [pI_ne (by decide), pI1, if_pos rfl, pI_ne (by decide), pI_ne (by decide)]
    · rw [pI1, if_pos rfl, pI_ne (by decide), pI_ne (by decide), pI_ne (by decide)]
    · rw [pI_ne q4, pI_ne q3, pI_ne q2, pI_ne q1]
  | succ r ih =>
    intro i n M hm h1 hi hn
    obtain ⟨n, rfl⟩ : ∃ q, n = q + 1 := ⟨n - 1, by omega⟩
    obtain ⟨M1, e1, e2, e3, e4, e5, e6, e7⟩ := ih (i + 1) n (pI M 97 (11 * k + i) (-1)) hm (by omega) (by omega) (by omega)
    refine ⟨M1, ?_, e2, fun j => ?_, fun j => by rw [e4 j, pI_ne (by decide)], fun j => by rw [e5 j, pI_ne (by decide)], fun j => by rw [e6 j, pI_ne (by decide)], fun a q1 q2 q3 q4 => by rw [e7 a q1 q2 q3 q4, pI_ne q1]⟩
    · rw [← e1]
      show B_X12_oneMore_195 wF (F_X12_oneMore_195 wF n) 76 (nI k) (nI i) M = _
      unfold B_X12_oneMore_195
      have i1 : (11 : Int32) * nI k + nI i = nI (11 * k + i) := by
        show nI 11 * nI k + nI i = _
        rw [pk_mul, nI_add]
      rw [if_neg (show ¬ (11 : Int32) ≤ nI i from nI_ge (b := 11) (by omega) (by decide)), i1, sh_76_51 hm, rd_cN, ln_97, rd_iN _ (by omega) (by decide), nI_clamp (by omega), rd_letN, rd_letN, nI_1]
    · rw [e3 j, pI_ne (show 81 ≠ 97 by decide)]
      by_cases c : 11 * k + (i + 1) ≤ j ∧ j < 11 * k + 11
      · rw [if_pos c, if_pos (by omega)]
      · rw [if_neg c]
        by_cases c2 : j = 11 * k + i
        · rw [if_neg (by omega), if_pos (by omega), c2, pI_self]
        · rw [pI_row c2, if_neg (show ¬ (11 * k + i ≤ j ∧ j < 11 * k + 11) by omega)]
