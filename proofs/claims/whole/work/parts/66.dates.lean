/-! Dates: the class's formula, and the model's counting of years and months. -/
def fdF (x y : Int32) : Int32 := if 0 ≤ (x ^^^ y) then x / y else if x / y * y = x then x / y else x / y - 1
theorem f_fd {x y : Int32} (hy : ¬ y = 0) (S : rd_S) : F_J9_floorDiv_7cf53 wF x y S = some (fdF x y, S) := by
  unfold F_J9_floorDiv_7cf53 B_J9_floorDiv_7cf53_21 fdF rd_d
  rw [if_neg hy, rd_letN]
  by_cases h1 : 0 ≤ (x ^^^ y)
  · rw [if_pos h1, if_pos h1]
  · rw [if_neg h1, if_neg h1]
    by_cases h2 : x / y * y = x
    · rw [if_pos h2, if_pos h2]
    · rw [if_neg h2, if_neg h2]
theorem fm_pos {a b : Nat} (ha : a < 2 ^ 31) (h0 : 0 < b) (hb : b < 2 ^ 31) : fmF (nI a) (nI b) = nI (a % b) := by
  unfold fmF
  rw [nI_xor ha hb, if_pos (nI_pos' (Nat.xor_lt_two_pow ha hb))]
  exact pk_rem ha h0 hb
theorem fd_pos {a b : Nat} (ha : a < 2 ^ 31) (h0 : 0 < b) (hb : b < 2 ^ 31) : fdF (nI a) (nI b) = nI (a / b) := by
  unfold fdF
  rw [nI_xor ha hb, if_pos (nI_pos' (Nat.xor_lt_two_pow ha hb))]
  exact pk_div ha h0 hb
theorem subL {x : Int32} {c a : Nat} (hc : x = nI c) (h : c ≤ a) : nI a - x = nI (a - c) := by rw [hc, pk_sub h]
theorem divL {x : Int32} {c a : Nat} (hc : x = nI c) (ha : a < 2 ^ 31) (h0 : 0 < c) (hd : c < 2 ^ 31) : nI a / x = nI (a / c) := by rw [hc, pk_div ha h0 hd]
theorem mulL {x : Int32} {c : Nat} (hc : x = nI c) (a : Nat) : x * nI a = nI (c * a) := by rw [hc, pk_mul]
def DYn (Y : Nat) : Nat := 365 * Y + Y / 4 - Y / 100 + Y / 400
def lpB (y : Nat) : Bool := decide (y % 4 = 0) && (!decide (y % 100 = 0) || decide (y % 400 = 0))
def lpN (y : Nat) : Nat := if lpB y = true then 1 else 0
theorem lpN_le (y : Nat) : lpN y < 2 := by unfold lpN; split <;> omega
theorem DY_s (u : Nat) : DYn (u + 1) = DYn u + 365 + lpN (u + 1) := by
  unfold DYn lpN lpB
  by_cases h4 : (u + 1) % 4 = 0
  · by_cases h100 : (u + 1) % 100 = 0
    · by_cases h400 : (u + 1) % 400 = 0
      · rw [decide_eq_true h4, decide_eq_true h100, decide_eq_true h400, if_pos (by decide)]; omega
      · rw [decide_eq_true h4, decide_eq_true h100, decide_eq_false h400, if_neg (by decide)]; omega
    · have h400 : ¬ (u + 1) % 400 = 0 := by omega
      rw [decide_eq_true h4, decide_eq_false h100, decide_eq_false h400, if_pos (by decide)]; omega
  · rw [decide_eq_false h4, Bool.false_and, if_neg (by decide)]; omega
theorem DY_mono (u : Nat) : ∀ t, DYn u ≤ DYn (u + t) := by
  intro t
  induction t with
  | zero => exact Nat.le_refl _
  | succ t ih => have := DY_s (u + t); rw [show u + (t + 1) = u + t + 1 by omega]; omega
theorem DY_ex (u J : Nat) : ∀ t, DYn u ≤ J → J < DYn (u + t) → ∃ i, i < t ∧ DYn (u + i) ≤ J ∧ J < DYn (u + i + 1) := by
  intro t
  induction t with
  | zero => intro h1 h2; exact absurd h2 (by rw [Nat.add_zero]; omega)
  | succ t ih =>
    intro h1 h2
    rcases Nat.lt_or_ge J (DYn (u + t)) with h | h
    · obtain ⟨i, q1, q2, q3⟩ := ih h1 h
      exact ⟨i, by omega, q2, q3⟩
    · exact ⟨t, by omega, h, h2⟩
/-! the model -/
theorem rem_0 {y d : Nat} (hy : y < 2 ^ 31) (h0 : 0 < d) (hd : d < 2 ^ 31) : (rd_rem (nI y) (nI d) = 0) ↔ y % d = 0 := by
  have e : rd_rem (nI y) (nI d) = nI (y % d) := pk_rem hy h0 hd
  have := Nat.mod_lt y h0
  rw [e, ← nI_0, nI_eq (by omega) (by decide)]
theorem m_leap {y : Nat} (hy : y < 2 ^ 31) (S : rd_S) : F_X12_isLeap wF (nI y) S = some (if lpB y = true then 1 else 0, S) := by
  unfold F_X12_isLeap B_X12_isLeap_21 B_X12_isLeap_25 B_X12_isLeap_26 lpB
  rw [rd_zT _ (Or.inr rfl), rd_zT _ (Or.inl rfl)]
  have e4 := rem_0 (d := 4) hy (by decide) (by decide)
  have e1 := rem_0 (d := 100) hy (by decide) (by decide)
  have e400 := rem_0 (d := 400) hy (by decide) (by decide)
  by_cases h4 : y % 4 = 0
  · rw [if_pos (show rd_rem (nI y) 4 = 0 from e4.mpr h4), decide_eq_true h4, Bool.true_and]
    by_cases h1 : y % 100 = 0
    · rw [if_pos (show rd_rem (nI y) 100 = 0 from e1.mpr h1), decide_eq_true h1]
      by_cases h400 : y % 400 = 0
      · rw [if_pos (show rd_rem (nI y) 400 = 0 from e400.mpr h400), decide_eq_true h400]; rfl
      · rw [if_neg (show ¬ rd_rem (nI y) 400 = 0 from fun q => h400 (e400.mp q)), decide_eq_false h400]; rfl
    · rw [if_neg (show ¬ rd_rem (nI y) 100 = 0 from fun q => h1 (e1.mp q)), decide_eq_false h1]; rfl
  · rw [if_neg (show ¬ rd_rem (nI y) 4 = 0 from fun q => h4 (e4.mp q)), decide_eq_false h4]; rfl
def dmN (lp m : Nat) : Nat := if m = 2 then 28 + lp else if m = 4 ∨ m = 6 ∨ m = 9 ∨ m = 11 then 30 else 31
theorem m_days {y m : Nat} (hy : y < 2 ^ 31) (hm : m < 13) (S : rd_S) : F_X12_daysOf wF (nI y) (nI m) S = some (nI (dmN (lpN y) m), S) := by
  unfold F_X12_daysOf B_X12_daysOf_45 B_X12_daysOf_52 lpN
  rw [m_leap hy]
  generalize lpB y = b
  match m, hm with
  | 0, _ => rfl
  | 1, _ => rfl
  | 2, _ => cases b <;> rfl
  | 3, _ => rfl
  | 4, _ => rfl
  | 5, _ => rfl
  | 6, _ => rfl
  | 7, _ => rfl
  | 8, _ => rfl
  | 9, _ => rfl
  | 10, _ => rfl
  | 11, _ => rfl
  | 12, _ => rfl
def moN (lp : Nat) : Nat → Nat → Nat → Nat × Nat
  | 0, _, _ => (0, 0)
  | r + 1, k, m => if k < dmN lp m then (m, k + 1) else moN lp r (k - dmN lp m) (m + 1)
def totN (lp : Nat) : Nat → Nat → Nat
  | 0, _ => 0
  | r + 1, m => dmN lp m + totN lp r (m + 1)
def selF (x1 : Int32) (y : Nat) (q : Nat × Nat) : Int32 := if x1 = 0 then nI y else if x1 = 1 then nI q.1 else nI q.2
theorem dmN_lt {lp m : Nat} (h : lp < 2) : dmN lp m < 32 := by unfold dmN; (repeat' split) <;> omega
theorem m_86 {y : Nat} (hy : y < 2 ^ 31) (x1 : Int32) (S : rd_S) : ∀ (r m k n : Nat), m + r = 13 → k < totN (lpN y) r m → k < 1000 → r < n → F_X12_date_86 wF n x1 (nI y) (nI k) (nI m) S = some (selF x1 y (moN (lpN y) r k m), S) := by
  intro r
  induction r with
  | zero => intro m k n _ hk; exact absurd hk (Nat.not_lt_zero _)
  | succ r ih =>
    intro m k n hm hk hk2 hn
    obtain ⟨n, rfl⟩ : ∃ q, n = q + 1 := ⟨n - 1, by omega⟩
    show B_X12_date_86 wF (F_X12_date_86 wF n) x1 _ _ _ S = _
    unfold B_X12_date_86 B_X12_date_132
    have hd := dmN_lt (m := m) (lpN_le y)
    rw [m_days hy (by omega), rd_bN]
    unfold moN
    by_cases h : k < dmN (lpN y) m
    · rw [if_pos (nI_lt h (by omega)), if_pos h]
      unfold selF
      by_cases h0 : x1 = 0
      · rw [if_pos h0, if_pos h0]
      · rw [if_neg h0, if_neg h0]
        by_cases h1 : x1 = 1
        · rw [if_pos h1, if_pos h1]
        · rw [if_neg h1, if_neg h1, nI_1]
    · unfold totN at hk
      rw [if_neg (nI_nlt (by omega) (by omega)), if_neg h, m_days hy (by omega), rd_bN, pk_sub (by omega), rd_letN, nI_1, rd_letN]
      exact ih (m + 1) (k - dmN (lpN y) m) n (by omega) (by omega) (by omega) (by omega)
theorem tot_12 : ∀ lp, lp < 2 → totN lp 12 1 = 365 + lp := by decide
theorem m_38 (x1 : Int32) (S : rd_S) : ∀ (t u n k : Nat), u + t < 10000 → k < 365 + lpN (u + t + 1) → t < n → F_X12_date_38 wF n x1 (nI (u + 1)) (nI (DYn (u + t) - DYn u + k)) S = some (selF x1 (u + t + 1) (moN (lpN (u + t + 1)) 12 k 1), S) := by
  intro t
  induction t with
  | zero =>
    intro u n k hu hk hn
    obtain ⟨n, rfl⟩ : ∃ q, n = q + 1 := ⟨n - 1, by omega⟩
    show B_X12_date_38 wF (F_X12_date_38 wF n) x1 _ _ S = _
    unfold B_X12_date_38 B_X12_date_55
    simp only [Nat.add_zero] at hk ⊢
    rw [show DYn u - DYn u + k = k by omega, m_leap (by omega), rd_bN]
    have hl := lpN_le (u + 1)
    have fin : F_X12_date_86 wF rd_big x1 (nI (u + 1)) (nI k) 1 S = some (selF x1 (u + 1) (moN (lpN (u + 1)) 12 k 1), S) := m_86 (by omega) x1 S 12 1 k rd_big (by decide) (by rw [tot_12 _ hl]; exact hk) (by omega) (by unfold rd_big; omega)
    unfold lpN at hk
    cases hb : lpB (u + 1)
    · rw [hb, if_neg (by decide)] at hk
      rw [if_pos (show (if false = true then (1 : Int32) else 0) = 0 from rfl), if_pos (show nI k < 365 from nI_lt (b := 365) hk (by decide))]
      exact fin
    · rw [hb, if_pos rfl] at hk
      rw [if_neg (show ¬ (if true = true then (1 : Int32) else 0) = 0 by decide), if_pos (show nI k < 366 from nI_lt (b := 366) hk (by decide))]
      exact fin
  | succ t ih =>
    intro u n k hu hk hn
    obtain ⟨n, rfl⟩ : ∃ q, n = q + 1 := ⟨n - 1, by omega⟩
    show B_X12_date_38 wF (F_X12_date_38 wF n) x1 _ _ S = _
    unfold B_X12_date_38 B_X12_date_55 B_X12_date_75
    have e1 := DY_s u
    have e2 := DY_mono (u + 1) t
    have e3 : DYn (u + (t + 1)) = DYn (u + 1 + t) := by congr 1; omega
    have e4 : DYn (u + 1 + t) < 4000000 := by unfold DYn; omega
    have go := ih (u + 1) n k (by omega) (by rw [show u + 1 + t + 1 = u + (t + 1) + 1 by omega]; exact hk) (by omega)
    rw [show u + 1 + t + 1 = u + (t + 1) + 1 by omega] at go
    have hk2 : k < 367 := by have := lpN_le (u + (t + 1) + 1); omega
    unfold lpN at e1
    rw [m_leap (by omega), rd_bN, e3]
    cases hb : lpB (u + 1)
    · rw [hb, if_neg (by decide)] at e1
      have n1 : ¬ nI (DYn (u + 1 + t) - DYn u + k) < 365 := nI_nlt (b := 365) (by omega) (by omega)
      have s1 : nI (DYn (u + 1 + t) - DYn u + k) - 365 = nI (DYn (u + 1 + t) - DYn (u + 1) + k) := by
        rw [subL (c := 365) (by decide) (by omega)]; exact congrArg nI (by omega)
      rw [if_neg (show ¬ false = true by decide), if_pos rfl, if_neg n1, m_leap (by omega), rd_bN, hb, if_neg (show ¬ false = true by decide), if_pos rfl, s1, rd_letN, nI_1, rd_letN]
      exact go
    · rw [hb, if_pos rfl] at e1
      have n1 : ¬ nI (DYn (u + 1 + t) - DYn u + k) < 366 := nI_nlt (b := 366) (by omega) (by omega)
      have s1 : nI (DYn (u + 1 + t) - DYn u + k) - 366 = nI (DYn (u + 1 + t) - DYn (u + 1) + k) := by
        rw [subL (c := 366) (by decide) (by omega)]; exact congrArg nI (by omega)
      rw [if_pos rfl, if_neg (show ¬ (1 : Int32) = 0 by decide), if_neg n1, m_leap (by omega), rd_bN, hb, if_pos rfl, if_neg (show ¬ (1 : Int32) = 0 by decide), s1, rd_letN, nI_1, rd_letN]
      exact go
theorem early : ∀ d, d < 46 → (nI d - 1 - 45 < 0 ∧ nI d - 1 - 45 + 365 = nI (d + 319)) := by decide +kernel
theorem c1858 : DYn 1857 = 678255 ∧ DYn 1858 = 678620 ∧ lpB 1858 = false ∧ lpN 1858 = 0 := by decide +kernel
theorem sub_sub_46 (d : Nat) (h : 46 ≤ d) : nI d - 1 - 45 = nI (d - 46) := by
  rw [show nI d - 1 = nI (d - 1) from pk_sub (b := 1) (by omega), show nI (d - 1) - 45 = nI (d - 1 - 45) from pk_sub (b := 45) (by omega)]
  congr 1
theorem m_date {d t k : Nat} (x1 : Int32) (S : rd_S) (hd : d ≤ 131073) (ht : t < 400) (hJ : d + 678574 = DYn (1857 + t) + k) (hk : k < 365 + lpN (1857 + t + 1)) : F_X12_date wF (nI d - 1) x1 S = some (selF x1 (1857 + t + 1) (moN (lpN (1857 + t + 1)) 12 k 1), S) := by
  obtain ⟨c1, c2, c3, c4⟩ := c1858
  unfold F_X12_date
  rw [rd_letN]
  rcases Nat.eq_zero_or_pos t with h0 | h0
  · subst h0
    have hd46 : d < 46 := by rw [Nat.add_zero, c1] at hJ; rw [show 1857 + 0 + 1 = 1858 from rfl, c4] at hk; omega
    obtain ⟨q1, q2⟩ := early d hd46
    show B_X12_date_9 wF (B_X12_date_9 wF (F_X12_date_9 wF 99998)) x1 _ _ S = _
    unfold B_X12_date_9 B_X12_date_33
    have lp1858 := m_leap (y := 1858) (by decide) S
    rw [c3, if_neg (by decide)] at lp1858
    rw [if_neg (Int32.not_le.mpr q1), rd_letN, show (1859 : Int32) + (-1) = nI 1858 by decide, lp1858, rd_bN, if_pos rfl, q2, rd_letN]
    show (if (0 : Int32) ≤ nI (d + 319) then F_X12_date_38 wF rd_big x1 (nI 1858) (nI (d + 319)) S else _) = _
    rw [if_pos (show (0 : Int32) ≤ nI (d + 319) from nI_pos' (by omega))]
    have go := m_38 x1 S 0 1857 rd_big k (by decide) hk (by unfold rd_big; omega)
    rw [Nat.add_zero, c1] at hJ
    rw [show DYn (1857 + 0) - DYn 1857 + k = d + 319 by rw [Nat.add_zero]; omega] at go
    exact go
  · obtain ⟨t, rfl⟩ : ∃ q, t = q + 1 := ⟨t - 1, by omega⟩
    have e1 := DY_mono 1858 t
    rw [show 1857 + (t + 1) = 1858 + t by omega] at hJ hk ⊢
    show B_X12_date_9 wF (F_X12_date_9 wF 99999) x1 _ _ S = _
    unfold B_X12_date_9
    rw [sub_sub_46 d (by omega), if_pos (nI_pos' (by omega))]
    have go := m_38 x1 S t 1858 rd_big k (by omega) hk (by unfold rd_big; omega)
    rw [show DYn (1858 + t) - DYn 1858 + k = d - 46 by omega] at go
    exact go
/-! the class -/
def gYF (E : Nat) : Nat := E - E / 1460 + E / 36524 - E / 146096
theorem gYF_mono {d e : Nat} (h : d ≤ e) : gYF d ≤ gYF e := by
  unfold gYF
  have a1 : d / 146096 = d / 36524 / 4 := by rw [Nat.div_div_eq_div_mul]
  have a2 : e / 146096 = e / 36524 / 4 := by rw [Nat.div_div_eq_div_mul]
  rw [a1, a2]
  have b1 : d / 36524 ≤ e / 36524 := Nat.div_le_div_right h
  have b2 : d - d / 1460 ≤ e - e / 1460 := by omega
  generalize d - d / 1460 = p at b2
  generalize e - e / 1460 = q at b2
  generalize d / 36524 = u at b1
  generalize e / 36524 = v at b1
  omega
theorem tabY : ∀ i, i < 363 → DYn (1857 + i) / 146097 = (1857 + i) / 400 ∧ (DYn (1857 + i + 1) - 1) / 146097 = (1857 + i) / 400 ∧ gYF (DYn (1857 + i) % 146097) / 365 = (1857 + i) % 400 ∧ gYF ((DYn (1857 + i + 1) - 1) % 146097) / 365 = (1857 + i) % 400 ∧
    DYn (1857 + i) % 146097 = 365 * ((1857 + i) % 400) + (1857 + i) % 400 / 4 - (1857 + i) % 400 / 100 := by decide +kernel
theorem yoe {i doy V : Nat} (hi : i < 363) (hV : V = DYn (1857 + i) + doy) (h2 : V < DYn (1857 + i + 1)) : V / 146097 = (1857 + i) / 400 ∧ gYF (V % 146097) / 365 = (1857 + i) % 400 ∧ V % 146097 = 365 * ((1857 + i) % 400) + (1857 + i) % 400 / 4 - (1857 + i) % 400 / 100 + doy := by
  obtain ⟨t1, t2, t3, t4, t5⟩ := tabY i hi
  have d1 : DYn (1857 + i) / 146097 ≤ V / 146097 := Nat.div_le_div_right (by omega)
  have d2 : V / 146097 ≤ (DYn (1857 + i + 1) - 1) / 146097 := Nat.div_le_div_right (by omega)
  have d3 : V / 146097 = (1857 + i) / 400 := by omega
  have m1 : V % 146097 = DYn (1857 + i) % 146097 + doy := by omega
  have m2 : V % 146097 ≤ (DYn (1857 + i + 1) - 1) % 146097 := by omega
  have g1 := gYF_mono (show DYn (1857 + i) % 146097 ≤ V % 146097 by omega)
  have g2 := gYF_mono m2
  have g3 : gYF (DYn (1857 + i) % 146097) / 365 ≤ gYF (V % 146097) / 365 := Nat.div_le_div_right g1
  have g4 : gYF (V % 146097) / 365 ≤ gYF ((DYn (1857 + i + 1) - 1) % 146097) / 365 := Nat.div_le_div_right g2
  exact ⟨d3, by omega, by omega⟩
def mdC (doy : Nat) : Nat × Nat := (if 10 ≤ (5 * doy + 2) / 153 then (5 * doy + 2) / 153 - 9 else (5 * doy + 2) / 153 + 3, doy - (153 * ((5 * doy + 2) / 153) + 2) / 5 + 1)
theorem lit_fd {a : Nat} (ha : a < 2 ^ 31) : fdF (nI a) 146097 = nI (a / 146097) := fd_pos (b := 146097) ha (by decide) (by decide)
theorem lit_fm {a : Nat} (ha : a < 2 ^ 31) : fmF (nI a) 146097 = nI (a % 146097) := fm_pos (b := 146097) ha (by decide) (by decide)
theorem c_date {i doy V : Nat} {x0 : Int32} (x1 : Int32) (S : rd_S) (hx : x0 + 678881 = nI V) (hi : i < 363) (hV : V = DYn (1857 + i) + doy) (h2 : V < DYn (1857 + i + 1)) (hd : doy < 366) : F_X0_datePart wF x0 x1 S = some (selF x1 (1857 + i + (if 10 ≤ (5 * doy + 2) / 153 then 1 else 0)) (mdC doy), S) := by
  obtain ⟨y1, y2, y3⟩ := yoe hi hV h2
  have hE : V % 146097 < 146097 := Nat.mod_lt _ (by decide)
  have hVb : V < 2 ^ 31 := by
    have : DYn (1857 + i + 1) < 1000000 := by
      unfold DYn
      omega
    omega
  unfold F_X0_datePart B_X0_datePart_128 B_X0_datePart_149
  rw [hx, rd_letN, f_fd (by decide), rd_bN, f_fm (by decide), rd_bN, lit_fd hVb, lit_fm hVb, y1]
  generalize hE' : V % 146097 = E at hE y2 y3
  generalize hY : (1857 + i) % 400 = Y at y2 y3
  have hYb : Y < 400 := by rw [← hY]; exact Nat.mod_lt _ (by decide)
  have v6 : (((nI E - (nI E / 1460)) + (nI E / 36524)) - (nI E / 146096)) / 365 = nI Y := by
    rw [show nI E / 1460 = nI (E / 1460) from pk_div (d := 1460) (by omega) (by decide) (by decide), show nI E / 36524 = nI (E / 36524) from pk_div (d := 36524) (by omega) (by decide) (by decide), show nI E / 146096 = nI (E / 146096) from pk_div (d := 146096) (by omega) (by decide) (by decide), pk_sub (by omega), nI_add, pk_sub (by omega)]
    have e : nI (E - E / 1460 + E / 36524 - E / 146096) / 365 = nI ((E - E / 1460 + E / 36524 - E / 146096) / 365) := pk_div (d := 365) (by omega) (by decide) (by decide)
    rw [e]
    exact congrArg nI y2
  have v7 : nI E - (((365 * nI Y) + (nI Y / 4)) - (nI Y / 100)) = nI doy := by
    have e1 : (365 : Int32) * nI Y = nI (365 * Y) := pk_mul 365 Y
    rw [e1, show nI Y / 4 = nI (Y / 4) from pk_div (d := 4) (by omega) (by decide) (by decide), show nI Y / 100 = nI (Y / 100) from pk_div (d := 100) (by omega) (by decide) (by decide), nI_add, pk_sub (by omega), pk_sub (by omega)]
    congr 1; omega
  have v8 : ((5 * nI doy) + 2) / 153 = nI ((5 * doy + 2) / 153) := by
    have e1 : (5 : Int32) * nI doy = nI (5 * doy) := pk_mul 5 doy
    have e2 : nI (5 * doy) + 2 = nI (5 * doy + 2) := nI_add _ 2
    rw [e1, e2]
    exact pk_div (d := 153) (by omega) (by decide) (by decide)
  rw [v6, rd_letN, v7, rd_letN, v8, rd_letN]
  have e0 : (400 : Int32) * nI ((1857 + i) / 400) + nI Y = nI (1857 + i) := by
    rw [show (400 : Int32) * nI ((1857 + i) / 400) = nI (400 * ((1857 + i) / 400)) from pk_mul 400 _, nI_add]
    congr 1; omega
  rw [e0]
  unfold selF mdC
  generalize hmp : (5 * doy + 2) / 153 = mp
  have hmpb : mp < 13 := by omega
  have hmpd : (153 * mp + 2) / 5 ≤ doy := by omega
  by_cases x0 : x1 = 0
  · rw [if_pos x0, if_pos x0]
    by_cases h10 : 10 ≤ mp
    · rw [if_pos (show (10 : Int32) ≤ nI mp from nI_le (a := 10) h10 (by omega)), if_pos h10, nI_1]
    · rw [if_neg (show ¬ (10 : Int32) ≤ nI mp from nI_ge (b := 10) (by omega) (by decide)), if_neg h10, Int32.add_zero, Nat.add_zero]
  · rw [if_neg x0, if_neg x0]
    by_cases h1 : x1 = 1
    · rw [if_pos h1, if_pos h1]
      by_cases h10 : 10 ≤ mp
      · rw [if_pos (show (10 : Int32) ≤ nI mp from nI_le (a := 10) h10 (by omega)), show nI mp - 9 = nI (mp - 9) from pk_sub (b := 9) (by omega)]
        simp only [if_pos h10]
      · rw [if_neg (show ¬ (10 : Int32) ≤ nI mp from nI_ge (b := 10) (by omega) (by decide)), show nI mp + 3 = nI (mp + 3) from nI_add _ 3]
        simp only [if_neg h10]
    · rw [if_neg h1, if_neg h1]
      have e1 : (153 : Int32) * nI mp = nI (153 * mp) := pk_mul 153 mp
      have e2 : nI (153 * mp) + 2 = nI (153 * mp + 2) := nI_add _ 2
      rw [e1, e2, show nI (153 * mp + 2) / 5 = nI ((153 * mp + 2) / 5) from pk_div (d := 5) (by omega) (by decide) (by decide), pk_sub hmpd, nI_1]
theorem tabM : ∀ lp, lp < 2 → ∀ k, k < 366 → k < 365 + lp → moN lp 12 k 1 = mdC (if k < 59 + lp then 306 + k else k - 59 - lp) := by decide +kernel
theorem add_678 (d : Nat) : nI d - 1 + 678881 = nI (d + 678880) := by
  rw [Int32.sub_eq_add_neg, Int32.add_assoc, show (-1 : Int32) + 678881 = nI 678880 by decide, nI_add]
theorem t_date {d : Nat} (hd : d ≤ 131073) (x1 : Int32) (S M : rd_S) : ∃ v, F_X0_datePart wF (nI d - 1) x1 S = some (v, S) ∧ F_X12_date wF (nI d - 1) x1 M = some (v, M) := by
  obtain ⟨c1, c2, -, -⟩ := c1858
  obtain ⟨t, ht, j1, j2⟩ := DY_ex 1857 (d + 678574) 362 (by rw [c1]; omega) (by
    have : DYn (1857 + 362) = 810472 := by decide +kernel
    omega)
  have es := DY_s (1857 + t)
  generalize hk : d + 678574 - DYn (1857 + t) = k
  have hkl : k < 365 + lpN (1857 + t + 1) := by omega
  have hlp := lpN_le (1857 + t + 1)
  have em := m_date x1 M hd (by omega) (show d + 678574 = DYn (1857 + t) + k by omega) hkl
  rw [tabM _ hlp k (by omega) hkl] at em
  refine ⟨_, ?_, em⟩
  generalize hl : lpN (1857 + t + 1) = lp at es hkl hlp
  by_cases hc : k < 59 + lp
  · rw [if_pos hc]
    have := c_date x1 S (add_678 d) (i := t) (doy := 306 + k) (by omega) (by omega) (by omega) (by omega)
    rw [if_pos (by omega)] at this
    exact this
  · rw [if_neg hc]
    have es2 := DY_s (1857 + t + 1)
    have := c_date x1 S (add_678 d) (i := t + 1) (doy := k - 59 - lp) (by omega) (by rw [show 1857 + (t + 1) = 1857 + t + 1 by omega]; omega) (by rw [show 1857 + (t + 1) = 1857 + t + 1 by omega]; omega) (by omega)
    rw [if_neg (by omega), Nat.add_zero] at this
    exact this
