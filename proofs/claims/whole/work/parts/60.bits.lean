/-! BITS: the words that end d bits ago, on both sides. -/
theorem wn_low (h : Nat → Bool) (d : Nat) : ∀ k, wn h d (k + 1) = (if h d = true then 1 else 0) + 2 * wn h (d + 1) k := by
  intro k
  induction k with
  | zero =>
    show 0 + (if h (d + 0) = true then 2 ^ 0 else 0) = (if h d = true then 1 else 0) + 2 * 0
    rw [Nat.add_zero, Nat.pow_zero]; omega
  | succ k ih =>
    show wn h d (k + 1) + (if h (d + (k + 1)) = true then 2 ^ (k + 1) else 0) = (if h d = true then 1 else 0) + 2 * (wn h (d + 1) k + (if h (d + 1 + k) = true then 2 ^ k else 0))
    rw [ih, show d + (k + 1) = d + 1 + k by omega, Nat.pow_succ]
    by_cases q : h (d + 1 + k) = true
    · rw [if_pos q, if_pos q]; omega
    · rw [if_neg q, if_neg q]; omega
theorem wn_lt (h : Nat → Bool) (d : Nat) : ∀ k, wn h d k < 2 ^ k := by
  intro k
  induction k with
  | zero => exact Nat.one_pos
  | succ k ih =>
    show wn h d k + (if h (d + k) = true then 2 ^ k else 0) < _
    rw [Nat.pow_succ]
    by_cases q : h (d + k) = true
    · rw [if_pos q]; omega
    · rw [if_neg q]; omega
theorem WN_lt (h : Nat → Bool) (d : Nat) : WN h d < 67108864 := wn_lt h d 26
def hpsh (b : Bool) (h : Nat → Bool) : Nat → Bool
  | 0 => b
  | k + 1 => h k
theorem wn_psh (b : Bool) (h : Nat → Bool) (d : Nat) : ∀ k, wn (hpsh b h) (d + 1) k = wn h d k := by
  intro k
  induction k with
  | zero => rfl
  | succ k ih =>
    show wn (hpsh b h) (d + 1) k + (if hpsh b h (d + 1 + k) = true then 2 ^ k else 0) = wn h d k + (if h (d + k) = true then 2 ^ k else 0)
    rw [ih, show d + 1 + k = (d + k) + 1 by omega]
    rfl
theorem WN_psh (b : Bool) (h : Nat → Bool) (d : Nat) : WN (hpsh b h) (d + 1) = WN h d := wn_psh b h d 26
def b2n (b : Bool) : Nat := if b = true then 1 else 0
theorem b2n_lt (b : Bool) : b2n b < 2 := by cases b <;> decide
theorem b2i_n (b : Bool) : b2i b = nI (b2n b) := by cases b <;> rfl
theorem sh_or {v : Nat} (hv : v < 1073741824) (b : Bool) : rd_shl (nI v) 1 ||| b2i b = nI (v * 2 + b2n b) := by
  have e : rd_shl (nI v) 1 = nI (v * 2 ^ 1) := nI_shl (n := 1) (by decide) (by omega)
  have hb := b2n_lt b
  rw [e, b2i_n, nI_or (n := 1) (by omega) (by omega) (by decide)]
theorem word_up (b : Bool) (h : Nat → Bool) : (rd_shl (nI (WN h 0)) 1 ||| b2i b) &&& 67108863 = nI (WN (hpsh b h) 0) := by
  have h1 := WN_lt h 0
  have hb := b2n_lt b
  rw [sh_or (by omega)]
  have e : nI (WN h 0 * 2 + b2n b) &&& 67108863 = nI ((WN h 0 * 2 + b2n b) % 67108864) := pk_andN (by omega) 26 (by decide)
  rw [e]
  have e1 : WN (hpsh b h) 0 = b2n b + 2 * wn h 0 25 := by
    unfold WN
    rw [wn_low, wn_psh]; rfl
  have e2 : WN h 0 = wn h 0 25 + (if h 25 = true then 33554432 else 0) := by
    show wn h 0 25 + (if h (0 + 25) = true then 2 ^ 25 else 0) = _
    rw [Nat.zero_add]
  have e3 := wn_lt h 0 25
  rw [e1]
  congr 1
  by_cases q : h 25 = true
  · rw [if_pos q] at e2; omega
  · rw [if_neg q] at e2; omega
theorem m_end5 {came d : Nat} {h : Nat → Bool} {M : rd_S} (hm : Sh M) (h5 : M.1 76 5 = nI came) (hr : ∀ k, k < came → k < 128 → M.1 77 ((came - 1 - k) % 128) = b2i (h k)) (hd : d + 26 ≤ came) (hd2 : d ≤ 102) (hc : came < 2 ^ 30) :
    ∀ r, r ≤ 26 → ∀ n, r < n → F_X12_ended_5 wF n 76 (nI d) (nI (wn h (d + r) (26 - r))) (nI r + (-1)) M = some (nI (WN h d), M) := by
  intro r
  induction r with
  | zero =>
    intro _ n hn
    obtain ⟨n, rfl⟩ : ∃ q, n = q + 1 := ⟨n - 1, by omega⟩
    show B_X12_ended_5 wF (F_X12_ended_5 wF n) 76 _ _ _ M = _
    unfold B_X12_ended_5
    rw [if_pos (by decide)]; rfl
  | succ r ih =>
    intro hr6 n hn
    obtain ⟨n, rfl⟩ : ∃ q, n = q + 1 := ⟨n - 1, by omega⟩
    show B_X12_ended_5 wF (F_X12_ended_5 wF n) 76 _ _ _ M = _
    unfold B_X12_ended_5
    have e1 : nI came - 1 = nI (came - 1) := pk_sub (b := 1) (by omega)
    have e2 : nI (came - 1) - nI d = nI (came - 1 - d) := pk_sub (by omega)
    have e3 : nI (came - 1 - d) - nI r = nI (came - 1 - (d + r)) := by rw [pk_sub (by omega)]; congr 1; omega
    have hx : (came - 1 - (d + r)) % 128 < 128 := Nat.mod_lt _ (by decide)
    have hw := wn_lt h (d + (r + 1)) (26 - (r + 1))
    have hw2 : 2 ^ (26 - (r + 1)) ≤ 2 ^ 25 := Nat.pow_le_pow_right (by decide) (by omega)
    rw [nI_m1, if_neg (nI_pos (by omega)), sh_76_3 hm, rd_cN, show gI M 76 5 = nI came from h5, e1, e2, e3, and_127 (by omega), rd_letN, ln_77, rd_iN _ hx (by decide), nI_clamp (by omega), show gI M 77 ((came - 1 - (d + r)) % 128) = b2i (h (d + r)) from hr (d + r) (by omega) (by omega), sh_or (by omega), rd_letN, rd_letN]
    have e4 : wn h (d + (r + 1)) (26 - (r + 1)) * 2 + b2n (h (d + r)) = wn h (d + r) (26 - r) := by
      rw [show 26 - r = (26 - (r + 1)) + 1 by omega, wn_low, show d + r + 1 = d + (r + 1) by omega]
      unfold b2n
      omega
    rw [e4]
    exact ih (by omega) n (by omega)
theorem m_ended {came d : Nat} {h : Nat → Bool} {M : rd_S} (hm : Sh M) (h5 : M.1 76 5 = nI came) (hr : ∀ k, k < came → k < 128 → M.1 77 ((came - 1 - k) % 128) = b2i (h k)) (hd : d + 26 ≤ came) (hd2 : d ≤ 102) (hc : came < 2 ^ 30) : F_X12_ended wF 76 (nI d) M = some (nI (WN h d), M) :=
  m_end5 hm h5 hr hd hd2 hc 26 (by decide) rd_big (by unfold rd_big; omega)
/-! the class's words -/
def fmF (x y : Int32) : Int32 := if 0 ≤ (x ^^^ y) then rd_rem x y else if rd_rem x y = 0 then rd_rem x y else rd_rem x y + y
theorem f_fm {x y : Int32} (hy : ¬ y = 0) (S : rd_S) : F_J9_floorMod_7cf53 wF x y S = some (fmF x y, S) := by
  unfold F_J9_floorMod_7cf53 B_J9_floorMod_7cf53_18 fmF rd_d
  rw [if_neg hy, rd_letN]
  by_cases h1 : 0 ≤ (x ^^^ y)
  · rw [if_pos h1, if_pos h1]
  · rw [if_neg h1, if_neg h1]
    by_cases h2 : rd_rem x y = 0
    · rw [if_pos h2, if_pos h2]
    · rw [if_neg h2, if_neg h2]
theorem fm79 : ∀ nw, nw < 79 → ∀ i, i < 4 → fmF (nI nw - nI i * 26) 79 = nI ((nw + 79 - 26 * i) % 79) := by decide +kernel
theorem m26 : ∀ i, i < 4 → nI i * 26 + 26 = nI (26 * i + 26) := by decide +kernel
/-- the two rings: the class's words, the model's bits -/
def RG (came nw : Nat) (h : Nat → Bool) (S M : rd_S) : Prop := S.1 2 8 = nI (min came 104) ∧ S.1 2 7 = nI nw ∧ nw < 79 ∧ (∀ d, d < came → d < 79 → S.1 8 ((nw + 79 - d) % 79) = nI (WN h d)) ∧ M.1 76 5 = nI came ∧ (∀ k, k < came → k < 128 → M.1 77 ((came - 1 - k) % 128) = b2i (h k))
theorem c_ahead {came nw i : Nat} {h : Nat → Bool} {S M : rd_S} (hs : Sh S) (hg : RG came nw h S M) (hi : i < 4) : F_X7_wordAhead wF 2 (nI i) S = some (if 26 * i + 26 ≤ came then nI (WN h (26 * i)) else -1, S) := by
  obtain ⟨h8, h7, hnw, hr, -, -⟩ := hg
  unfold F_X7_wordAhead
  rw [rd_letN, m26 i hi, show gI S 2 8 = nI (min came 104) from h8]
  by_cases q : 26 * i + 26 ≤ came
  · have hx : (nw + 79 - 26 * i) % 79 < 79 := Nat.mod_lt _ (by decide)
    rw [if_pos (nI_le (by omega) (by omega)), if_pos q, sh_2_2 hs, rd_cN, show gI S 2 7 = nI nw from h7, f_fm (by decide), rd_bN, fm79 nw hnw i hi, f_at ln_8 (by decide), rd_bN, atF_nI hx (by decide), hr _ (by omega) (by omega)]
  · rw [if_neg (nI_ge (by omega) (by omega)), if_neg q]
theorem c_place (v : Int32) (S : rd_S) : F_X11_placeOf wF (letF (restF v)) S = some (plcF v, S) := by
  unfold F_X11_placeOf B_X11_placeOf_10 plcF
  by_cases h : letF (restF v) = 4
  · rw [if_pos h, if_pos h]
  · rw [if_neg h, if_neg h]
theorem c_hit {came nw i : Nat} {h : Nat → Bool} {S M : rd_S} (hs : Sh S) (hg : RG came nw h S M) (hi : i < 4) : F_X7_hitAhead wF 2 (nI i) S = some (if 26 * i + 26 ≤ came then plcF (nI (WN h (26 * i))) else -1, S) := by
  unfold F_X7_hitAhead B_X7_hitAhead_22
  rw [c_ahead hs hg hi, rd_bN]
  by_cases q : 26 * i + 26 ≤ came
  · have := WN_lt h (26 * i)
    rw [if_pos q, if_pos q, if_neg (nI_ne_m1 (by omega)), f_X11_letterOf, rd_bN, c_place, rd_bN]
  · rw [if_neg q, if_neg q, if_pos rfl]
theorem letF_cases (r : Int32) : letF r = -1 ∨ ∃ l, l < 5 ∧ letF r = nI l := by
  unfold letF
  by_cases h0 : r = 252
  · rw [if_pos h0]; exact Or.inr ⟨0, by decide, rfl⟩
  by_cases h1 : r = 408
  · rw [if_neg h0, if_pos h1]; exact Or.inr ⟨1, by decide, rfl⟩
  by_cases h2 : r = 360
  · rw [if_neg h0, if_neg h1, if_pos h2]; exact Or.inr ⟨2, by decide, rfl⟩
  by_cases h3 : r = 436
  · rw [if_neg h0, if_neg h1, if_neg h2, if_pos h3]; exact Or.inr ⟨3, by decide, rfl⟩
  by_cases h4 : r = 848
  · rw [if_neg h0, if_neg h1, if_neg h2, if_neg h3, if_pos h4]; exact Or.inr ⟨4, by decide, rfl⟩
  · rw [if_neg h0, if_neg h1, if_neg h2, if_neg h3, if_neg h4]; exact Or.inl rfl
theorem plc_cases (v : Int32) : (letF (restF v) = -1 ∧ plcF v = -1) ∨ (¬ letF (restF v) = -1 ∧ ∃ P, P < 4 ∧ plcF v = nI P) := by
  unfold plcF
  generalize restF v = r
  rcases letF_cases r with e | ⟨l, hl, e⟩
  · rw [e, if_neg (by decide)]; exact Or.inl ⟨rfl, rfl⟩
  · rw [e]
    refine Or.inr ⟨nI_ne_m1 (by omega), ?_⟩
    by_cases h4 : nI l = 4
    · rw [if_pos h4]; exact ⟨2, by decide, rfl⟩
    · rw [if_neg h4]
      refine ⟨l, ?_, rfl⟩
      rcases Nat.lt_or_ge l 4 with q | q
      · exact q
      · exact absurd (show nI l = 4 by rw [show l = 4 by omega]; rfl) h4
/-! is there a fitting hit? -/
def anB (g : Nat → Bool) : Nat → Nat → Bool
  | 0, _ => false
  | r + 1, i => g i || anB g r (i + 1)
def hitB (came P : Nat) (h : Nat → Bool) (i : Nat) : Bool := decide (26 * i + 26 ≤ came) && decide (plcF (nI (WN h (26 * i))) = (nI P - nI i) &&& 3)
theorem anB_t {g : Nat → Bool} : ∀ r i, anB g r i = true → ∃ k, i ≤ k ∧ k < i + r ∧ g k = true := by
  intro r
  induction r with
  | zero => intro i h; exact absurd h (by unfold anB; decide)
  | succ r ih =>
    intro i h
    unfold anB at h
    rcases Bool.or_eq_true_iff.mp h with q | q
    · exact ⟨i, Nat.le_refl _, by omega, q⟩
    · obtain ⟨k, h1, h2, h3⟩ := ih (i + 1) q
      exact ⟨k, by omega, by omega, h3⟩
theorem ne3 : ∀ P, P < 4 → ∀ i, i < 4 → ¬ (-1 : Int32) = (nI P - nI i) &&& 3 := by decide +kernel
theorem c_sync {came nw P : Nat} {h : Nat → Bool} {S M : rd_S} (hs : Sh S) (hg : RG came nw h S M) (hP : P < 4) : ∀ r i n, i + r = 4 → r < n → F_X7_isSync_2 wF n 2 (nI P) (nI i) S = some (if anB (hitB came P h) r i = true then 1 else 0, S) := by
  intro r
  induction r with
  | zero =>
    intro i n hi hn
    obtain ⟨n, rfl⟩ : ∃ q, n = q + 1 := ⟨n - 1, by omega⟩
    show B_X7_isSync_2 wF (F_X7_isSync_2 wF n) 2 _ _ S = _
    unfold B_X7_isSync_2 anB
    rw [show i = 4 by omega, if_pos (by decide), if_neg (by decide)]
  | succ r ih =>
    intro i n hi hn
    obtain ⟨n, rfl⟩ : ∃ q, n = q + 1 := ⟨n - 1, by omega⟩
    show B_X7_isSync_2 wF (F_X7_isSync_2 wF n) 2 _ _ S = _
    unfold B_X7_isSync_2 anB
    have e3 : ¬ (3 : Int32) < nI i := nI_nlt (a := 3) (by omega) (by omega)
    rw [if_neg e3, c_hit hs hg (by omega), rd_bN]
    by_cases q : 26 * i + 26 ≤ came
    · rw [if_pos q]
      by_cases q2 : plcF (nI (WN h (26 * i))) = (nI P - nI i) &&& 3
      · have : hitB came P h i = true := by unfold hitB; rw [decide_eq_true q, decide_eq_true q2]; rfl
        rw [if_pos q2, this, Bool.true_or, if_pos rfl]
      · have : hitB came P h i = false := by unfold hitB; rw [decide_eq_false q2, Bool.and_false]
        rw [if_neg q2, this, Bool.false_or, rd_letN, nI_1]
        exact ih (i + 1) n (by omega) (by omega)
    · have : hitB came P h i = false := by unfold hitB; rw [decide_eq_false q, Bool.false_and]
      rw [if_neg q, if_neg (ne3 P hP i (by omega)), this, Bool.false_or, rd_letN, nI_1]
      exact ih (i + 1) n (by omega) (by omega)
/-- the model's SYNC begins -/
def stM (M : rd_S) : rd_S := pI (pI (pI (pI (pI (pI M 76 7 1) 76 14 (M.1 76 14 + 1)) 76 9 0) 76 11 0) 76 12 0) 76 8 0
def ST (P came : Nat) (M : rd_S) : Option rd_S := F_X12_search_167 wF rd_big 76 (nI P) (nI came) 0 (stM M)
theorem v31_lo : ∀ c, c < 104 → ∀ i, i < 4 → c < 26 * i + 26 → nI c - 1 - 26 * nI i < 25 := by decide +kernel
theorem m26' : ∀ i, i < 4 → 26 * nI i = nI (26 * i) := by decide +kernel
theorem m_s56 {came P : Nat} {h : Nat → Bool} {M : rd_S} (hm : Sh M) (h5 : M.1 76 5 = nI came) (hc : came < 2 ^ 30) (hh : ∀ d, d + 26 ≤ came → d < 128 → M.1 78 ((came - 1 - d) % 128) = plcF (nI (WN h d))) :
    ∀ r i n (f : Bool), i + r = 4 → r < n → F_X12_search_56 wF n 76 (nI P) (if f = true then 1 else 0) (nI i) M = if (f || anB (hitB came P h) r i) = true then ST P came M else some M := by
  intro r
  induction r with
  | zero =>
    intro i n f hi hn
    obtain ⟨n, rfl⟩ : ∃ q, n = q + 1 := ⟨n - 1, by omega⟩
    show B_X12_search_56 wF (F_X12_search_56 wF n) 76 _ _ _ M = _
    unfold B_X12_search_56 anB
    rw [show i = 4 by omega, if_pos (by decide), Bool.or_false]
    cases f
    · rw [if_pos (show (if false = true then (1 : Int32) else 0) = 0 from rfl), if_neg (by decide)]
    · rw [if_neg (show ¬ (if true = true then (1 : Int32) else 0) = 0 by decide), if_pos rfl]
      simp only [rd_letN]
      unfold ST stM
      have e1 : gI (pI M 76 7 1) 76 14 = M.1 76 14 := pI_row (by decide)
      rw [e1]
      have e2 : gI (pI (pI (pI (pI (pI (pI M 76 7 1) 76 14 (M.1 76 14 + 1)) 76 9 0) 76 11 0) 76 12 0) 76 8 0) 76 5 = nI came := by
        show (pI (pI (pI (pI (pI (pI M 76 7 1) 76 14 (M.1 76 14 + 1)) 76 9 0) 76 11 0) 76 12 0) 76 8 0).1 76 5 = _
        rw [pI_row (by decide), pI_row (by decide), pI_row (by decide), pI_row (by decide), pI_row (by decide), pI_row (by decide)]; exact h5
      rw [e2]
  | succ r ih =>
    intro i n f hi hn
    obtain ⟨n, rfl⟩ : ∃ q, n = q + 1 := ⟨n - 1, by omega⟩
    show B_X12_search_56 wF (F_X12_search_56 wF n) 76 _ _ _ M = _
    unfold B_X12_search_56 B_X12_search_106 B_X12_search_110 B_X12_search_111
    have e4 : ¬ (4 : Int32) ≤ nI i := nI_ge (b := 4) (by omega) (by decide)
    rw [if_neg e4, show gI M 76 5 = nI came from h5, rd_letN]
    have go1 := ih (i + 1) n true (by omega) (by omega)
    have go0 := ih (i + 1) n false (by omega) (by omega)
    rw [if_pos rfl, Bool.true_or, if_pos rfl] at go1
    rw [if_neg (by decide), Bool.false_or] at go0
    unfold anB
    cases f
    · rw [if_neg (show ¬ false = true by decide), if_pos rfl, Bool.false_or]
      by_cases q : 26 * i + 26 ≤ came
      · have ev : nI came - 1 - 26 * nI i = nI (came - 1 - 26 * i) := by
          rw [m26' i (by omega), show nI came - 1 = nI (came - 1) from pk_sub (b := 1) (by omega), pk_sub (by omega)]
        have hx : (came - 1 - 26 * i) % 128 < 128 := Nat.mod_lt _ (by decide)
        rw [ev, if_neg (show ¬ nI (came - 1 - 26 * i) < 25 from nI_nlt (b := 25) (by omega) (by omega)), sh_76_4 hm, rd_cN, and_127 (by omega), rd_letN, ln_78, rd_iN _ hx (by decide), nI_clamp (by omega), show gI M 78 ((came - 1 - 26 * i) % 128) = plcF (nI (WN h (26 * i))) from hh (26 * i) q (by omega), nI_1, rd_letN, rd_letN]
        by_cases q2 : plcF (nI (WN h (26 * i))) = (nI P - nI i) &&& 3
        · have : hitB came P h i = true := by unfold hitB; rw [decide_eq_true q, decide_eq_true q2]; rfl
          rw [if_pos q2, this, Bool.true_or, if_pos rfl]; exact go1
        · have : hitB came P h i = false := by unfold hitB; rw [decide_eq_false q2, Bool.and_false]
          rw [if_neg q2, this, Bool.false_or]; exact go0
      · have : hitB came P h i = false := by unfold hitB; rw [decide_eq_false q, Bool.false_and]
        rw [if_pos (v31_lo came (by omega) i (by omega) (by omega)), this, Bool.false_or, nI_1, rd_letN]; exact go0
    · rw [if_pos rfl, if_neg (by decide), Bool.true_or, if_pos rfl, nI_1, rd_letN]; exact go1
