/-! A BLOCK is LOOKED AT: what both sides make of it. -/
theorem sh_tab : ∀ p, p < 32 → ∀ a, a < 27 - bl p → rd_shl (nI p) (nI a) = nI (p * 2 ^ a) ∧ p * 2 ^ a < 67108864 := by decide +kernel
theorem bin_B (x wr : Int32) (p : Nat) (hp : p < 32) : ∀ (r a : Nat) (q : bq), a + r ≤ 27 - bl p → (∃ B, B < 67108864 ∧ q.2.1 = nI B) → ∃ B, B < 67108864 ∧ (bin x wr p r a q).2.1 = nI B := by
  intro r
  induction r with
  | zero => intro a q _ h; exact h
  | succ r ih =>
    intro a q ha h
    refine ih (a + 1) _ (by omega) ?_
    unfold bstep
    split
    · have hb := bl_le p
      obtain ⟨e1, e2⟩ := sh_tab p hp a (by omega)
      exact ⟨_, e2, e1⟩
    · exact h
theorem bf_B (x wr : Int32) : ∀ (ps : List Nat) (q : bq), (∀ p ∈ ps, p < 32) → (∃ B, B < 67108864 ∧ q.2.1 = nI B) → ∃ B, B < 67108864 ∧ (bf x wr ps q).2.1 = nI B := by
  intro ps
  induction ps with
  | nil => intro q _ h; exact h
  | cons p ps ih =>
    intro q hp h
    exact ih _ (fun r hr => hp r (List.mem_cons_of_mem _ hr)) (bin_B x wr p (hp p (List.mem_cons_self ..)) _ 0 q (by omega) h)
theorem odds_lt : ∀ L, L < 6 → ∀ p ∈ odds (npat L) 1, p < 32 := by decide +kernel
theorem nI_xor {a b : Nat} (ha : a < 2 ^ 31) (hb : b < 2 ^ 31) : nI a ^^^ nI b = nI (a ^^^ b) := by
  apply Int32.toBitVec_inj.mp
  apply BitVec.eq_of_toNat_eq
  have := Nat.xor_lt_two_pow ha hb
  rw [Int32.toBitVec_xor, BitVec.toNat_xor, pk_tn (by omega), pk_tn (by omega), pk_tn (by omega)]
theorem corF_B {V : Nat} (hV : V < 67108864) (wr : Int32) {L : Nat} (hL : L < 6) : corF (nI V) wr L = -1 ∨ ∃ W, W < 67108864 ∧ corF (nI V) wr L = nI W := by
  unfold corF
  split
  · obtain ⟨B, hB, e⟩ := bf_B (nI V) wr (odds (npat L) 1) (0, 0, -1) (odds_lt L hL) ⟨0, by decide, rfl⟩
    refine Or.inr ⟨V ^^^ B, Nat.xor_lt_two_pow (n := 26) hV hB, ?_⟩
    rw [e, nI_xor (by omega) (by omega)]
  · exact Or.inl rfl
theorem let4 (r : Int32) : letF r = 4 ↔ r = 848 := by
  unfold letF
  constructor
  · intro h
    by_cases h0 : r = 252
    · rw [if_pos h0] at h; exact absurd h (by decide)
    by_cases h1 : r = 408
    · rw [if_neg h0, if_pos h1] at h; exact absurd h (by decide)
    by_cases h2 : r = 360
    · rw [if_neg h0, if_neg h1, if_pos h2] at h; exact absurd h (by decide)
    by_cases h3 : r = 436
    · rw [if_neg h0, if_neg h1, if_neg h2, if_pos h3] at h; exact absurd h (by decide)
    by_cases h4 : r = 848
    · exact h4
    · rw [if_neg h0, if_neg h1, if_neg h2, if_neg h3, if_neg h4] at h; exact absurd h (by decide)
  · rintro rfl; decide
theorem plc_iff (v : Int32) {p : Nat} (hp : p < 4) : plcF v = nI p ↔ (restF v = offF (nI p) ∨ (p = 2 ∧ restF v = 848)) := by
  unfold plcF
  generalize restF v = r
  by_cases h0 : r = 252
  · subst h0
    match p, hp with
    | 0, _ => decide
    | 1, _ => decide
    | 2, _ => decide
    | 3, _ => decide
  by_cases h1 : r = 408
  · subst h1
    match p, hp with
    | 0, _ => decide
    | 1, _ => decide
    | 2, _ => decide
    | 3, _ => decide
  by_cases h2 : r = 360
  · subst h2
    match p, hp with
    | 0, _ => decide
    | 1, _ => decide
    | 2, _ => decide
    | 3, _ => decide
  by_cases h3 : r = 436
  · subst h3
    match p, hp with
    | 0, _ => decide
    | 1, _ => decide
    | 2, _ => decide
    | 3, _ => decide
  by_cases h4 : r = 848
  · subst h4
    match p, hp with
    | 0, _ => decide
    | 1, _ => decide
    | 2, _ => decide
    | 3, _ => decide
  have e : letF r = -1 := by
    unfold letF
    rw [if_neg h0, if_neg h1, if_neg h2, if_neg h3, if_neg h4]
  rw [e, if_neg (by decide)]
  refine ⟨fun q => absurd q.symm (nI_ne_m1 (by omega)), ?_⟩
  rintro (q | ⟨-, q⟩)
  · match p, hp with
    | 0, _ => exact absurd q h0
    | 1, _ => exact absurd q h1
    | 2, _ => exact absurd q h2
    | 3, _ => exact absurd q h3
  · exact absurd q h4
/-- the bits put right, if the aim is known -/
def crF (v A : Int32) (L : Nat) : Int32 := if A = -1 then -1 else corF v (restF v ^^^ offF A) L
/-- how a BLOCK was, its bits, whether its LETTER is C' -/
def lkF (p : Nat) (v A : Int32) (L : Nat) : Int32 × Int32 × Bool := if plcF v = nI p then (0, v, decide (letF (restF v) = 4)) else if crF v A L = -1 then (2, -1, false) else (1, crF v A L, decide (A = 4))
theorem lk_B {p V : Nat} (hV : V < 67108864) (A : Int32) {L : Nat} (hL : L < 6) : ((lkF p (nI V) A L).1 = 2 ∧ (lkF p (nI V) A L).2.1 = -1) ∨ (((lkF p (nI V) A L).1 = 0 ∨ (lkF p (nI V) A L).1 = 1) ∧ ∃ W, W < 67108864 ∧ (lkF p (nI V) A L).2.1 = nI W) := by
  unfold lkF
  split
  · exact Or.inr ⟨Or.inl rfl, V, hV, rfl⟩
  · split
    · exact Or.inl ⟨rfl, rfl⟩
    · next h =>
      unfold crF at h ⊢
      split
      · next h2 => rw [if_pos h2] at h; exact absurd rfl h
      · next h2 =>
        rw [if_neg h2] at h
        rcases corF_B hV (restF (nI V) ^^^ offF A) hL with q | ⟨W, hW, q⟩
        · exact absurd q h
        · exact Or.inr ⟨Or.inr rfl, W, hW, q⟩
/-- what a BLOCK bears -/
def ifF (w : Int32) : Int32 := if w = -1 then -1 else rd_ush w 10
theorem gok_lk {p V : Nat} (hV : V < 67108864) (A : Int32) {L : Nat} (hL : L < 6) : gok (ifF (lkF p (nI V) A L).2.1) (lkF p (nI V) A L).1 := by
  rcases lk_B (p := p) hV A hL with ⟨h1, h2⟩ | ⟨h1, W, hW, h2⟩
  · rw [h1, h2]; exact Or.inr ⟨Or.inl rfl, rfl⟩
  · rw [h2]
    unfold ifF
    rw [if_neg (nI_ne_m1 (by omega)), ush_10 (by omega)]
    exact Or.inl ⟨h1, W / 1024, by omega, rfl⟩
/-- the class keeps it -/
def kpS (S : rd_S) (p : Nat) (w st : Int32) (c4 : Bool) : rd_S := pI (pI (pI S 4 p (ifF w)) 5 p st) 3 2 (S.1 3 2 ||| (if c4 = true then 1 else 0))
theorem c_keep {S : rd_S} (hs : Sh S) {p : Nat} (hp : p < 4) (w l st : Int32) (h3 : S.1 3 2 = 0 ∨ S.1 3 2 = 1) : F_X3_keep wF 3 (nI p) w l st S = some (st, kpS S p w st (decide (l = 4))) := by
  unfold F_X3_keep B_X3_keep_27 B_X3_keep_51 B_X3_keep_55
  rw [if_neg (nI_pos (by omega)), if_neg (show ¬ (4 : Int32) ≤ nI p from nI_ge (b := 4) (by omega) (by decide)), sh_3_0 hs, rd_cN]
  have i1 : ∀ E : Option (Int32 × rd_S), rd_i (nI p) 4 E = E := fun E => rd_iN _ (by omega) (by decide)
  have c1 : (nI p).toNatClampNeg = p := nI_clamp (by omega)
  have key : ∀ t : Int32, (rd_i (nI p) (wF.2.2 4) <| rd_let (pI S 4 (nI p).toNatClampNeg t) fun s5 => rd_c (gR s5 3 1) fun b6 => rd_i (nI p) (wF.2.2 b6) <| rd_let (pI s5 b6 (nI p).toNatClampNeg st) fun s7 =>
      if l = 4 then rd_z (gI s7 3 2 ||| 1) (rd_let (pI s7 3 2 (gI s7 3 2 ||| 1)) fun s10 => some (st, s10)) else rd_z (gI s7 3 2 ||| 0) (rd_let (pI s7 3 2 (gI s7 3 2 ||| 0)) fun s10 => some (st, s10))) = some (st, pI (pI (pI S 4 p t) 5 p st) 3 2 (S.1 3 2 ||| (if decide (l = 4) = true then 1 else 0))) := by
    intro t
    have z : ∀ u : Int32, u = 0 ∨ u = 1 → (S.1 3 2 ||| u = 0 ∨ S.1 3 2 ||| u = 1) := by
      rintro u (rfl | rfl) <;> rcases h3 with q | q <;> rw [q] <;> decide
    rw [ln_4, i1, c1, rd_letN, gR_pI, sh_3_1 hs, rd_cN, ln_5, i1, rd_letN]
    have e : gI (pI (pI S 4 p t) 5 p st) 3 2 = S.1 3 2 := by
      show (pI (pI S 4 p t) 5 p st).1 3 2 = _
      rw [pI_ne (by decide), pI_ne (by decide)]
    rw [e]
    by_cases hl : l = 4
    · rw [if_pos hl, rd_zT _ (z 1 (Or.inr rfl)), rd_letN, if_pos (decide_eq_true hl)]
    · rw [if_neg hl, rd_zT _ (z 0 (Or.inl rfl)), rd_letN, if_neg (fun q => hl (of_decide_eq_true q))]
  by_cases hw : w = -1
  · rw [if_pos hw]
    unfold kpS ifF
    rw [if_pos hw]
    exact key (-1)
  · rw [if_neg hw]
    unfold kpS ifF
    rw [if_neg hw]
    exact key (rd_ush w 10)
/-- the aim -/
def aimF (p : Nat) (w1 : Int32) : Int32 := if p = 2 then (if w1 = -1 then -1 else if rd_ush w1 11 &&& 1 = 1 then 4 else 2) else nI p
theorem aim_cases (p : Nat) (w1 : Int32) (hp : p < 4) : aimF p w1 = -1 ∨ ∃ l, l < 5 ∧ aimF p w1 = nI l := by
  unfold aimF
  by_cases h : p = 2
  · rw [if_pos h]
    by_cases h1 : w1 = -1
    · rw [if_pos h1]; exact Or.inl rfl
    · rw [if_neg h1]
      by_cases h2 : rd_ush w1 11 &&& 1 = 1
      · rw [if_pos h2]; exact Or.inr ⟨4, by decide, rfl⟩
      · rw [if_neg h2]; exact Or.inr ⟨2, by decide, rfl⟩
  · rw [if_neg h]; exact Or.inr ⟨p, by omega, rfl⟩
theorem c_aim {S : rd_S} (hs : Sh S) {p : Nat} (hp : p < 4) : F_X3_aimOf wF 3 (nI p) S = some (aimF p (S.1 4 1), S) := by
  unfold F_X3_aimOf B_X3_aimOf_37 aimF
  have e1 : F_X3_knows wF 3 1 S = some (if S.1 4 1 = -1 then 0 else 1, S) := f_knows (sh_3_0 hs) ln_4 (k := 1) (by decide)
  by_cases h : p = 2
  · subst h
    rw [if_pos (show nI 2 = 2 from rfl), if_pos rfl, e1, rd_bN]
    by_cases h1 : S.1 4 1 = -1
    · rw [if_pos h1, if_pos rfl, if_pos h1]
    · rw [if_neg h1, if_neg (by decide), if_neg h1, sh_3_0 hs, rd_cN, ln_4, rd_iT _ (by decide), tn_1]
      by_cases h2 : rd_ush (S.1 4 1) 11 &&& 1 = 1
      · rw [if_pos h2, if_pos h2]
      · rw [if_neg h2, if_neg h2]
  · have : ¬ nI p = 2 := fun q => h ((nI_eq (by omega) (b := 2) (by decide)).mp q)
    rw [if_neg this, if_neg h]
theorem c_lookG {S : rd_S} (hs : Sh S) {p V L : Nat} (hp : p < 4) (hV : V < 67108864) (hL : L < 6) (h3 : S.1 3 2 = 0 ∨ S.1 3 2 = 1) : F_X3_lookAt wF 3 (nI p) (nI V) (nI L) S = some ((lkF p (nI V) (aimF p (S.1 4 1)) L).1, kpS S p (lkF p (nI V) (aimF p (S.1 4 1)) L).2.1 (lkF p (nI V) (aimF p (S.1 4 1)) L).1 (lkF p (nI V) (aimF p (S.1 4 1)) L).2.2) := by
  unfold F_X3_lookAt
  have ePl : F_X11_placeOf wF (letF (restF (nI V))) S = some (plcF (nI V), S) := by
    unfold F_X11_placeOf B_X11_placeOf_10 plcF
    by_cases h : letF (restF (nI V)) = 4
    · rw [if_pos h, if_pos h]
    · rw [if_neg h, if_neg h]
  rw [f_X11_letterOf, rd_bN, ePl, rd_bN]
  by_cases h1 : plcF (nI V) = nI p
  · have kk : lkF p (nI V) (aimF p (S.1 4 1)) L = (0, nI V, decide (letF (restF (nI V)) = 4)) := by unfold lkF; rw [if_pos h1]
    rw [kk, if_pos h1, c_keep hs hp _ _ _ h3, rd_bN]
  · rw [if_neg h1, c_aim hs hp, rd_bN]
    have eC : F_X11_corrected wF (nI V) (aimF p (S.1 4 1)) (nI L) S = some (crF (nI V) (aimF p (S.1 4 1)) L, S) := by
      unfold crF
      rcases aim_cases p (S.1 4 1) hp with q | ⟨l, hl, q⟩
      · rw [q, f_X11_corrected_m, if_pos rfl]
      · rw [q, f_X11_corrected wF _ l hl L hL, if_neg (nI_ne_m1 (by omega))]
    rw [eC, rd_bN]
    by_cases h2 : crF (nI V) (aimF p (S.1 4 1)) L = -1
    · have kk : lkF p (nI V) (aimF p (S.1 4 1)) L = (2, -1, false) := by unfold lkF; rw [if_neg h1, if_pos h2]
      rw [kk, if_pos h2, c_keep hs hp _ _ _ h3, rd_bN, decide_eq_false (show ¬ (-1 : Int32) = 4 by decide)]
    · have kk : lkF p (nI V) (aimF p (S.1 4 1)) L = (1, crF (nI V) (aimF p (S.1 4 1)) L, decide (aimF p (S.1 4 1) = 4)) := by unfold lkF; rw [if_neg h1, if_neg h2]
      rw [kk, if_neg h2, c_keep hs hp _ _ _ h3, rd_bN]
/-- the model's way to the BLOCK's kind -/
theorem m_lookA {M : rd_S} (hm : Sh M) {p : Nat} {v : Int32} (hp : p < 4) (h8 : M.1 76 8 = nI p) (hg : p = 2 → gok (M.1 81 1) (M.1 82 1)) (r : Int32) (cr : Int32 → Int32) (P : Prop) (g4 : Bool) (lk : Int32 × Int32 × Bool)
    (hgood : ∀ l S, F_X12_isGood wF v l S = some (if r = offF l then 1 else 0, S)) (hcor : ∀ A M0, ¬ A = -1 → M0.1 76 1 = M.1 76 1 → F_X12_corrected wF 76 v A M0 = some (cr A, M0)) (hcr0 : cr (-1) = -1) (hP : P ↔ (r = offF (nI p) ∨ (p = 2 ∧ r = offF 4))) (hg4 : g4 = true ↔ r = offF 4)
    (k0 : P → lk = (0, v, g4)) (k1 : ¬ P → cr (aimF p (M.1 81 1)) = -1 → lk = (2, -1, false)) (k2 : ¬ P → ¬ cr (aimF p (M.1 81 1)) = -1 → lk = (1, cr (aimF p (M.1 81 1)), decide (aimF p (M.1 81 1) = 4))) :
    ∃ M', F_X12_look wF 76 v M = B_X12_look_169 wF 76 (nI p) lk.1 lk.2.1 M' ∧ (M' = M ∨ ∃ u, M' = pI M 76 20 u) ∧ M'.1 76 20 = (if p = 0 then 0 else if p = 2 then (if lk.2.2 = true then 1 else 0) else M.1 76 20) := by
  unfold F_X12_look
  rw [show gI M 76 8 = nI p from h8, rd_letN]
  have main : ∀ M0 : rd_S, (M0 = M ∨ ∃ u, M0 = pI M 76 20 u) → ∃ M', B_X12_look_14 wF 76 v (nI p) M0 = B_X12_look_169 wF 76 (nI p) lk.1 lk.2.1 M' ∧ (M' = M0 ∨ ∃ u, M' = pI M0 76 20 u) ∧ M'.1 76 20 = if p = 2 then (if lk.2.2 = true then 1 else 0) else M0.1 76 20 := by
    intro M0 h0
    have hm0 : Sh M0 := by
      rcases h0 with rfl | ⟨v, rfl⟩
      · exact hm
      · exact hm
    have r81 : M0.1 81 = M.1 81 := by
      rcases h0 with rfl | ⟨v, rfl⟩
      · rfl
      · rw [pI_ne (by decide)]
    have r82 : M0.1 82 = M.1 82 := by
      rcases h0 with rfl | ⟨v, rfl⟩
      · rfl
      · rw [pI_ne (by decide)]
    have l1 : M0.1 76 1 = M.1 76 1 := by
      rcases h0 with rfl | ⟨v, rfl⟩
      · rfl
      · rw [pI_row (by decide)]
    have aft : ∀ A, ¬ P → aimF p (M.1 81 1) = A → ∃ M', B_X12_look_113 wF 76 v (nI p) 2 A M0 = B_X12_look_169 wF 76 (nI p) lk.1 lk.2.1 M' ∧ (M' = M0 ∨ ∃ u, M' = pI M0 76 20 u) ∧ M'.1 76 20 = if p = 2 then (if lk.2.2 = true then 1 else 0) else M0.1 76 20 := by
      intro A hn hA
      have k1' := k1 hn
      have k2' := k2 hn
      rw [hA] at k1' k2'
      have e132 : B_X12_look_113 wF 76 v (nI p) 2 A M0 = B_X12_look_132 wF 76 (nI p) 2 A (cr A) M0 := by
        unfold B_X12_look_113
        by_cases ha : A = -1
        · rw [if_pos ha, ha, hcr0]
        · rw [if_neg ha, hcor A M0 ha l1, rd_bN]
      rw [e132]
      generalize cr A = w at k1' k2'
      unfold B_X12_look_132 B_X12_look_143 B_X12_look_165 B_X12_look_166
      by_cases hcr : w = -1
      · rw [k1' hcr]
        subst hcr
        rw [if_pos rfl]
        by_cases h2 : p = 2
        · rw [if_pos (show nI p = 2 by rw [h2]; rfl), if_pos rfl, rd_zT _ (by decide), rd_letN]
          exact ⟨_, rfl, Or.inr ⟨_, rfl⟩, by rw [pI_self, if_pos h2, if_neg (by decide)]⟩
        · have : ¬ nI p = 2 := fun q => h2 ((nI_eq (by omega) (b := 2) (by decide)).mp q)
          rw [if_neg this]
          exact ⟨M0, rfl, Or.inl rfl, by rw [if_neg h2]⟩
      · rw [k2' hcr, if_neg hcr]
        by_cases h2 : p = 2
        · rw [if_pos (show nI p = 2 by rw [h2]; rfl), if_neg hcr]
          by_cases h4 : A = 4
          · rw [if_pos h4, rd_zT _ (by decide), rd_letN]
            exact ⟨_, rfl, Or.inr ⟨_, rfl⟩, by rw [pI_self, if_pos h2, if_pos (decide_eq_true h4)]⟩
          · rw [if_neg h4, rd_zT _ (by decide), rd_letN]
            exact ⟨_, rfl, Or.inr ⟨_, rfl⟩, by rw [pI_self, if_pos h2, if_neg (fun q => h4 (of_decide_eq_true q))]⟩
        · have : ¬ nI p = 2 := fun q => h2 ((nI_eq (by omega) (b := 2) (by decide)).mp q)
          rw [if_neg this]
          exact ⟨M0, rfl, Or.inl rfl, by rw [if_neg h2]⟩
    have good : ∀ t0 : Int32, (t0 = 0 ∨ t0 = 1) → P → (p = 2 → t0 = if g4 = true then 1 else 0) → ∃ M', B_X12_look_51 wF 76 v (nI p) t0 M0 = B_X12_look_169 wF 76 (nI p) lk.1 lk.2.1 M' ∧ (M' = M0 ∨ ∃ u, M' = pI M0 76 20 u) ∧ M'.1 76 20 = if p = 2 then (if lk.2.2 = true then 1 else 0) else M0.1 76 20 := by
      intro t0 ht hy h4
      rw [k0 hy]
      unfold B_X12_look_51
      by_cases h2 : p = 2
      · rw [if_pos (show nI p = 2 by rw [h2]; rfl), rd_zT _ ht, rd_letN]
        exact ⟨_, rfl, Or.inr ⟨_, rfl⟩, by rw [pI_self, if_pos h2]; exact h4 h2⟩
      · have : ¬ nI p = 2 := fun q => h2 ((nI_eq (by omega) (b := 2) (by decide)).mp q)
        rw [if_neg this]
        exact ⟨M0, rfl, Or.inl rfl, by rw [if_neg h2]⟩
    unfold B_X12_look_14 B_X12_look_31
    by_cases h2 : p = 2
    · rw [if_pos (show nI p = 2 by rw [h2]; rfl), hgood, rd_bN]
      unfold B_X12_look_32
      rw [hgood, rd_bN, rd_bN]
      by_cases h4 : r = offF 4
      · have y : P := hP.mpr (Or.inr ⟨h2, h4⟩)
        rw [if_pos h4, if_neg (by decide)]
        have gd := good 1 (Or.inr rfl) y (fun _ => by rw [if_pos (hg4.mpr h4)])
        by_cases h22 : r = offF (nI p)
        · rw [if_pos h22, if_neg (by decide)]; exact gd
        · rw [if_neg h22, if_pos rfl, if_neg (by decide)]; exact gd
      · rw [if_neg h4, if_pos rfl]
        by_cases h22 : r = offF (nI p)
        · rw [if_pos h22, if_neg (by decide)]
          exact good 0 (Or.inl rfl) (hP.mpr (Or.inl h22)) (fun _ => by rw [if_neg (fun q => h4 (hg4.mp q))])
        · have n : ¬ P := fun q => by
            rcases hP.mp q with q | ⟨-, q⟩
            · exact h22 q
            · exact h4 q
          rw [if_neg h22, if_pos rfl, if_pos rfl, if_pos (show nI p = 2 by rw [h2]; rfl), sh_76_19 hm0, rd_cN, ln_82, rd_iT _ (by decide), tn_1, show gI M0 82 1 = M.1 82 1 by (show M0.1 82 1 = _; rw [r82]), sh_76_18 hm0, rd_cN, ln_81, rd_iT _ (by decide), show gI M0 81 1 = M.1 81 1 by (show M0.1 81 1 = _; rw [r81])]
          rcases (hg h2).kn with ⟨u1, v, hv, u2⟩ | ⟨u1, u2⟩
          · have u3 : M.1 82 1 ≤ 1 := by
              rcases hg h2 with ⟨q, -⟩ | ⟨q, -⟩
              · rcases q with q | q <;> rw [q] <;> decide
              · exact absurd (by rcases q with q | q <;> rw [q] <;> decide) u1
            rw [if_pos u3]
            have eb : (rd_shr (M.1 81 1) 11 &&& 1 = 1) ↔ (rd_ush (M.1 81 1) 11 &&& 1 = 1) := by rw [u2, shr_11 (by omega), ush_11 (by omega)]
            by_cases h5 : rd_shr (M.1 81 1) 11 &&& 1 = 1
            · rw [if_pos h5]
              exact aft 4 n (by unfold aimF; rw [if_pos h2, if_neg (by rw [u2]; exact nI_ne_m1 (by omega)), if_pos (eb.mp h5)])
            · rw [if_neg h5]
              exact aft 2 n (by unfold aimF; rw [if_pos h2, if_neg (by rw [u2]; exact nI_ne_m1 (by omega)), if_neg (fun q => h5 (eb.mpr q))])
          · have u3 : ¬ M.1 82 1 ≤ 1 := fun q => absurd (Int32.le_trans u1 q) (by decide)
            rw [if_neg u3]
            exact aft (-1) n (by unfold aimF; rw [if_pos h2, if_pos u2])
    · have n2 : ¬ nI p = 2 := fun q => h2 ((nI_eq (by omega) (b := 2) (by decide)).mp q)
      rw [if_neg n2]
      unfold B_X12_look_32
      rw [hgood, rd_bN]
      by_cases h5 : r = offF (nI p)
      · rw [if_pos h5, if_neg (by decide)]
        exact good 0 (Or.inl rfl) (hP.mpr (Or.inl h5)) (fun q => absurd q h2)
      · have n : ¬ P := fun q => by
          rcases hP.mp q with q | ⟨q, -⟩
          · exact h5 q
          · exact h2 q
        rw [if_neg h5, if_pos rfl, if_pos rfl, if_neg n2]
        exact aft (nI p) n (by unfold aimF; rw [if_neg h2])
  by_cases hp0 : p = 0
  · subst hp0
    rw [if_pos (show nI 0 = 0 from rfl), rd_letN]
    obtain ⟨M', e1, e2, e3⟩ := main (pI M 76 20 0) (Or.inr ⟨_, rfl⟩)
    refine ⟨M', e1, ?_, ?_⟩
    · rcases e2 with e2 | ⟨v, e2⟩
      · exact Or.inr ⟨0, e2⟩
      · refine Or.inr ⟨v, ?_⟩
        rw [e2]
        have : (pI (pI M 76 20 0) 76 20 v).1 = (pI M 76 20 v).1 := by
          funext a j
          rw [pI1, pI1, pI1]
          by_cases h : a = 76
          · rw [if_pos h, if_pos h, if_pos h]
            by_cases h' : j = 20
            · rw [if_pos h', if_pos h']
            · rw [if_neg h', if_neg h', if_neg h']
          · rw [if_neg h, if_neg h, if_neg h]
        exact Prod.ext this rfl
    · rw [if_pos rfl]
      rw [if_neg (by decide), pI_self] at e3
      exact e3
  · have n0 : ¬ nI p = 0 := nI_ne0 (by omega) (by omega)
    rw [if_neg n0]
    obtain ⟨M', e1, e2, e3⟩ := main M (Or.inl rfl)
    exact ⟨M', e1, e2, by rw [e3, if_neg hp0]⟩
theorem m_lookG {M : rd_S} (hm : Sh M) {p V L : Nat} (hp : p < 4) (hL : L < 6) (h8 : M.1 76 8 = nI p) (h1 : M.1 76 1 = nI L) (hg : p = 2 → gok (M.1 81 1) (M.1 82 1)) : ∃ M', F_X12_look wF 76 (nI V) M = B_X12_look_169 wF 76 (nI p) (lkF p (nI V) (aimF p (M.1 81 1)) L).1 (lkF p (nI V) (aimF p (M.1 81 1)) L).2.1 M' ∧
    (M' = M ∨ ∃ u, M' = pI M 76 20 u) ∧ M'.1 76 20 = (if p = 0 then 0 else if p = 2 then (if (lkF p (nI V) (aimF p (M.1 81 1)) L).2.2 = true then 1 else 0) else M.1 76 20) := by
  refine m_lookA hm hp h8 hg (restF (nI V)) (fun A => crF (nI V) A L) (plcF (nI V) = nI p) (decide (letF (restF (nI V)) = 4)) (lkF p (nI V) (aimF p (M.1 81 1)) L) (fun l S => f_X12_isGood wF (nI V) l S) (fun A M0 hA hl => ?_) ?_ (plc_iff (nI V) hp) ?_ (fun h => ?_) (fun h h2 => ?_) (fun h h2 => ?_)
  · show _ = some (crF (nI V) A L, M0)
    unfold crF
    rw [if_neg hA]
    exact f_X12_corrected wF 76 (nI V) A L hL M0 (hl.trans h1)
  · show crF (nI V) (-1) L = -1
    unfold crF
    rw [if_pos rfl]
  · rw [decide_eq_true_iff]; exact let4 _
  · unfold lkF; rw [if_pos h]
  · unfold lkF; rw [if_neg h, if_pos h2]
  · unfold lkF; rw [if_neg h, if_neg h2]
