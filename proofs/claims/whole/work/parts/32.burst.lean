/-! BURSTS: what both sides' loops count. A state is (how many, the burst, the bits put right). -/
abbrev bq : Type := Int32 × Int32 × Int32
def bl (p : Nat) : Nat := if p < 2 then 1 else if p < 4 then 2 else if p < 8 then 3 else if p < 16 then 4 else 5
def bstep (x wr : Int32) (p a : Nat) (q : bq) : bq := if restF (rd_shl (nI p) (nI a)) = wr then (q.1 + 1, rd_shl (nI p) (nI a), x ^^^ rd_shl (nI p) (nI a)) else q
def bin (x wr : Int32) (p : Nat) : Nat → Nat → bq → bq
  | 0, _, q => q
  | r + 1, a, q => bin x wr p r (a + 1) (bstep x wr p a q)
def bf (x wr : Int32) (ps : List Nat) (q : bq) : bq := ps.foldl (fun q p => bin x wr p (27 - bl p) 0 q) q
def txF (x : Int32) : Int32 := if rd_ush (rd_shl x 1) 10 = 0 then rd_shl x 1 else rd_shl x 1 ^^^ 1465
theorem f_X11_timesX (w : rd_W) (x : Int32) (S : rd_S) : F_X11_timesX w x S = some (txF x, S) := by
  unfold F_X11_timesX B_X11_timesX_20 txF
  simp only [rd_let]
  by_cases h : rd_ush (rd_shl x 1) 10 = 0
  · rw [if_pos h, if_pos h]
  · rw [if_neg h, if_neg h]
theorem tx_tab : ∀ p, p < 32 → p % 2 = 1 → ∀ a, a < 26 - bl p → txF (restF (rd_shl (nI p) (nI a))) = restF (rd_shl (nI p) (nI (a + 1))) := by decide +kernel
theorem up_tab : ∀ p, p < 32 → p % 2 = 1 → ∀ a, a < 27 - bl p → ¬ (26 ≤ nI a) ∧ ¬ (67108863 < rd_shl (nI p) (nI a)) := by decide +kernel
theorem up_end : ∀ p, p < 32 → p % 2 = 1 → (26 ≤ nI (27 - bl p)) ∨ (67108863 < rd_shl (nI p) (nI (27 - bl p))) := by decide +kernel
theorem bl_le (p : Nat) : 1 ≤ bl p ∧ bl p ≤ 5 := by
  unfold bl
  split; · omega
  split; · omega
  split; · omega
  split <;> omega
theorem corr_X11_in (w : rd_W) (S : rd_S) (k29 : Int32 → Int32 → Int32 → Int32 → Int32 → Int32 → rd_S → Option (Int32 × rd_S)) (x0 x2 wr : Int32) (p : Nat) (hp : p < 32) (ho : p % 2 = 1) :
    ∀ (r a n : Nat) (q : bq) (lf : Int32), a + r = 27 - bl p → r < n → (0 < r → lf = restF (rd_shl (nI p) (nI a))) → F_X11_corrected_44 w k29 n x0 x2 wr q.1 q.2.1 (nI p) lf (nI a) S = B_X11_corrected_91 w k29 x0 x2 wr (bin x0 wr p r a q).1 (bin x0 wr p r a q).2.1 (nI p) S := by
  intro r
  induction r with
  | zero =>
    intro a n q lf ha hn _
    obtain ⟨m, rfl⟩ : ∃ m, n = m + 1 := ⟨n - 1, by omega⟩
    show B_X11_corrected_44 w k29 (F_X11_corrected_44 w k29 m) x0 x2 wr q.1 q.2.1 (nI p) lf (nI a) S = _
    unfold B_X11_corrected_44
    have e : a = 27 - bl p := by omega
    subst e
    rcases up_end p hp ho with h | h
    · rw [if_pos h]; rfl
    · by_cases h9 : 26 ≤ nI (27 - bl p)
      · rw [if_pos h9]; rfl
      · rw [if_neg h9, if_pos h]; rfl
  | succ r ih =>
    intro a n q lf ha hn hlf
    obtain ⟨m, rfl⟩ : ∃ m, n = m + 1 := ⟨n - 1, by omega⟩
    show B_X11_corrected_44 w k29 (F_X11_corrected_44 w k29 m) x0 x2 wr q.1 q.2.1 (nI p) lf (nI a) S = _
    obtain ⟨h1, h2⟩ := up_tab p hp ho a (by omega)
    have hl := hlf (by omega)
    subst hl
    have hstep : ∀ q' : bq, B_X11_corrected_78 w (F_X11_corrected_44 w k29 m) x0 x2 wr q'.1 q'.2.1 (nI p) (restF (rd_shl (nI p) (nI a))) (nI a) S = B_X11_corrected_91 w k29 x0 x2 wr (bin x0 wr p r (a + 1) q').1 (bin x0 wr p r (a + 1) q').2.1 (nI p) S := fun q' => by
      unfold B_X11_corrected_78
      rw [f_X11_timesX, rd_bS]
      simp only [rd_let]
      rw [nI_1]
      exact ih (a + 1) m q' _ (by omega) (by omega) (fun hr => tx_tab p hp ho a (by omega))
    unfold B_X11_corrected_44
    rw [if_neg h1, if_neg h2]
    simp only [rd_let]
    show _ = B_X11_corrected_91 w k29 x0 x2 wr (bin x0 wr p r (a + 1) (bstep x0 wr p a q)).1 (bin x0 wr p r (a + 1) (bstep x0 wr p a q)).2.1 (nI p) S
    unfold bstep
    by_cases h : restF (rd_shl (nI p) (nI a)) = wr
    · rw [if_pos h, if_pos h]
      exact hstep (q.1 + 1, rd_shl (nI p) (nI a), x0 ^^^ rd_shl (nI p) (nI a))
    · rw [if_neg h, if_neg h]
      exact hstep q
def odds : Nat → Nat → List Nat
  | 0, _ => []
  | r + 1, p => p :: odds r (p + 2)
theorem pw_tab : ∀ L, L < 6 → rd_shl 1 (nI L) = nI (2 ^ L) := by decide +kernel
theorem corr_X11_out (w : rd_W) (S : rd_S) (x0 wr : Int32) (L : Nat) (hL : L < 6) :
    ∀ (r p n : Nat) (q : bq), p % 2 = 1 → (p + 2 * r = 2 ^ L + 1 ∨ (r = 0 ∧ 2 ^ L ≤ p ∧ p < 64)) → r < n → F_X11_corrected_29 w n x0 (nI L) wr q.1 q.2.1 (nI p) S = some (if (bf x0 wr (odds r p) q).1 = 1 then x0 ^^^ (bf x0 wr (odds r p) q).2.1 else -1, S) := by
  have hpw : 2 ^ L ≤ 32 := Nat.pow_le_pow_right (n := 2) (by omega) (show L ≤ 5 by omega)
  intro r
  induction r with
  | zero =>
    intro p n q ho hp hn
    obtain ⟨m, rfl⟩ : ∃ m, n = m + 1 := ⟨n - 1, by omega⟩
    show B_X11_corrected_29 w (F_X11_corrected_29 w m) x0 (nI L) wr q.1 q.2.1 (nI p) S = _
    unfold B_X11_corrected_29 B_X11_corrected_111
    rw [pw_tab L hL, if_pos (nI_le (by omega) (by omega))]
    show _ = some (if q.1 = 1 then x0 ^^^ q.2.1 else -1, S)
    by_cases h : q.1 = 1
    · rw [if_pos h, if_pos h]
    · rw [if_neg h, if_neg h]
  | succ r ih =>
    intro p n q ho hp hn
    obtain ⟨m, rfl⟩ : ∃ m, n = m + 1 := ⟨n - 1, by omega⟩
    show B_X11_corrected_29 w (F_X11_corrected_29 w m) x0 (nI L) wr q.1 q.2.1 (nI p) S = _
    unfold B_X11_corrected_29
    have hb := bl_le p
    have h9 := corr_X11_in w S (F_X11_corrected_29 w m) x0 (nI L) wr p (by omega) ho (27 - bl p) 0 rd_big q (nI p) (by omega) (by unfold rd_big; omega) (fun _ => (by decide +kernel : ∀ p, p < 32 → nI p = restF (rd_shl (nI p) (nI 0))) p (by omega))
    rw [nI_0] at h9
    rw [pw_tab L hL, if_neg (nI_ge (by omega) (by omega)), h9]
    unfold B_X11_corrected_91
    simp only [rd_let]
    have e : nI p + 2 = nI (p + 2) := nI_add p 2
    rw [e]
    exact ih (p + 2) m (bin x0 wr p (27 - bl p) 0 q) (by omega) (by omega) (by omega)
def npat (L : Nat) : Nat := 2 ^ L / 2
/-- the bits put right by the only BURST of at most L whose REST is wr; -1 without just one -/
def corF (x wr : Int32) (L : Nat) : Int32 := if (bf x wr (odds (npat L) 1) (0, 0, -1)).1 = 1 then x ^^^ (bf x wr (odds (npat L) 1) (0, 0, -1)).2.1 else -1
theorem f_X11_offsetOf (w : rd_W) (l : Nat) (hl : l < 5) (S : rd_S) : F_X11_offsetOf w (nI l) S = some (offF (nI l), S) := by
  match l, hl with
  | 0, _ => rfl
  | 1, _ => rfl
  | 2, _ => rfl
  | 3, _ => rfl
  | 4, _ => rfl
theorem f_X11_offsetOf_m (w : rd_W) (S : rd_S) : F_X11_offsetOf w (-1) S = some (-1, S) := rfl
theorem f_X11_corrected (w : rd_W) (x : Int32) (l : Nat) (hl : l < 5) (L : Nat) (hL : L < 6) (S : rd_S) : F_X11_corrected w x (nI l) (nI L) S = some (corF x (restF x ^^^ offF (nI l)) L, S) := by
  unfold F_X11_corrected
  rw [f_X11_offsetOf w l hl, rd_bS, if_neg (by match l, hl with | 0, _ => decide | 1, _ => decide | 2, _ => decide | 3, _ => decide | 4, _ => decide), f_X11_rest, rd_bS]
  simp only [rd_let]
  have h := corr_X11_out w S x (restF x ^^^ offF (nI l)) L hL (npat L) 1 rd_big (0, 0, -1) (by decide) (by
    unfold npat
    match L, hL with
    | 0, _ => exact Or.inr ⟨by decide, by decide, by decide⟩
    | 1, _ => exact Or.inl (by decide)
    | 2, _ => exact Or.inl (by decide)
    | 3, _ => exact Or.inl (by decide)
    | 4, _ => exact Or.inl (by decide)
    | 5, _ => exact Or.inl (by decide)) (by
    have : npat L ≤ 32 := by
      unfold npat
      have := Nat.pow_le_pow_right (n := 2) (by omega) (show L ≤ 5 by omega)
      omega
    unfold rd_big; omega)
  exact h
theorem f_X11_corrected_m (w : rd_W) (x L : Int32) (S : rd_S) : F_X11_corrected w x (-1) L S = some (-1, S) := rfl
theorem xor_move (a b c : Int32) : a ^^^ b = c ↔ b = a ^^^ c := by
  constructor
  · intro h
    rw [← h]
    apply b_ext
    intro i _
    rw [b_xor, b_xor]
    cases bt a i <;> cases bt b i <;> rfl
  · intro h
    rw [h]
    apply b_ext
    intro i _
    rw [b_xor, b_xor]
    cases bt a i <;> cases bt c i <;> rfl
theorem at_tab : ∀ n, n < 6 → ∀ a, a < 28 → ((26 < nI a + nI n) ↔ 27 - n ≤ a) := by decide +kernel
theorem corr_X12_in (w : rd_W) (S : rd_S) (k20 : Nat → Int32 → Int32 → Int32 → Int32 → Int32 → Int32 → rd_S → Option (Int32 × rd_S)) (a0 : Nat) (x l : Int32) (n p : Nat) (hn1 : 1 ≤ n) (hn : n < 6) :
    ∀ (r a N : Nat) (q : bq), a + r = 27 - n → r < N → F_X12_corrected_54 w k20 N a0 x l q.2.2 q.1 (nI n) (nI p) (nI a) S = B_X12_corrected_98 w k20 a0 x l (bin x (restF x ^^^ offF l) p r a q).2.2 (bin x (restF x ^^^ offF l) p r a q).1 (nI n) (nI p) S := by
  intro r
  induction r with
  | zero =>
    intro a N q ha hN
    obtain ⟨m, rfl⟩ : ∃ m, N = m + 1 := ⟨N - 1, by omega⟩
    show B_X12_corrected_54 w k20 (F_X12_corrected_54 w k20 m) a0 x l q.2.2 q.1 (nI n) (nI p) (nI a) S = _
    unfold B_X12_corrected_54
    rw [if_pos ((at_tab n hn a (by omega)).mpr (by omega))]
    rfl
  | succ r ih =>
    intro a N q ha hN
    obtain ⟨m, rfl⟩ : ∃ m, N = m + 1 := ⟨N - 1, by omega⟩
    show B_X12_corrected_54 w k20 (F_X12_corrected_54 w k20 m) a0 x l q.2.2 q.1 (nI n) (nI p) (nI a) S = _
    have hstep : ∀ q' : bq, B_X12_corrected_92 w (F_X12_corrected_54 w k20 m) a0 x l q'.2.2 q'.1 (nI n) (nI p) (nI a) S = B_X12_corrected_98 w k20 a0 x l (bin x (restF x ^^^ offF l) p r (a + 1) q').2.2 (bin x (restF x ^^^ offF l) p r (a + 1) q').1 (nI n) (nI p) S := fun q' => by
      unfold B_X12_corrected_92
      simp only [rd_let]
      rw [nI_1]
      exact ih (a + 1) m q' (by omega) (by omega)
    unfold B_X12_corrected_54
    rw [if_neg (fun h => by have := (at_tab n hn a (by omega)).mp h; omega), f_X12_isGood, rd_bS]
    simp only [rd_let]
    show _ = B_X12_corrected_98 w k20 a0 x l (bin x (restF x ^^^ offF l) p r (a + 1) (bstep x (restF x ^^^ offF l) p a q)).2.2 (bin x (restF x ^^^ offF l) p r (a + 1) (bstep x (restF x ^^^ offF l) p a q)).1 (nI n) (nI p) S
    unfold bstep
    rw [restF_xor]
    by_cases h : restF x ^^^ restF (rd_shl (nI p) (nI a)) = offF l
    · rw [if_pos h, if_neg (by decide), if_pos ((xor_move _ _ _).mp h)]
      exact hstep (q.1 + 1, rd_shl (nI p) (nI a), x ^^^ rd_shl (nI p) (nI a))
    · rw [if_neg h, if_pos rfl, if_neg (fun h9 => h ((xor_move _ _ _).mpr h9))]
      exact hstep q
/-- the patterns of the length n among r from p on -/
def cand (n : Nat) : Nat → Nat → List Nat
  | 0, _ => []
  | r + 1, p => if p % 2 = 1 ∧ 2 ^ (n - 1) ≤ p then p :: cand n r (p + 1) else cand n r (p + 1)
theorem cand_tab : ∀ n, 1 ≤ n → n < 6 → ∀ p, p < 2 ^ n → (((nI p &&& 1) = 0 ↔ p % 2 = 0) ∧ ((rd_shr (nI p) (nI n - 1) &&& 1) = 0 ↔ p < 2 ^ (n - 1)) ∧ (p % 2 = 1 → 2 ^ (n - 1) ≤ p → bl p = n)) := by
  intro n h1 h2
  match n, h1, h2 with
  | 1, _, _ => decide +kernel
  | 2, _, _ => decide +kernel
  | 3, _, _ => decide +kernel
  | 4, _, _ => decide +kernel
  | 5, _, _ => decide +kernel
theorem corr_X12_mid (w : rd_W) (S : rd_S) (k8 : Nat → Int32 → Int32 → Int32 → Int32 → Int32 → rd_S → Option (Int32 × rd_S)) (a0 : Nat) (x l : Int32) (n : Nat) (hn1 : 1 ≤ n) (hn : n < 6) :
    ∀ (r p N : Nat) (q : bq), p + r = 2 ^ n → r < N → F_X12_corrected_20 w k8 N a0 x l q.2.2 q.1 (nI n) (nI p) S = k8 a0 x l (bf x (restF x ^^^ offF l) (cand n r p) q).2.2 (bf x (restF x ^^^ offF l) (cand n r p) q).1 (nI (n + 1)) S := by
  have hpw : 2 ^ n ≤ 32 := Nat.pow_le_pow_right (n := 2) (by omega) (show n ≤ 5 by omega)
  intro r
  induction r with
  | zero =>
    intro p N q hp hN
    obtain ⟨m, rfl⟩ : ∃ m, N = m + 1 := ⟨N - 1, by omega⟩
    show B_X12_corrected_20 w k8 (F_X12_corrected_20 w k8 m) a0 x l q.2.2 q.1 (nI n) (nI p) S = _
    unfold B_X12_corrected_20
    rw [pw_tab n hn, if_pos (nI_le (by omega) (by omega))]
    simp only [rd_let]
    rw [nI_1]
    rfl
  | succ r ih =>
    intro p N q hp hN
    obtain ⟨m, rfl⟩ : ∃ m, N = m + 1 := ⟨N - 1, by omega⟩
    show B_X12_corrected_20 w k8 (F_X12_corrected_20 w k8 m) a0 x l q.2.2 q.1 (nI n) (nI p) S = _
    obtain ⟨c1, c2, c3⟩ := cand_tab n hn1 hn p (by omega)
    have hstep : ∀ q' : bq, B_X12_corrected_98 w (F_X12_corrected_20 w k8 m) a0 x l q'.2.2 q'.1 (nI n) (nI p) S = k8 a0 x l (bf x (restF x ^^^ offF l) (cand n r (p + 1)) q').2.2 (bf x (restF x ^^^ offF l) (cand n r (p + 1)) q').1 (nI (n + 1)) S := fun q' => by
      unfold B_X12_corrected_98
      simp only [rd_let]
      rw [nI_1]
      exact ih (p + 1) m q' (by omega) (by omega)
    unfold B_X12_corrected_20
    rw [pw_tab n hn, if_neg (nI_ge (by omega) (by omega))]
    simp only [c1, c2]
    by_cases h1 : p % 2 = 0
    · rw [if_pos h1, hstep q]
      have e : cand n (r + 1) p = cand n r (p + 1) := if_neg (by omega)
      rw [e]
    · rw [if_neg h1]
      by_cases h2 : p < 2 ^ (n - 1)
      · rw [if_pos h2, hstep q]
        have e : cand n (r + 1) p = cand n r (p + 1) := if_neg (by omega)
        rw [e]
      · rw [if_neg h2]
        have e : cand n (r + 1) p = p :: cand n r (p + 1) := if_pos (by omega)
        have hb := c3 (by omega) (by omega)
        rw [e]
        have h9 := corr_X12_in w S (F_X12_corrected_20 w k8 m) a0 x l n p hn1 hn (27 - n) 0 rd_big q (by omega) (by unfold rd_big; omega)
        rw [nI_0] at h9
        rw [h9, hstep]
        have e2 : bf x (restF x ^^^ offF l) (p :: cand n r (p + 1)) q = bf x (restF x ^^^ offF l) (cand n r (p + 1)) (bin x (restF x ^^^ offF l) p (27 - n) 0 q) := by
          show bf x (restF x ^^^ offF l) (cand n r (p + 1)) (bin x (restF x ^^^ offF l) p (27 - bl p) 0 q) = _
          rw [hb]
        rw [e2]
def cands (L : Nat) : Nat → Nat → List Nat
  | 0, _ => []
  | r + 1, n => cand n (2 ^ n) 0 ++ cands L r (n + 1)
theorem corr_X12_out (w : rd_W) (S : rd_S) (a0 : Nat) (x l : Int32) (L : Nat) (hL : L < 6) (hlim : gI S a0 1 = nI L) :
    ∀ (r n N : Nat) (q : bq), 1 ≤ n → n + r = L + 1 → r < N → F_X12_corrected_8 w N a0 x l q.2.2 q.1 (nI n) S = some (if (bf x (restF x ^^^ offF l) (cands L r n) q).1 = 1 then (bf x (restF x ^^^ offF l) (cands L r n) q).2.2 else -1, S) := by
  intro r
  induction r with
  | zero =>
    intro n N q h1 hn hN
    obtain ⟨m, rfl⟩ : ∃ m, N = m + 1 := ⟨N - 1, by omega⟩
    show B_X12_corrected_8 w (F_X12_corrected_8 w m) a0 x l q.2.2 q.1 (nI n) S = _
    unfold B_X12_corrected_8 B_X12_corrected_121
    rw [hlim, if_pos (nI_lt (by omega) (by omega))]
    show _ = some (if q.1 = 1 then q.2.2 else -1, S)
    by_cases h : q.1 = 1
    · rw [if_pos h, if_pos h]
    · rw [if_neg h, if_neg h]
  | succ r ih =>
    intro n N q h1 hn hN
    obtain ⟨m, rfl⟩ : ∃ m, N = m + 1 := ⟨N - 1, by omega⟩
    show B_X12_corrected_8 w (F_X12_corrected_8 w m) a0 x l q.2.2 q.1 (nI n) S = _
    have hpw : 2 ^ n ≤ 32 := Nat.pow_le_pow_right (n := 2) (by omega) (show n ≤ 5 by omega)
    unfold B_X12_corrected_8
    rw [hlim, if_neg (nI_nlt (by omega) (by omega))]
    have h9 := corr_X12_mid w S (F_X12_corrected_8 w m) a0 x l n h1 (by omega) (2 ^ n) 0 rd_big q (by omega) (by unfold rd_big; omega)
    rw [nI_0] at h9
    rw [h9, ih (n + 1) m _ (by omega) (by omega) (by omega)]
    have e : bf x (restF x ^^^ offF l) (cands L (r + 1) n) q = bf x (restF x ^^^ offF l) (cands L r (n + 1)) (bf x (restF x ^^^ offF l) (cand n (2 ^ n) 0) q) := List.foldl_append
    rw [e]
theorem cands_odds : ∀ L, L < 6 → cands L L 1 = odds (npat L) 1 := by decide +kernel
/-- where one was found, what is put right is the bits with the burst -/
theorem bstep_inv (x wr : Int32) (p a : Nat) (q : bq) (h : q.1 = 0 ∨ q.2.2 = x ^^^ q.2.1) : (bstep x wr p a q).1 = 0 ∨ (bstep x wr p a q).2.2 = x ^^^ (bstep x wr p a q).2.1 := by
  unfold bstep
  by_cases h9 : restF (rd_shl (nI p) (nI a)) = wr
  · rw [if_pos h9]; exact Or.inr rfl
  · rw [if_neg h9]; exact h
theorem bin_inv (x wr : Int32) (p : Nat) : ∀ (r a : Nat) (q : bq), (q.1 = 0 ∨ q.2.2 = x ^^^ q.2.1) → ((bin x wr p r a q).1 = 0 ∨ (bin x wr p r a q).2.2 = x ^^^ (bin x wr p r a q).2.1)
  | 0, _, _, h => h
  | r + 1, a, q, h => bin_inv x wr p r (a + 1) (bstep x wr p a q) (bstep_inv x wr p a q h)
theorem bf_inv (x wr : Int32) : ∀ (ps : List Nat) (q : bq), (q.1 = 0 ∨ q.2.2 = x ^^^ q.2.1) → ((bf x wr ps q).1 = 0 ∨ (bf x wr ps q).2.2 = x ^^^ (bf x wr ps q).2.1)
  | [], _, h => h
  | p :: ps, q, h => bf_inv x wr ps (bin x wr p (27 - bl p) 0 q) (bin_inv x wr p _ 0 q h)
theorem f_X12_corrected (w : rd_W) (a0 : Nat) (x l : Int32) (L : Nat) (hL : L < 6) (S : rd_S) (hlim : gI S a0 1 = nI L) : F_X12_corrected w a0 x l S = some (corF x (restF x ^^^ offF l) L, S) := by
  unfold F_X12_corrected
  have h := corr_X12_out w S a0 x l L hL hlim L 1 rd_big (0, 0, -1) (by omega) (by omega) (by unfold rd_big; omega)
  rw [cands_odds L hL] at h
  have hi := bf_inv x (restF x ^^^ offF l) (odds (npat L) 1) (0, 0, -1) (Or.inl rfl)
  refine Eq.trans h ?_
  unfold corF
  by_cases h1 : (bf x (restF x ^^^ offF l) (odds (npat L) 1) (0, 0, -1)).1 = 1
  · rw [if_pos h1, if_pos h1]
    rcases hi with hi | hi
    · rw [hi] at h1; exact absurd h1 (by decide)
    · rw [hi]
  · rw [if_neg h1, if_neg h1]
