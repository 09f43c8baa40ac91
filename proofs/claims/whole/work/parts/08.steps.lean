/-! Calls by what they answer; steps whose branch is known; a stretch taken over from elsewhere. -/
section
variable {α : Type} {cx : rd_Cx} {G Gc : rd_G} {Qf : α → rd_T} {E : Option α} {pc : Nat} {lv lv' : List (Nat × rd_V)} {vs stk st : List rd_V} {w : rd_W} {S : rd_S} {kc ks rk : Nat} {y : MethodName}
theorem ry_to (k : rd_Y cx G Qf E pc lv' st w S kc ks) (h : rd_all lv' lv) : rd_Y cx G Qf E pc lv st w S kc ks := ry_lv lv' h k
theorem ry_ite {C : Prop} {inst : Decidable C} (k : rd_Y cx G Qf (@ite _ C inst E E) pc lv st w S kc ks) : rd_Y cx G Qf E pc lv st w S kc ks := by
  have e : @ite _ C inst E E = E := by by_cases h : C <;> simp [h]
  rw [e] at k
  exact k
theorem ry_callI {Fc : Option (Int32 × rd_S)} {f : Int32 → rd_S → Option α} (hM : ∀ l r', Fc = some r' → rd_M l cx y Gc rk vs w S (rd_rI w r')) (hrun : rd_Run cx G y Gc rk vs stk st pc w S) (hz : Gc.2.2.2.2.2.cells = 0) (hz' : Gc.2.2.2.2.2.slots = 0) (hc : kc ≤ G.2.2.2.2.2.cells) (hs : ks ≤ G.2.2.2.2.2.slots)
    (k : ∀ x T, rd_Y cx G Qf (f x T) (pc + 3) lv (.inl x :: st) w T kc ks) : rd_Y cx G Qf (rd_b Fc f) pc lv stk w S kc ks := by
  refine ry_call (rd_rI w) hM hrun (by rw [hz]; exact hc) (by rw [hz']; exact hs) (fun r' _ _ => ?_)
  rw [hz, hz']
  exact k r'.1 r'.2
theorem ry_callv {Fc : Option rd_S} {f : rd_S → Option α} (hM : ∀ l r', Fc = some r' → rd_M l cx y Gc rk vs w S (rd_rV w r')) (hrun : rd_Run cx G y Gc rk vs stk st pc w S) (hz : Gc.2.2.2.2.2.cells = 0) (hz' : Gc.2.2.2.2.2.slots = 0) (hc : kc ≤ G.2.2.2.2.2.cells) (hs : ks ≤ G.2.2.2.2.2.slots)
    (k : ∀ T, rd_Y cx G Qf (f T) (pc + 3) lv st w T kc ks) : rd_Y cx G Qf (rd_c Fc f) pc lv stk w S kc ks := by
  refine ry_call (rd_rV w) hM hrun (by rw [hz]; exact hc) (by rw [hz']; exact hs) (fun r' _ _ => ?_)
  rw [hz, hz']
  exact k r'
theorem ry_callR {Fc : Option (Option Nat × rd_S)} {f : Option Nat → rd_S → Option α} (hM : ∀ l r', Fc = some r' → rd_M l cx y Gc rk vs w S (rd_rR w r')) (hrun : rd_Run cx G y Gc rk vs stk st pc w S) (hz : Gc.2.2.2.2.2.cells = 0) (hz' : Gc.2.2.2.2.2.slots = 0) (hc : kc ≤ G.2.2.2.2.2.cells) (hs : ks ≤ G.2.2.2.2.2.slots)
    (k : ∀ o T, (∀ b, o = some b → rd_ok w b rk) → rd_Y cx G Qf (f o T) (pc + 3) lv (.inr o :: st) w T kc ks) : rd_Y cx G Qf (rd_b Fc f) pc lv stk w S kc ks := by
  refine ry_call (rd_rR w) hM hrun (by rw [hz]; exact hc) (by rw [hz']; exact hs) (fun r' h _ => ?_)
  rw [hz, hz']
  exact k r'.1 r'.2 (fun b hb => h b (congrArg (fun z => some (Sum.inr z)) hb))
theorem ry_callC {Fc : Option (rd_W × rd_S)} {f : rd_W → rd_S → Option α} (kc' ks' : Nat) (hM : ∀ l r', Fc = some r' → rd_M l cx y Gc rk vs w S (rd_rC r')) (hrun : rd_Run cx G y Gc rk vs stk st pc w S) (hkc : kc + Gc.2.2.2.2.2.cells = kc') (hks : ks + Gc.2.2.2.2.2.slots = ks') (hc : kc' ≤ G.2.2.2.2.2.cells) (hs : ks' ≤ G.2.2.2.2.2.slots)
    (k : ∀ w' T, rd_le w w' → rd_Y cx G Qf (f w' T) (pc + 3) lv st w' T kc' ks') : rd_Y cx G Qf (rd_b Fc f) pc lv stk w S kc ks := by
  refine ry_call rd_rC hM hrun (by rw [hkc]; exact hc) (by rw [hks]; exact hs) (fun r' _ h => ?_)
  rw [hkc, hks]
  exact k r'.1 r'.2 h
end
def rd_nots (x : Int32) (cs : List (Int32 × Nat)) : Prop := match cs with
  | [] => True
  | q :: t => ¬ x = q.1 ∧ rd_nots x t
theorem rd_nots_mem {x : Int32} : ∀ {cs : List (Int32 × Nat)}, rd_nots x cs → ∀ q ∈ cs, ¬ x = q.1
  | [], _, _, h => by cases h
  | _ :: _, h, q, hq => by
    rcases List.mem_cons.mp hq with rfl | hq
    · exact h.1
    · exact rd_nots_mem h.2 q hq
theorem ry_tsD {α : Type} {cx : rd_Cx} {G : rd_G} {Qf : α → rd_T} {E : Option α} {pc : Nat} {lv : List (Nat × rd_V)} {st : List rd_V} {w : rd_W} {S : rd_S} {kc ks : Nat} {dflt hi : Int} {offs : Array Int} {len : Nat} {x : Int32} (tgt : Nat) (cs : List (Int32 × Nat)) (M : Nat) (hd : decode G.2.1 pc = .ok (.tableswitch dflt 0 hi offs, len)) (hM : hi + 1 = (M : Int)) (hcs : cs.all (fun q => q.1.toInt == (q.2 : Int)) = true) (hall : (List.range M).all (fun n => cs.any (fun q => q.2 == n) || offs[n]? == some dflt) = true) (hx : rd_nots x cs) (ht : (pc : Int) + dflt = (tgt : Int))
    (k : rd_Y cx G Qf E tgt lv st w S kc ks) : rd_Y cx G Qf E pc lv (.inl x :: st) w S kc ks := by
  by_cases h : x.toInt < 0 ∨ hi < x.toInt
  · exact ry_tsOut tgt hd h ht k
  · obtain ⟨h1, h2⟩ : ¬ x.toInt < 0 ∧ ¬ hi < x.toInt := ⟨fun q => h (Or.inl q), fun q => h (Or.inr q)⟩
    have hn : x.toInt.toNat < M := by omega
    have h3 := List.all_eq_true.mp hall x.toInt.toNat (List.mem_range.mpr hn)
    rcases Bool.or_eq_true_iff.mp h3 with h4 | h4
    · obtain ⟨q, hq, hq2⟩ := List.any_eq_true.mp h4
      have h5 := List.all_eq_true.mp hcs q hq
      have h6 : q.2 = x.toInt.toNat := by simpa using hq2
      have h7 : q.1.toInt = (q.2 : Int) := by simpa using h5
      exact absurd (Int32.toInt_inj.mp (by rw [h7, h6]; omega)) (rd_nots_mem hx q hq)
    · have h5 : offs[x.toInt.toNat]? = some dflt := by simpa using h4
      exact ry_tsIn tgt x rfl hd h1 h2 (by rw [Int.sub_zero]; exact h5) ht k
def rd_big : Nat := 100000
