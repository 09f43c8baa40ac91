/-! Rows over the judgement: arraycopy, and what constructors do. -/
def rd_cp {γ : Type} (sp dp n : Int32) (l0 l1 : Nat) (E : Option γ) : Option γ := if ¬ sp < 0 ∧ ¬ dp < 0 ∧ ¬ n < 0 ∧ sp.toNatClampNeg + n.toNatClampNeg ≤ l0 ∧ dp.toNatClampNeg + n.toNatClampNeg ≤ l1 then E else none
def rd_cpy (S : rd_S) (a0 a : Nat) (sp dp n : Int32) : rd_S := pA S a (va_cpy (S.1 a0) (S.1 a) sp.toNatClampNeg dp.toNatClampNeg n.toNatClampNeg)
theorem rd_nn (z : Int32) (hz : ¬ z < 0) : z.toInt = (z.toNatClampNeg : Int) := by
  have hz0 : (0 : Int) ≤ z.toInt := by
    have := Int32.not_lt.mp hz
    simpa using Int32.le_iff_toInt_le.mp this
  show z.toInt = ((z.toInt.toNat : Nat) : Int)
  omega
def rd_push (w : rd_W) (k n : Nat) : rd_W := (w.1 + 1, va_up w.2.1 (w.1 + 1) k, va_up w.2.2 (w.1 + 1) n)
def rd_np {γ : Type} (w : rd_W) (E : Option γ) : Option γ := if w.1 + 1 < 1000000 then E else none
def rd_na {γ : Type} (n : Int32) (M : Nat) (E : Option γ) : Option γ := if ¬ n < 0 ∧ n.toNatClampNeg ≤ M then E else none
theorem rd_push_le (w : rd_W) (k n : Nat) : rd_le w (rd_push w k n) := ⟨Nat.le_succ _, fun i hi => ⟨va_up_ne _ _ (by omega), va_up_ne _ _ (by omega)⟩⟩
theorem rd_push_ok (w : rd_W) (k n : Nat) : rd_ok (rd_push w k n) (w.1 + 1) k := ⟨Nat.succ_le_succ (Nat.zero_le _), Nat.le_refl _, va_up_self _ _ _⟩
theorem rd_H_push {cx : rd_Cx} {w : rd_W} {S : rd_S} {H H' : Heap} {k n : Nat} (hH : rd_H cx w S H) (hz : H'.size = H.size + 1) (ho : ∀ q, q < H.size → H'[q]? = H[q]?) (hw : w.1 + 1 < 1000000) (hat : rd_at cx (rd_push w k n) S (w.1 + 1) H') : rd_H cx (rd_push w k n) S H' := by
  obtain ⟨h1, h2, h3, h4, h5⟩ := hH
  have hle := rd_push_le w k n
  refine ⟨by rw [hz, h1]; show _ = xh cx + (w.1 + 1) + 1; omega, fun i hi1 hi2 => ?_, hw, fun i j hi => h4 i j (Nat.lt_of_succ_lt hi), fun i j k' b hi1 hi2 hf hb => ?_⟩
  · have hi2 : i ≤ w.1 + 1 := hi2
    by_cases hia : i = w.1 + 1
    · subst hia; exact hat
    · have hi3 : i ≤ w.1 := by omega
      have hq : H'[xh cx + i]? = H[xh cx + i]? := ho _ (by omega)
      obtain ⟨g1, g2, g3⟩ := h2 i hi1 hi3
      obtain ⟨e1, e2⟩ := hle.2 i hi3
      unfold rd_at
      rw [e1, e2]
      refine ⟨fun r hr => ((g1 r hr).kept hq).to (fun k _ => ?_), fun hk => by rw [hq]; exact g2 hk, fun hk => by rw [hq]; exact g3 hk⟩
      unfold rd_fv
      rw [e1]
  · by_cases hia : i = w.1 + 1
    · subst hia
      rw [(h4 _ j (Nat.lt_succ_self _)).2] at hb
      cases hb
    · have hi2 : i ≤ w.1 + 1 := hi2
      have hi3 : i ≤ w.1 := by omega
      rw [(hle.2 i hi3).1] at hf
      exact (h5 i j k' b hi1 hi3 hf hb).le hle
section
variable {α : Type} {cx : rd_Cx} {G : rd_G} {Qf : α → rd_T} {E : Option α} {pc : Nat} {lv : List (Nat × rd_V)} {st : List rd_V} {w : rd_W} {S : rd_S} {kc ks : Nat}
theorem ry_copy {idx a0 a : Nat} {sp dp n : Int32} (hd : decode G.2.1 pc = .ok (.invokestatic idx, 3)) (hlink : Cond.methodLink G.1 idx arraycopyName ∈ rd_gw) (hnat : Cond.native arraycopyName ∈ rd_gw) (hstat : Cond.static arraycopyName ∈ rd_gw) (hini : Cond.initialized "java/lang/System" ∈ rd_gw) (hk0 : rd_ok w a0 13) (hk : rd_ok w a 13)
    (hframes : 1 ≤ G.2.2.2.2.2.frames) (hlocals : st.length + (nativeFrameWords "java/lang/System" "arraycopy" 5 + 11) ≤ G.2.2.2.2.2.locals) (k : rd_Y cx G Qf E (pc + 3) lv st w (rd_cpy S a0 a sp dp n) kc ks) : rd_Y cx G Qf (rd_cp sp dp n (w.2.2 a0) (w.2.2 a) E) pc lv (.inl n :: .inl dp :: .inr (some a) :: .inl sp :: .inr (some a0) :: st) w S kc ks :=
  fun r hr p l e s m args below meth c0 H locs ls hC hK hH hZ hq hl => by
    unfold rd_cp at hr
    by_cases hg9 : ¬ (¬ sp < 0 ∧ ¬ dp < 0 ∧ ¬ n < 0 ∧ sp.toNatClampNeg + n.toNatClampNeg ≤ w.2.2 a0 ∧ dp.toNatClampNeg + n.toNatClampNeg ≤ w.2.2 a)
    · rw [if_neg hg9] at hr; cases hr
    have hg := Decidable.not_not.mp hg9
    rw [if_pos hg] at hr
    obtain ⟨h1, h2, h3, h4, h5⟩ := hg
    have hts := hC.2.2.2.2.2.2.2
    have hc0 := rd_arrI hH hk0
    have hc1 := rd_arrI hH hk
    obtain ⟨-, kI, hkI, cmI, hkkI⟩ := (hK.1.1.2 0 _ rfl).1 0 (fun _ => .null)
    have hkI : s.vm.classes[xI cx]? = some kI := hkI
    have hkkI : kI.kind = .array cmI .int := hkkI
    have ha : xh cx < xh cx + a := by have := hk.1; omega
    have hst : (Sum.inl n :: Sum.inl dp :: Sum.inr (some a) :: Sum.inl sp :: Sum.inr (some a0) :: st).map (rd_v cx) = .int n :: .int dp :: .ref (xh cx + a) :: .int sp :: .ref (xh cx + a0) :: st.map (rd_v cx) := by
      show Value.int n :: Value.int dp :: Value.ref (rd_ad cx a) :: Value.int sp :: Value.ref (rd_ad cx a0) :: _ = _
      rw [rd_adx hk hH.2.2.1, rd_adx hk0 hH.2.2.1]
    rw [hst]
    intro T hT X
    obtain ⟨vm', X', step⟩ := X.arraycopy hC.1 hC.2.2.2.2.2.2.1 (hts _ hlink) (hts _ hnat) (hts _ hstat) (hts _ hini) (src := xh cx + a0) (dst := xh cx + a) (cs := arrV (xI cx) (w.2.2 a0) (fun j => .int (S.1 a0 j))) (cd := arrV (xI cx) (w.2.2 a) (fun j => .int (S.1 a j))) (srcPos := sp) (destPos := dp) (n := n) (by rw [hT]; exact hc0) (by rw [hT]; exact hc1)
      (fun _ h => by cases h) (fun _ h => by cases h) (fun h => by cases h) (fun h => by cases h) hkI hkI hkkI hkkI (by simp [refKind]) h1 h2 h3
      (by rw [rd_nn sp h1, rd_nn n h3, arrV_size]; omega)
      (by rw [rd_nn dp h2, rd_nn n h3, arrV_size]; omega)
      (fun vm₁ _ i hi => by
        have e9 : (arrV (xI cx) (w.2.2 a0) (fun j => .int (S.1 a0 j))).slots.getD (sp.toNatClampNeg + i) .null = .int (S.1 a0 (sp.toNatClampNeg + i)) := by
          rw [Array.getD_eq_getD_getElem?, arrV_read _ _ (by omega)]
          rfl
        refine ⟨?_, ?_⟩
        · rw [e9]; rfl
        · rw [e9]; exact trivial)
      (g := F0 m pc ls (.int n :: .int dp :: .ref (xh cx + a) :: .int sp :: .ref (xh cx + a0) :: st.map (rd_v cx))) rfl (by rw [hC.2.2.1]; exact hl.1) (rest := st.map (rd_v cx)) rfl (by rw [hC.2.1]; exact hd) hframes (by show 2 * 0 + _ + _ ≤ _; rw [rd_cats]; omega)
    have e1 : copied (arrV (xI cx) (w.2.2 a0) (fun j => .int (S.1 a0 j))) (arrV (xI cx) (w.2.2 a) (fun j => .int (S.1 a j))) sp dp n = arrV (xI cx) (w.2.2 a) (fun j => .int ((rd_cpy S a0 a sp dp n).1 a j)) := by
      have e2 := va_copied (fun z => Value.int z) (xI cx) (xI cx) (n1 := w.2.2 a) (sp := sp.toNatClampNeg) (dp := dp.toNatClampNeg) (n := n.toNatClampNeg) (S.1 a0) (S.1 a) h4
      refine Eq.trans e2 ?_
      congr 1
      funext j
      simp [rd_cpy, pA, va_up]
    rw [e1] at X' step
    have hl9 : xh cx + a < H.size := (Array.getElem?_eq_some_iff.mp hc1).1
    have hheap : ((T.setVm vm').setCell (xh cx + a) (arrV (xI cx) (w.2.2 a) (fun j => .int ((rd_cpy S a0 a sp dp n).1 a j)))).heap = H.setIfInBounds (xh cx + a) (arrV (xI cx) (w.2.2 a) (fun j => .int ((rd_cpy S a0 a sp dp n).1 a j))) := by rw [← hT]; rfl
    have oq : ∀ q : Nat, q ≠ xh cx + a → (H.setIfInBounds (xh cx + a) (arrV (xI cx) (w.2.2 a) (fun j => .int ((rd_cpy S a0 a sp dp n).1 a j))))[q]? = H[q]? := fun q hq => by simp [Array.getElem?_setIfInBounds, Ne.symm hq]
    obtain ⟨t, a1, b1⟩ := k r hr p l e s m args below meth c0 _ _ ls hC hK (rd_arrH hH hk (by simp) oq (fun i j h => rd_pA_ne j h) (by simp [Array.getElem?_setIfInBounds, hl9])) (rd_Z_up hZ (fun q hq' => oq q (by omega))) (fun q hq' => by
      rcases List.mem_append.mp hq' with h | h
      · exact hq q h
      · obtain ⟨z, -, hz⟩ := List.mem_map.mp h
        rw [← hz]
        exact ha) hl _ hheap X'
    exact ⟨t, step t a1, b1⟩
theorem ry_objinit {idx a c : Nat} (hd : decode G.2.1 pc = .ok (.invokespecial idx, 3)) (hk : rd_ok w a c) (hl' : Cond.methodLink G.1 idx objectInit ∈ rd_gw) (hi : Cond.instanceMethod objectInit ∈ rd_gw) (hco : Cond.code objectInit ⟨#[0xb1]⟩ 1 none ∈ rd_gw) (hf : 1 ≤ G.2.2.2.2.2.frames) (hlo : st.length + 12 ≤ G.2.2.2.2.2.locals) (k : rd_Y cx G Qf E (pc + 3) lv st w S kc ks) : rd_Y cx G Qf E pc lv (.inr (some a) :: st) w S kc ks :=
  fun r hr p l e s m args below meth c0 H locs ls hC hK hH hZ hq hl => by
    have hts := hC.2.2.2.2.2.2.2
    exact W.objInit hC.1 hC.2.1 hC.2.2.2.2.2.2.1 (hts _ hl') (hts _ hi) (hts _ hco) rfl (by rw [hC.2.2.1]; exact hl.1) (rd_refx hk hH.2.2.1 _) hd hf (by show 2 * 0 + _ + _ ≤ _; rw [rd_cats]; omega) (k r hr p l e s m args below meth c0 H locs ls hC hK hH hZ hq hl)
theorem ry_npg (k : w.1 + 1 < 1000000 → rd_Y cx G Qf E pc lv st w S kc ks) : rd_Y cx G Qf (rd_np w E) pc lv st w S kc ks := fun r hr => by
  unfold rd_np at hr
  by_cases h : w.1 + 1 < 1000000
  · rw [if_pos h] at hr; exact k h r hr
  · rw [if_neg h] at hr; cases hr
theorem ry_nag {n : Int32} {M : Nat} (k : (¬ n < 0 ∧ n.toNatClampNeg ≤ M) → rd_Y cx G Qf E pc lv st w S kc ks) : rd_Y cx G Qf (rd_na n M E) pc lv st w S kc ks := fun r hr => by
  unfold rd_na at hr
  by_cases h : ¬ n < 0 ∧ n.toNatClampNeg ≤ M
  · rw [if_pos h] at hr; exact k h r hr
  · rw [if_neg h] at hr; cases hr
theorem ry_new {idx c : Nat} {C : String} {T : u_T} {N : Nat} {ty : Nat → FieldType} (hd : decode G.2.1 pc = .ok (.new idx, 3)) (f : rd_CL c C T N ty) (hcl : Cond.classLink G.1 idx C ∈ rd_gw) (hinst : Cond.instantiable C N ∈ rd_gw) (hini : Cond.initialized C ∈ rd_gw) (hty : ∀ j, j < N → defaultValue (ty j) = (match rd_ft c j with | some _ => .null | none => .int 0)) (hc : kc + 1 ≤ G.2.2.2.2.2.cells) (hs : ks + N ≤ G.2.2.2.2.2.slots)
    (k : rd_ok (rd_push w c 0) (w.1 + 1) c → rd_Y cx G Qf E (pc + 3) lv (.inr (some (w.1 + 1)) :: st) (rd_push w c 0) S (kc + 1) (ks + N)) : rd_Y cx G Qf (rd_np w E) pc lv st w S kc ks :=
  ry_npg fun hw r hr p l e s m args below meth c0 H locs ls hC hK hH hZ hq hl => by
    have hts := hC.2.2.2.2.2.2.2
    have hKn := hK.1.1.1 c _ f.1
    have hok := rd_push_ok w c 0
    refine W.newcK (h := H.size) hC.1 hC.2.1 hC.2.2.2.2.2.2.1 (hts _ hcl) (hts _ hinst) (hts _ hini) rfl hd hc hs hKn.2.1 rfl fun H' kC hkC e1 e2 e3 => ?_
    have hsz : H.size = xh cx + (w.1 + 1) := by rw [hH.1]; omega
    rw [hsz] at e1
    have hb := u_born ty hts f.2.1 hKn hkC e1 f.2.2.1
    have hH' : rd_H cx (rd_push w c 0) S H' := by
      refine rd_H_push hH e2 e3 hw ⟨fun r hr => ?_, fun h => ?_, fun h => ?_⟩
      · rw [hok.2.2] at hr ⊢
        have hrq : r = (C, T, N) := Option.some.inj (hr.symm.trans f.1)
        subst hrq
        refine hb.to (fun j hj => ?_)
        unfold rd_fv
        rw [hok.2.2, hty j hj, (hH.2.2.2.1 _ j (Nat.lt_succ_self _)).1, (hH.2.2.2.1 _ j (Nat.lt_succ_self _)).2]
        cases rd_ft c j <;> rfl
      · rw [hok.2.2] at h; have := rd_lt13 f.1; omega
      · rw [hok.2.2] at h; have := rd_lt13 f.1; omega
    have hx := k hok r hr p l e s m args below meth c0 H' locs ls hC hK hH' (rd_Z_up hZ (fun q hq' => e3 q (by have := hH.1; omega))) hq hl
    have ee : rd_v cx (.inr (some (w.1 + 1))) = .ref H.size := by
      show Value.ref (rd_ad cx (w.1 + 1)) = _
      rw [rd_adx hok hw, hsz]
    rw [List.map_cons, ee] at hx
    exact hx
theorem ry_newa {n : Int32} (N : Nat) (hd : decode G.2.1 pc = .ok (.newarray .int, 2)) (harr : Cond.arrayClass .int ∈ rd_gw) (hN : N * 4 ≤ 536870912) (hc : kc + 1 ≤ G.2.2.2.2.2.cells) (hs : ks + N ≤ G.2.2.2.2.2.slots)
    (k : rd_ok (rd_push w 13 n.toNatClampNeg) (w.1 + 1) 13 → rd_Y cx G Qf E (pc + 2) lv (.inr (some (w.1 + 1)) :: st) (rd_push w 13 n.toNatClampNeg) S (kc + 1) (ks + N)) : rd_Y cx G Qf (rd_na n N (rd_np w E)) pc lv (.inl n :: st) w S kc ks :=
  ry_nag fun hn => ry_npg fun hw r hr p l e s m args below meth c0 H locs ls hC hK hH hZ hq hl => by
    have hts := hC.2.2.2.2.2.2.2
    have hok := rd_push_ok w 13 n.toNatClampNeg
    refine va_newaK (atype := .int) (h := H.size) hC.1 hC.2.1 (hts _ harr) rfl hd rfl hn.1 rfl (Nat.le_trans (Nat.mul_le_mul_right _ hn.2) hN) hc (Nat.le_trans (Nat.add_le_add_left hn.2 _) hs) rfl fun H' cA e1 e2 e3 _ hf => ?_
    have hcA : cA = xI cx := Option.some.inj (hf.symm.trans (hK.1.1.2 0 _ rfl).2)
    subst hcA
    have hsz : H.size = xh cx + (w.1 + 1) := by rw [hH.1]; omega
    rw [hsz] at e1
    have hH' : rd_H cx (rd_push w 13 n.toNatClampNeg) S H' := by
      refine rd_H_push hH e2 e3 hw ⟨fun r hr => ?_, fun _ => ?_, fun h => ?_⟩
      · rw [hok.2.2] at hr; cases hr
      · rw [e1]
        show _ = some (arrV (xI cx) (va_up w.2.2 (w.1 + 1) n.toNatClampNeg (w.1 + 1)) _)
        rw [va_up_self]
        congr 2
        funext j
        rw [(hH.2.2.2.1 _ j (Nat.lt_succ_self _)).1]
        rfl
      · rw [hok.2.2] at h; cases h
    have hx := k hok r hr p l e s m args below meth c0 H' locs ls hC hK hH' (rd_Z_up hZ (fun q hq' => e3 q (by have := hH.1; omega))) hq hl
    have ee : rd_v cx (.inr (some (w.1 + 1))) = .ref H.size := by
      show Value.ref (rd_ad cx (w.1 + 1)) = _
      rw [rd_adx hok hw, hsz]
    rw [List.map_cons, ee] at hx
    exact W.widen (Nat.le_refl _) (Nat.add_le_add_left hn.2 _) hx
theorem ry_newq {idx : Nat} {n : Int32} (N : Nat) (hd : decode G.2.1 pc = .ok (.anewarray idx, 3)) (hcl : Cond.classLink G.1 idx "RdsDesk$Other" ∈ rd_gw) (hN : N * 4 ≤ 536870912) (hc : kc + 1 ≤ G.2.2.2.2.2.cells) (hs : ks + N ≤ G.2.2.2.2.2.slots)
    (k : rd_ok (rd_push w 14 n.toNatClampNeg) (w.1 + 1) 14 → rd_Y cx G Qf E (pc + 3) lv (.inr (some (w.1 + 1)) :: st) (rd_push w 14 n.toNatClampNeg) S (kc + 1) (ks + N)) : rd_Y cx G Qf (rd_na n N (rd_np w E)) pc lv (.inl n :: st) w S kc ks :=
  ry_nag fun hn => ry_npg fun hw r hr p l e s m args below meth c0 H locs ls hC hK hH hZ hq hl => by
    have hts := hC.2.2.2.2.2.2.2
    have hok := rd_push_ok w 14 n.toNatClampNeg
    refine W.anew hC.1 hC.2.1 hC.2.2.2.2.2.2.1 (hts _ hcl) (va_AO.use hK.2) rfl hd rfl hn.1 (Nat.le_trans (Nat.mul_le_mul_right _ hn.2) hN) hc (Nat.le_trans (Nat.add_le_add_left hn.2 _) hs) fun cA kA comp f1 f2 f3 f4 => ?_
    obtain ⟨kA', comp', g1, g2, g3, g4⟩ := (hK.1.1.2 1 _ rfl).2
    have hcA : cA = xO cx := Option.some.inj (f1.symm.trans g4)
    subst hcA
    generalize hH1 : H.push ({ cls := xO cx, slots := Array.replicate n.toNatClampNeg .null, vm := .none } : Cell) = H'
    have e2 : H'.size = H.size + 1 := by rw [← hH1, Array.size_push]
    have e1 : H'[H.size]? = some (arrV (xO cx) n.toNatClampNeg (fun _ => .null)) := by rw [← hH1, Array.getElem?_push_size, ← arrV_new]
    have e3 : ∀ q : Nat, q < H.size → H'[q]? = H[q]? := fun q hq => by rw [← hH1, Array.getElem?_push, if_neg (Nat.ne_of_lt hq)]
    have hsz : H.size = xh cx + (w.1 + 1) := by rw [hH.1]; omega
    rw [hsz] at e1
    have hH' : rd_H cx (rd_push w 14 n.toNatClampNeg) S H' := by
      refine rd_H_push hH e2 e3 hw ⟨fun r hr => ?_, fun h => ?_, fun _ => ?_⟩
      · rw [hok.2.2] at hr; cases hr
      · rw [hok.2.2] at h; cases h
      · rw [e1]
        show _ = some (arrV (xO cx) (va_up w.2.2 (w.1 + 1) n.toNatClampNeg (w.1 + 1)) _)
        rw [va_up_self]
        congr 2
        funext j
        rw [(hH.2.2.2.1 _ j (Nat.lt_succ_self _)).2]
        rfl
    have hx := k hok r hr p l e s m args below meth c0 H' locs ls hC hK hH' (rd_Z_up hZ (fun q hq' => e3 q (by have := hH.1; omega))) hq hl
    have ee : rd_v cx (.inr (some (w.1 + 1))) = .ref H.size := by
      show Value.ref (rd_ad cx (w.1 + 1)) = _
      rw [rd_adx hok hw, hsz]
    rw [List.map_cons, ee] at hx
    exact W.widen (Nat.le_refl _) (Nat.add_le_add_left hn.2 _) hx
/-- a final field, in its constructor -/
theorem ry_putF {idx c j a : Nat} {C : String} {T : u_T} {N : Nat} {ty : Nat → FieldType} {v : rd_V} {S' : rd_S} {t : FieldType} (hd : decode G.2.1 pc = .ok (.putfield idx, 3)) (hi9 : G.2.2.2.2.1 = true) (hC9 : C = G.1) (hk : rd_ok w a c) (f : rd_FL G.1 idx c j C T N ty) (hfin : (T j).2.2.2 = true) (hty : ty j = t)
    (hn : narrow t (rd_v cx v) = rd_v cx v) (hfit : fits t (rd_v cx v) = true) (hs : ∀ i j, i ≠ a → S'.1 i j = S.1 i j ∧ S'.2 i j = S.2 i j) (hv : ∀ k, updV (rd_fv cx w S a) j (rd_v cx v) k = rd_fv cx w S' a k)
    (hwt : ∀ H, rd_H cx w S H → ∀ j k b, rd_ft (w.2.1 a) j = some k → S'.2 a j = some b → rd_ok w b k) (k : rd_Y cx G Qf E (pc + 3) lv st w S' kc ks) : rd_Y cx G Qf E pc lv (v :: .inr (some a) :: st) w S kc ks :=
  fun r hr p l e s m args below meth c0 H locs ls hC hK hH hZ hq hl => by
    have hts := hC.2.2.2.2.2.2.2
    have hap := va_apart (own := G.1) hts f.1.2.1 ty f.1.2.2.1 f.1.2.2.2 hK.1.1 f.1.1
    obtain ⟨cell, q1, q2, q3, q4⟩ := rd_obj hH hk f.1.1
    obtain ⟨hS, hfc, kC, hkC, hkind⟩ := hK.1.1.1 c _ f.1.1
    obtain ⟨cf, kf, fi, fd, hi, hsl⟩ := hS j f.2.1
    have hlay := hts _ (f.1.2.1 _ (u_in_lay f.2.1))
    unfold u_lay at hlay
    rw [if_pos hfin] at hlay
    have hst := (u_facts hfc hkC (u_lays hts f.1.2.1 f.2.1) hi).1
    have hcf : m.cls = cf := by
      obtain ⟨_, _, c', _, _, _, -, -, hf', -, -, -, hown2, -⟩ := Cond.laysFinal_spec hlay
      have e1 : c' = cf := by have := hi.symm.trans hf'; simp at this; exact this.1.symm
      rw [f.2.2.1, hC9] at hown2
      rw [← e1]; exact Option.some.inj (hC.2.2.2.2.2.2.1.symm.trans hown2)
    have h6 := u_fits hfc hkC hkind (Or.inr hlay) hi (by rw [f.1.2.2.1 j f.2.1, hty]) hn hfit
    have hi' := hi
    rw [f.2.2.1] at hi'
    refine W.putFinK hC.1 hC.2.1 hC.2.2.2.2.2.2.1 (hts _ f.2.2.2) hi' hst hcf (hC.2.2.2.2.2.1 hi9) (by rw [q2]; exact h6) q1 q3 (by rw [hsl]; exact k2_hasslot (q4 j f.2.1)) rfl (congrArg (fun z => rd_v cx v :: z) (rd_refx hk hH.2.2.1 _)) hd fun H' e1 e2 e3 => ?_
    rw [hsl] at e1 ⊢
    have ha : xh cx < xh cx + a := by have := hk.1; omega
    refine k r hr p l e s m args below meth c0 H' _ ls hC hK (rd_putH hH hk f.1.1 f.2.1 q2 q3 q4 hap e1 e2 e3 hs hv (hwt H hH)) (rd_Z_up hZ (fun q hq' => e3 q (fun e9 => by have e8 : q = xh cx + a := e9; omega))) (fun q hq' => ?_) hl
    rcases List.mem_append.mp hq' with h | h
    · exact hq q h
    · rw [List.mem_singleton.mp h]; exact ha
theorem ry_putFi {idx c j a : Nat} {C : String} {T : u_T} {N : Nat} {ty : Nat → FieldType} {x : Int32} (hd : decode G.2.1 pc = .ok (.putfield idx, 3)) (hi9 : G.2.2.2.2.1 = true) (hC9 : C = G.1) (hk : rd_ok w a c) (f : rd_FL G.1 idx c j C T N ty) (ht : rd_ft c j = none) (hfin : (T j).2.2.2 = true) (hty : ty j = .int)
    (k : rd_Y cx G Qf E (pc + 3) lv st w (pI S a j x) kc ks) : rd_Y cx G Qf E pc lv (.inl x :: .inr (some a) :: st) w S kc ks :=
  ry_putF hd hi9 hC9 hk f hfin hty rfl rfl (fun i j h => rd_pI_ne j h) (rd_upv hk ht) (fun H hH j' k' b hf hb => by rw [rd_pI_at.2] at hb; exact hH.2.2.2.2 a j' k' b hk.1 hk.2.1 hf hb) k
theorem ry_putFr {idx c j a b t : Nat} {C : String} {T : u_T} {N : Nat} {ty : Nat → FieldType} {t' : FieldType} (hd : decode G.2.1 pc = .ok (.putfield idx, 3)) (hi9 : G.2.2.2.2.1 = true) (hC9 : C = G.1) (hk : rd_ok w a c) (hb : rd_ok w b t) (f : rd_FL G.1 idx c j C T N ty) (ht : rd_ft c j = some t) (hfin : (T j).2.2.2 = true) (hty : ty j = t') (hn : ∀ z, narrow t' (.ref z) = .ref z) (hfit : ∀ z, fits t' (.ref z) = true)
    (k : rd_Y cx G Qf E (pc + 3) lv st w (pR S a j (some b)) kc ks) : rd_Y cx G Qf E pc lv (.inr (some b) :: .inr (some a) :: st) w S kc ks :=
  ry_putF hd hi9 hC9 hk f hfin hty (hn _) (hfit _) (fun i j h => rd_pR_ne j h) (fun k => by
    unfold rd_fv updV
    rw [hk.2.2, rd_pR_at.1, rd_pR_at.2]
    by_cases h : k = j
    · subst h; rw [if_pos rfl, if_pos rfl, ht]; rfl
    · rw [if_neg h, if_neg h]) (fun H hH j' k' b' hf hb' => by
    rw [rd_pR_at.2] at hb'
    by_cases h : j' = j
    · rw [if_pos h] at hb'
      rw [hk.2.2, h, ht] at hf
      cases hf
      cases hb'
      exact hb
    · rw [if_neg h] at hb'
      exact hH.2.2.2.2 a j' k' b' hk.1 hk.2.1 hf hb') k
end
