/-! Rows over the judgement: cells. -/
theorem rd_adx {cx : rd_Cx} {w : rd_W} {a k : Nat} (h : rd_ok w a k) (hw : w.1 < 1000000) : rd_ad cx a = xh cx + a := by
  have h1 := h.1
  have h2 := h.2.1
  unfold rd_ad
  rw [if_neg (by omega), if_neg (by omega)]
theorem rd_refx {cx : rd_Cx} {w : rd_W} {a k : Nat} (h : rd_ok w a k) (hw : w.1 < 1000000) (rest : List Value) : rd_v cx (.inr (some a)) :: rest = Value.ref (xh cx + a) :: rest := by
  show Value.ref (rd_ad cx a) :: rest = _
  rw [rd_adx h hw]
/-- a class: its names, its fields, what the tables say of them -/
def rd_CL (c : Nat) (C : String) (T : u_T) (N : Nat) (ty : Nat → FieldType) : Prop :=
  vwCl[c]? = some (C, T, N) ∧ (∀ w ∈ u_ws C T N, w ∈ rd_gw) ∧ (∀ k, k < N → parseFieldDescriptor (T k).2.2.1 = some (ty k)) ∧ (∀ a, a < N → ∀ b, b < N → a ≠ b → (T a).2.1 ≠ (T b).2.1)
/-- a field as an instruction of 'own' names it -/
def rd_FL (own : String) (idx c j : Nat) (C : String) (T : u_T) (N : Nat) (ty : Nat → FieldType) : Prop :=
  rd_CL c C T N ty ∧ j < N ∧ (T j).1 = C ∧ Cond.fieldLink own idx C (T j).2.1 (T j).2.2.1 ∈ rd_gw
theorem rd_Z_up {cx : rd_Cx} {U : State} {H H' : Heap} (hZ : rd_Z cx U H) (ho : ∀ q, q ≤ xh cx → H'[q]? = H[q]?) : rd_Z cx U H' := by
  obtain ⟨h1, h2, h3, h4, h5, h6⟩ := hZ
  exact ⟨h1.kept (fun q _ hq => ho q (Nat.not_lt.mp hq)), h2.kept (fun q _ hq => ho q (Nat.not_lt.mp hq)), h3, h4.kept (ho _ h5), h5, h6⟩
theorem rd_Z_mv {cx : rd_Cx} {u U : State} {H : Heap} (hvm : u.vm.Alike U.vm) (hZ : rd_Z cx u H) : rd_Z cx U H := by
  obtain ⟨h1, h2, h3, h4, h5, h6⟩ := hZ
  exact ⟨h1.moved hvm, h2.moved hvm, h3, h4.moved hvm, h5, h6⟩
theorem rd_H_up {cx : rd_Cx} {w : rd_W} {S S' : rd_S} {H H' : Heap} {a : Nat} (hH : rd_H cx w S H) (ha1 : 1 ≤ a) (ha2 : a ≤ w.1) (hz : H'.size = H.size) (ho : ∀ q, q ≠ xh cx + a → H'[q]? = H[q]?)
    (hs : ∀ i j, i ≠ a → S'.1 i j = S.1 i j ∧ S'.2 i j = S.2 i j) (hat : rd_at cx w S' a H') (hwt : ∀ j k b, rd_ft (w.2.1 a) j = some k → S'.2 a j = some b → rd_ok w b k) : rd_H cx w S' H' := by
  obtain ⟨h1, h2, h3, h4, h5⟩ := hH
  refine ⟨hz.trans h1, fun i hi1 hi2 => ?_, h3, fun i j hi => ?_, fun i j k b hi1 hi2 hf hb => ?_⟩
  · by_cases hia : i = a
    · subst hia; exact hat
    · have hq : H'[xh cx + i]? = H[xh cx + i]? := ho _ (by omega)
      obtain ⟨g1, g2, g3⟩ := h2 i hi1 hi2
      refine ⟨fun r hr => ((g1 r hr).kept hq).to (fun k _ => ?_), fun hk => ?_, fun hk => ?_⟩
      · unfold rd_fv
        rw [(hs i k hia).1, (hs i k hia).2]
      · rw [hq, g2 hk]
        congr 2
        funext j
        rw [(hs i j hia).1]
      · rw [hq, g3 hk]
        congr 2
        funext j
        rw [(hs i j hia).2]
  · have := h4 i j hi
    rw [(hs i j (by omega)).1, (hs i j (by omega)).2]
    exact this
  · by_cases hia : i = a
    · subst hia; exact hwt j k b hf hb
    · rw [(hs i j hia).2] at hb
      exact h5 i j k b hi1 hi2 hf hb
theorem rd_pI_ne {S : rd_S} {a j : Nat} {v : Int32} {i : Nat} (k : Nat) (h : i ≠ a) : (pI S a j v).1 i k = S.1 i k ∧ (pI S a j v).2 i k = S.2 i k := by
  simp [pI, pA, va_up, h]
theorem rd_pA_ne {S : rd_S} {a : Nat} {f : Nat → Int32} {i : Nat} (k : Nat) (h : i ≠ a) : (pA S a f).1 i k = S.1 i k ∧ (pA S a f).2 i k = S.2 i k := by
  simp [pA, va_up, h]
theorem rd_pR_ne {S : rd_S} {a j : Nat} {v : Option Nat} {i : Nat} (k : Nat) (h : i ≠ a) : (pR S a j v).1 i k = S.1 i k ∧ (pR S a j v).2 i k = S.2 i k := by
  simp [pR, va_up, h]
theorem rd_pI_at {S : rd_S} {a j k : Nat} {v : Int32} : (pI S a j v).1 a k = (if k = j then v else S.1 a k) ∧ (pI S a j v).2 a k = S.2 a k := by
  simp [pI, pA, va_up, upd]
theorem rd_pR_at {S : rd_S} {a j k : Nat} {v : Option Nat} : (pR S a j v).1 a k = S.1 a k ∧ (pR S a j v).2 a k = (if k = j then v else S.2 a k) := by
  simp [pR, va_up]
/-- what a class's cell is, out of the picture -/
theorem rd_obj {cx : rd_Cx} {w : rd_W} {S : rd_S} {H : Heap} {a c : Nat} {q : vw_C} (hH : rd_H cx w S H) (hk : rd_ok w a c) (hc : vwCl[c]? = some q) : t_OB (xh cx + a) ((xD cx).1 c) q.2.2 ((xD cx).2 c) H (rd_fv cx w S a) := by
  have h := (hH.2.1 a hk.1 hk.2.1).1 q (by rw [hk.2.2]; exact hc)
  rw [hk.2.2] at h
  exact h
theorem rd_lt13 {c : Nat} {q : vw_C} (h : vwCl[c]? = some q) : c < 13 := (List.getElem?_eq_some_iff.mp h).1
section
variable {α : Type} {cx : rd_Cx} {G : rd_G} {Qf : α → rd_T} {E : Option α} {pc : Nat} {lv : List (Nat × rd_V)} {st : List rd_V} {w : rd_W} {S : rd_S} {kc ks : Nat}
theorem ry_get {idx c j a : Nat} {C : String} {T : u_T} {N : Nat} {ty : Nat → FieldType} (hd : decode G.2.1 pc = .ok (.getfield idx, 3)) (hk : rd_ok w a c) (f : rd_FL G.1 idx c j C T N ty)
    {v : rd_V} (hv : ∀ H, rd_H cx w S H → rd_fv cx w S a j = rd_v cx v) (k : rd_Y cx G Qf E (pc + 3) lv (v :: st) w S kc ks) : rd_Y cx G Qf E pc lv (.inr (some a) :: st) w S kc ks :=
  fun r hr p l e s m args below meth c0 H locs ls hC hK hH hZ hq hl => by
    obtain ⟨cell, q1, q2, q3, q4⟩ := rd_obj hH hk f.1.1
    obtain ⟨hS, hfc, kC, hkC, hkind⟩ := hK.1.1.1 c _ f.1.1
    obtain ⟨cf, kf, fi, fd, hi, hsl⟩ := hS j f.2.1
    have hst := (u_facts hfc hkC (u_lays hC.2.2.2.2.2.2.2 f.1.2.1 f.2.1) hi).1
    rw [f.2.2.1] at hi
    refine W.getf hC.1 hC.2.1 hC.2.2.2.2.2.2.1 (hC.2.2.2.2.2.2.2 _ f.2.2.2) hi hst q1 (by rw [q3]; exact fun h => by cases h) (v := rd_v cx v) ?_ rfl (rd_refx hk hH.2.2.1 _) hd (k r hr p l e s m args below meth c0 H locs ls hC hK hH hZ hq hl)
    rw [hsl, q4 j f.2.1, hv H hH]
theorem ry_geti {idx c j a : Nat} {C : String} {T : u_T} {N : Nat} {ty : Nat → FieldType} (hd : decode G.2.1 pc = .ok (.getfield idx, 3)) (hk : rd_ok w a c) (f : rd_FL G.1 idx c j C T N ty) (ht : rd_ft c j = none)
    (k : rd_Y cx G Qf E (pc + 3) lv (.inl (gI S a j) :: st) w S kc ks) : rd_Y cx G Qf E pc lv (.inr (some a) :: st) w S kc ks :=
  ry_get hd hk f (fun _ _ => by unfold rd_fv; rw [hk.2.2, ht]; rfl) k
theorem ry_getr {idx c j a t : Nat} {C : String} {T : u_T} {N : Nat} {ty : Nat → FieldType} {f' : Nat → Option α} (hd : decode G.2.1 pc = .ok (.getfield idx, 3)) (hk : rd_ok w a c) (f : rd_FL G.1 idx c j C T N ty) (ht : rd_ft c j = some t)
    (k : ∀ b, rd_ok w b t → rd_Y cx G Qf (f' b) (pc + 3) lv (.inr (some b) :: st) w S kc ks) : rd_Y cx G Qf (rd_c (gR S a j) f') pc lv (.inr (some a) :: st) w S kc ks :=
  fun r hr p l e s m args below meth c0 H locs ls hC hK hH hZ hq hl => by
    cases hb : gR S a j with
    | none => rw [hb] at hr; cases hr
    | some b =>
      rw [hb] at hr
      refine ry_get hd hk f (v := .inr (some b)) (fun _ _ => ?_) (k b (hH.2.2.2.2 a j t b hk.1 hk.2.1 (by rw [hk.2.2]; exact ht) hb)) r hr p l e s m args below meth c0 H locs ls hC hK hH hZ hq hl
      unfold rd_fv
      rw [hk.2.2, ht]
      show va_rf ((S.2 a j).map _) = _
      rw [show S.2 a j = some b from hb]
      rfl
/-- a write into a field: the heap behind it -/
theorem rd_putH {cx : rd_Cx} {w : rd_W} {S S' : rd_S} {H H' : Heap} {a c j : Nat} {q : vw_C} {cell : Cell} {v : Value} (hH : rd_H cx w S H) (hk : rd_ok w a c) (hc : vwCl[c]? = some q) (hj : j < q.2.2) (q2 : cell.cls = (xD cx).1 c) (q3 : cell.vm = .none) (q4 : ∀ k, k < q.2.2 → cell.slots[(xD cx).2 c k]? = some (rd_fv cx w S a k))
    (hap : ∀ x y, x < q.2.2 → y < q.2.2 → x ≠ y → (xD cx).2 c x ≠ (xD cx).2 c y) (e1 : H'[xh cx + a]? = some (cell.setSlot ((xD cx).2 c j) v)) (e2 : H'.size = H.size) (e3 : ∀ q, q ≠ xh cx + a → H'[q]? = H[q]?)
    (hs : ∀ i j, i ≠ a → S'.1 i j = S.1 i j ∧ S'.2 i j = S.2 i j) (hv : ∀ k, updV (rd_fv cx w S a) j v k = rd_fv cx w S' a k) (hwt : ∀ j k b, rd_ft (w.2.1 a) j = some k → S'.2 a j = some b → rd_ok w b k) : rd_H cx w S' H' := by
  have h13 := rd_lt13 hc
  refine rd_H_up hH hk.1 hk.2.1 e2 e3 hs ⟨fun r hr => ?_, fun h => ?_, fun h => ?_⟩ hwt
  · rw [hk.2.2] at hr ⊢
    have hrq : r = q := Option.some.inj (hr.symm.trans hc)
    subst hrq
    exact ⟨_, e1, q2, q3, fun k hk' => by rw [← hv k]; exact t_set q4 hap hj v k hk'⟩
  · rw [hk.2.2] at h; omega
  · rw [hk.2.2] at h; omega
theorem ry_put {idx c j a : Nat} {C : String} {T : u_T} {N : Nat} {ty : Nat → FieldType} {v : rd_V} {S' : rd_S} {t : FieldType} (hd : decode G.2.1 pc = .ok (.putfield idx, 3)) (hk : rd_ok w a c) (f : rd_FL G.1 idx c j C T N ty) (hfin : (T j).2.2.2 = false) (hty : ty j = t)
    (hn : narrow t (rd_v cx v) = rd_v cx v) (hfit : fits t (rd_v cx v) = true) (hs : ∀ i j, i ≠ a → S'.1 i j = S.1 i j ∧ S'.2 i j = S.2 i j) (hv : ∀ k, updV (rd_fv cx w S a) j (rd_v cx v) k = rd_fv cx w S' a k)
    (hwt : ∀ H, rd_H cx w S H → ∀ j k b, rd_ft (w.2.1 a) j = some k → S'.2 a j = some b → rd_ok w b k) (k : rd_Y cx G Qf E (pc + 3) lv st w S' kc ks) : rd_Y cx G Qf E pc lv (v :: .inr (some a) :: st) w S kc ks :=
  fun r hr p l e s m args below meth c0 H locs ls hC hK hH hZ hq hl => by
    have hts := hC.2.2.2.2.2.2.2
    have hap := va_apart (own := G.1) hts f.1.2.1 ty f.1.2.2.1 f.1.2.2.2 hK.1.1 f.1.1
    obtain ⟨cell, q1, q2, q3, q4⟩ := rd_obj hH hk f.1.1
    obtain ⟨hS, hfc, kC, hkC, hkind⟩ := hK.1.1.1 c _ f.1.1
    obtain ⟨cf, kf, fi, fd, hi, hsl⟩ := hS j f.2.1
    have hlay := hts _ (f.1.2.1 _ (u_in_lay f.2.1))
    unfold u_lay at hlay
    rw [if_neg (by rw [hfin]; decide)] at hlay
    have hst := (u_facts hfc hkC (u_lays hts f.1.2.1 f.2.1) hi).1
    have h6 := u_store hfc hkC hkind hlay hi (by rw [f.1.2.2.1 j f.2.1, hty]) hn hfit
    have hi' := hi
    rw [f.2.2.1] at hi'
    refine W.putK hC.1 hC.2.1 (f := fd) ⟨hC.2.2.2.2.2.2.1, hts _ f.2.2.2, ⟨_, _, _, hi'⟩, hst⟩ (by rw [q2]; exact h6) q1 q3 (by rw [hsl]; exact k2_hasslot (q4 j f.2.1)) rfl (congrArg (fun z => rd_v cx v :: z) (rd_refx hk hH.2.2.1 _)) hd fun H' e1 e2 e3 => ?_
    rw [hsl] at e1 ⊢
    have ha : xh cx < xh cx + a := by have := hk.1; omega
    refine k r hr p l e s m args below meth c0 H' _ ls hC hK (rd_putH hH hk f.1.1 f.2.1 q2 q3 q4 hap e1 e2 e3 hs hv (hwt H hH)) (rd_Z_up hZ (fun q hq' => e3 q (fun e9 => by have e8 : q = xh cx + a := e9; omega))) (fun q hq' => ?_) hl
    rcases List.mem_append.mp hq' with h | h
    · exact hq q h
    · rw [List.mem_singleton.mp h]; exact ha
theorem rd_upv {w : rd_W} {S : rd_S} {a c j : Nat} {x : Int32} (hk : rd_ok w a c) (ht : rd_ft c j = none) (k : Nat) : updV (rd_fv cx w S a) j (rd_v cx (.inl x)) k = rd_fv cx w (pI S a j x) a k := by
  unfold rd_fv updV
  rw [hk.2.2, rd_pI_at.1, rd_pI_at.2]
  by_cases h : k = j
  · subst h; rw [if_pos rfl, if_pos rfl, ht]; rfl
  · rw [if_neg h, if_neg h]
theorem ry_puti {idx c j a : Nat} {C : String} {T : u_T} {N : Nat} {ty : Nat → FieldType} {x : Int32} (hd : decode G.2.1 pc = .ok (.putfield idx, 3)) (hk : rd_ok w a c) (f : rd_FL G.1 idx c j C T N ty) (ht : rd_ft c j = none) (hfin : (T j).2.2.2 = false) (hty : ty j = .int)
    (k : rd_Y cx G Qf E (pc + 3) lv st w (pI S a j x) kc ks) : rd_Y cx G Qf E pc lv (.inl x :: .inr (some a) :: st) w S kc ks :=
  ry_put hd hk f hfin hty rfl rfl (fun i j h => rd_pI_ne j h) (rd_upv hk ht) (fun H hH j' k' b hf hb => by rw [rd_pI_at.2] at hb; exact hH.2.2.2.2 a j' k' b hk.1 hk.2.1 hf hb) k
theorem rd_zok {cx : rd_Cx} {x : Int32} (h : x = 0 ∨ x = 1) : narrow .boolean (rd_v cx (.inl x)) = rd_v cx (.inl x) ∧ fits .boolean (rd_v cx (.inl x)) = true := by
  rcases h with rfl | rfl <;> exact ⟨by rfl, by rfl⟩
theorem ry_putz {idx c j a : Nat} {C : String} {T : u_T} {N : Nat} {ty : Nat → FieldType} {x : Int32} (hd : decode G.2.1 pc = .ok (.putfield idx, 3)) (hk : rd_ok w a c) (f : rd_FL G.1 idx c j C T N ty) (ht : rd_ft c j = none) (hfin : (T j).2.2.2 = false) (hty : ty j = .boolean) (hx : x = 0 ∨ x = 1)
    (k : rd_Y cx G Qf E (pc + 3) lv st w (pI S a j x) kc ks) : rd_Y cx G Qf E pc lv (.inl x :: .inr (some a) :: st) w S kc ks :=
  ry_put hd hk f hfin hty (rd_zok hx).1 (rd_zok hx).2 (fun i j h => rd_pI_ne j h) (rd_upv hk ht) (fun H hH j' k' b hf hb => by rw [rd_pI_at.2] at hb; exact hH.2.2.2.2 a j' k' b hk.1 hk.2.1 hf hb) k
theorem ry_zg {x : Int32} (k : (x = 0 ∨ x = 1) → rd_Y cx G Qf E pc lv st w S kc ks) : rd_Y cx G Qf (rd_z x E) pc lv st w S kc ks := fun r hr => by
  unfold rd_z at hr
  by_cases h : x = 0 ∨ x = 1
  · rw [if_pos h] at hr; exact k h r hr
  · rw [if_neg h] at hr; cases hr
theorem ry_ig {i : Int32} {n : Nat} (k : rd_in i n → rd_Y cx G Qf E pc lv st w S kc ks) : rd_Y cx G Qf (rd_i i n E) pc lv st w S kc ks := fun r hr => by
  unfold rd_i at hr
  by_cases h : rd_in i n
  · rw [if_pos h] at hr; exact k h r hr
  · rw [if_neg h] at hr; cases hr
theorem rd_arrI {cx : rd_Cx} {w : rd_W} {S : rd_S} {H : Heap} {a : Nat} (hH : rd_H cx w S H) (hk : rd_ok w a 13) : H[xh cx + a]? = some (arrV (xI cx) (w.2.2 a) (fun j => .int (S.1 a j))) := (hH.2.1 a hk.1 hk.2.1).2.1 hk.2.2
theorem ry_iald {a : Nat} {i : Int32} (hd : decode G.2.1 pc = .ok (.iaload, 1)) (hk : rd_ok w a 13) (k : rd_Y cx G Qf E (pc + 1) lv (.inl (gI S a i.toNatClampNeg) :: st) w S kc ks) : rd_Y cx G Qf (rd_i i (w.2.2 a) E) pc lv (.inl i :: .inr (some a) :: st) w S kc ks :=
  ry_ig fun hin r hr p l e s m args below meth c0 H locs ls hC hK hH hZ hq hl => by
    have hlt : i.toNatClampNeg < w.2.2 a := Nat.not_le.mp fun q => hin (Or.inr q)
    exact W.iald (v := .int (S.1 a i.toNatClampNeg)) hC.1 hC.2.1 (rd_arrI hH hk) ((hK.1.1.2 0 _ rfl).1 _ _) (fun q => by cases q) (by rw [arrV_size]; exact hin) (by rw [arrV_read _ _ hlt]) rfl (congrArg (fun z => Value.int i :: z) (rd_refx hk hH.2.2.1 _)) hd (k r hr p l e s m args below meth c0 H locs ls hC hK hH hZ hq hl)
theorem rd_arrH {cx : rd_Cx} {w : rd_W} {S S' : rd_S} {H H' : Heap} {a : Nat} (hH : rd_H cx w S H) (hk : rd_ok w a 13) (hz : H'.size = H.size) (ho : ∀ q, q ≠ xh cx + a → H'[q]? = H[q]?) (hs : ∀ i j, i ≠ a → S'.1 i j = S.1 i j ∧ S'.2 i j = S.2 i j) (e : H'[xh cx + a]? = some (arrV (xI cx) (w.2.2 a) (fun j => .int (S'.1 a j)))) : rd_H cx w S' H' := by
  refine rd_H_up hH hk.1 hk.2.1 hz ho hs ⟨fun r hr => ?_, fun _ => e, fun h => ?_⟩ (fun j k b hf hb => ?_)
  · rw [hk.2.2] at hr; cases hr
  · rw [hk.2.2] at h; cases h
  · rw [hk.2.2] at hf; cases hf
theorem ry_iast {a : Nat} {i x : Int32} (hd : decode G.2.1 pc = .ok (.iastore, 1)) (hk : rd_ok w a 13) (k : rd_Y cx G Qf E (pc + 1) lv st w (pI S a i.toNatClampNeg x) kc ks) : rd_Y cx G Qf (rd_i i (w.2.2 a) E) pc lv (.inl x :: .inl i :: .inr (some a) :: st) w S kc ks :=
  ry_ig fun hin r hr p l e s m args below meth c0 H locs ls hC hK hH hZ hq hl => by
    refine W.iast hC.1 hC.2.1 (rd_arrI hH hk) ((hK.1.1.2 0 _ rfl).1 _ _) (fun q => by cases q) (by rw [arrV_size]; exact hin) rfl (congrArg (fun z => Value.int x :: Value.int i :: z) (rd_refx hk hH.2.2.1 _)) hd fun H' e1 e2 e3 => ?_
    have ha : xh cx < xh cx + a := by have := hk.1; omega
    refine k r hr p l e s m args below meth c0 H' _ ls hC hK (rd_arrH hH hk e2 e3 (fun i j h => rd_pI_ne j h) ?_) (rd_Z_up hZ (fun q hq' => e3 q (fun e9 => by have e8 : q = xh cx + a := e9; omega))) (fun q hq' => ?_) hl
    · rw [e1, arrV_store]
      congr 2
      funext q
      rw [rd_pI_at.1]
      unfold updV
      by_cases h : q = i.toNatClampNeg
      · rw [if_pos h, if_pos h]
      · rw [if_neg h, if_neg h]
    · rcases List.mem_append.mp hq' with h | h
      · exact hq q h
      · rw [List.mem_singleton.mp h]; exact ha
theorem ry_alen {a : Nat} (hd : decode G.2.1 pc = .ok (.arraylength, 1)) (hk : rd_ok w a 13) (k : rd_Y cx G Qf E (pc + 1) lv (.inl (nI (w.2.2 a)) :: st) w S kc ks) : rd_Y cx G Qf E pc lv (.inr (some a) :: st) w S kc ks :=
  fun r hr p l e s m args below meth c0 H locs ls hC hK hH hZ hq hl =>
    W.alen (n := nI (w.2.2 a)) hC.1 hC.2.1 (rd_arrI hH hk) ((hK.1.1.2 0 _ rfl).1 _ _) (by rw [arrV_size]; rfl) rfl (rd_refx hk hH.2.2.1 _) hd (k r hr p l e s m args below meth c0 H locs ls hC hK hH hZ hq hl)
theorem rd_arrO {cx : rd_Cx} {w : rd_W} {S : rd_S} {H : Heap} {a : Nat} (hH : rd_H cx w S H) (hk : rd_ok w a 14) : H[xh cx + a]? = some (arrV (xO cx) (w.2.2 a) (fun j => va_rf ((S.2 a j).map (rd_ad cx)))) := (hH.2.1 a hk.1 hk.2.1).2.2 hk.2.2
theorem ry_aald {a : Nat} {i : Int32} {f : Nat → Option α} (hd : decode G.2.1 pc = .ok (.aaload, 1)) (hk : rd_ok w a 14) (k : ∀ b, rd_ok w b 5 → rd_Y cx G Qf (f b) (pc + 1) lv (.inr (some b) :: st) w S kc ks) : rd_Y cx G Qf (rd_i i (w.2.2 a) (rd_c (gR S a i.toNatClampNeg) f)) pc lv (.inl i :: .inr (some a) :: st) w S kc ks :=
  ry_ig fun hin r hr p l e s m args below meth c0 H locs ls hC hK hH hZ hq hl => by
    cases hb : gR S a i.toNatClampNeg with
    | none => rw [hb] at hr; cases hr
    | some b =>
      rw [hb] at hr
      have hlt : i.toNatClampNeg < w.2.2 a := Nat.not_le.mp fun q => hin (Or.inr q)
      have hb' : S.2 a i.toNatClampNeg = some b := hb
      exact W.aald (v := rd_v cx (.inr (some b))) (ty := .object "RdsDesk$Other") hC.1 hC.2.1 (rd_arrO hH hk) ((hK.1.1.2 1 _ rfl).1 _ _) rfl (fun q => by cases q) (by rw [arrV_size]; exact hin) (by rw [arrV_read _ _ hlt, hb']; rfl) rfl (congrArg (fun z => Value.int i :: z) (rd_refx hk hH.2.2.1 _)) hd (k b (hH.2.2.2.2 a _ 5 b hk.1 hk.2.1 (by rw [hk.2.2]; rfl) hb) r hr p l e s m args below meth c0 H locs ls hC hK hH hZ hq hl)
theorem ry_aast {a v : Nat} {i : Int32} (hd : decode G.2.1 pc = .ok (.aastore, 1)) (hk : rd_ok w a 14) (hv : rd_ok w v 5) (k : rd_Y cx G Qf E (pc + 1) lv st w (pR S a i.toNatClampNeg (some v)) kc ks) : rd_Y cx G Qf (rd_i i (w.2.2 a) E) pc lv (.inr (some v) :: .inl i :: .inr (some a) :: st) w S kc ks :=
  ry_ig fun hin r hr p l e s m args below meth c0 H locs ls hC hK hH hZ hq hl => by
    have hlt : i.toNatClampNeg < w.2.2 a := Nat.not_le.mp fun q => hin (Or.inr q)
    have h0 : ¬ i < 0 := fun q => hin (Or.inl q)
    obtain ⟨cellV, g1, g2, g3, -⟩ := rd_obj hH hv (q := (RX5, TX5, 2)) rfl
    have hcls := (hK.1.1.1 5 (RX5, TX5, 2) rfl).2
    obtain ⟨kA, comp, k1, k2, k3, -⟩ := (hK.1.1.2 1 _ rfl).2
    have hcomp : comp = (xD cx).1 5 := Option.some.inj (k3.symm.trans hcls.1)
    subst hcomp
    obtain ⟨kC, hkC, -⟩ := hcls.2
    have ha : xh cx < xh cx + a := by have := hk.1; omega
    refine W.aast (v := xh cx + v) hC.1 hC.2.1 (rd_arrO hH hk) (fun q h => by cases h) (fun h => by cases h) k1 k2 rfl hkC ⟨h0, by rw [arrV_size]; exact hlt⟩ g1 (fun q h => by rw [g3] at h; cases h) (by rw [g2]; exact hkC) (by rw [g2]; exact va_assign hcls) rfl (by
      show Value.ref (rd_ad cx v) :: Value.int i :: Value.ref (rd_ad cx a) :: _ = _
      rw [rd_adx hv hH.2.2.1, rd_adx hk hH.2.2.1]) hd fun H' e1 e2 e3 => ?_
    refine k r hr p l e s m args below meth c0 H' _ ls hC hK (rd_H_up hH hk.1 hk.2.1 e2 e3 (fun i j h => rd_pR_ne j h) ⟨fun r hr => ?_, fun h => ?_, fun _ => ?_⟩ (fun j k b hf hb => ?_)) (rd_Z_up hZ (fun q hq' => e3 q (fun e9 => by have e8 : q = xh cx + a := e9; omega))) (fun q hq' => ?_) hl
    · rw [hk.2.2] at hr; cases hr
    · rw [hk.2.2] at h; cases h
    · rw [e1, arrV_store]
      congr 2
      funext q
      rw [rd_pR_at.2]
      unfold updV
      by_cases h : q = i.toNatClampNeg
      · rw [if_pos h, if_pos h]
        show _ = Value.ref (rd_ad cx v)
        rw [rd_adx hv hH.2.2.1]
      · rw [if_neg h, if_neg h]
    · rw [rd_pR_at.2] at hb
      by_cases h : j = i.toNatClampNeg
      · rw [if_pos h] at hb
        rw [hk.2.2] at hf
        cases hf
        cases hb
        exact hv
      · rw [if_neg h] at hb
        exact hH.2.2.2.2 a j k b hk.1 hk.2.1 hf hb
    · rcases List.mem_append.mp hq' with h | h
      · exact hq q h
      · rw [List.mem_singleton.mp h]; exact ha
/-! the row of OFFSETS, and the script -/
theorem ry_gets {idx : Nat} (hd : decode G.2.1 pc = .ok (.getstatic idx, 3)) (f : Cond.fieldLink G.1 idx "RdsDesk" "OFFSETS" "[I" ∈ rd_gw) (k : rd_Y cx G Qf E (pc + 3) lv (.inr (some 0) :: st) w S kc ks) : rd_Y cx G Qf E pc lv st w S kc ks :=
  fun r hr p l e s m args below meth c0 H locs ls hC hK hH hZ hq hl => by
    obtain ⟨cf, kf, fi, fd, a, cell, h1, h2, h3, h4, h5, h6, h7, h8⟩ := hZ.1
    exact W.gets (v := rd_v cx (.inr (some 0))) hC.1 hC.2.1 hC.2.2.2.2.2.2.1 (hC.2.2.2.2.2.2.2 _ f) h1 h2 h3 h4 h5 (fun e => by rw [e] at h6; cases h6) h7 rfl hd (k r hr p l e s m args below meth c0 H locs ls hC hK hH hZ hq hl)
theorem ry_alen0 (hd : decode G.2.1 pc = .ok (.arraylength, 1)) (k : rd_Y cx G Qf E (pc + 1) lv (.inl 5 :: st) w S kc ks) : rd_Y cx G Qf E pc lv (.inr (some 0) :: st) w S kc ks :=
  fun r hr p l e s m args below meth c0 H locs ls hC hK hH hZ hq hl => by
    obtain ⟨scr, h1, h2, h3, h4, h5, h6, h7⟩ := hZ.2.1
    exact W.alen (n := 5) hC.1 hC.2.1 h1 h2 h5 rfl rfl hd (k r hr p l e s m args below meth c0 H locs ls hC hK hH hZ hq hl)
theorem ry_ald0 {i : Int32} (hd : decode G.2.1 pc = .ok (.iaload, 1)) (k : rd_Y cx G Qf E (pc + 1) lv (.inl (rd_ofs i.toNatClampNeg) :: st) w S kc ks) : rd_Y cx G Qf (rd_i i 5 E) pc lv (.inl i :: .inr (some 0) :: st) w S kc ks :=
  ry_ig fun hin r hr p l e s m args below meth c0 H locs ls hC hK hH hZ hq hl => by
    obtain ⟨scr, h1, h2, h3, h4, h5, h6, h7⟩ := hZ.2.1
    have hlt : i.toNatClampNeg < 5 := Nat.not_le.mp fun q => hin (Or.inr q)
    exact W.iald (v := .int (rd_ofs i.toNatClampNeg)) hC.1 hC.2.1 h1 h2 h3 (fun q => q.elim (fun z => hin (Or.inl z)) (fun z => hin (Or.inr (Nat.le_trans h4 z)))) (h6 _ hlt) rfl rfl hd (k r hr p l e s m args below meth c0 H locs ls hC hK hH hZ hq hl)
theorem ry_slen (hd : decode G.2.1 pc = .ok (.arraylength, 1)) (k : rd_Y cx G Qf E (pc + 1) lv (.inl (nI (xL cx)) :: st) w S kc ks) : rd_Y cx G Qf E pc lv (.inr (some 1000000) :: st) w S kc ks :=
  fun r hr p l e s m args below meth c0 H locs ls hC hK hH hZ hq hl => by
    obtain ⟨scr, h1, h2, h3, h4, h5⟩ := hZ.2.2.2.1
    exact W.alen (n := nI (xL cx)) hC.1 hC.2.1 h1 h2 (by rw [h4]; rfl) rfl rfl hd (k r hr p l e s m args below meth c0 H locs ls hC hK hH hZ hq hl)
theorem ry_sld {i : Int32} (hd : decode G.2.1 pc = .ok (.iaload, 1)) (k : rd_Y cx G Qf E (pc + 1) lv (.inl (xX cx i.toNatClampNeg) :: st) w S kc ks) : rd_Y cx G Qf (rd_i i (xL cx) E) pc lv (.inl i :: .inr (some 1000000) :: st) w S kc ks :=
  ry_ig fun hin r hr p l e s m args below meth c0 H locs ls hC hK hH hZ hq hl => by
    obtain ⟨scr, h1, h2, h3, h4, h5⟩ := hZ.2.2.2.1
    have hlt : i.toNatClampNeg < xL cx := Nat.not_le.mp fun q => hin (Or.inr q)
    exact W.iald (v := .int (xX cx i.toNatClampNeg)) hC.1 hC.2.1 h1 h2 h3 (by rw [h4]; exact hin) (h5 _ hlt) rfl rfl hd (k r hr p l e s m args below meth c0 H locs ls hC hK hH hZ hq hl)
end
