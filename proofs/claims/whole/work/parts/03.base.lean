/-! The pure picture: values, shapes, states; the judgement of a stretch of code over it, and its rows. -/
def rd_gw : List Cond := lw_tbl.filter goodWord
theorem rd_mem {w : Cond} (i : Nat) (h : lw_tbl[i]? = some w) (hg : goodWord w = true) : w ∈ rd_gw := List.mem_filter.mpr ⟨List.mem_of_getElem? h, hg⟩
theorem rd_good {w : Cond} (h : w ∈ rd_gw) : (w.onTables && w.keeps) = true ∨ ∃ ty, w = .arrayClass ty := good_of_word (List.mem_filter.mp h).2
/-- a value: an int, or a place (none: null); 0 is the row of OFFSETS, 1000000 the script -/
abbrev rd_V : Type := Int32 ⊕ Option Nat
/-- a shape: how many cells, their kinds, their lengths -/
abbrev rd_W : Type := Nat × (Nat → Nat) × (Nat → Nat)
/-- a state: the ints and the references of every cell -/
abbrev rd_S : Type := (Nat → Nat → Int32) × (Nat → Nat → Option Nat)
abbrev rd_Cx : Type := va_G × ClassId × ClassId × Nat × Nat × Nat × Nat × (Nat → Int32)
abbrev xD (cx : rd_Cx) : va_G := cx.1
abbrev xI (cx : rd_Cx) : ClassId := cx.2.1
abbrev xO (cx : rd_Cx) : ClassId := cx.2.2.1
abbrev xh (cx : rd_Cx) : Nat := cx.2.2.2.1
abbrev xa (cx : rd_Cx) : Nat := cx.2.2.2.2.1
abbrev xb (cx : rd_Cx) : Nat := cx.2.2.2.2.2.1
abbrev xL (cx : rd_Cx) : Nat := cx.2.2.2.2.2.2.1
abbrev xX (cx : rd_Cx) : Nat → Int32 := cx.2.2.2.2.2.2.2
def rd_ad (cx : rd_Cx) (i : Nat) : Nat := if i = 0 then xa cx else if i = 1000000 then xb cx else xh cx + i
def rd_v (cx : rd_Cx) (v : rd_V) : Value := match v with
  | .inl x => .int x
  | .inr r => va_rf (r.map (rd_ad cx))
abbrev gI (S : rd_S) (a j : Nat) : Int32 := S.1 a j
abbrev gR (S : rd_S) (a j : Nat) : Option Nat := S.2 a j
def pA (S : rd_S) (a : Nat) (f : Nat → Int32) : rd_S := (va_up S.1 a f, S.2)
def pI (S : rd_S) (a j : Nat) (v : Int32) : rd_S := pA S a (upd (S.1 a) j v)
def pR (S : rd_S) (a j : Nat) (r : Option Nat) : rd_S := (S.1, va_up S.2 a (va_up (S.2 a) j r))
/-- a place of a kind -/
def rd_ok (w : rd_W) (a k : Nat) : Prop := 1 ≤ a ∧ a ≤ w.1 ∧ w.2.1 a = k
def rd_ofs (j : Nat) : Int32 := match j with
  | 0 => 252
  | 1 => 408
  | 2 => 360
  | 3 => 436
  | _ => 848
/-- what a field holds -/
def rd_fv (cx : rd_Cx) (w : rd_W) (S : rd_S) (i j : Nat) : Value := match rd_ft (w.2.1 i) j with
  | some _ => va_rf ((S.2 i j).map (rd_ad cx))
  | none => .int (S.1 i j)
def rd_at (cx : rd_Cx) (w : rd_W) (S : rd_S) (i : Nat) (H : Heap) : Prop :=
  (∀ r : vw_C, vwCl[w.2.1 i]? = some r → t_OB (xh cx + i) ((xD cx).1 (w.2.1 i)) r.2.2 ((xD cx).2 (w.2.1 i)) H (rd_fv cx w S i)) ∧
  (w.2.1 i = 13 → H[xh cx + i]? = some (arrV (xI cx) (w.2.2 i) (fun j => .int (S.1 i j)))) ∧
  (w.2.1 i = 14 → H[xh cx + i]? = some (arrV (xO cx) (w.2.2 i) (fun j => va_rf ((S.2 i j).map (rd_ad cx)))))
def rd_H (cx : rd_Cx) (w : rd_W) (S : rd_S) (H : Heap) : Prop :=
  H.size = xh cx + w.1 + 1 ∧ (∀ i, 1 ≤ i → i ≤ w.1 → rd_at cx w S i H) ∧ w.1 < 1000000 ∧ (∀ i j, w.1 < i → S.1 i j = 0 ∧ S.2 i j = none) ∧
  (∀ i j k b, 1 ≤ i → i ≤ w.1 → rd_ft (w.2.1 i) j = some k → S.2 i j = some b → rd_ok w b k)
def rd_Z (cx : rd_Cx) (U : State) (H : Heap) : Prop :=
  va_Z "RdsDesk" "OFFSETS" "[I" (.ref (xa cx)) (fun q => xh cx < q) U H ∧ va_T .int (xa cx) 5 (fun j => .int (rd_ofs j)) (fun q => xh cx < q) U H ∧ xa cx ≤ xh cx ∧ va_X (xb cx) (xL cx) (xX cx) U H ∧ xb cx ≤ xh cx ∧ xL cx < 2 ^ 31
def rd_K0 (cx : rd_Cx) (U : State) : Prop :=
  va_K (xD cx) vwCl [(xI cx, .int), (xO cx, .object "RdsDesk$Other")] U ∧ ∀ (a : String) (i : Nat) (x : MethodName) (h : String), Cond.methodLinkNest a i x h ∈ lw_tbl → va_Nw (.methodLinkNest a i x h) U
def rd_K (cx : rd_Cx) (U : State) : Prop := rd_K0 cx U ∧ va_AO "RdsDesk$Other" U
/-- a method: its class, its code, its locals, its answer's type, whether it is a constructor, its room -/
abbrev rd_G : Type := String × ByteArray × Nat × Option FieldType × Bool × Room
abbrev rd_T : Type := List Frame → Array Value → State → State → Prop
def rd_C (G : rd_G) (p : Program) (s : State) (m : MethodId) (args : Array Value) (meth : Method) (c : Code) : Prop :=
  p.tables.exec = Jvm.exec ∧ c.code = G.2.1 ∧ c.maxLocals = G.2.2.1 ∧ meth.sig.returnType = G.2.2.2.1 ∧ meth.locks = false ∧ (G.2.2.2.2.1 = true → meth.name = "<init>") ∧ s.vm.findClass G.1 = some m.cls ∧ ∀ w ∈ rd_gw, w.before args s = true
/-- from here the method comes to its end with Qf -/
def rd_X (cx : rd_Cx) (G : rd_G) (Qf : rd_T) (pc : Nat) (lv : List (Nat × rd_V)) (st : List rd_V) (w : rd_W) (S : rd_S) (kc ks : Nat) : Prop :=
  ∀ (p : Program) (l : Launch) (e : Env) (s : State) (m : MethodId) (args : Array Value) (below : List Frame) (meth : Method) (c : Code) (H : Heap) (locs : List Loc) (ls : Array Slot),
    rd_C G p s m args meth c → rd_K cx s → rd_H cx w S H → rd_Z cx s H → (∀ q ∈ locs, xh cx < q.base) → lv_has ls G.2.2.1 (lv.map (fun q => (q.1, rd_v cx q.2))) →
    W p l e G.2.2.2.2.2 s m args below meth c H locs kc ks (Qf below args s) (F0 m pc ls (st.map (rd_v cx)))
/-- E is what the code does from here on: if E is some r, the method ends with r -/
def rd_Y {α : Type} (cx : rd_Cx) (G : rd_G) (Qf : α → rd_T) (E : Option α) (pc : Nat) (lv : List (Nat × rd_V)) (st : List rd_V) (w : rd_W) (S : rd_S) (kc ks : Nat) : Prop :=
  ∀ r, E = some r → rd_X cx G (Qf r) pc lv st w S kc ks
/-- how a method ends -/
def rd_le (w w' : rd_W) : Prop := w.1 ≤ w'.1 ∧ ∀ i, i ≤ w.1 → w'.2.1 i = w.2.1 i ∧ w'.2.2 i = w.2.2 i
theorem rd_le.rf {w : rd_W} : rd_le w w := ⟨Nat.le_refl _, fun _ _ => ⟨rfl, rfl⟩⟩
theorem rd_le.tr {w w' w'' : rd_W} (h : rd_le w w') (h' : rd_le w' w'') : rd_le w w'' :=
  ⟨Nat.le_trans h.1 h'.1, fun i hi => ⟨(h'.2 i (Nat.le_trans hi h.1)).1.trans (h.2 i hi).1, (h'.2 i (Nat.le_trans hi h.1)).2.trans (h.2 i hi).2⟩⟩
theorem rd_ok.le {w w' : rd_W} {a k : Nat} (h : rd_ok w a k) (hl : rd_le w w') : rd_ok w' a k := ⟨h.1, Nat.le_trans h.2.1 hl.1, (hl.2 a h.2.1).1.trans h.2.2⟩
def rd_Q (cx : rd_Cx) (rk : Nat) (w0 : rd_W) (r : Option rd_V × rd_W × rd_S) : Array Value → State → Outcome → State → Prop := fun _ _ o t =>
  o = .returned (r.1.map (rd_v cx)) ∧ rd_H cx r.2.1 r.2.2 t.heap ∧ rd_Z cx t t.heap ∧ (∀ b, r.1 = some (.inr (some b)) → rd_ok r.2.1 b rk) ∧ rd_le w0 r.2.1
def rd_P (cx : rd_Cx) (R : Room) (rk : Nat) (w0 : rd_W) (r : Option rd_V × rd_W × rd_S) : rd_T := fun below args s => MQ below (rd_Q cx rk w0 r) args s R.cells R.slots (fun q => xh cx < q)
/-- a method's contract: with these arguments, in this state, it ends with r -/
def rd_M (l : Launch) (cx : rd_Cx) (y : MethodName) (G : rd_G) (rk : Nat) (vs : List rd_V) (w : rd_W) (S : rd_S) (r : Option rd_V × rd_W × rd_S) : Prop :=
  Met l y (.code y G.2.1 G.2.2.1 G.2.2.2.1 :: rd_gw) G.2.2.2.2.2 (va_Pc (vs.map (rd_v cx)) (fun U => rd_K cx U ∧ rd_H cx w S U.heap ∧ rd_Z cx U U.heap)) (rd_Q cx rk w r) G.2.2.2.2.2.cells G.2.2.2.2.2.slots (fun q => xh cx < q)
/-- names for parts of an E -/
def rd_let {α β : Type} (x : α) (f : α → β) : β := f x
def rd_c {α γ : Type} (o : Option α) (f : α → Option γ) : Option γ := match o with
  | none => none
  | some x => f x
def rd_b {α β γ : Type} (o : Option (α × β)) (f : α → β → Option γ) : Option γ := rd_c o (fun q => f q.1 q.2)
def rd_m {γ : Type} (o : Option Nat) (E0 : Option γ) (f : Nat → Option γ) : Option γ := match o with
  | none => E0
  | some x => f x
abbrev rd_in (i : Int32) (n : Nat) : Prop := ¬ (i < 0 ∨ n ≤ i.toNatClampNeg)
def rd_i {γ : Type} (i : Int32) (n : Nat) (E : Option γ) : Option γ := if rd_in i n then E else none
def rd_z {γ : Type} (x : Int32) (E : Option γ) : Option γ := if x = 0 ∨ x = 1 then E else none
def rd_d {γ : Type} (y : Int32) (E : Option γ) : Option γ := if y = 0 then none else E
def rd_ush (x y : Int32) : Int32 := (x.toUInt32 >>> (y.toUInt32 &&& Int32.toUInt32 31)).toInt32
def rd_shl (x y : Int32) : Int32 := x <<< (y &&& 31)
def rd_shr (x y : Int32) : Int32 := x >>> (y &&& 31)
def rd_rem (x y : Int32) : Int32 := x - x / y * y
/-- the locals with which a method begins -/
def rd_as (k : Nat) (vs : List rd_V) : List (Nat × rd_V) := match vs with
  | [] => []
  | v :: t => (k, v) :: rd_as (k + 1) t
theorem rd_cat (cx : rd_Cx) (v : rd_V) : (rd_v cx v).category = 1 := by
  rcases v with x | _ | i <;> rfl
theorem rd_sl (cx : rd_Cx) : ∀ vs : List rd_V, (lg_sl (vs.map (rd_v cx))).length = vs.length
  | [] => rfl
  | v :: t => by
    have h := rd_sl cx t
    simp only [lg_sl] at h
    simp [lg_sl, rd_cat, h]
theorem rd_args (cx : rd_Cx) : ∀ (vs : List rd_V) (k : Nat), lv_args k (vs.map (rd_v cx)) = (rd_as k vs).map (fun q => (q.1, rd_v cx q.2))
  | [], _ => rfl
  | v :: t, k => by
    simp only [List.map_cons, lv_args, rd_as, rd_cat]
    rw [if_neg (by decide), rd_args cx t (k + 1)]
theorem rd_enter {l : Launch} {cx : rd_Cx} {y : MethodName} {G : rd_G} {rk : Nat} {vs : List rd_V} {w : rd_W} {S : rd_S} {r : Option rd_V × rd_W × rd_S} (hy : plainFor y = true) (ho : y.cls = G.1) (hi : G.2.2.2.2.1 = true → y.name = "<init>") (hn : vs.length ≤ G.2.2.1)
    (h : rd_X cx G (rd_P cx G.2.2.2.2.2 rk w r) 0 (rd_as 0 vs) [] w S 0 0) : rd_M l cx y G rk vs w S r := by
  refine va_MetF (cc := G.2.1) (maxL := G.2.2.1) (ret := G.2.2.2.1) hy rfl ?_
  intro p e s m args below meth c s₁ B hml hv
  obtain ⟨rfl, hK, hH, hZ⟩ := hv
  have hts := atoms_spec (ws := .code y G.2.1 G.2.2.1 G.2.2.2.1 :: rd_gw) B.pre
  have hown : s.vm.findClass y.cls = some m.cls := findClass_of_methodNamed B.named
  have hnm : meth.name = y.name := (name_of_methodNamed B.named B.method).1
  have hl := lv_entry (vs.map (rd_v cx)) (n := G.2.2.1) (by rw [rd_sl]; exact hn)
  rw [lg_entry_eq]
  rw [rd_args] at hl
  generalize (lg_sl (vs.map (rd_v cx)) ++ List.replicate (G.2.2.1 - (lg_sl (vs.map (rd_v cx))).length) Slot.unset).toArray = ls at hl ⊢
  exact h p l e s m _ below meth c s.heap [] ls ⟨B.exec, B.bytes, hml, B.returns, B.notSynchronized, fun hh => hnm.trans (hi hh), ho ▸ hown, fun w hw => hts w (List.mem_cons_of_mem _ hw)⟩ hK hH hZ (fun _ h => by cases h) hl
