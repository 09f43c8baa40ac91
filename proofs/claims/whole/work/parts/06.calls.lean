/-! Rows over the judgement: answers and calls. -/
abbrev rd_rI (w : rd_W) : Int32 × rd_S → Option rd_V × rd_W × rd_S := fun r => (some (.inl r.1), w, r.2)
abbrev rd_rV (w : rd_W) : rd_S → Option rd_V × rd_W × rd_S := fun r => (none, w, r)
abbrev rd_rR (w : rd_W) : Option Nat × rd_S → Option rd_V × rd_W × rd_S := fun r => (some (.inr r.1), w, r.2)
abbrev rd_rC : rd_W × rd_S → Option rd_V × rd_W × rd_S := fun r => (none, r.1, r.2)
section
variable {α : Type} {cx : rd_Cx} {G : rd_G} {Qf : α → rd_T} {E : Option α} {pc : Nat} {lv : List (Nat × rd_V)} {st : List rd_V} {w w0 : rd_W} {S : rd_S} {kc ks rk : Nat}
theorem ry_iret {x : Int32} (hd : decode G.2.1 pc = .ok (.ireturn, 1)) (ht : G.2.2.2.1 = some .int) (hc : kc ≤ G.2.2.2.2.2.cells) (hs : ks ≤ G.2.2.2.2.2.slots) : rd_Y cx G (fun r => rd_P cx G.2.2.2.2.2 rk w (rd_rI w r)) (some (x, S)) pc lv [.inl x] w S kc ks :=
  fun r hr p l e s m args below meth c H locs ls hC hK hH hZ hq hl => by
    cases hr
    refine W.widen hc hs ?_
    exact W.iret (v := x) hC.1 hC.2.1 (hC.2.2.2.1.trans ht) (fun t ht hW => ⟨rfl, by rw [ht]; exact hH, by rw [ht]; exact rd_Z_mv hW.alike hZ, (fun b hb => by cases hb), rd_le.rf⟩) hq hd hC.2.2.2.2.1
theorem ry_zret {x : Int32} (hd : decode G.2.1 pc = .ok (.ireturn, 1)) (ht : G.2.2.2.1 = some .boolean) (hx : x = 0 ∨ x = 1) (hc : kc ≤ G.2.2.2.2.2.cells) (hs : ks ≤ G.2.2.2.2.2.slots) : rd_Y cx G (fun r => rd_P cx G.2.2.2.2.2 rk w (rd_rI w r)) (some (x, S)) pc lv [.inl x] w S kc ks :=
  fun r hr p l e s m args below meth c H locs ls hC hK hH hZ hq hl => by
    cases hr
    refine W.widen hc hs ?_
    exact W.zret (v := x) hC.1 hC.2.1 (hC.2.2.2.1.trans ht) (rd_zok (cx := cx) hx).1 (fun t ht hW => ⟨rfl, by rw [ht]; exact hH, by rw [ht]; exact rd_Z_mv hW.alike hZ, (fun b hb => by cases hb), rd_le.rf⟩) hq hd hC.2.2.2.2.1
theorem ry_vret (hd : decode G.2.1 pc = .ok (.return_, 1)) (ht : G.2.2.2.1 = none) (hc : kc ≤ G.2.2.2.2.2.cells) (hs : ks ≤ G.2.2.2.2.2.slots) : rd_Y cx G (fun r => rd_P cx G.2.2.2.2.2 rk w (rd_rV w r)) (some S) pc lv [] w S kc ks :=
  fun r hr p l e s m args below meth c H locs ls hC hK hH hZ hq hl => by
    cases hr
    refine W.widen hc hs ?_
    exact W.vret hC.1 hC.2.1 (hC.2.2.2.1.trans ht) (fun t ht hW => ⟨rfl, by rw [ht]; exact hH, by rw [ht]; exact rd_Z_mv hW.alike hZ, (fun b hb => by cases hb), rd_le.rf⟩) hq hd hC.2.2.2.2.1
theorem ry_cret (hd : decode G.2.1 pc = .ok (.return_, 1)) (ht : G.2.2.2.1 = none) (hle : rd_le w0 w) (hc : kc ≤ G.2.2.2.2.2.cells) (hs : ks ≤ G.2.2.2.2.2.slots) : rd_Y cx G (fun r => rd_P cx G.2.2.2.2.2 rk w0 (rd_rC r)) (some (w, S)) pc lv [] w S kc ks :=
  fun r hr p l e s m args below meth c H locs ls hC hK hH hZ hq hl => by
    cases hr
    refine W.widen hc hs ?_
    exact W.vret hC.1 hC.2.1 (hC.2.2.2.1.trans ht) (fun t ht hW => ⟨rfl, by rw [ht]; exact hH, by rw [ht]; exact rd_Z_mv hW.alike hZ, (fun b hb => by cases hb), hle⟩) hq hd hC.2.2.2.2.1
theorem ry_aret {o : Option Nat} {C : String} (hd : decode G.2.1 pc = .ok (.areturn, 1)) (ht : G.2.2.2.1 = some (.object C)) (ho : ∀ b, o = some b → rd_ok w b rk) (hc : kc ≤ G.2.2.2.2.2.cells) (hs : ks ≤ G.2.2.2.2.2.slots) : rd_Y cx G (fun r => rd_P cx G.2.2.2.2.2 rk w (rd_rR w r)) (some (o, S)) pc lv [.inr o] w S kc ks :=
  fun r hr p l e s m args below meth c H locs ls hC hK hH hZ hq hl => by
    cases hr
    refine W.widen hc hs ?_
    exact W.aret (v := rd_v cx (.inr o)) hC.1 hC.2.1 (hC.2.2.2.1.trans ht) (Or.inl ⟨_, rfl⟩) (va_rf_or _) (fun t ht hW => ⟨rfl, by rw [ht]; exact hH, by rw [ht]; exact rd_Z_mv hW.alike hZ, (fun b hb => by cases hb; exact ho b rfl), rd_le.rf⟩) hq hd hC.2.2.2.2.1
end
/-- what the tables say of a method that is called: its code, its class, its parameters -/
def rd_YL (y : MethodName) (Gc : rd_G) (n : Nat) : Prop :=
  Cond.code y Gc.2.1 Gc.2.2.1 Gc.2.2.2.1 ∈ rd_gw ∧ Cond.initialized y.cls ∈ rd_gw ∧ y.cls ≠ "java/lang/invoke/MethodHandle" ∧ y.cls ≠ "java/lang/invoke/VarHandle" ∧ (parseMethodDescriptor y.desc).map (fun d => d.parameters.length) = some n
theorem rd_K_mv {cx : rd_Cx} {s U : State} (hW : s.WarmedH U.vm) (h : rd_K cx s) : rd_K cx U := ⟨⟨va_K.moved hW.alike h.1.1, fun a i x hh hm => va_Nw.warmM hW (h.1.2 a i x hh hm)⟩, h.2.moved hW.alike⟩
theorem rd_blind {cx : rd_Cx} {w : rd_W} {S : rd_S} (vs : List Value) : FrameBlind (va_Pc vs (fun U => rd_K cx U ∧ rd_H cx w S U.heap ∧ rd_Z cx U U.heap)) := fun a U g mk q => by
  obtain ⟨q0, qK, qH, qZ⟩ := q
  exact ⟨q0, ⟨⟨va_K.moved (u := U) (U := U.calling g mk a) (Vm.Alike.refl U.vm) qK.1.1, fun a i x hh hm => va_Nw.same rfl (u := U) rfl (qK.1.2 a i x hh hm)⟩, va_AO.moved (u := U) (U := U.calling g mk a) (Vm.Alike.refl U.vm) qK.2⟩, qH, rd_Z_mv (u := U) (U := U.calling g mk a) (Vm.Alike.refl U.vm) qZ⟩
theorem rd_pre {cx : rd_Cx} {w : rd_W} {S : rd_S} {s : State} {H : Heap} (vs : List Value) (hK : rd_K cx s) (hH : rd_H cx w S H) (hZ : rd_Z cx s H) (U : State) (hU : U.heap = H) (hW : s.WarmedH U.vm) : va_Pc vs (fun U => rd_K cx U ∧ rd_H cx w S U.heap ∧ rd_Z cx U U.heap) vs.toArray U :=
  ⟨rfl, rd_K_mv hW hK, by rw [hU]; exact hH, by rw [hU]; exact rd_Z_mv hW.alike hZ⟩
theorem rd_pay {s : State} {args : Array Value} (hts : ∀ w ∈ rd_gw, w.before args s = true) {y : MethodName} {Gc : rd_G} (hc : Cond.code y Gc.2.1 Gc.2.2.1 Gc.2.2.2.1 ∈ rd_gw) : ∀ w ∈ (Cond.code y Gc.2.1 Gc.2.2.1 Gc.2.2.2.1 :: rd_gw), ∀ (a' : Array Value) (U : State), s.WarmedH U.vm → w.before a' U = true :=
  pay_in hts (fun w hw => by
    rcases List.mem_cons.mp hw with rfl | h
    · exact ⟨hc, rd_good hc⟩
    · exact ⟨h, rd_good h⟩)
theorem rd_len {y : MethodName} {n : Nat} (h : (parseMethodDescriptor y.desc).map (fun d => d.parameters.length) = some n) : ∀ sig, parseMethodDescriptor y.desc = some sig → n = sig.parameters.length := fun sig hs => by
  rw [hs] at h
  exact (Option.some.inj h).symm
theorem rd_cats (cx : rd_Cx) : ∀ st : List rd_V, ((st.map (rd_v cx)).map fun v => v.category).sum = st.length
  | [] => rfl
  | v :: t => by
    have h := rd_cats cx t
    simp only [List.map_cons, List.sum_cons, List.length_cons]
    rw [h, rd_cat]
    omega
/-- a call of y from G at pc, with the stack stk, the arguments vs, the rest st: it runs -/
def rd_Run (cx : rd_Cx) (G : rd_G) (y : MethodName) (Gc : rd_G) (rk : Nat) (vs stk st : List rd_V) (pc : Nat) (w : rd_W) (S : rd_S) : Prop :=
  ∀ (r' : Option rd_V × rd_W × rd_S) (p : Program) (l : Launch) (e : Env) (s : State) (m : MethodId) (args : Array Value) (below : List Frame) (meth : Method) (c : Code) (H : Heap) (locs : List Loc) (ls : Array Slot) (kc ks : Nat),
    rd_C G p s m args meth c → rd_K cx s → rd_H cx w S H → rd_Z cx s H → ls.size = G.2.2.1 → rd_M l cx y Gc rk vs w S r' → kc + Gc.2.2.2.2.2.cells ≤ G.2.2.2.2.2.cells → ks + Gc.2.2.2.2.2.slots ≤ G.2.2.2.2.2.slots →
    va_Run p l e G.2.2.2.2.2 s m args below meth c H locs kc ks Gc.2.2.2.2.2.cells Gc.2.2.2.2.2.slots (F0 m pc ls (stk.map (rd_v cx))) (st.map (rd_v cx)) (rd_Q cx rk w r' (vs.map (rd_v cx)).toArray) (fun q => xh cx < q)
/-- the callee's room within the caller's -/
def rd_fit (G Gc : rd_G) : Prop := Gc.2.2.2.2.2.frames + 1 ≤ G.2.2.2.2.2.frames ∧ 8 + (Gc.2.2.1 + 11) + Gc.2.2.2.2.2.locals ≤ G.2.2.2.2.2.locals
section
variable {cx : rd_Cx} {G Gc : rd_G} {y : MethodName} {rk : Nat} {vs stk st : List rd_V} {pc idx : Nat} {w : rd_W} {S : rd_S}
theorem rd_recv {a c : Nat} {q : vw_C} {s : State} {H : Heap} (hK : rd_K cx s) (hH : rd_H cx w S H) (hk : rd_ok w a c) (hc : vwCl[c]? = some q) : ∃ cellB : Cell, H[xh cx + a]? = some cellB ∧ cellB.vm.isStatics = false ∧ s.vm.findClass q.1 = some cellB.cls := by
  obtain ⟨cell, q1, q2, q3, -⟩ := rd_obj hH hk hc
  exact ⟨cell, q1, by rw [q3]; rfl, by rw [q2]; exact (hK.1.1.1 c q hc).2.1⟩
theorem rd_stk {w : rd_W} {a k : Nat} (h : rd_ok w a k) (hw : w.1 < 1000000) (vs st : List rd_V) : (vs.reverse ++ .inr (some a) :: st).map (rd_v cx) = (vs.map (rd_v cx)).reverse ++ Value.ref (xh cx + a) :: st.map (rd_v cx) := by
  rw [List.map_append, List.map_reverse, List.map_cons]
  exact congrArg (fun z => (vs.map (rd_v cx)).reverse ++ z) (rd_refx h hw _)
theorem rd_recvV {w : rd_W} {a k : Nat} (h : rd_ok w a k) (hw : w.1 < 1000000) (vs : List rd_V) : (Sum.inr (some a) :: vs).map (rd_v cx) = Value.ref (xh cx + a) :: vs.map (rd_v cx) := by
  rw [List.map_cons]
  exact rd_refx h hw _
theorem rd_runV {a c : Nat} {q : vw_C} (hd : decode G.2.1 pc = .ok (.invokevirtual idx, 3)) (hk : rd_ok w a c) (hc : vwCl[c]? = some q) (hq : q.1 = y.cls) (yl : rd_YL y Gc vs.length) (hi : Cond.instanceMethod y ∈ rd_gw) (hsel : Cond.selects y.cls y y ∈ rd_gw) (hl : Cond.methodLink G.1 idx y ∈ rd_gw) (hfit : rd_fit G Gc) (hst : st.length ≤ 8) (hs : stk = vs.reverse ++ .inr (some a) :: st) :
    rd_Run cx G y Gc rk (.inr (some a) :: vs) stk st pc w S := by
  intro r' p l e s m args below meth c0 H locs ls kc ks hC hK hH hZ hsz hM h1 h2
  subst hs
  have hts := hC.2.2.2.2.2.2.2
  have hw := hH.2.2.1
  unfold rd_M at hM
  rw [rd_recvV hk hw] at hM ⊢
  rw [rd_stk hk hw]
  exact va_runV (C := y.cls) (n := vs.length) (bytes := Gc.2.1) (maxL := Gc.2.2.1) (ret := Gc.2.2.2.1) ⟨hC.1, hC.2.1, hC.2.2.1, hC.2.2.2.2.2.2.1, hts⟩ hM ⟨⟨rfl, rfl, hfit.1, hfit.2, rd_pay hts yl.1, List.mem_cons_self, hts _ yl.1, hts _ yl.2.1, ⟨yl.2.2.1, yl.2.2.2.1⟩, rd_len yl.2.2.2.2, hts _ hl⟩, hts _ hi, hts _ hsel⟩
    ⟨rd_blind _, hq ▸ rd_recv hK hH hk hc, rd_pre _ hK hH hZ⟩ rfl (by rw [List.length_map]) hsz rfl (lv_room (by rw [rd_cats]; exact hst)) hd ⟨h1, h2⟩
theorem rd_runVN {a c : Nat} {q : vw_C} {host : String} (hd : decode G.2.1 pc = .ok (.invokevirtual idx, 3)) (hk : rd_ok w a c) (hc : vwCl[c]? = some q) (hq : q.1 = y.cls) (yl : rd_YL y Gc vs.length) (hi : Cond.instanceMethod y ∈ rd_gw) (hsel : Cond.selects y.cls y y ∈ rd_gw) (hl : Cond.methodLinkNest G.1 idx y host ∈ lw_tbl) (hfit : rd_fit G Gc) (hst : st.length ≤ 8) (hs : stk = vs.reverse ++ .inr (some a) :: st) :
    rd_Run cx G y Gc rk (.inr (some a) :: vs) stk st pc w S := by
  intro r' p l e s m args below meth c0 H locs ls kc ks hC hK hH hZ hsz hM h1 h2
  subst hs
  have hts := hC.2.2.2.2.2.2.2
  have hw := hH.2.2.1
  unfold rd_M at hM
  rw [rd_recvV hk hw] at hM ⊢
  rw [rd_stk hk hw]
  exact va_runVN (C := y.cls) (n := vs.length) (bytes := Gc.2.1) (maxL := Gc.2.2.1) (ret := Gc.2.2.2.1) ⟨hC.1, hC.2.1, hC.2.2.1, hC.2.2.2.2.2.2.1, hts⟩ hM ⟨⟨⟨rfl, rfl, hfit.1, hfit.2, rd_pay hts yl.1, List.mem_cons_self⟩, hts _ yl.1, hts _ yl.2.1, ⟨yl.2.2.1, yl.2.2.2.1⟩, rd_len yl.2.2.2.2, va_Nw.use rfl (hK.1.2 _ _ _ _ hl)⟩, hts _ hi, hts _ hsel⟩
    ⟨rd_blind _, hq ▸ rd_recv hK hH hk hc, rd_pre _ hK hH hZ⟩ rfl (by rw [List.length_map]) hsz rfl (lv_room (by rw [rd_cats]; exact hst)) hd ⟨h1, h2⟩
theorem rd_runS (hd : decode G.2.1 pc = .ok (.invokestatic idx, 3)) (yl : rd_YL y Gc vs.length) (hi : Cond.static y ∈ rd_gw) (hl : Cond.methodLink G.1 idx y ∈ rd_gw) (hfit : rd_fit G Gc) (hst : st.length ≤ 8) (hs : stk = vs.reverse ++ st) :
    rd_Run cx G y Gc rk vs stk st pc w S := by
  intro r' p l e s m args below meth c0 H locs ls kc ks hC hK hH hZ hsz hM h1 h2
  subst hs
  have hts := hC.2.2.2.2.2.2.2
  unfold rd_M at hM
  rw [List.map_append, List.map_reverse]
  exact va_runS (n := vs.length) (bytes := Gc.2.1) (maxL := Gc.2.2.1) (ret := Gc.2.2.2.1) ⟨hC.1, hC.2.1, hC.2.2.1, hC.2.2.2.2.2.2.1, hts⟩ hM ⟨⟨rfl, rfl, hfit.1, hfit.2, rd_pay hts yl.1, List.mem_cons_self, hts _ yl.1, hts _ yl.2.1, ⟨yl.2.2.1, yl.2.2.2.1⟩, rd_len yl.2.2.2.2, hts _ hl⟩, hts _ hi⟩
    ⟨rd_blind _, rd_pre _ hK hH hZ⟩ rfl (by rw [List.length_map]) hsz rfl (lv_room (by rw [rd_cats]; exact hst)) hd ⟨h1, h2⟩
theorem rd_runSN {host : String} (hd : decode G.2.1 pc = .ok (.invokestatic idx, 3)) (yl : rd_YL y Gc vs.length) (hi : Cond.static y ∈ rd_gw) (hl : Cond.methodLinkNest G.1 idx y host ∈ lw_tbl) (hfit : rd_fit G Gc) (hst : st.length ≤ 8) (hs : stk = vs.reverse ++ st) :
    rd_Run cx G y Gc rk vs stk st pc w S := by
  intro r' p l e s m args below meth c0 H locs ls kc ks hC hK hH hZ hsz hM h1 h2
  subst hs
  have hts := hC.2.2.2.2.2.2.2
  unfold rd_M at hM
  rw [List.map_append, List.map_reverse]
  exact va_runSN (n := vs.length) (bytes := Gc.2.1) (maxL := Gc.2.2.1) (ret := Gc.2.2.2.1) ⟨hC.1, hC.2.1, hC.2.2.1, hC.2.2.2.2.2.2.1, hts⟩ hM ⟨⟨⟨rfl, rfl, hfit.1, hfit.2, rd_pay hts yl.1, List.mem_cons_self⟩, hts _ yl.1, hts _ yl.2.1, ⟨yl.2.2.1, yl.2.2.2.1⟩, rd_len yl.2.2.2.2, va_Nw.use rfl (hK.1.2 _ _ _ _ hl)⟩, hts _ hi, trivial⟩
    ⟨rd_blind _, rd_pre _ hK hH hZ⟩ rfl (by rw [List.length_map]) hsz rfl (lv_room (by rw [rd_cats]; exact hst)) hd ⟨h1, h2⟩
theorem rd_runI {a c : Nat} (hd : decode G.2.1 pc = .ok (.invokespecial idx, 3)) (hk : rd_ok w a c) (yl : rd_YL y Gc vs.length) (hr : Gc.2.2.2.1 = none) (hn : y.name = "<init>") (hi : Cond.instanceMethod y ∈ rd_gw) (hl : Cond.methodLink G.1 idx y ∈ rd_gw) (hfit : rd_fit G Gc) (hst : st.length ≤ 8) (hs : stk = vs.reverse ++ .inr (some a) :: st) :
    rd_Run cx G y Gc rk (.inr (some a) :: vs) stk st pc w S := by
  intro r' p l e s m args below meth c0 H locs ls kc ks hC hK hH hZ hsz hM h1 h2
  subst hs
  have hts := hC.2.2.2.2.2.2.2
  have hw := hH.2.2.1
  have yl1 := yl.1
  have yp := rd_pay hts yl.1
  unfold rd_M at hM
  rw [hr] at hM yl1 yp
  rw [rd_recvV hk hw] at hM ⊢
  rw [rd_stk hk hw]
  exact va_runI (n := vs.length) (bytes := Gc.2.1) (maxL := Gc.2.2.1) ⟨hC.1, hC.2.1, hC.2.2.1, hC.2.2.2.2.2.2.1, hts⟩ hM ⟨⟨rfl, rfl, hfit.1, hfit.2, yp, List.mem_cons_self, hts _ yl1, hts _ yl.2.1, ⟨yl.2.2.1, yl.2.2.2.1⟩, rd_len yl.2.2.2.2, hts _ hl⟩, hn, hts _ hi⟩
    ⟨rd_blind _, rd_pre _ hK hH hZ⟩ rfl (by rw [List.length_map]) hsz rfl (lv_room (by rw [rd_cats]; exact hst)) hd ⟨h1, h2⟩
theorem rd_runIN {a c : Nat} {host : String} (hd : decode G.2.1 pc = .ok (.invokespecial idx, 3)) (hk : rd_ok w a c) (yl : rd_YL y Gc vs.length) (hr : Gc.2.2.2.1 = none) (hn : y.name = "<init>") (hi : Cond.instanceMethod y ∈ rd_gw) (hl : Cond.methodLinkNest G.1 idx y host ∈ lw_tbl) (hfit : rd_fit G Gc) (hst : st.length ≤ 8) (hs : stk = vs.reverse ++ .inr (some a) :: st) :
    rd_Run cx G y Gc rk (.inr (some a) :: vs) stk st pc w S := by
  intro r' p l e s m args below meth c0 H locs ls kc ks hC hK hH hZ hsz hM h1 h2
  subst hs
  have hts := hC.2.2.2.2.2.2.2
  have hw := hH.2.2.1
  have yl1 := yl.1
  have yp := rd_pay hts yl.1
  unfold rd_M at hM
  rw [hr] at hM yl1 yp
  rw [rd_recvV hk hw] at hM ⊢
  rw [rd_stk hk hw]
  exact va_runIN (n := vs.length) (bytes := Gc.2.1) (maxL := Gc.2.2.1) ⟨hC.1, hC.2.1, hC.2.2.1, hC.2.2.2.2.2.2.1, hts⟩ hM ⟨⟨⟨rfl, rfl, hfit.1, hfit.2, yp, List.mem_cons_self⟩, hts _ yl1, hts _ yl.2.1, ⟨yl.2.2.1, yl.2.2.2.1⟩, rd_len yl.2.2.2.2, va_Nw.use rfl (hK.1.2 _ _ _ _ hl)⟩, hn, hts _ hi⟩
    ⟨rd_blind _, rd_pre _ hK hH hZ⟩ rfl (by rw [List.length_map]) hsz rfl (lv_room (by rw [rd_cats]; exact hst)) hd ⟨h1, h2⟩
end
section
variable {α β : Type} {cx : rd_Cx} {G Gc : rd_G} {Qf : α → rd_T} {E : Option α} {pc : Nat} {lv : List (Nat × rd_V)} {vs stk st : List rd_V} {w : rd_W} {S : rd_S} {kc ks rk : Nat} {y : MethodName}
theorem ry_call {Fc : Option β} {f : β → Option α} (ρ : β → Option rd_V × rd_W × rd_S) (hM : ∀ l r', Fc = some r' → rd_M l cx y Gc rk vs w S (ρ r')) (hrun : rd_Run cx G y Gc rk vs stk st pc w S) (hc : kc + Gc.2.2.2.2.2.cells ≤ G.2.2.2.2.2.cells) (hs : ks + Gc.2.2.2.2.2.slots ≤ G.2.2.2.2.2.slots)
    (k : ∀ r', (∀ b, (ρ r').1 = some (.inr (some b)) → rd_ok (ρ r').2.1 b rk) → rd_le w (ρ r').2.1 → rd_Y cx G Qf (f r') (pc + 3) lv ((ρ r').1.toList ++ st) (ρ r').2.1 (ρ r').2.2 (kc + Gc.2.2.2.2.2.cells) (ks + Gc.2.2.2.2.2.slots)) : rd_Y cx G Qf (rd_c Fc f) pc lv stk w S kc ks :=
  fun r hr p l e s m args below meth c0 H locs ls hC hK hH hZ hq hl => by
    cases hF : Fc with
    | none => rw [hF] at hr; cases hr
    | some r' =>
      rw [hF] at hr
      intro T hT X
      obtain ⟨v, st₀, t, T', L, h0, X', hL, e1, e2, ⟨hv, hH', hZ', hok, hle⟩, stp⟩ := hrun (ρ r') p l e s m args below meth c0 H locs ls kc ks hC hK hH hZ hl.1 (hM l r' hF) hc hs T hT X
      cases hv
      have hvm : t.vm.Alike s.vm := by rw [← e2]; exact X'.warmed.alike.symm
      obtain ⟨t2, a1, b1⟩ := k r' hok hle r hr p l e s m args below meth c0 T'.heap (locs ++ L) ls hC hK (by rw [e1]; exact hH') (by rw [e1]; exact rd_Z_mv hvm hZ') (fun q hq' => by
        rcases List.mem_append.mp hq' with h | h
        · exact hq q h
        · exact hL q h) hl T' rfl X'
      refine ⟨t2, stp t2 ?_, b1⟩
      have ee : ((ρ r').1.toList ++ st).map (rd_v cx) = ((ρ r').1.map (rd_v cx)).toList ++ st.map (rd_v cx) := by
        rw [List.map_append]
        cases (ρ r').1 <;> rfl
      rw [ee] at a1
      exact a1
end
