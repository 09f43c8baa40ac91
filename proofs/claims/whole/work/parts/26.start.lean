/-! The law's start: what the Statement gives, in the words of the picture. -/
abbrev rd_w0 : rd_W := (0, fun _ => 0, fun _ => 0)
abbrev rd_s0 : rd_S := (fun _ _ => 0, fun _ _ => none)
theorem rd_known {args : Array Value} {s : State} (hts : ∀ w ∈ rd_gw, w.before args s = true) : ∀ k : Nat, ∃ p : ClassId × (Nat → Nat), ∀ q : vw_C, vwCl[k]? = some q → u_Kn s q.1 q.2.1 q.2.2 p.1 p.2 := by
  intro k
  match k with
  | 0 =>
    obtain ⟨c, i, h⟩ := u_known hts cl_0.2.1 (hts _ ci_0)
    exact ⟨(c, i), fun q hq => by cases hq; exact h⟩
  | 1 =>
    obtain ⟨c, i, h⟩ := u_known hts cl_1.2.1 (hts _ ci_1)
    exact ⟨(c, i), fun q hq => by cases hq; exact h⟩
  | 2 =>
    obtain ⟨c, i, h⟩ := u_known hts cl_2.2.1 (hts _ ci_2)
    exact ⟨(c, i), fun q hq => by cases hq; exact h⟩
  | 3 =>
    obtain ⟨c, i, h⟩ := u_known hts cl_3.2.1 (hts _ ci_3)
    exact ⟨(c, i), fun q hq => by cases hq; exact h⟩
  | 4 =>
    obtain ⟨c, i, h⟩ := u_known hts cl_4.2.1 (hts _ ci_4)
    exact ⟨(c, i), fun q hq => by cases hq; exact h⟩
  | 5 =>
    obtain ⟨c, i, h⟩ := u_known hts cl_5.2.1 (hts _ ci_5)
    exact ⟨(c, i), fun q hq => by cases hq; exact h⟩
  | 6 =>
    obtain ⟨c, i, h⟩ := u_known hts cl_6.2.1 (hts _ ci_6)
    exact ⟨(c, i), fun q hq => by cases hq; exact h⟩
  | 7 =>
    obtain ⟨c, i, h⟩ := u_known hts cl_7.2.1 (hts _ ci_7)
    exact ⟨(c, i), fun q hq => by cases hq; exact h⟩
  | 8 =>
    obtain ⟨c, i, h⟩ := u_known hts cl_8.2.1 (hts _ ci_8)
    exact ⟨(c, i), fun q hq => by cases hq; exact h⟩
  | 9 =>
    obtain ⟨c, i, h⟩ := u_known hts cl_9.2.1 (hts _ ci_9)
    exact ⟨(c, i), fun q hq => by cases hq; exact h⟩
  | 10 =>
    obtain ⟨c, i, h⟩ := u_known hts cl_10.2.1 (hts _ ci_10)
    exact ⟨(c, i), fun q hq => by cases hq; exact h⟩
  | 11 =>
    obtain ⟨c, i, h⟩ := u_known hts cl_11.2.1 (hts _ ci_11)
    exact ⟨(c, i), fun q hq => by cases hq; exact h⟩
  | 12 =>
    obtain ⟨c, i, h⟩ := u_known hts cl_12.2.1 (hts _ ci_12)
    exact ⟨(c, i), fun q hq => by cases hq; exact h⟩
  | k + 13 => exact ⟨(0, fun _ => 0), fun q hq => by simp [vwCl] at hq⟩
theorem rd_start {args : Array Value} {s : State} {b L : Nat} {xs : Nat → Int32} (hL : L ≤ 1536) (hts0 : ∀ w ∈ lw_tbl, w.before args s = true) (hX : va_X b L xs s s.heap) (hbl : b < s.heap.size) (hgv : (Jvm.Cond.and given_1 narrow_1).before args s = true) :
    ∃ cx : rd_Cx, xb cx = b ∧ xL cx = L ∧ xX cx = xs ∧ s.heap.size = xh cx + 1 ∧ rd_K cx s ∧ rd_H cx rd_w0 rd_s0 s.heap ∧ rd_Z cx s s.heap := by
  have hts : ∀ w ∈ rd_gw, w.before args s = true := fun w hw => hts0 w (List.mem_filter.mp hw).1
  obtain ⟨f, hf⟩ := Classical.axiomOfChoice (rd_known hts)
  obtain ⟨cI, kI, mI, i1, i2, i3⟩ := Cond.arrayClass_spec (hts0 (.arrayClass .int) (List.mem_of_getElem? (i := 115) (by decide +kernel)))
  have hao := hts0 (.arrayOver (.object "RdsDesk$Other")) (List.mem_of_getElem? (i := 311) (by decide +kernel))
  obtain ⟨mO, cO, kO, o1, -, o2, o3, o4⟩ := Cond.arrayOver_spec hao
  have hs := flat_of_before _ hgv
  have hA : ∀ a : Nat, a < s.heap.size → ¬ (fun q : Nat => s.heap.size - 1 < q) a := fun a ha h => by have h' : s.heap.size - 1 < a := h; omega
  have e0 : (Term.elem (.static "RdsDesk" "OFFSETS" "[I") (.int 0)).eval args s none [] s = some (.int 252) := va_eqt (hs _ (by decide +kernel))
  have e1 : (Term.elem (.static "RdsDesk" "OFFSETS" "[I") (.int 1)).eval args s none [] s = some (.int 408) := va_eqt (hs _ (by decide +kernel))
  have e2 : (Term.elem (.static "RdsDesk" "OFFSETS" "[I") (.int 2)).eval args s none [] s = some (.int 360) := va_eqt (hs _ (by decide +kernel))
  have e3 : (Term.elem (.static "RdsDesk" "OFFSETS" "[I") (.int 3)).eval args s none [] s = some (.int 436) := va_eqt (hs _ (by decide +kernel))
  have e4 : (Term.elem (.static "RdsDesk" "OFFSETS" "[I") (.int 4)).eval args s none [] s = some (.int 848) := va_eqt (hs _ (by decide +kernel))
  have el : (Term.length (.static "RdsDesk" "OFFSETS" "[I")).eval args s none [] s = some (.int (Int32.ofNat 5)) := va_eqt (z := 5) (hs _ (by decide +kernel))
  obtain ⟨aO, ht, hT⟩ := va_Tof (tm := .static "RdsDesk" "OFFSETS" "[I") (ty := .int) (N := 5) (f := fun j => .int (rd_ofs j)) (A := fun q => s.heap.size - 1 < q) (by decide) (hs _ (by decide +kernel)) el (fun j hj => by
    match j, hj with
    | 0, _ => exact e0
    | 1, _ => exact e1
    | 2, _ => exact e2
    | 3, _ => exact e3
    | 4, _ => exact e4) hA
  have hZ := va_Zof (A := fun q => s.heap.size - 1 < q) (hts0 (.laysStatic "RdsDesk" "OFFSETS" "[I") (List.mem_of_getElem? (i := 428) (by decide +kernel))) (hts0 (.initialized "RdsDesk") (List.mem_of_getElem? (i := 62) (by decide +kernel))) ht hA
  have haO : aO < s.heap.size := (Array.getElem?_eq_some_iff.mp hT.choose_spec.1).1
  refine ⟨((fun k => (f k).1, fun k => (f k).2), cI, cO, s.heap.size - 1, aO, b, L, xs), rfl, rfl, rfl, ?_, ⟨⟨⟨hf, fun k q hq => ?_⟩, fun a i x h hm => va_Nw.of rfl (hts0 _ hm)⟩, va_AO.of hao⟩, ⟨?_, fun i h1 h2 => ?_, by decide, fun _ _ _ => ⟨rfl, rfl⟩, fun i j k b h1 h2 _ hb => by cases hb⟩, ⟨hZ, hT, ?_, hX, ?_, ?_⟩⟩
  · show s.heap.size = s.heap.size - 1 + 1; omega
  · match k, hq with
    | 0, hq => cases hq; exact ⟨fun n z => ⟨(fun k h => by cases h), kI, i2, mI, i3⟩, i1⟩
    | 1, hq => cases hq; exact ⟨fun n z => ⟨(fun k h => by cases h), kO, o2, mO, o3⟩, kO, mO, o2, o3, o1, o4⟩
    | k + 2, hq => simp at hq
  · show s.heap.size = s.heap.size - 1 + 0 + 1; omega
  · have h2' : i ≤ 0 := h2; omega
  · show aO ≤ s.heap.size - 1; omega
  · show b ≤ s.heap.size - 1; omega
  · show L < 2 ^ 31; omega
