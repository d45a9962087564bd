/-! THE LAW'S STATIC LOOK: a throw is caught -/
def nmI : String := "java/lang/IndexOutOfBoundsException"
def nmN : String := "java/util/NoSuchElementException"
def hhL : List (Nat × Nat × Nat × Nat) := [((0 : Nat), (10 : Nat), (13 : Nat), (13 : Nat)), ((0 : Nat), (10 : Nat), (17 : Nat), (15 : Nat))]
theorem tb2 {l : List ExceptionTableEntry} (h : l.map (fun h => (h.startPc, h.endPc, h.handlerPc, h.catchType)) = hhL) : ∃ x y : ExceptionTableEntry, l = [x, y] ∧ (covers x 5 = true ∧ x.handlerPc = 13 ∧ x.catchType = 13) ∧ (covers y 5 = true ∧ y.handlerPc = 17 ∧ y.catchType = 15) := by
  rcases l with _ | ⟨x, _ | ⟨y, _ | ⟨z, r⟩⟩⟩
  · cases h
  · simp [hhL] at h
  · simp only [List.map_cons, List.map_nil, hhL, List.cons.injEq, Prod.mk.injEq, and_true] at h
    obtain ⟨⟨a1, a2, a3, a4⟩, b1, b2, b3, b4⟩ := h
    exact ⟨x, y, rfl, ⟨by simp [covers, a1, a2], a3, a4⟩, by simp [covers, b1, b2], b3, b4⟩
  · simp [hhL] at h
section HTI
variable {l : Launch} {p : Program} {e : Env} {R : Room} {s : State} {m : MethodId} {args : Array Value} {below : List Frame} {meth : Method} {c : Code} {T : State} {locs : List Loc} {cells slots : Nat} {Q : State → Prop}
theorem ht_I (X : Stand p l e R s m args below meth c T locs cells slots) (htab : c.exceptionTable.toList.map (fun h => (h.startPc, h.endPc, h.handlerPc, h.catchType)) = hhL) (hown : s.vm.findClass RL = some m.cls) (l1 : (Cond.classLink RL 13 nmI).before args s = true) {v : Addr} {ce : Cell} (hce : T.heap[v]? = some ce) (hvm : ce.vm = .none) (hcl : s.vm.findClass nmI = some ce.cls) (has : s.vm.assignable ce.cls ce.cls = true) {la : Array Slot} {rest : List Value}
    (k : W p l e R s m args below meth c T.heap locs cells slots Q (F0 m 13 la [.ref v])) : ∃ t, Steps p.tables e below ((T.setTop (F0 m 5 la rest)).pushFrame (.throwing v)) t ∧ Q t := by
  have hpl : e.platform.magicAccessors = ({} : Platform).magicAccessors := by rw [X.admits.platform]
  obtain ⟨x, y, hxy, ⟨x1, x2, x3⟩, -⟩ := tb2 htab
  obtain ⟨c1, hc1, hl1⟩ := Cond.classLink_spec hown l1 e.platform hpl
  cases hcl.symm.trans hc1
  obtain ⟨dk, _, _, kt, hd, _, _, _, _, hkt, _, hopen⟩ := hl1.here
  have hl0 := X.warmed.classLinks hl1
  have hW1 : s.WarmedH (T.vm.noted m.cls 13 (.cls ce.cls)) := X.warmed.noted hd hopen (State.rightAt_cls hl1)
  obtain ⟨kt1, hkt1, -⟩ := X.warmed.alike.2.2 _ _ hkt
  obtain ⟨t, a1, b1⟩ := k (T.setVm (T.vm.noted m.cls 13 (.cls ce.cls))) rfl (X.noted hW1)
  refine ⟨t, fnd_steps (g := F0 m 5 la rest) X.here (pc := 13) (vm' := T.vm.noted m.cls 13 (.cls ce.cls)) ?_ a1, b1⟩
  intro Q1 E1 d1 acts1
  rw [W.findHandler_eq (meth := meth) (code := c) X.method' X.code, hxy]
  have h9 := fh_yes (Q := Q1) (E := E1) (e := e) (d := d1) (acts := acts1) (s := (T.setTop (F0 m 5 la rest)).pushFrame (.throwing v)) (f := F0 m 5 la rest) (a := v) (x := x) (t := [y]) (c := ce.cls) (cell := ce) x1 (by rw [x3]; decide) (by rw [x3]; exact hl0) hce (fun z h => by rw [hvm] at h; cases h) ⟨kt1, hkt1⟩ ⟨kt1, hkt1⟩ (by show T.vm.assignable _ _ = true; rw [X.warmed.alike.assignable]; exact has)
  rw [x2, x3] at h9
  exact h9
theorem ht_N (X : Stand p l e R s m args below meth c T locs cells slots) (htab : c.exceptionTable.toList.map (fun h => (h.startPc, h.endPc, h.handlerPc, h.catchType)) = hhL) (hown : s.vm.findClass RL = some m.cls) (l1 : (Cond.classLink RL 13 nmI).before args s = true) (l2 : (Cond.classLink RL 15 nmN).before args s = true) {v : Addr} {ce : Cell} {cI : ClassId} (hce : T.heap[v]? = some ce) (hvm : ce.vm = .none) (hcl : s.vm.findClass nmN = some ce.cls) (has : s.vm.assignable ce.cls ce.cls = true) (hcI : s.vm.findClass nmI = some cI) (hno : s.vm.assignable ce.cls cI = false) {la : Array Slot} {rest : List Value}
    (k : W p l e R s m args below meth c T.heap locs cells slots Q (F0 m 17 la [.ref v])) : ∃ t, Steps p.tables e below ((T.setTop (F0 m 5 la rest)).pushFrame (.throwing v)) t ∧ Q t := by
  have hpl : e.platform.magicAccessors = ({} : Platform).magicAccessors := by rw [X.admits.platform]
  obtain ⟨x, y, hxy, ⟨x1, x2, x3⟩, y1, y2, y3⟩ := tb2 htab
  obtain ⟨c1, hc1, hl1⟩ := Cond.classLink_spec hown l1 e.platform hpl
  cases hcI.symm.trans hc1
  obtain ⟨c2, hc2, hl2⟩ := Cond.classLink_spec hown l2 e.platform hpl
  cases hcl.symm.trans hc2
  obtain ⟨dk, _, _, kt, hd, _, _, _, _, hkt, _, hopen⟩ := hl1.here
  obtain ⟨dk2, _, _, ks, hd2, _, _, _, _, hks, _, hopen2⟩ := hl2.here
  have hl0 := X.warmed.classLinks hl1
  have hW1 : s.WarmedH (T.vm.noted m.cls 13 (.cls cI)) := X.warmed.noted hd hopen (State.rightAt_cls hl1)
  have hl02 := hW1.classLinks hl2
  have hW2 : s.WarmedH ((T.vm.noted m.cls 13 (.cls cI)).noted m.cls 15 (.cls ce.cls)) := hW1.noted hd2 hopen2 (State.rightAt_cls hl2)
  obtain ⟨kt1, hkt1, -⟩ := X.warmed.alike.2.2 _ _ hkt
  obtain ⟨ks1, hks1, -⟩ := X.warmed.alike.2.2 _ _ hks
  obtain ⟨ks2, hks2, -⟩ := hW1.alike.2.2 _ _ hks
  obtain ⟨t, a1, b1⟩ := k (T.setVm ((T.vm.noted m.cls 13 (.cls cI)).noted m.cls 15 (.cls ce.cls))) rfl (X.noted hW2)
  refine ⟨t, fnd_steps (g := F0 m 5 la rest) X.here (pc := 17) (vm' := (T.vm.noted m.cls 13 (.cls cI)).noted m.cls 15 (.cls ce.cls)) ?_ a1, b1⟩
  intro Q1 E1 d1 acts1
  rw [W.findHandler_eq (meth := meth) (code := c) X.method' X.code, hxy]
  have h8 := fh_no (Q := Q1) (E := E1) (e := e) (d := d1) (acts := acts1) (s := (T.setTop (F0 m 5 la rest)).pushFrame (.throwing v)) (f := F0 m 5 la rest) (a := v) (x := x) (t := [y]) (c := cI) (cell := ce) x1 (by rw [x3]; decide) (by rw [x3]; exact hl0) hce (fun z h => by rw [hvm] at h; cases h) ⟨ks1, hks1⟩ ⟨kt1, hkt1⟩ (by show T.vm.assignable _ _ = false; rw [X.warmed.alike.assignable]; exact hno)
  rw [x3] at h8
  have h9 := fh_yes (Q := Q1) (E := E1) (e := e) (d := d1) (acts := acts1) (s := ((T.setTop (F0 m 5 la rest)).pushFrame (.throwing v)).setVm (T.vm.noted m.cls 13 (.cls cI))) (f := F0 m 5 la rest) (a := v) (x := y) (t := []) (c := ce.cls) (cell := ce) y1 (by rw [y3]; decide) (by rw [y3]; exact hl02) hce (fun z h => by rw [hvm] at h; cases h) ⟨ks2, hks2⟩ ⟨ks2, hks2⟩ (by show (T.vm.noted m.cls 13 (.cls cI)).assignable _ _ = true; rw [hW1.alike.assignable]; exact has)
  rw [y2, y3] at h9
  exact h8.trans h9
end HTI
