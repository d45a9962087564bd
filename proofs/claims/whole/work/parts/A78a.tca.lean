/-! A CALL OF A METHOD THAT ENDS BY THROWING -/
/-- the call of an object's method y, whose contract says that it throws: the caller stands again, with the throw above its frame -/
theorem vt_call {l : Launch} {p : Program} {e : Env} {R : Room} {s : State} {m : MethodId} {args : Array Value} {below : List Frame} {meth : Method} {c : Code} {T : State} {locs : List Loc} {cells slots mc ms : Nat} {own C : String} {index maxL : Nat} {y : MethodName} {bytes : ByteArray} {ret : Option FieldType} {ws : List Cond} {rm : Room} {Pc : Array Value → State → Prop} {E : State → Addr → List Loc → State → Prop}
    (hM : MetFree l y (headSpec ws rm) Pc (fun _ _ _ _ _ => True) (fun _ st o t => ∃ (v : Addr) (L : List Loc), o = .threw v ∧ st.WarmedH t.vm ∧ st.sameButNew ({ t with vm := st.vm } : State) L mc ms ∧ E st v L t))
    (X : Stand p l e R s m args below meth c T locs cells slots) (hexec : p.tables.exec = Jvm.exec) (hown : s.vm.findClass own = some m.cls) (hlink : (Cond.methodLink own index y).before args s = true) (hinst : (Cond.instanceMethod y).before args s = true) (hsel : (Cond.selects C y y).before args s = true)
    (hcw : Cond.code y bytes maxL ret ∈ ws) (hws : ∀ w ∈ ws, ∀ (a' : Array Value) (U : State), s.WarmedH U.vm → w.before a' U = true) (hini : ∀ (a' : Array Value) (U : State), s.WarmedH U.vm → (Cond.initialized y.cls).before a' U = true) (hy : y.cls ≠ "java/lang/invoke/MethodHandle" ∧ y.cls ≠ "java/lang/invoke/VarHandle")
    {b : Addr} {cellB : Cell} (hcell : T.heap[b]? = some cellB) (hobj : cellB.vm.isStatics = false) (hcls : s.vm.findClass C = some cellB.cls) {g : JFrame} (hg : g.method = m) (hsize : g.locals.size = c.maxLocals) {argsL rest : List Value} (hlen : ∀ sig, parseMethodDescriptor y.desc = some sig → argsL.length = sig.parameters.length) (hstack : g.stack = argsL.reverse ++ .ref b :: rest) (hdg : decode c.code g.pc = .ok (.invokevirtual index, 3))
    (hW : 2 * g.monitorRoom + (rest.map fun v => v.category).sum ≤ 8) (hroom : rm.frames + 1 ≤ R.frames ∧ 8 + (maxL + 11) + rm.locals ≤ R.locals ∧ cells + rm.cells ≤ R.cells ∧ slots + rm.slots ≤ R.slots) (hPc : ∀ U : State, U.heap = T.heap → s.WarmedH U.vm → Pc (Value.ref b :: argsL).toArray U) :
    ∃ (st0 t T1 : State) (v : Addr) (L : List Loc), st0.heap = T.heap ∧ s.WarmedH st0.vm ∧ E st0 v L t ∧ T1.heap = t.heap ∧ Stand p l e R s m args below meth c T1 (locs ++ L) (cells + mc) (slots + ms) ∧
      ∀ target, Steps p.tables e below ((T1.setTop { g with stack := rest }).pushFrame (.throwing v)) target → Steps p.tables e below (T.setTop g) target := by
  have hcode : (Cond.code y bytes maxL ret).before args s = true := hws _ hcw args s (State.WarmedH.refl s)
  obtain ⟨mk, methM, hnamed, hmethM, hstM, habM⟩ := Cond.instanceMethod_spec hinst
  obtain ⟨methN, cM, hmethN, -, -, -, -, -, -, hsigM⟩ := Cond.code_spec hnamed hcode
  cases hmethM.symm.trans hmethN
  obtain ⟨c2, r2, m2, q1, q2, q3, q4, kP, hkP, hkPi⟩ := Cond.selects_spec hsel
  cases hcls.symm.trans q1
  cases (State.methodFound?_of_named hnamed hy).symm.trans q2
  cases hnamed.symm.trans q3
  have hselP : selectMethod e.platform s.vm cellB.cls mk = .method mk := by rw [Launch.admits_selectMethod X.admits]; exact q4
  obtain ⟨vm1, X1, go1⟩ := X.invokevirtual hexec hown hlink hnamed hmethM hstM hkP hkPi hy (a := b) (cell := cellB) hcell (fun z h => by rw [h] at hobj; cases hobj) hselP hmethM habM hkP hkPi (g := g) hg (argsL := argsL) (rest := rest) (hlen _ hsigM) hstack hdg
  have hn : (T.setVm vm1).methodNamed? y = some mk := X1.named hnamed
  generalize hf : ({ g with stack := rest } : JFrame) = f at *
  have hfm : f.method = m := by rw [← hf]; exact hg
  have hfs : f.locals.size = c.maxLocals := by rw [← hf]; exact hsize
  have hfd : decode c.code f.pc = .ok (.invokevirtual index, 3) := by rw [← hf]; exact hdg
  have hfw : 2 * f.monitorRoom + (f.stack.map fun v => v.category).sum ≤ 8 := by rw [← hf]; exact hW
  obtain ⟨methY, cY, hmY, hcY, -, hlY, -, -, -, -⟩ := Cond.code_spec hn (hws _ hcw #[] (T.setVm vm1) X1.warmed)
  obtain ⟨kY, hkY, -⟩ := className_of_methodNamed hn
  have hinY : kY.init = .initialized := Cond.initialized_spec (findClass_of_methodNamed hn) hkY (hini #[] (T.setVm vm1) X1.warmed)
  have hA : At (T.setVm vm1) f.method c below := by rw [hfm]; exact X1.here
  have happ : (headSpec ws rm).appliesLoose y e.platform ((T.setVm vm1).calling f mk (Value.ref b :: argsL).toArray) = true :=
    Spec.appliesLoose_calling (g := f) hA hfd hn hkY hinY (X1.room_calling (g := f) (R' := rm) hfs hmY hcY hroom.1 (by rw [hlY]; have := hroom.2.1; omega) hroom.2.2.1 hroom.2.2.2) (atoms_intro fun w hw => hws w hw _ _ X1.warmed)
  obtain ⟨mid, hmid⟩ := hA.above
  have hfr : ((T.setVm vm1).setTop f).frames = (.java f :: mid) ++ below := by rw [State.frames_setTop' f hA.top, hmid]; rfl
  obtain ⟨o, s2, hgo, -, hend, v, L, ho, hW2, hsm, hE⟩ := Steps.callFree hM p X.admits X.cas X.clock (acts := []) hfr happ (hPc ((T.setVm vm1).calling f mk (Value.ref b :: argsL).toArray) rfl X1.warmed) trivial
  subst ho
  have hfr2 : s2.frames = .throwing v :: ((T.setVm vm1).setTop f).frames := hend
  have hW3 : (T.setVm vm1).WarmedH s2.vm := hW2
  obtain ⟨e1, z2, z3, z4, z5, z6⟩ := hsm
  have eq1 : s2 = ({ ((T.setVm vm1).calling f mk (Value.ref b :: argsL).toArray).setFrames s2.frames with heap := s2.heap, slotsUsed := s2.slotsUsed } : State).setVm s2.vm := by
    have h9 := congrArg (fun z : State => z.setVm s2.vm) e1
    exact h9
  obtain ⟨g0, hg0⟩ := Option.isSome_iff_exists.mp hA.top
  obtain ⟨r, hr⟩ := State.topJava?_eq_some.mp hg0
  obtain ⟨th, hth, -⟩ := State.frames_cons hr
  have hU : ∃ U : State, U = ({ T.setVm vm1 with heap := s2.heap, slotsUsed := s2.slotsUsed } : State) := ⟨_, rfl⟩
  obtain ⟨U, hU⟩ := hU
  have hrU : (U.setVm s2.vm).frames = .java g0 :: r := by rw [hU]; exact hr
  have htU : (U.setVm s2.vm).topJava?.isSome = true := by rw [hU]; exact hA.top
  have eq2 : s2 = ((U.setVm s2.vm).setTop f).pushFrame (.throwing v) := by
    refine eq1.trans ?_
    rw [hfr2, State.calling_eq hA.top, State.setFrames_setFrames, State.pushFrame, State.frames_setTop' f htU, State.frames_setTop' f hA.top, State.setTop_of_frames _ hrU, State.setFrames_setFrames, hU]
    rfl
  have hsame : (T.setVm vm1).sameButNew U L mc ms := by
    rw [hU]
    refine ⟨?_, z2, z3, z4, z5, z6⟩
    show ({ T.setVm vm1 with heap := s2.heap, slotsUsed := s2.slotsUsed } : State) = { (T.setVm vm1).setFrames (T.setVm vm1).frames with heap := s2.heap, slotsUsed := s2.slotsUsed }
    rw [State.setFrames_self hth]
  have hher : At (U.setVm s2.vm) m c below := by rw [hU]; exact (X1.here.setHeapUsed s2.heap s2.slotsUsed).setVm hW3.alike
  refine ⟨(T.setVm vm1).calling f mk (Value.ref b :: argsL).toArray, s2, U.setVm s2.vm, v, L, rfl, X1.warmed, hE, by rw [hU]; rfl, ?_, fun target h => ?_⟩
  · exact ⟨X.admits, X.cas, X.clock, X.frames, X.room, X.hears, X.method, X.code, hher, by rw [hU]; exact X1.tail, State.WarmedH.trans X1.warmed hW3, by rw [hU]; exact X1.limits, by rw [hU]; exact X1.bytes, X1.same.trans (hsame.setVm s.vm)⟩
  · exact go1 _ fun acts => by
      rw [doInvoke_state] at hgo ⊢
      rw [← eq2] at h
      exact hgo.trans h
