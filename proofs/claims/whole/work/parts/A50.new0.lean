/-! MAKING THE WORLD: cells come one behind the other; L holds what stands from address b on -/
def wl : Nat → List va_E → va_W
  | _, [] => []
  | b, e :: L => (b, e) :: wl (b + 1) L
theorem wl_at : ∀ (L : List va_E) (b k : Nat), (wl b L)[k]? = (L[k]?).map (fun e => (b + k, e))
  | [], _, _ => by simp [wl]
  | e :: L, b, 0 => by simp [wl]
  | e :: L, b, k + 1 => by
    show (wl (b + 1) L)[k]? = (L[k]?).map (fun e => (b + (k + 1), e))
    rw [wl_at L (b + 1) k, show b + 1 + k = b + (k + 1) by omega]
theorem wl_a {L : List va_E} {b k : Nat} {e : va_E} (h : L[k]? = some e) : (wl b L)[k]? = some (b + k, e) := by rw [wl_at, h]; rfl
theorem wl_app : ∀ (L : List va_E) (b : Nat) (e : va_E), wl b (L ++ [e]) = wl b L ++ [(b + L.length, e)]
  | [], b, e => rfl
  | x :: L, b, e => by
    show (b, x) :: wl (b + 1) (L ++ [e]) = (b, x) :: (wl (b + 1) L ++ [(b + (L.length + 1), e)])
    rw [wl_app L (b + 1) e, show b + 1 + L.length = b + (L.length + 1) by omega]
theorem wl_set : ∀ (L : List va_E) (b k : Nat) (e : va_E), wl b (L.set k e) = (wl b L).set k (b + k, e)
  | [], _, _, _ => rfl
  | x :: L, b, 0, e => rfl
  | x :: L, b, k + 1, e => by
    show (b, x) :: wl (b + 1) (L.set k e) = (b, x) :: (wl (b + 1) L).set k (b + (k + 1), e)
    rw [wl_set L (b + 1) k e, show b + 1 + k = b + (k + 1) by omega]
theorem wl_in {L : List va_E} {b k : Nat} {q : Nat × va_E} (h : (wl b L)[k]? = some q) : L[k]? = some q.2 ∧ q.1 = b + k := by
  rw [wl_at] at h
  cases hk : L[k]? with
  | none => rw [hk] at h; cases h
  | some e => rw [hk] at h; cases h; exact ⟨rfl, rfl⟩
theorem wl_D (b : Nat) (L : List va_E) : va_D (fun q => b ≤ q) (wl b L) := by
  refine ⟨fun i j p q hp hq e => ?_, fun k q hq => ?_⟩
  · have h1 := (wl_in hp).2
    have h2 := (wl_in hq).2
    omega
  · have := (wl_in hq).2
    show b ≤ q.1
    omega
/-- what the tables say of the six hidden makers and of the four rows of objects -/
def cnM : List (String × Nat × MethodName) := [(RX5, 38, yX3_init), (RX5, 43, yX1_init), (RX5, 44, yX0_init), (RX10, 45, yX8_init), (RX7, 34, yX4_init), (RX7, 35, yX2_init)]
def cnA : List String := [RX1, RX0, RX4, RX2]
def cnK (U : State) : Prop := (∀ q ∈ cnM, va_Nw (.methodLinkNest q.1 q.2.1 q.2.2 RX10) U) ∧ ∀ q ∈ cnA, va_AO q U
theorem cnK.warm {s U : State} (h : cnK s) (hW : s.WarmedH U.vm) : cnK U := ⟨fun q hq => va_Nw.warmM hW (h.1 q hq), fun q hq => va_AO.moved hW.alike (h.2 q hq)⟩
theorem cnK.same {s U : State} (h : cnK s) (hv : s.vm = U.vm) : cnK U := ⟨fun q hq => va_Nw.same rfl hv (h.1 q hq), fun q hq => va_AO.moved (hv ▸ Vm.Alike.refl s.vm) (h.2 q hq)⟩
theorem eg_Z.narrow {κ : eg_K} {A B : Nat → Prop} {U : State} {H : Heap} (h : eg_Z κ A U H) (hAB : ∀ q, B q → A q) : eg_Z κ B U H := ⟨h.1, h.2.1.narrow hAB, h.2.2.1.narrow hAB, h.2.2.2.1.narrow hAB, h.2.2.2.2.1.narrow hAB, h.2.2.2.2.2.narrow hAB⟩
def eg_rn (d mc ms : Nat) : Room := { frames := d, cells := mc, slots := ms, locals := 40 * d }
def eg_Cn (κ : eg_K) (b : Nat) (mt : eg_M) (p : Program) (s : State) (m : MethodId) (args : Array Value) (meth : Method) (c : Code) : Prop :=
  p.tables.exec = Jvm.exec ∧ c.code = mt.2.1 ∧ meth.sig.returnType = mt.2.2.2 ∧ c.maxLocals = mt.2.2.1 ∧ s.vm.findClass mt.1.cls = some m.cls ∧ (∀ w ∈ eg_w mt, w.before args s = true) ∧ meth.locks = false ∧ va_K (kD κ) vwCl (eg_tys κ) s ∧ (cnK s ∧ eg_Z κ (fun q => b ≤ q) s s.heap) ∧ b ≤ s.heap.size ∧ meth.name = mt.1.name
def eg_N (κ : eg_K) (b : Nat) (mt : eg_M) (d mc ms : Nat) (Qc : Array Value → State → Outcome → State → Prop) (pc : Nat) (ls : List (Nat × Value)) (st : List Value) (L : List va_E) (cn sn : Nat) : Prop :=
  ∀ (p : Program) (e : Env) (s : State) (m : MethodId) (args : Array Value) (below : List Frame) (meth : Method) (c : Code) (H : Heap) (locs : List Loc) (la : Array Slot),
    eg_Cn κ b mt p s m args meth c → lv_has la mt.2.2.1 ls → s.heap.size + cn = b + L.length → va_P (kD κ) vwCl (wl b L) H → va_S (fun q => b ≤ q) s.heap H locs →
    W p κ.1 e (eg_rn d mc ms) s m args below meth c H locs cn sn (MQ below Qc args s mc ms (fun q => b ≤ q)) (F0 m pc la st)
def HW (κ : eg_K) (b : Nat) (L : List va_E) (U : State) : Prop := (U.heap.size = b + L.length ∧ b ≤ U.heap.size) ∧ va_P (kD κ) vwCl (wl b L) U.heap ∧ va_K (kD κ) vwCl (eg_tys κ) U ∧ cnK U ∧ eg_Z κ (fun q => b ≤ q) U U.heap
def eg_Qx (κ : eg_K) (b : Nat) (L : List va_E) : Array Value → State → Outcome → State → Prop := va_Qv (fun _ : Unit => True) (fun _ t => HW κ b L t) (fun q => b ≤ q)
def eg_X (κ : eg_K) (b : Nat) (mt : eg_M) (d mc ms : Nat) (av : List Value) (L L1 : List va_E) : Prop := Met κ.1 mt.1 (eg_w mt) (eg_rn d mc ms) (va_Pc av (fun U => HW κ b L U)) (eg_Qx κ b L1) mc ms (fun q => b ≤ q)
theorem W_sz {p : Program} {l : Launch} {e : Env} {R : Room} {s : State} {m : MethodId} {args : Array Value} {below : List Frame} {meth : Method} {c : Code} {H : Heap} {locs : List Loc} {cells slots : Nat} {Q : State → Prop} {g : JFrame} (k : H.size ≤ s.heap.size + cells → W p l e R s m args below meth c H locs cells slots Q g) : W p l e R s m args below meth c H locs cells slots Q g := fun T hT X => k (by rw [← hT]; exact X.same.2.2.1) T hT X
theorem wl_sz {κ : eg_K} {b : Nat} {L : List va_E} {H : Heap} {n cn : Nat} (hne : L ≠ [] ∨ cn = 0) (hP : va_P (kD κ) vwCl (wl b L) H) (hz : n + cn = b + L.length) (h0 : n ≤ H.size) (h1 : H.size ≤ n + cn) : H.size = b + L.length := by
  rcases hne with h | h
  · have hl : L.length ≠ 0 := fun z => h (List.eq_nil_of_length_eq_zero z)
    have hk : L[L.length - 1]? = some (L[L.length - 1]'(by omega)) := List.getElem?_eq_getElem (by omega)
    have := (hP (L.length - 1) _ (wl_a hk)).lt
    have e : b + (L.length - 1) < H.size := this
    omega
  · omega
theorem eg_X.of {κ : eg_K} {b : Nat} {mt : eg_M} {d mc ms : Nat} {av : List Value} {L L1 : List va_E} (hy : plainName mt.1.cls = true) (hn : (lg_sl av).length ≤ mt.2.2.1) (k : eg_N κ b mt d mc ms (eg_Qx κ b L1) 0 (lv_args 0 av) [] L 0 0) : eg_X κ b mt d mc ms av L L1 := by
  refine Met.ofW (cc := mt.2.1) (maxL := mt.2.2.1) (ret := mt.2.2.2) hy rfl ?_
  intro p e s m args below meth c s₁ B hml hv
  obtain ⟨rfl, ⟨hz, hb0⟩, hP, hK, hc⟩ := hv
  have hts := atoms_spec (ws := eg_w mt) B.pre
  have hown : s.vm.findClass mt.1.cls = some m.cls := findClass_of_methodNamed B.named
  have hin : meth.name = mt.1.name := (name_of_methodNamed B.named B.method).1
  have hl := lv_entry av (n := mt.2.2.1) hn
  rw [lg_entry_eq]
  exact k p e s m _ below meth c s.heap [] _ ⟨B.exec, B.bytes, B.returns, hml, hown, hts, B.notSynchronized, hK, hc, hb0, hin⟩ hl hz hP va_S.rf
/-! the rows -/
section ENR
variable {κ : eg_K} {b : Nat} {mt : eg_M} {d mc ms : Nat} {Qc : Array Value → State → Outcome → State → Prop} {pc : Nat} {ls : List (Nat × Value)} {st : List Value} {L : List va_E} {cn sn : Nat}
theorem nw_aload {i : Nat} {n : Fin 4} {x : Nat} (j : Nat) (hd : decode mt.2.1 pc = .ok (.aload_n n, 1)) (hi : (n : Nat) = i) (hj : ls[j]? = some (i, .ref x)) (k : eg_N κ b mt d mc ms Qc (pc + 1) ls (.ref x :: st) L cn sn) : eg_N κ b mt d mc ms Qc pc ls st L cn sn := by
  intro p e s m args below meth c H locs la C hl hz hP hS
  exact lv_aload_n C.1 C.2.1 hd hi (lv_at hl j hj) (k p e s m args below meth c H locs la C hl hz hP hS)
theorem nw_iload {i : Nat} {n : Fin 4} {x : Int32} (j : Nat) (hd : decode mt.2.1 pc = .ok (.iload_n n, 1)) (hi : (n : Nat) = i) (hj : ls[j]? = some (i, .int x)) (k : eg_N κ b mt d mc ms Qc (pc + 1) ls (.int x :: st) L cn sn) : eg_N κ b mt d mc ms Qc pc ls st L cn sn := by
  intro p e s m args below meth c H locs la C hl hz hP hS
  exact lv_iload_n C.1 C.2.1 hd hi (lv_at hl j hj) (k p e s m args below meth c H locs la C hl hz hP hS)
theorem nw_istore {i : Nat} {n : Fin 4} {x : Int32} {ls1 : List (Nat × Value)} (hd : decode mt.2.1 pc = .ok (.istore_n n, 1)) (hi : (n : Nat) = i) (hn : i < mt.2.2.1) (h1 : (i, Value.int x) :: ls.filter (fun q => !(q.1 == i) && !(q.1 + 1 == i && q.2.category == 2)) = ls1) (k : eg_N κ b mt d mc ms Qc (pc + 1) ls1 st L cn sn) : eg_N κ b mt d mc ms Qc pc ls (.int x :: st) L cn sn := by
  intro p e s m args below meth c H locs la C hl hz hP hS
  subst h1
  exact lv_istore_n C.1 C.2.1 hd hi hl hn rfl (fun la1 hl1 => k p e s m args below meth c H locs la1 C hl1 hz hP hS)
theorem nw_iinc {i : Nat} {n : Int} {x v : Int32} {ls1 : List (Nat × Value)} (j : Nat) (hd : decode mt.2.1 pc = .ok (.iinc i n, 3)) (hj : ls[j]? = some (i, .int x)) (hv : x + Int32.ofInt n = v) (hn : i < mt.2.2.1) (h1 : (i, Value.int v) :: ls.filter (fun q => !(q.1 == i) && !(q.1 + 1 == i && q.2.category == 2)) = ls1) (k : eg_N κ b mt d mc ms Qc (pc + 3) ls1 st L cn sn) : eg_N κ b mt d mc ms Qc pc ls st L cn sn := by
  intro p e s m args below meth c H locs la C hl hz hP hS
  subst h1
  exact lv_iinc (k := j) C.1 C.2.1 hd hl hj hv hn rfl (fun la1 hl1 => k p e s m args below meth c H locs la1 C hl1 hz hP hS)
theorem nw_iconst {n : Int} {v : Int32} (hd : decode mt.2.1 pc = .ok (.iconst n, 1)) (hv : Int32.ofInt n = v) (k : eg_N κ b mt d mc ms Qc (pc + 1) ls (.int v :: st) L cn sn) : eg_N κ b mt d mc ms Qc pc ls st L cn sn := by
  intro p e s m args below meth c H locs la C hl hz hP hS
  exact lv_iconst C.1 C.2.1 hd hv (k p e s m args below meth c H locs la C hl hz hP hS)
theorem nw_bipush {n : Int} {v : Int32} (hd : decode mt.2.1 pc = .ok (.bipush n, 2)) (hv : (Int8.ofInt n).toInt32 = v) (k : eg_N κ b mt d mc ms Qc (pc + 2) ls (.int v :: st) L cn sn) : eg_N κ b mt d mc ms Qc pc ls st L cn sn := by
  intro p e s m args below meth c H locs la C hl hz hP hS
  exact lv_bipush C.1 C.2.1 hd hv (k p e s m args below meth c H locs la C hl hz hP hS)
theorem nw_sipush {n : Int} {v : Int32} (hd : decode mt.2.1 pc = .ok (.sipush n, 3)) (hv : (Int16.ofInt n).toInt32 = v) (k : eg_N κ b mt d mc ms Qc (pc + 3) ls (.int v :: st) L cn sn) : eg_N κ b mt d mc ms Qc pc ls st L cn sn := by
  intro p e s m args below meth c H locs la C hl hz hP hS
  exact lv_sipush C.1 C.2.1 hd hv (k p e s m args below meth c H locs la C hl hz hP hS)
theorem nw_dup {v : Value} (hd : decode mt.2.1 pc = .ok (.dup, 1)) (hc : v.category = 1) (k : eg_N κ b mt d mc ms Qc (pc + 1) ls (v :: v :: st) L cn sn) : eg_N κ b mt d mc ms Qc pc ls (v :: st) L cn sn := by
  intro p e s m args below meth c H locs la C hl hz hP hS
  exact lv_dup C.1 C.2.1 hd hc (k p e s m args below meth c H locs la C hl hz hP hS)
theorem nw_ge {x y : Int32} {off : Int} {tgt : Nat} (hd : decode mt.2.1 pc = .ok (.if_icmp .ge off, 3)) (ht : (pc : Int) + off = (tgt : Int)) (kt : y ≤ x → eg_N κ b mt d mc ms Qc tgt ls st L cn sn) (kf : ¬ y ≤ x → eg_N κ b mt d mc ms Qc (pc + 3) ls st L cn sn) : eg_N κ b mt d mc ms Qc pc ls (.int y :: .int x :: st) L cn sn := by
  intro p e s m args below meth c H locs la C hl hz hP hS
  exact lv_icmp_ge C.1 C.2.1 hd ht (fun h => kt h p e s m args below meth c H locs la C hl hz hP hS) (fun h => kf h p e s m args below meth c H locs la C hl hz hP hS)
theorem nw_goto {off : Int} {tgt : Nat} (hd : decode mt.2.1 pc = .ok (.goto off, 3)) (ht : (pc : Int) + off = (tgt : Int)) (k : eg_N κ b mt d mc ms Qc tgt ls st L cn sn) : eg_N κ b mt d mc ms Qc pc ls st L cn sn := by
  intro p e s m args below meth c H locs la C hl hz hP hS
  exact lv_goto C.1 C.2.1 hd ht (k p e s m args below meth c H locs la C hl hz hP hS)
theorem nw_ret (hd : decode mt.2.1 pc = .ok (.return_, 1)) (hr : mt.2.2.2 = none) (hne : L ≠ []) (h1 : cn ≤ mc) (h2 : sn ≤ ms) : eg_N κ b mt d mc ms (eg_Qx κ b L) pc ls [] L cn sn := by
  intro p e s m args below meth c H locs la C hl hz hP hS
  refine W_sz (fun hsz => ?_)
  have e0 := wl_sz (Or.inl hne) hP hz hS.1 hsz
  refine W.widen h1 h2 ?_
  exact W.vret C.1 C.2.1 (C.2.2.1.trans hr) (fun t ht hW => ⟨⟨(), rfl, trivial, ⟨by rw [ht]; exact e0, by rw [ht, e0]; omega⟩, by rw [ht]; exact hP, va_K.moved hW.alike C.2.2.2.2.2.2.2.1, C.2.2.2.2.2.2.2.2.1.1.warm hW, by rw [ht]; exact (C.2.2.2.2.2.2.2.2.1.2.kept hS.2.1).warm hW⟩, hS.F ht⟩) hS.2.2 hd C.2.2.2.2.2.2.1
def eg_OI (own : String) (idx : Nat) : Prop := Cond.methodLink own idx Lib.objectInit ∈ eg_T ∧ Cond.instanceMethod Lib.objectInit ∈ eg_T ∧ Cond.code Lib.objectInit ⟨#[0xb1]⟩ 1 none ∈ eg_T
theorem nw_obj {idx a : Nat} (hd : decode mt.2.1 pc = .ok (.invokespecial idx, 3)) (hm : eg_OI mt.1.cls idx) (hdd : 1 ≤ d) (k : eg_N κ b mt d mc ms Qc (pc + 3) ls [] L cn sn) : eg_N κ b mt d mc ms Qc pc ls [.ref a] L cn sn := by
  intro p e s m args below meth c H locs la C hl hz hP hS
  have ht : ∀ w ∈ eg_T, w.before args s = true := fun w hw => C.2.2.2.2.2.1 w (List.mem_cons_of_mem _ hw)
  refine W.objInit C.1 C.2.1 C.2.2.2.2.1 (ht _ hm.1) (ht _ hm.2.1) (ht _ hm.2.2) rfl (by rw [C.2.2.2.1]; exact hl.1) rfl hd hdd ?_ ?_
  · show 2 * 0 + 0 + 12 ≤ 40 * d
    omega
  · exact k p e s m args below meth c H locs la C hl hz hP hS
def eg_CK (own : String) (idx ci : Nat) : Prop := ci < 12 ∧ Cond.classLink own idx (eg_tb ci).1 ∈ eg_T ∧ Cond.instantiable (eg_tb ci).1 (eg_nf ci) ∈ eg_T ∧ Cond.initialized (eg_tb ci).1 ∈ eg_T
def eg_d0 (ci : Nat) : List Value := (List.range (eg_nf ci)).map (fun k => defaultValue (eg_ty ci k))
theorem nw_new {idx ci : Nat} (hd : decode mt.2.1 pc = .ok (.new idx, 3)) (hm : eg_CK mt.1.cls idx ci) (hne : L ≠ [] ∨ cn = 0) (hc1 : cn + 1 ≤ mc) (hs1 : sn + eg_nf ci ≤ ms) (k : eg_N κ b mt d mc ms Qc (pc + 3) ls (.ref (b + L.length) :: st) (L ++ [.inr (ci, eg_d0 ci)]) (cn + 1) (sn + eg_nf ci)) : eg_N κ b mt d mc ms Qc pc ls st L cn sn := by
  intro p e s m args below meth c H locs la C hl hz hP hS
  have ht : ∀ w ∈ eg_T, w.before args s = true := fun w hw => C.2.2.2.2.2.1 w (List.mem_cons_of_mem _ hw)
  refine W_sz (fun hsz => ?_)
  have e0 := wl_sz hne hP hz hS.1 hsz
  have hKn := C.2.2.2.2.2.2.2.1.1 ci _ (eg_cl ci hm.1)
  refine W.newcK C.1 C.2.1 C.2.2.2.2.1 (ht _ hm.2.1) (ht _ hm.2.2.1) (ht _ hm.2.2.2) rfl hd hc1 hs1 hKn.2.1 e0 fun H1 kC hkC e1 z1 o1 => ?_
  refine k p e s m args below meth c H1 locs la C hl (by rw [List.length_append, List.length_singleton]; omega) ?_ ⟨by rw [z1]; have := hS.1; omega, fun x h1 h2 => (o1 x (by have := hS.1; omega)).trans (hS.2.1 x h1 h2), hS.2.2⟩
  rw [wl_app]
  refine (hP.kept (fun j x hx => o1 x.1 (by have := (hP j x hx).lt; omega))).app (fun j x hx => ?_)
  have hj : j < 1 := (List.getElem?_eq_some_iff.mp hx).1
  rw [show j = 0 by omega] at hx
  cases hx
  refine ⟨_, eg_cl ci hm.1, (u_born (eg_ty ci) ht (eg_uin ci hm.1) hKn hkC e1 (eg_tyk ci hm.1)).to (fun j hj => ?_)⟩
  unfold vp_V eg_d0
  rw [List.getD_eq_getElem?_getD, List.getElem?_map, List.getElem?_range hj]
  rfl
theorem nw_arr {atype : ArrayType} {t : Nat} {ty : FieldType} {n : Int32} {N' : Nat} {a0 : vp_A} (hd : decode mt.2.1 pc = .ok (.newarray atype, 2)) (hty : newarray.typeOf atype = ty) (hw : Cond.arrayClass ty ∈ eg_T) (ht1 : (eg_tys κ)[t]? = some (kA κ t, ty)) (hobj : ∀ C, ty ≠ .object C) (ha : ∀ cA : ClassId, vp_cell cA a0 = arrV cA N' (fun _ => defaultValue ty)) (hn : ¬ n < 0) (hN : n.toNatClampNeg = N') (hby : N' * componentBytes ty ≤ 536870912) (hne : L ≠ [] ∨ cn = 0) (hc1 : cn + 1 ≤ mc) (hs1 : sn + N' ≤ ms) (k : eg_N κ b mt d mc ms Qc (pc + 2) ls (.ref (b + L.length) :: st) (L ++ [.inl (kA κ t, a0)]) (cn + 1) (sn + N')) : eg_N κ b mt d mc ms Qc pc ls (.int n :: st) L cn sn := by
  intro p e s m args below meth c H locs la C hl hz hP hS
  have ht : ∀ w ∈ eg_T, w.before args s = true := fun w hw => C.2.2.2.2.2.1 w (List.mem_cons_of_mem _ hw)
  refine W_sz (fun hsz => ?_)
  have e0 := wl_sz hne hP hz hS.1 hsz
  subst hty
  refine va_newaK C.1 C.2.1 (ht _ hw) rfl hd rfl hn hN hby hc1 hs1 e0 fun H1 cA e1 z1 o1 hAr hNm => ?_
  have hcA : cA = kA κ t := by
    have h2 := (C.2.2.2.2.2.2.2.1.2 t _ ht1).2
    have h3 : s.vm.findClass ("[" ++ (newarray.typeOf atype).toString) = some (kA κ t) := by
      generalize newarray.typeOf atype = ty at *
      cases ty with
      | object C => exact absurd rfl (hobj C)
      | _ => exact h2
    exact Option.some.inj (hNm.symm.trans h3)
  refine k p e s m args below meth c H1 locs la C hl (by rw [List.length_append, List.length_singleton]; omega) ?_ ⟨by rw [z1]; have := hS.1; omega, fun x h1 h2 => (o1 x (by have := hS.1; omega)).trans (hS.2.1 x h1 h2), hS.2.2⟩
  rw [wl_app]
  refine (hP.kept (fun j x hx => o1 x.1 (by have := (hP j x hx).lt; omega))).app (fun j x hx => ?_)
  have hj : j < 1 := (List.getElem?_eq_some_iff.mp hx).1
  rw [show j = 0 by omega] at hx
  cases hx
  show H1[b + L.length]? = some (vp_cell _ _)
  rw [ha, ← hcA]
  exact e1
theorem nw_anew {idx t : Nat} {Cn : String} {n : Int32} {N' : Nat} (hd : decode mt.2.1 pc = .ok (.anewarray idx, 3)) (hw : Cond.classLink mt.1.cls idx Cn ∈ eg_T) (hA : Cn ∈ cnA) (ht1 : (eg_tys κ)[t]? = some (kA κ t, .object Cn)) (hn : ¬ n < 0) (hN : n.toNatClampNeg = N') (hby : N' * 4 ≤ 536870912) (hne : L ≠ [] ∨ cn = 0) (hc1 : cn + 1 ≤ mc) (hs1 : sn + N' ≤ ms) (k : eg_N κ b mt d mc ms Qc (pc + 3) ls (.ref (b + L.length) :: st) (L ++ [.inl (kA κ t, N', .inr (.inr (.inr (.inr (fun _ => none)))))]) (cn + 1) (sn + N')) : eg_N κ b mt d mc ms Qc pc ls (.int n :: st) L cn sn := by
  intro p e s m args below meth c H locs la C hl hz hP hS
  have ht : ∀ w ∈ eg_T, w.before args s = true := fun w hw => C.2.2.2.2.2.1 w (List.mem_cons_of_mem _ hw)
  refine W_sz (fun hsz => ?_)
  have e0 := wl_sz hne hP hz hS.1 hsz
  subst hN
  refine W.anew C.1 C.2.1 C.2.2.2.2.1 (ht _ hw) (va_AO.use (C.2.2.2.2.2.2.2.2.1.1.2 Cn hA)) rfl hd rfl hn hby hc1 hs1 fun cA kA1 comp f1 f2 f3 f4 => ?_
  obtain ⟨kA2, comp2, g1, g2, g3, g4⟩ := (C.2.2.2.2.2.2.2.1.2 t _ ht1).2
  have hcA : cA = kA κ t := Option.some.inj (f1.symm.trans g4)
  generalize hH1 : H.push ({ cls := cA, slots := Array.replicate n.toNatClampNeg .null, vm := .none } : Cell) = H1
  have z1 : H1.size = H.size + 1 := by rw [← hH1, Array.size_push]
  have e1 : H1[H.size]? = some (arrV cA n.toNatClampNeg (fun _ => .null)) := by rw [← hH1, Array.getElem?_push_size, ← arrV_new]
  have o1 : ∀ q : Nat, q < H.size → H1[q]? = H[q]? := fun q hq => by rw [← hH1, Array.getElem?_push, if_neg (Nat.ne_of_lt hq)]
  rw [e0] at e1 ⊢
  refine k p e s m args below meth c H1 locs la C hl (by rw [List.length_append, List.length_singleton]; omega) ?_ ⟨by rw [z1]; have := hS.1; omega, fun x h1 h2 => (o1 x (by have := hS.1; omega)).trans (hS.2.1 x h1 h2), hS.2.2⟩
  rw [wl_app]
  refine (hP.kept (fun j x hx => o1 x.1 ((hP j x hx).lt))).app (fun j x hx => ?_)
  have hj : j < 1 := (List.getElem?_eq_some_iff.mp hx).1
  rw [show j = 0 by omega] at hx
  cases hx
  show H1[b + L.length]? = some (vp_cell _ _)
  rw [vp_cell_q, ← hcA]
  exact e1
theorem nw_putF {idx ci q0 k0 : Nat} {fs : List Value} {v : Value} (hd : decode mt.2.1 pc = .ok (.putfield idx, 3)) (hf : eg_FL mt.1.cls idx ci k0) (hfin : ((eg_tb ci).2 k0).2.2.2 = true) (hnm : mt.1.name = "<init>") (hdc : ((eg_tb ci).2 k0).1 = mt.1.cls) (he : L[q0]? = some (.inr (ci, fs))) (hn : narrow (eg_ty ci k0) v = v) (hfit : fits (eg_ty ci k0) v = true) (hl0 : k0 < fs.length) (k : eg_N κ b mt d mc ms Qc (pc + 3) ls st (L.set q0 (.inr (ci, fs.set k0 v))) cn sn) : eg_N κ b mt d mc ms Qc pc ls (v :: .ref (b + q0) :: st) L cn sn := by
  intro p e s m args below meth c H locs la C hl hz hP hS
  refine va_putF (D := kD κ) (C := (eg_tb ci).1) (T := (eg_tb ci).2) (N := eg_nf ci) (ci := ci) (own := mt.1.cls) (ref := ((eg_tb ci).2 k0).1) (ty := eg_ty ci k0) (v := v) (fs := fs) C.1 C.2.1 C.2.2.2.2.2.1 (fun w hw => List.mem_cons_of_mem _ (eg_uin ci hf.1 w hw)) (eg_ty ci) (eg_tyk ci hf.1) (eg_nmk ci hf.1) C.2.2.2.2.1 C.2.2.2.2.2.2.2.1 hP (wl_D b L) hS q0 (wl_a he) (eg_cl ci hf.1) k0 hf.2.1 (C.2.2.2.2.2.1 _ (List.mem_cons_of_mem _ hf.2.2)) (fun _ h9 => h9) hfin (C.2.2.2.2.2.2.2.2.2.2.trans hnm) hdc (eg_tyk ci hf.1 k0 hf.2.1) hn hfit hl0 hd (fun H1 locs1 hP1 hD1 hS1 => ?_)
  rw [← wl_set] at hP1
  exact k p e s m args below meth c H1 locs1 la C hl (by rw [List.length_set]; exact hz) hP1 hS1
theorem nw_put {idx ci q0 k0 : Nat} {fs : List Value} {v : Value} (hd : decode mt.2.1 pc = .ok (.putfield idx, 3)) (hf : eg_FL mt.1.cls idx ci k0) (hfin : ((eg_tb ci).2 k0).2.2.2 = false) (he : L[q0]? = some (.inr (ci, fs))) (hn : narrow (eg_ty ci k0) v = v) (hfit : fits (eg_ty ci k0) v = true) (hl0 : k0 < fs.length) (k : eg_N κ b mt d mc ms Qc (pc + 3) ls st (L.set q0 (.inr (ci, fs.set k0 v))) cn sn) : eg_N κ b mt d mc ms Qc pc ls (v :: .ref (b + q0) :: st) L cn sn := by
  intro p e s m args below meth c H locs la C hl hz hP hS
  refine va_put (D := kD κ) (C := (eg_tb ci).1) (T := (eg_tb ci).2) (N := eg_nf ci) (ci := ci) (own := mt.1.cls) (ref := ((eg_tb ci).2 k0).1) (ty := eg_ty ci k0) (v := v) (fs := fs) C.1 C.2.1 C.2.2.2.2.2.1 (fun w hw => List.mem_cons_of_mem _ (eg_uin ci hf.1 w hw)) (eg_ty ci) (eg_tyk ci hf.1) (eg_nmk ci hf.1) C.2.2.2.2.1 C.2.2.2.2.2.2.2.1 hP (wl_D b L) hS q0 (wl_a he) (eg_cl ci hf.1) k0 hf.2.1 (C.2.2.2.2.2.1 _ (List.mem_cons_of_mem _ hf.2.2)) (fun _ h9 => h9) hfin (eg_tyk ci hf.1 k0 hf.2.1) hn hfit hl0 hd (fun H1 locs1 hP1 hD1 hS1 => ?_)
  rw [← wl_set] at hP1
  exact k p e s m args below meth c H1 locs1 la C hl (by rw [List.length_set]; exact hz) hP1 hS1
theorem nw_get {idx ci q0 k0 : Nat} {fs : List Value} {v : Value} (hd : decode mt.2.1 pc = .ok (.getfield idx, 3)) (hf : eg_FL mt.1.cls idx ci k0) (he : L[q0]? = some (.inr (ci, fs))) (hv : fs[k0]? = some v) (k : eg_N κ b mt d mc ms Qc (pc + 3) ls (v :: st) L cn sn) : eg_N κ b mt d mc ms Qc pc ls (.ref (b + q0) :: st) L cn sn := by
  intro p e s m args below meth c H locs la C hl hz hP hS
  refine va_get (D := kD κ) (C := (eg_tb ci).1) (T := (eg_tb ci).2) (N := eg_nf ci) (ci := ci) (own := mt.1.cls) (ref := ((eg_tb ci).2 k0).1) (v := v) (fs := fs) C.1 C.2.1 C.2.2.2.2.2.1 (fun w hw => List.mem_cons_of_mem _ (eg_uin ci hf.1 w hw)) C.2.2.2.2.1 C.2.2.2.2.2.2.2.1 hP q0 (wl_a he) (eg_cl ci hf.1) k0 hf.2.1 (C.2.2.2.2.2.1 _ (List.mem_cons_of_mem _ hf.2.2)) (fun _ h9 => h9) hv hd ?_
  exact k p e s m args below meth c H locs la C hl hz hP hS
theorem nw_iast {q0 n : Nat} {f : Nat → Int32} {i x : Int32} (hd : decode mt.2.1 pc = .ok (.iastore, 1)) (he : L[q0]? = some (.inl (kA κ 0, n, .inl f))) (hin : vp_in i n) (k : eg_N κ b mt d mc ms Qc (pc + 1) ls st (L.set q0 (.inl (kA κ 0, n, .inl (upd f i.toNatClampNeg x)))) cn sn) : eg_N κ b mt d mc ms Qc pc ls (.int x :: .int i :: .ref (b + q0) :: st) L cn sn := by
  intro p e s m args below meth c H locs la C hl hz hP hS
  refine va_iast C.1 C.2.1 C.2.2.2.2.2.2.2.1 hP (wl_D b L) hS q0 0 (cA := kA κ 0) (n := n) (f := f) (wl_a he) rfl hin hd (fun H1 locs1 hP1 hD1 hS1 => ?_)
  rw [← wl_set] at hP1
  exact k p e s m args below meth c H1 locs1 la C hl (by rw [List.length_set]; exact hz) hP1 hS1
theorem nw_aast {q0 qk n t ci : Nat} {f : Nat → Option Nat} {vs : List Value} {i : Int32} (hd : decode mt.2.1 pc = .ok (.aastore, 1)) (hci : ci < 12) (he : L[q0]? = some (.inl (kA κ t, n, .inr (.inr (.inr (.inr f)))))) (ht1 : (eg_tys κ)[t]? = some (kA κ t, .object (eg_tb ci).1)) (hv : L[qk]? = some (.inr (ci, vs))) (hin : vp_in i n) (k : eg_N κ b mt d mc ms Qc (pc + 1) ls st (L.set q0 (.inl (kA κ t, n, .inr (.inr (.inr (.inr (va_up f i.toNatClampNeg (some (b + qk))))))))) cn sn) : eg_N κ b mt d mc ms Qc pc ls (.ref (b + qk) :: .int i :: .ref (b + q0) :: st) L cn sn := by
  intro p e s m args below meth c H locs la C hl hz hP hS
  refine va_astq C.1 C.2.1 C.2.2.2.2.2.2.2.1 hP (wl_D b L) hS q0 t qk ci (cA := kA κ t) (n := n) (f := f) (wl_a he) ht1 (wl_a hv) (eg_cl ci hci) hin hd (fun H1 locs1 hP1 hD1 hS1 => ?_)
  rw [← wl_set] at hP1
  exact k p e s m args below meth c H1 locs1 la C hl (by rw [List.length_set]; exact hz) hP1 hS1
end ENR
