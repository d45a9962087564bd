/-! CALLS -/
/-- a method of an object, that an entry of a class's pool names; n parameters -/
def eg_MV (own : String) (idx : Nat) (mt : eg_M) (n : Nat) : Prop :=
  (Cond.methodLink own idx mt.1 ∈ eg_T ∧ Cond.instanceMethod mt.1 ∈ eg_T ∧ Cond.selects mt.1.cls mt.1 mt.1 ∈ eg_T ∧ Cond.initialized mt.1.cls ∈ eg_T ∧ Cond.code mt.1 mt.2.1 mt.2.2.1 mt.2.2.2 ∈ eg_T) ∧ (mt.1.cls ≠ "java/lang/invoke/MethodHandle" ∧ mt.1.cls ≠ "java/lang/invoke/VarHandle" ∧ (parseMethodDescriptor mt.1.desc).map (fun d => d.parameters.length) = some n) ∧ mt.2.2.1 ≤ 21
def eg_MS (own : String) (idx : Nat) (mt : eg_M) (n : Nat) : Prop :=
  (Cond.methodLink own idx mt.1 ∈ eg_T ∧ Cond.static mt.1 ∈ eg_T ∧ Cond.initialized mt.1.cls ∈ eg_T ∧ Cond.code mt.1 mt.2.1 mt.2.2.1 mt.2.2.2 ∈ eg_T) ∧ (mt.1.cls ≠ "java/lang/invoke/MethodHandle" ∧ mt.1.cls ≠ "java/lang/invoke/VarHandle" ∧ (parseMethodDescriptor mt.1.desc).map (fun d => d.parameters.length) = some n) ∧ mt.2.2.1 ≤ 21
theorem eg_gw (mt mt1 : eg_M) (hc : Cond.code mt1.1 mt1.2.1 mt1.2.2.1 mt1.2.2.2 ∈ eg_T) {l0 : List Cond} (h : ∀ w ∈ l0, w ∈ eg_T) : GoodIn (eg_w mt) (l0 ++ eg_w mt1) := by
  intro w hw
  have ht : w ∈ eg_T := by
    rcases List.mem_append.mp hw with h1 | h1
    · exact h w h1
    · rcases List.mem_cons.mp h1 with rfl | h2
      · exact hc
      · exact h2
  exact ⟨List.mem_cons_of_mem _ ht, eg_T_good ht⟩
theorem eg_blind (κ : eg_K) (G : eg_G) (av : List eg_V) (M : eg_H) : FrameBlind (eg_P κ G av M) := by
  intro a U g mk q
  obtain ⟨q0, qP, qK, qZ⟩ := q
  exact ⟨q0, qP, va_K.moved (u := U) (U := U.calling g mk a) (Vm.Alike.refl U.vm) qK, eg_Z.same (s := U) (U := U.calling g mk a) rfl qZ⟩
theorem eg_cat_sum (κ : eg_K) (st : List eg_V) : ((st.map (eg_tr κ)).map fun v => v.category).sum = (st.map eg_cat).sum := by
  congr 1
  rw [List.map_map]
  apply List.map_congr_left
  intro v _
  exact eg_cat_tr κ v
section EGC
variable {κ : eg_K} {G : eg_G} {mt mt1 : eg_M} {d d1 : Nat} {Qc Q1 : Array Value → State → Outcome → State → Prop} {pc idx n : Nat} {ls : List (Nat × eg_V)} {st stk av : List eg_V} {M : eg_H} {r : eg_R} {ci : Nat}
variable {p : Program} {e : Env} {s : State} {m : MethodId} {args : Array Value} {below : List Frame} {meth : Method} {c : Code} {H : Heap} {locs : List Loc} {la : Array Slot}
theorem eg_runV (hd : decode mt.2.1 pc = .ok (.invokevirtual idx, 3)) (hm : eg_MV mt.1.cls idx mt1 n) (hn : av.length = n) (hk : stk = av.reverse ++ vR r :: st) (hr : eg_Ob G r ci) (hci : ci < 12) (hC : (eg_tb ci).1 = mt1.1.cls) (hst : (st.map eg_cat).sum ≤ 8) (hdd : d1 + 1 ≤ d) (hs : eg_S κ G mt1 d1 (vR r :: av) M Q1)
    (C : eg_Cx κ G mt p s m args meth c) (hl : lv_has la mt.2.2.1 (ls.map (fun q => (q.1, eg_tr κ q.2)))) (hP : va_P (kD κ) vwCl (eg_ws κ G M) H) (hS : va_S (eg_A κ G) s.heap H locs) :
    va_Run p κ.1 e (eg_rm d) s m args below meth c H locs 0 0 0 0 (F0 m pc la (stk.map (eg_tr κ))) (st.map (eg_tr κ)) (Q1 ((vR r :: av).map (eg_tr κ)).toArray) (eg_A κ G) := by
  obtain ⟨q, hq⟩ := List.getElem?_of_mem hr.1
  obtain ⟨⟨m1, m2, m3, m4, m5⟩, hdd1, hml⟩ := hm
  have hK := C.2.2.2.2.2.2.2.1
  subst hk
  refine va_runV (own := mt.1.cls) (C := mt1.1.cls) (index := idx) (y := mt1.1) (bytes := mt1.2.1) (maxL := mt1.2.2.1) (ret := mt1.2.2.2) (ws := eg_w mt1) (rm := eg_rm d1) (Pc := eg_P κ G (vR r :: av) M) (Ts := eg_w mt) (cc := mt.2.1) (nL := mt.2.2.1) (n := n) (As := av.map (eg_tr κ)) (rest := st.map (eg_tr κ)) (b := kad κ r) ⟨C.1, C.2.1, C.2.2.2.1, C.2.2.2.2.1, C.2.2.2.2.2.1⟩ (hs C.2.2.2.2.2.2.2.2.1) (cwV n C.2.2.2.2.2.1 (eg_gw mt mt1 m5 (l0 := [.methodLink mt.1.cls idx mt1.1, .instanceMethod mt1.1, .selects mt1.1.cls mt1.1 mt1.1, .initialized mt1.1.cls]) ?_) rfl rfl rfl ⟨rfl, hdd1⟩ ⟨hdd, ?_⟩) ⟨eg_blind κ G _ M, ?_, fun U hU hW => ⟨rfl, by rw [hU]; exact hP, va_K.moved hW.alike hK, by rw [hU]; exact (C.2.2.2.2.2.2.2.2.2.kept hS.2.1).warm hW⟩⟩ rfl (by rw [List.length_map]; exact hn) hl.1 ?_ (lv_room (by rw [eg_cat_sum]; exact hst)) hd ⟨Nat.le_refl _, Nat.le_refl _⟩
  · intro w hw
    simp only [List.mem_cons, List.not_mem_nil, or_false] at hw
    rcases hw with rfl | rfl | rfl | rfl <;> assumption
  · show 8 + (mt1.2.2.1 + 11) + 40 * d1 ≤ 40 * d
    omega
  · have h := va_recv hK hP (eg_cl ci hci) (q0 := q) (a := kad κ r) (fs := (List.range (eg_nf ci)).map (eg_fv κ G M r ci)) (by rw [eg_at hq, eg_cel_ob hr.2])
    rw [← hC]
    exact h
  · show List.map (eg_tr κ) (av.reverse ++ vR r :: st) = (List.map (eg_tr κ) av).reverse ++ Value.ref (kad κ r) :: List.map (eg_tr κ) st
    rw [List.map_append, List.map_reverse]
    rfl
theorem eg_runS (hd : decode mt.2.1 pc = .ok (.invokestatic idx, 3)) (hm : eg_MS mt.1.cls idx mt1 n) (hn : av.length = n) (hk : stk = av.reverse ++ st) (hst : (st.map eg_cat).sum ≤ 8) (hdd : d1 + 1 ≤ d) (hs : eg_S κ G mt1 d1 av M Q1)
    (C : eg_Cx κ G mt p s m args meth c) (hl : lv_has la mt.2.2.1 (ls.map (fun q => (q.1, eg_tr κ q.2)))) (hP : va_P (kD κ) vwCl (eg_ws κ G M) H) (hS : va_S (eg_A κ G) s.heap H locs) :
    va_Run p κ.1 e (eg_rm d) s m args below meth c H locs 0 0 0 0 (F0 m pc la (stk.map (eg_tr κ))) (st.map (eg_tr κ)) (Q1 (av.map (eg_tr κ)).toArray) (eg_A κ G) := by
  obtain ⟨⟨m1, m2, m4, m5⟩, hdd1, hml⟩ := hm
  have hK := C.2.2.2.2.2.2.2.1
  subst hk
  refine va_runS (own := mt.1.cls) (index := idx) (y := mt1.1) (bytes := mt1.2.1) (maxL := mt1.2.2.1) (ret := mt1.2.2.2) (ws := eg_w mt1) (rm := eg_rm d1) (Pc := eg_P κ G av M) (Ts := eg_w mt) (cc := mt.2.1) (nL := mt.2.2.1) (n := n) (As := av.map (eg_tr κ)) (rest := st.map (eg_tr κ)) ⟨C.1, C.2.1, C.2.2.2.1, C.2.2.2.2.1, C.2.2.2.2.2.1⟩ (hs C.2.2.2.2.2.2.2.2.1) (va_cwS n C.2.2.2.2.2.1 (eg_gw mt mt1 m5 (l0 := [.methodLink mt.1.cls idx mt1.1, .static mt1.1, .initialized mt1.1.cls]) ?_) rfl rfl rfl hdd1 ⟨hdd, ?_⟩) ⟨eg_blind κ G _ M, fun U hU hW => ⟨rfl, by rw [hU]; exact hP, va_K.moved hW.alike hK, by rw [hU]; exact (C.2.2.2.2.2.2.2.2.2.kept hS.2.1).warm hW⟩⟩ rfl (by rw [List.length_map]; exact hn) hl.1 ?_ (lv_room (by rw [eg_cat_sum]; exact hst)) hd ⟨Nat.le_refl _, Nat.le_refl _⟩
  · intro w hw
    simp only [List.mem_cons, List.not_mem_nil, or_false] at hw
    rcases hw with rfl | rfl | rfl <;> assumption
  · show 8 + (mt1.2.2.1 + 11) + 40 * d1 ≤ 40 * d
    omega
  · show List.map (eg_tr κ) (av.reverse ++ st) = (List.map (eg_tr κ) av).reverse ++ List.map (eg_tr κ) st
    rw [List.map_append, List.map_reverse]
theorem eg_callVI {post : Int32 → eg_H → Prop} (hd : decode mt.2.1 pc = .ok (.invokevirtual idx, 3)) (hm : eg_MV mt.1.cls idx mt1 n) (hn : av.length = n) (hk : stk = av.reverse ++ vR r :: st) (hr : eg_Ob G r ci) (hci : ci < 12) (hC : (eg_tb ci).1 = mt1.1.cls) (hst : (st.map eg_cat).sum ≤ 8) (hdd : d1 + 1 ≤ d) (hs : eg_S κ G mt1 d1 (vR r :: av) M (eQI κ G post))
    (kk : ∀ (x : Int32) (M1 : eg_H), post x M1 → eg_W κ G mt d Qc (pc + 3) ls (vI x :: st) M1) : eg_W κ G mt d Qc pc ls stk M := by
  intro p e s m args below meth c H locs la C hl hP hS
  refine va_calli (eg_runV hd hm hn hk hr hci hC hst hdd hs C hl hP hS) hS (fun _ _ h => h) (fun _ h => h) (fun x u t H1 locs1 ht hvm hp hB hz hk2 hS1 => ?_)
  exact kk x u hp p e s m args below meth c H1 locs1 la C hl (by rw [← ht]; exact hB.1) hS1
theorem eg_callVL {post : Int64 → eg_H → Prop} (hd : decode mt.2.1 pc = .ok (.invokevirtual idx, 3)) (hm : eg_MV mt.1.cls idx mt1 n) (hn : av.length = n) (hk : stk = av.reverse ++ vR r :: st) (hr : eg_Ob G r ci) (hci : ci < 12) (hC : (eg_tb ci).1 = mt1.1.cls) (hst : (st.map eg_cat).sum ≤ 8) (hdd : d1 + 1 ≤ d) (hs : eg_S κ G mt1 d1 (vR r :: av) M (eQL κ G post))
    (kk : ∀ (x : Int64) (M1 : eg_H), post x M1 → eg_W κ G mt d Qc (pc + 3) ls (vL x :: st) M1) : eg_W κ G mt d Qc pc ls stk M := by
  intro p e s m args below meth c H locs la C hl hP hS
  refine va_calll (eg_runV hd hm hn hk hr hci hC hst hdd hs C hl hP hS) hS (fun _ _ h => h) (fun _ h => h) (fun x u t H1 locs1 ht hvm hp hB hz hk2 hS1 => ?_)
  exact kk x u hp p e s m args below meth c H1 locs1 la C hl (by rw [← ht]; exact hB.1) hS1
theorem eg_callVV {post : eg_H → Prop} (hd : decode mt.2.1 pc = .ok (.invokevirtual idx, 3)) (hm : eg_MV mt.1.cls idx mt1 n) (hn : av.length = n) (hk : stk = av.reverse ++ vR r :: st) (hr : eg_Ob G r ci) (hci : ci < 12) (hC : (eg_tb ci).1 = mt1.1.cls) (hst : (st.map eg_cat).sum ≤ 8) (hdd : d1 + 1 ≤ d) (hs : eg_S κ G mt1 d1 (vR r :: av) M (eQV κ G post))
    (kk : ∀ (M1 : eg_H), post M1 → eg_W κ G mt d Qc (pc + 3) ls st M1) : eg_W κ G mt d Qc pc ls stk M := by
  intro p e s m args below meth c H locs la C hl hP hS
  refine va_callv (eg_runV hd hm hn hk hr hci hC hst hdd hs C hl hP hS) hS (fun _ _ h => h) (fun _ h => h) (fun u t H1 locs1 ht hvm hp hB hz hk2 hS1 => ?_)
  exact kk u hp p e s m args below meth c H1 locs1 la C hl (by rw [← ht]; exact hB.1) hS1
theorem eg_callSI {post : Int32 → eg_H → Prop} (hd : decode mt.2.1 pc = .ok (.invokestatic idx, 3)) (hm : eg_MS mt.1.cls idx mt1 n) (hn : av.length = n) (hk : stk = av.reverse ++ st) (hst : (st.map eg_cat).sum ≤ 8) (hdd : d1 + 1 ≤ d) (hs : eg_S κ G mt1 d1 av M (eQI κ G post))
    (kk : ∀ (x : Int32) (M1 : eg_H), post x M1 → eg_W κ G mt d Qc (pc + 3) ls (vI x :: st) M1) : eg_W κ G mt d Qc pc ls stk M := by
  intro p e s m args below meth c H locs la C hl hP hS
  refine va_calli (eg_runS hd hm hn hk hst hdd hs C hl hP hS) hS (fun _ _ h => h) (fun _ h => h) (fun x u t H1 locs1 ht hvm hp hB hz hk2 hS1 => ?_)
  exact kk x u hp p e s m args below meth c H1 locs1 la C hl (by rw [← ht]; exact hB.1) hS1
theorem eg_callSL {post : Int64 → eg_H → Prop} (hd : decode mt.2.1 pc = .ok (.invokestatic idx, 3)) (hm : eg_MS mt.1.cls idx mt1 n) (hn : av.length = n) (hk : stk = av.reverse ++ st) (hst : (st.map eg_cat).sum ≤ 8) (hdd : d1 + 1 ≤ d) (hs : eg_S κ G mt1 d1 av M (eQL κ G post))
    (kk : ∀ (x : Int64) (M1 : eg_H), post x M1 → eg_W κ G mt d Qc (pc + 3) ls (vL x :: st) M1) : eg_W κ G mt d Qc pc ls stk M := by
  intro p e s m args below meth c H locs la C hl hP hS
  refine va_calll (eg_runS hd hm hn hk hst hdd hs C hl hP hS) hS (fun _ _ h => h) (fun _ h => h) (fun x u t H1 locs1 ht hvm hp hB hz hk2 hS1 => ?_)
  exact kk x u hp p e s m args below meth c H1 locs1 la C hl (by rw [← ht]; exact hB.1) hS1
theorem eg_callSV {post : eg_H → Prop} (hd : decode mt.2.1 pc = .ok (.invokestatic idx, 3)) (hm : eg_MS mt.1.cls idx mt1 n) (hn : av.length = n) (hk : stk = av.reverse ++ st) (hst : (st.map eg_cat).sum ≤ 8) (hdd : d1 + 1 ≤ d) (hs : eg_S κ G mt1 d1 av M (eQV κ G post))
    (kk : ∀ (M1 : eg_H), post M1 → eg_W κ G mt d Qc (pc + 3) ls st M1) : eg_W κ G mt d Qc pc ls stk M := by
  intro p e s m args below meth c H locs la C hl hP hS
  refine va_callv (eg_runS hd hm hn hk hst hdd hs C hl hP hS) hS (fun _ _ h => h) (fun _ h => h) (fun u t H1 locs1 ht hvm hp hB hz hk2 hS1 => ?_)
  exact kk u hp p e s m args below meth c H1 locs1 la C hl (by rw [← ht]; exact hB.1) hS1
/-- Math.min -/
def eg_ML (own : String) (idx : Nat) : Prop := Cond.methodLink own idx Lib.Math.min.name ∈ eg_T ∧ Cond.static Lib.Math.min.name ∈ eg_T ∧ Cond.initialized "java/lang/Math" ∈ eg_T ∧ Cond.code Lib.Math.min.name Lib.Math.min.code 2 (some .int) ∈ eg_T
theorem eg_min {x y : Int32} (hd : decode mt.2.1 pc = .ok (.invokestatic idx, 3)) (hm : eg_ML mt.1.cls idx) (hst : (st.map eg_cat).sum ≤ 8) (hdd : 1 ≤ d) (kk : eg_W κ G mt d Qc (pc + 3) ls (vI (if y < x then y else x) :: st) M) : eg_W κ G mt d Qc pc ls (vI y :: vI x :: st) M := by
  intro p e s m args below meth c H locs la C hl hP hS
  have ht : ∀ w ∈ eg_T, w.before args s = true := fun w hw => C.2.2.2.2.2.1 w (List.mem_cons_of_mem _ hw)
  refine va_mmin C.1 C.2.1 (by rw [C.2.2.2.1]; exact hl.1.symm) C.2.2.2.2.1 (ht _ hm.1) (ht _ hm.2.1) (ht _ hm.2.2.1) (ht _ hm.2.2.2) hdd ?_ (Nat.le_refl _) (Nat.le_refl _) hd (kk p e s m args below meth c H locs la C hl hP hS)
  rw [eg_cat_sum]
  show _ ≤ 40 * d
  omega
/-- System.arraycopy between rows of ints -/
def eg_CL (own : String) (idx : Nat) : Prop := Cond.methodLink own idx arraycopyName ∈ eg_T ∧ Cond.native arraycopyName ∈ eg_T ∧ Cond.static arraycopyName ∈ eg_T ∧ Cond.initialized "java/lang/System" ∈ eg_T
def sC (M : eg_H) (a b : eg_R) (sp dp n : Nat) : eg_H := (fun z => if z = b then va_cpy (M.1 a) (M.1 b) sp dp n else M.1 z, M.2.1, M.2.2)
theorem eg_copy {a b : eg_R} {n0 n1 : Nat} {sp dp k : Int32} (hd : decode mt.2.1 pc = .ok (.invokestatic idx, 3)) (hm : eg_CL mt.1.cls idx) (ha : a ∈ G.1 ∧ G.2.1 a = (1, n0)) (hb : b ∈ G.1 ∧ G.2.1 b = (1, n1)) (h1 : ¬ sp < 0) (h2 : ¬ dp < 0) (h3 : ¬ k < 0) (h4 : sp.toNatClampNeg + k.toNatClampNeg ≤ n0) (h5 : dp.toNatClampNeg + k.toNatClampNeg ≤ n1) (hst : (st.map eg_cat).sum ≤ 8) (hdd : 1 ≤ d) (kk : eg_W κ G mt d Qc (pc + 3) ls st (sC M a b sp.toNatClampNeg dp.toNatClampNeg k.toNatClampNeg)) : eg_W κ G mt d Qc pc ls (vI k :: vI dp :: vR b :: vI sp :: vR a :: st) M := by
  intro p e s m args below meth c H locs la C hl hP hS
  have ht : ∀ w ∈ eg_T, w.before args s = true := fun w hw => C.2.2.2.2.2.1 w (List.mem_cons_of_mem _ hw)
  obtain ⟨q, hq⟩ := List.getElem?_of_mem ha.1
  obtain ⟨q1, hq1⟩ := List.getElem?_of_mem hb.1
  have hok := C.2.2.2.2.2.2.2.2.1
  refine va_copyi C.1 C.2.1 (by rw [C.2.2.2.1]; exact hl.1.symm) C.2.2.2.2.1 (ht _ hm.1) (ht _ hm.2.1) (ht _ hm.2.2.1) (ht _ hm.2.2.2) C.2.2.2.2.2.2.2.1 hP (eg_D hok M) hS q q1 0 0 (c0 := kA κ 0) (c1 := kA κ 0) (n0 := n0) (n1 := n1) (f := M.1 a) (g := M.1 b) (ty := .int) (by rw [eg_at hq, eg_cel_ar (t := 0) (by rw [ha.2]), ha.2]; rfl) (by rw [eg_at hq1, eg_cel_ar (t := 0) (by rw [hb.2]), hb.2]; rfl) rfl rfl rfl h1 h2 h3 h4 h5 (fun _ _ => rfl) hdd ?_ hd (fun H1 locs1 hP1 hD1 hS1 => ?_)
  · rw [eg_cat_sum]
    have : nativeFrameWords "java/lang/System" "arraycopy" 5 + 11 ≤ 32 := by decide +kernel
    show _ ≤ 40 * d
    omega
  · rw [eg_set (κ := κ) (M := M) (M1 := sC M a b sp.toNatClampNeg dp.toNatClampNeg k.toNatClampNeg) hok.nd hq1 (fun z hz => eg_cel_congr (by simp [sC, hz]) rfl rfl) (by
      rw [eg_cel_ar (t := 0) (by rw [hb.2]), hb.2]
      unfold eg_arr
      simp [sC])] at hP1
    exact kk p e s m args below meth c H1 locs1 la C hl hP1 hS1
end EGC
