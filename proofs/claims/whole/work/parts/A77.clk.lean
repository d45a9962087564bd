/-! THE CLASS'S LOOK WHERE IT THROWS -/
/-- how a throwing look ends: an object of class X flies, one cell of six slots is new, the world is as it was -/
def TQ (κ : eg_K) (X : String) (M : eg_H) (below : List Frame) (s : State) (t : State) : Prop :=
  ∃ (v : Addr) (L : List Loc), t.status = .running ∧ Ended t below (.threw v) ∧ s.WarmedH t.vm ∧ s.sameButNew ({ t with vm := s.vm } : State) L 1 6 ∧ (∀ q ∈ L, eg_A κ gC q.base ∨ s.heap.size ≤ q.base) ∧
    (∃ ce : Cell, t.heap[v]? = some ce ∧ s.vm.findClass X = some ce.cls ∧ ce.vm = .none) ∧ va_P (kD κ) vwCl (eg_ws κ gC M) t.heap ∧ s.heap.size ≤ t.heap.size ∧ ∀ q : Nat, q < s.heap.size → ¬ eg_A κ gC q → t.heap[q]? = s.heap[q]?
def tW (κ : eg_K) (mt : eg_M) (p : Program) (e : Env) (s : State) (m : MethodId) (args : Array Value) (below : List Frame) (meth : Method) (c : Code) (R : Room) (Q : State → Prop) (pc : Nat) (ls : List (Nat × eg_V)) (st : List eg_V) (M : eg_H) : Prop :=
  ∀ (H : Heap) (locs : List Loc) (la : Array Slot), lv_has la mt.2.2.1 (ls.map (fun q => (q.1, eg_tr κ q.2))) → va_P (kD κ) vwCl (eg_ws κ gC M) H → va_S (eg_A κ gC) s.heap H locs →
    W p κ.1 e R s m args below meth c H locs 0 0 Q (F0 m pc la (st.map (eg_tr κ)))
section TWR
variable {κ : eg_K} {mt : eg_M} {p : Program} {e : Env} {s : State} {m : MethodId} {args : Array Value} {below : List Frame} {meth : Method} {c : Code} {R : Room} {Q : State → Prop} {pc : Nat} {ls : List (Nat × eg_V)} {st : List eg_V} {M : eg_H}
theorem t_aload_n {i : Nat} {n : Fin 4} {x : eg_R} (C : eg_Cx κ gC mt p s m args meth c) (j : Nat) (hd : decode mt.2.1 pc = .ok (.aload_n n, 1)) (hi : (n : Nat) = i) (hj : ls[j]? = some (i, vR x)) (k : tW κ mt p e s m args below meth c R Q (pc + 1) ls (vR x :: st) M) : tW κ mt p e s m args below meth c R Q pc ls st M := by
  intro H locs la hl hP hS
  exact lv_aload_n C.1 C.2.1 hd hi (eg_loc hl hj) (k H locs la hl hP hS)
theorem t_iload_n {i : Nat} {n : Fin 4} {x : Int32} (C : eg_Cx κ gC mt p s m args meth c) (j : Nat) (hd : decode mt.2.1 pc = .ok (.iload_n n, 1)) (hi : (n : Nat) = i) (hj : ls[j]? = some (i, vI x)) (k : tW κ mt p e s m args below meth c R Q (pc + 1) ls (vI x :: st) M) : tW κ mt p e s m args below meth c R Q pc ls st M := by
  intro H locs la hl hP hS
  exact lv_iload_n C.1 C.2.1 hd hi (eg_loc hl hj) (k H locs la hl hP hS)
theorem t_getR {idx ci k : Nat} {r : eg_R} (C : eg_Cx κ gC mt p s m args meth c) (hd : decode mt.2.1 pc = .ok (.getfield idx, 3)) (hf : eg_FL mt.1.cls idx ci k) (h0 : eg_fk (eg_ty ci k) = 2) (hy : eg_dyn ci k = false) (hr : eg_Ob gC r ci) (kk : tW κ mt p e s m args below meth c R Q (pc + 3) ls (vR (gC.2.2 r k) :: st) M) : tW κ mt p e s m args below meth c R Q pc ls (vR r :: st) M := by
  intro H locs la hl hP hS
  obtain ⟨q, hq⟩ := List.getElem?_of_mem hr.1
  refine va_get (D := kD κ) (C := (eg_tb ci).1) (T := (eg_tb ci).2) (N := eg_nf ci) (ci := ci) (own := mt.1.cls) (ref := ((eg_tb ci).2 k).1) (v := .ref (kad κ (gC.2.2 r k))) (fs := (List.range (eg_nf ci)).map (eg_fv κ gC M r ci)) C.1 C.2.1 C.2.2.2.2.2.1 (fun w hw => List.mem_cons_of_mem _ (eg_uin ci hf.1 w hw)) C.2.2.2.2.1 C.2.2.2.2.2.2.2.1 hP q (by rw [eg_at hq, eg_cel_ob hr.2]) (eg_cl ci hf.1) k hf.2.1 (C.2.2.2.2.2.1 _ (List.mem_cons_of_mem _ hf.2.2)) (fun _ h9 => h9) (eg_fs_get hf.2.1 (by simp [eg_fv, h0, hy])) hd ?_
  exact kk H locs la hl hP hS
theorem t_getD {idx ci k : Nat} {r : eg_R} (C : eg_Cx κ gC mt p s m args meth c) (hd : decode mt.2.1 pc = .ok (.getfield idx, 3)) (hf : eg_FL mt.1.cls idx ci k) (h0 : eg_fk (eg_ty ci k) = 2) (hy : eg_dyn ci k = true) (hr : eg_Ob gC r ci) (h6 : ci ≠ 6) (kk : tW κ mt p e s m args below meth c R Q (pc + 3) ls (vR (M.2.2 r k) :: st) M) : tW κ mt p e s m args below meth c R Q pc ls (vR r :: st) M := by
  intro H locs la hl hP hS
  obtain ⟨q, hq⟩ := List.getElem?_of_mem hr.1
  refine va_get (D := kD κ) (C := (eg_tb ci).1) (T := (eg_tb ci).2) (N := eg_nf ci) (ci := ci) (own := mt.1.cls) (ref := ((eg_tb ci).2 k).1) (v := .ref (kad κ (M.2.2 r k))) (fs := (List.range (eg_nf ci)).map (eg_fv κ gC M r ci)) C.1 C.2.1 C.2.2.2.2.2.1 (fun w hw => List.mem_cons_of_mem _ (eg_uin ci hf.1 w hw)) C.2.2.2.2.1 C.2.2.2.2.2.2.2.1 hP q (by rw [eg_at hq, eg_cel_ob hr.2]) (eg_cl ci hf.1) k hf.2.1 (C.2.2.2.2.2.1 _ (List.mem_cons_of_mem _ hf.2.2)) (fun _ h9 => h9) (eg_fs_get hf.2.1 (by unfold eg_fv; rw [if_neg (by rw [h0]; decide), if_neg (by rw [h0]; decide), if_pos hy]; exact eg_nq_of (Or.inl h6))) hd ?_
  exact kk H locs la hl hP hS
theorem t_aaload7 {r : eg_R} {i : Int32} (C : eg_Cx κ gC mt p s m args meth c) (hd : decode mt.2.1 pc = .ok (.aaload, 1)) (hr : eg_Ar gC r 7 i) (kk : tW κ mt p e s m args below meth c R Q (pc + 1) ls (vR (gC.2.2 r i.toNatClampNeg) :: st) M) : tW κ mt p e s m args below meth c R Q pc ls (vI i :: vR r :: st) M := by
  intro H locs la hl hP hS
  obtain ⟨q, hq⟩ := List.getElem?_of_mem hr.1
  exact va_aldq C.1 C.2.1 C.2.2.2.2.2.2.2.1 hP q 7 (cA := kA κ 7) (n := (gC.2.1 r).2) (f := fun k => some (kad κ (gC.2.2 r k))) (by rw [eg_at hq, eg_cel_ar hr.2.1]; rfl) rfl hr.2.2 hd (kk H locs la hl hP hS)
theorem t_astore_n {i : Nat} {n : Fin 4} {x : eg_R} {ls1 : List (Nat × eg_V)} (C : eg_Cx κ gC mt p s m args meth c) (hd : decode mt.2.1 pc = .ok (.astore_n n, 1)) (hi : (n : Nat) = i) (hn : i < mt.2.2.1) (h1 : (i, vR x) :: ls.filter (fun q => !(q.1 == i) && !(q.1 + 1 == i && eg_cat q.2 == 2)) = ls1) (k : tW κ mt p e s m args below meth c R Q (pc + 1) ls1 st M) : tW κ mt p e s m args below meth c R Q pc ls (vR x :: st) M := by
  intro H locs la hl hP hS
  subst h1
  refine lv_astore_n C.1 C.2.1 hd hi hl hn rfl (fun la1 hl1 => ?_)
  rw [(eg_locf κ (fun a b => !(a == i) && !(a + 1 == i && b == 2)) ls)] at hl1
  exact k H locs la1 hl1 hP hS
theorem t_if_ne {x : Int32} {off : Int} {tgt : Nat} (C : eg_Cx κ gC mt p s m args meth c) (hd : decode mt.2.1 pc = .ok (.ifCond .ne off, 3)) (ht : (pc : Int) + off = (tgt : Int)) (kt : ¬ x = 0 → tW κ mt p e s m args below meth c R Q tgt ls st M) (kf : x = 0 → tW κ mt p e s m args below meth c R Q (pc + 3) ls st M) : tW κ mt p e s m args below meth c R Q pc ls (vI x :: st) M := by
  intro H locs la hl hP hS
  exact lv_if_ne C.1 C.2.1 hd ht (fun h => kt h H locs la hl hP hS) (fun h => kf h H locs la hl hP hS)
theorem t_tabO {dflt lo hi : Int} {offs : Array Int} {len : Nat} {x : Int32} {tgt : Nat} (C : eg_Cx κ gC mt p s m args meth c) (hd : decode mt.2.1 pc = .ok (.tableswitch dflt lo hi offs, len)) (h : x.toInt < lo ∨ hi < x.toInt) (ht : (pc : Int) + dflt = (tgt : Int)) (k : tW κ mt p e s m args below meth c R Q tgt ls st M) : tW κ mt p e s m args below meth c R Q pc ls (vI x :: st) M := by
  intro H locs la hl hP hS
  exact lv_tableOut C.1 C.2.1 hd h ht (k H locs la hl hP hS)
theorem t_callVI {mt1 : eg_M} {idx n d1 ci : Nat} {av stk : List eg_V} {r : eg_R} {post : Int32 → eg_H → Prop} (C : eg_Cx κ gC mt p s m args meth c) (hd : decode mt.2.1 pc = .ok (.invokevirtual idx, 3)) (hm : eg_MV mt.1.cls idx mt1 n) (hn : av.length = n) (hk : stk = av.reverse ++ vR r :: st) (hr : eg_Ob gC r ci) (hci : ci < 12) (hC : (eg_tb ci).1 = mt1.1.cls) (hst : (st.map eg_cat).sum ≤ 8) (hR : d1 + 1 ≤ R.frames ∧ 40 + 40 * d1 ≤ R.locals) (hs : eg_S κ gC mt1 d1 (vR r :: av) M (eQI κ gC post))
    (kk : ∀ (x : Int32) (M1 : eg_H), post x M1 → tW κ mt p e s m args below meth c R Q (pc + 3) ls (vI x :: st) M1) : tW κ mt p e s m args below meth c R Q pc ls stk M := by
  intro H locs la hl hP hS
  have hrun : va_Run p κ.1 e R s m args below meth c H locs 0 0 0 0 (F0 m pc la (stk.map (eg_tr κ))) (st.map (eg_tr κ)) (eQI κ gC post ((vR r :: av).map (eg_tr κ)).toArray) (eg_A κ gC) := by
    obtain ⟨q, hq⟩ := List.getElem?_of_mem hr.1
    obtain ⟨⟨m1, m2, m3, m4, m5⟩, hdd1, hml⟩ := hm
    have hK := C.2.2.2.2.2.2.2.1
    subst hk
    refine va_runV (own := mt.1.cls) (C := mt1.1.cls) (index := idx) (y := mt1.1) (bytes := mt1.2.1) (maxL := mt1.2.2.1) (ret := mt1.2.2.2) (ws := eg_w mt1) (rm := eg_rm d1) (Pc := eg_P κ gC (vR r :: av) M) (Ts := eg_w mt) (cc := mt.2.1) (nL := mt.2.2.1) (n := n) (As := av.map (eg_tr κ)) (rest := st.map (eg_tr κ)) (b := kad κ r) ⟨C.1, C.2.1, C.2.2.2.1, C.2.2.2.2.1, C.2.2.2.2.2.1⟩ (hs C.2.2.2.2.2.2.2.2.1) (cwV n C.2.2.2.2.2.1 (eg_gw mt mt1 m5 (l0 := [.methodLink mt.1.cls idx mt1.1, .instanceMethod mt1.1, .selects mt1.1.cls mt1.1 mt1.1, .initialized mt1.1.cls]) ?_) rfl rfl rfl ⟨rfl, hdd1⟩ ⟨hR.1, ?_⟩) ⟨eg_blind κ gC _ M, ?_, fun U hU hW => ⟨rfl, by rw [hU]; exact hP, va_K.moved hW.alike hK, by rw [hU]; exact (C.2.2.2.2.2.2.2.2.2.kept hS.2.1).warm hW⟩⟩ rfl (by rw [List.length_map]; exact hn) hl.1 ?_ (lv_room (by rw [eg_cat_sum]; exact hst)) hd ⟨Nat.zero_le _, Nat.zero_le _⟩
    · intro w hw
      simp only [List.mem_cons, List.not_mem_nil, or_false] at hw
      rcases hw with rfl | rfl | rfl | rfl <;> assumption
    · show 8 + (mt1.2.2.1 + 11) + 40 * d1 ≤ R.locals
      have := hR.2
      omega
    · have h := va_recv hK hP (eg_cl ci hci) (q0 := q) (a := kad κ r) (fs := (List.range (eg_nf ci)).map (eg_fv κ gC M r ci)) (by rw [eg_at hq, eg_cel_ob hr.2])
      rw [← hC]
      exact h
    · show List.map (eg_tr κ) (av.reverse ++ vR r :: st) = (List.map (eg_tr κ) av).reverse ++ Value.ref (kad κ r) :: List.map (eg_tr κ) st
      rw [List.map_append, List.map_reverse]
      rfl
  refine va_calli hrun hS (fun _ _ h => h) (fun _ h => h) (fun x u t H1 locs1 ht hvm hp hB hz hk2 hS1 => ?_)
  exact kk x u hp H1 locs1 la hl (by rw [← ht]; exact hB.1) hS1
/-- a cell of the world is no place of statics -/
theorem w_nost {H : Heap} {a : Nat} {cell : Cell} (hP : va_P (kD κ) vwCl (eg_ws κ gC M) H) (ha : eg_A κ gC a) (hc : H[a]? = some cell) : cell.vm.isStatics = false := by
  obtain ⟨r, hr, rfl⟩ := ha
  obtain ⟨q, hq⟩ := List.getElem?_of_mem hr
  have h1 := hP q (kad κ r, eg_cel κ gC M r) (by unfold eg_ws; rw [List.getElem?_map, hq]; rfl)
  unfold va_at at h1
  cases he : eg_cel κ gC M r with
  | inl x =>
    simp only [he] at h1
    cases Option.some.inj (hc.symm.trans h1)
    rcases x with ⟨c0, n0, y | y | y | y | y⟩ <;> rfl
  | inr x =>
    simp only [he] at h1
    obtain ⟨q1, -, cell1, g1, g2, g3, -⟩ := h1
    cases Option.some.inj (hc.symm.trans g1)
    rw [g3]; rfl
set_option maxHeartbeats 1000000 in
theorem t_throw {X tx : String} {inew ildc isp ix q : Nat} {bytes : ByteArray} (C : eg_Cx κ gC mt p s m args meth c) (hcls : mt.1.cls = "EggTrays") (hP0 : va_P (kD κ) vwCl (eg_ws κ gC M) s.heap) (hexc : ∀ x ∈ c.exceptionTable.toList, covers x (pc + 9) = false) (htr : κ.1.stackTraces = false) (hR : 1 ≤ R.cells ∧ 6 ≤ R.slots ∧ 6 ≤ R.frames ∧ 100 ≤ R.locals)
    (d0 : decode mt.2.1 pc = .ok (.new inew, 3)) (d1 : decode mt.2.1 (pc + 3) = .ok (.dup, 1)) (d2 : decode mt.2.1 (pc + 4) = .ok (.ldc ildc, 2)) (d3 : decode mt.2.1 (pc + 6) = .ok (.invokespecial isp, 3)) (d4 : decode mt.2.1 (pc + 9) = .ok (.athrow, 1))
    (w1 : (Cond.classLink "EggTrays" inew X).before args s = true) (w2 : (Cond.instantiable X 6).before args s = true) (w3 : (Cond.initialized X).before args s = true) (hZ : vk_R "EggTrays" ildc tx q s)
    (hth : ∀ a ∈ thrA "EggTrays" isp X "java/lang/RuntimeException" ix bytes ["java/lang/Exception"], a.before args s = true) (hX : Bundle.fit X = true)
    (b0 : decode bytes 0 = .ok (.aload_n 0, 1)) (b1 : decode bytes 1 = .ok (.aload_n 1, 1)) (b2 : decode bytes 2 = .ok (.invokespecial ix, 3)) (b5 : decode bytes 5 = .ok (.return_, 1)) : tW κ mt p e s m args below meth c R (TQ κ X M below s) pc ls [] M := by
  intro H locs la hl hP hS
  have hown : s.vm.findClass "EggTrays" = some m.cls := by rw [← hcls]; exact C.2.2.2.2.1
  have hlk : meth.locks = false := C.2.2.2.2.2.2.1
  refine W.newc C.1 C.2.1 hown w1 w2 w3 rfl d0 (by omega) (by omega) (fun cC kC h1 h2 h3 h4 => ?_)
  refine lv_dup (pc := pc + 3) (ls := la) (rest := []) C.1 C.2.1 d1 rfl ?_
  refine va_ldcS C.1 C.2.1 hown hZ d2 ?_
  intro T0 hT0 X0
  have htr' : e.platform.stackTraces = false := by
    have h9 : e.platform.stackTraces = κ.1.stackTraces := by rw [X0.admits.platform]
    rw [h9]; exact htr
  refine thr_row (H := H.push (freshCell cC kC)) (a := H.size) (pc := pc + 6) (la := la) (rest := [.ref H.size]) C.1 htr' b0 b1 b2 b5 hown hX (by decide +kernel) (by intro n hn; simp only [List.mem_cons, List.not_mem_nil, or_false] at hn; subst hn; decide +kernel) hth (fun x hx cell hc => w_nost hP0 (hS.2.2 x hx) hc) h1 h2 (by simp) hS.1 rfl (hl.1.trans C.2.2.2.1.symm) (by rw [C.2.1]; exact d3) (by simp only [List.length_cons, List.length_nil]; omega) (by simp only [List.length_cons, List.length_nil, List.map_cons, List.map_nil, List.sum_cons, List.sum_nil]; show 1 + 0 + _ ≤ _; omega) (fun H1 locs1 hce hsz hkp hlc => ?_) T0 hT0 X0
  intro T hT XX
  obtain ⟨st1, e1, e2, e3, e4⟩ := XX.athrowLeaves C.1 (g := F0 m (pc + 6 + 3) la [.ref H.size]) rfl rfl rfl hexc rfl (by rw [C.2.1]; exact d4) hlk
  have hold : ∀ q : Nat, q < H.size → H1[q]? = H[q]? := fun q hq => by
    rw [hkp q (Nat.ne_of_lt hq), Array.getElem?_push_lt hq, Array.getElem?_eq_getElem hq]
  refine ⟨_, st1, H.size, locs1, e1, e2, e3, e4, fun q hq => ?_, ?_, ?_, ?_, fun q h5 h6 => ?_⟩
  · rcases hlc q hq with z | z
    · exact Or.inl (hS.2.2 q z)
    · exact Or.inr (by rw [z]; exact hS.1)
  · obtain ⟨ce, g1, g2, g3⟩ := hce
    exact ⟨ce, by show T.heap[H.size]? = _; rw [hT]; exact g1, by rw [g2]; exact h1, g3⟩
  · show va_P (kD κ) vwCl (eg_ws κ gC M) T.heap
    rw [hT]
    exact hP.kept (fun k q hq => hold _ (hP k q hq).lt)
  · show s.heap.size ≤ T.heap.size
    rw [hT, hsz, Array.size_push]
    have := hS.1
    omega
  · show T.heap[q]? = _
    rw [hT, hold q (by have := hS.1; omega)]
    exact hS.2.1 q h5 h6
end TWR
