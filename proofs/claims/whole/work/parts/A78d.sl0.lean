/-! THE LAW'S STATIC LOOK: its contracts -/
def rmL : Room := { frames := 11, cells := 1, slots := 6, locals := 440 }
def wsL : List Cond := Cond.codeWith yL_look cL_look 5 (some .int) hhL :: eg_T
def s9 (κ : eg_K) (b z : Nat) : Nat → Prop := fun q => eg_A κ gC q ∨ q = b + 305 ∨ z ≤ q
def lO (κ : eg_K) (b : Nat) (o : Int64) : va_W := [(b + 305, .inl (kA κ 3, 1, .inr (.inl (fun _ => o))))]
def xnC (U : State) : Prop := ∃ a b : ClassId, U.vm.findClass nmN = some a ∧ U.vm.findClass nmI = some b ∧ U.vm.assignable a b = false
theorem xnC.mv {s U : State} (hv : s.vm.Alike U.vm) (h : xnC s) : xnC U := by
  obtain ⟨a, b, h1, h2, h3⟩ := h
  exact ⟨a, b, by rw [hv.findClass]; exact h1, by rw [hv.findClass]; exact h2, by rw [hv.assignable]; exact h3⟩
theorem xnC.of {s : State} {a : Array Value} (h : (Cond.not (Cond.castable nmN nmI)).before a s = true) (hn : nwK s) : xnC s := by
  obtain ⟨c1, t1, h1, -, -⟩ := Cond.castable_spec (show (Cond.castable nmN nmN).before #[] s = true from hn.2.1)
  obtain ⟨c2, t2, h2, -, -⟩ := Cond.castable_spec (show (Cond.castable nmI nmI).before #[] s = true from hn.1)
  refine ⟨c1, c2, h1, h2, ?_⟩
  simpa [Cond.before, Cond.holds, Cond.value, h1, h2] using h
def lB (κ : eg_K) (b : Nat) (o : Int64) (M : eg_H) (z : Nat) (U : State) : Prop := va_P (kD κ) vwCl (eg_ws κ gC M) U.heap ∧ va_P (kD κ) vwCl (lO κ b o) U.heap ∧ va_K (kD κ) vwCl (eg_tys κ) U ∧ eg_Z κ (eg_A κ gC) U U.heap ∧ exK U ∧ xnC U ∧ U.heap.size = z
def lP (κ : eg_K) (b : Nat) (o : Int64) (x w : Int32) (M : eg_H) (z : Nat) : Array Value → State → Prop := va_Pc [Value.ref (kad κ (10, 0)), .int x, .int w, .ref (b + 305)] (lB κ b o M z)
def lQ (κ : eg_K) (b z : Nat) (M : eg_H) (o1 : Int64) (V : Int32) : Array Value → State → Outcome → State → Prop := va_Qi (fun (r : Int32) (_ : Unit) => r = V) (fun _ t => va_P (kD κ) vwCl (eg_ws κ gC M) t.heap ∧ va_P (kD κ) vwCl (lO κ b o1) t.heap) (s9 κ b z)
def sCx (κ : eg_K) (b : Nat) (o : Int64) (M : eg_H) (z : Nat) (p : Program) (s : State) (m : MethodId) (args : Array Value) (meth : Method) (c : Code) : Prop :=
  p.tables.exec = Jvm.exec ∧ c.code = cL_look ∧ meth.sig.returnType = some .int ∧ c.maxLocals = 5 ∧ s.vm.findClass RL = some m.cls ∧ (∀ w ∈ wsL, w.before args s = true) ∧ meth.locks = false ∧ c.exceptionTable.toList.map (fun h => (h.startPc, h.endPc, h.handlerPc, h.catchType)) = hhL ∧ lB κ b o M z s
theorem lP_blind (κ : eg_K) (b : Nat) (o : Int64) (x w : Int32) (M : eg_H) (z : Nat) : FrameBlind (lP κ b o x w M z) := by
  intro a U g mk q
  obtain ⟨q0, q1, q2, q3, q4, q5, q6, q7⟩ := q
  exact ⟨q0, q1, q2, va_K.moved (u := U) (U := U.calling g mk a) (Vm.Alike.refl U.vm) q3, eg_Z.same (s := U) (U := U.calling g mk a) rfl q4, exK.same (s := U) (U := U.calling g mk a) rfl rfl q5, xnC.mv (s := U) (U := U.calling g mk a) (Vm.Alike.refl U.vm) q6, q7⟩
theorem sl_of {κ : eg_K} {b z : Nat} {o o1 : Int64} {x w V : Int32} {M : eg_H} (k : ∀ (p : Program) (e : Env) (s : State) (m : MethodId) (args : Array Value) (below : List Frame) (meth : Method) (c : Code) (la : Array Slot), sCx κ b o M z p s m args meth c → lv_has la 5 [(0, Value.ref (kad κ (10, 0))), (1, .int x), (2, .int w), (3, .ref (b + 305))] →
      W p κ.1 e rmL s m args below meth c s.heap [] 0 0 (MQ below (lQ κ b z M o1 V) args s 1 6 (s9 κ b z)) (F0 m 5 la [.int w, .int x, .ref (kad κ (10, 0)), .int 0, .ref (b + 305)])) : Met κ.1 yL_look wsL rmL (lP κ b o x w M z) (lQ κ b z M o1 V) 1 6 (s9 κ b z) := by
  refine va_MetW (cc := cL_look) (maxL := 5) (ret := some .int) (hh := hhL) rfl rfl ?_
  intro p e s m args below meth c s1 B hml hv
  obtain ⟨rfl, hB⟩ := hv
  have hts := atoms_spec (ws := wsL) B.pre
  have hown : s.vm.findClass RL = some m.cls := findClass_of_methodNamed B.named
  obtain ⟨m9, meth9, c9, hn9, h1, h2, -, -, htab, -⟩ := Cond.codeWith_spec (hts _ List.mem_cons_self)
  cases Option.some.inj (hn9.symm.trans B.named)
  cases Option.some.inj (h1.symm.trans B.method)
  cases Option.some.inj (h2.symm.trans (Stand.of_body B).code)
  have hl : lv_has _ 5 [(0, Value.ref (kad κ (10, 0))), (1, .int x), (2, .int w), (3, .ref (b + 305))] := lv_entry [Value.ref (kad κ (10, 0)), .int x, .int w, .ref (b + 305)] (n := 5) (Nat.le_of_ble_eq_true rfl)
  rw [lg_entry_eq]
  refine lv_aload_n B.exec B.bytes dL_look_0 rfl (lv_at hl 3 rfl) ?_
  refine lv_iconst (v := 0) B.exec B.bytes dL_look_1 (by decide) ?_
  refine lv_aload_n B.exec B.bytes dL_look_2 rfl (lv_at hl 0 rfl) ?_
  refine lv_iload_n B.exec B.bytes dL_look_3 rfl (lv_at hl 1 rfl) ?_
  refine lv_iload_n B.exec B.bytes dL_look_4 rfl (lv_at hl 2 rfl) ?_
  exact k p e s m _ below meth c _ ⟨B.exec, B.bytes, B.returns, hml, hown, hts, B.notSynchronized, htab, hB⟩ hl
section SLB
variable {κ : eg_K} {b z : Nat} {o o1 : Int64} {x w V : Int32} {M : eg_H} {p : Program} {e : Env} {s : State} {m : MethodId} {args : Array Value} {below : List Frame} {meth : Method} {c : Code} {H : Heap} {locs : List Loc} {la : Array Slot} {pc : Nat}
theorem sl_ret (C : sCx κ b o M z p s m args meth c) (hd : decode cL_look pc = .ok (.ireturn, 1)) (hP : va_P (kD κ) vwCl (eg_ws κ gC M) H) (hO : va_P (kD κ) vwCl (lO κ b o1) H) (hS : va_S (s9 κ b z) s.heap H locs) :
    W p κ.1 e rmL s m args below meth c H locs 1 6 (MQ below (lQ κ b z M o1 V) args s 1 6 (s9 κ b z)) (F0 m pc la [.int V]) :=
  W.iret (v := V) C.1 C.2.1 C.2.2.1 (fun t ht hW => ⟨⟨V, (), rfl, rfl, by rw [ht]; exact hP, by rw [ht]; exact hO⟩, hS.F ht⟩) hS.2.2 hd C.2.2.2.2.2.2.1
theorem ml_L_7 : eg_MV RL 7 mtX10_look 2 := ⟨⟨(eg_t5 (i := 185) (by decide +kernel) rfl), (eg_t5 (i := 186) (by decide +kernel) rfl), (eg_t5 (i := 187) (by decide +kernel) rfl), (eg_t1 (i := 1) (by decide +kernel) rfl), (eg_t5 (i := 188) rfl rfl)⟩, by decide +kernel⟩
theorem sl_recv (C : sCx κ b o M z p s m args meth c) : ∃ cell : Cell, s.heap[kad κ (10, 0)]? = some cell ∧ cell.vm.isStatics = false ∧ s.vm.findClass RX10 = some cell.cls := by
  have hr : eg_Ob gC (10, 0) 10 := obC_10 (by decide)
  obtain ⟨q, hq⟩ := List.getElem?_of_mem hr.1
  exact va_recv C.2.2.2.2.2.2.2.2.2.2.1 C.2.2.2.2.2.2.2.2.1 (eg_cl 10 (by decide)) (q0 := q) (a := kad κ (10, 0)) (fs := (List.range (eg_nf 10)).map (eg_fv κ gC M (10, 0) 10)) (by rw [eg_at hq, eg_cel_ob hr.2])
end SLB
theorem lO_upd {κ : eg_K} {b : Nat} {o r : Int64} {H1 : Heap} (e : H1[b + 305]? = some ((vp_cell (kA κ 3) (1, .inr (.inl (fun _ => o)))).setSlot (0 : Int32).toNatClampNeg (.long r))) : va_P (kD κ) vwCl (lO κ b r) H1 := by
  intro k q hk
  have hz : k < 1 := (List.getElem?_eq_some_iff.mp hk).1
  rw [show k = 0 by omega] at hk
  cases hk
  show H1[b + 305]? = some (vp_cell _ _)
  rw [e, vp_cell_l, vp_cell_l, arrV_store]
  rfl
set_option maxHeartbeats 1000000 in
theorem slk_0 {κ : eg_K} {b z : Nat} {o : Int64} {x w r : Int32} {M : eg_H} (hok : eg_ok κ gC) (hap : ∀ q, eg_A κ gC q → q ≠ b + 305) (hs : eg_S κ gC mtX10_look 10 [vR (10, 0), vI x, vI w] M (eQI κ gC (fun r' M1 => r' = r ∧ M1 = M))) : Met κ.1 yL_look wsL rmL (lP κ b o x w M z) (lQ κ b z M r.toInt64 0) 1 6 (s9 κ b z) := by
  refine sl_of (fun p e s m args below meth c la C hl => ?_)
  obtain ⟨hP, hO, hK, hZ, hx, hno, hz⟩ := id C.2.2.2.2.2.2.2.2
  have hrun : va_Run p κ.1 e rmL s m args below meth c s.heap [] 0 0 0 0 (F0 m 5 la [.int w, .int x, .ref (kad κ (10, 0)), .int 0, .ref (b + 305)]) [.int 0, .ref (b + 305)] (eQI κ gC (fun r' M1 => r' = r ∧ M1 = M) (([vR (10, 0), vI x, vI w] : List eg_V).map (eg_tr κ)).toArray) (eg_A κ gC) := by
    obtain ⟨⟨m1, m2, m3, m4, m5⟩, hdd1, hml⟩ := ml_L_7
    refine va_runV (own := RL) (C := mtX10_look.1.cls) (index := 7) (y := mtX10_look.1) (bytes := mtX10_look.2.1) (maxL := mtX10_look.2.2.1) (ret := mtX10_look.2.2.2) (ws := eg_w mtX10_look) (rm := eg_rm 10) (Pc := eg_P κ gC [vR (10, 0), vI x, vI w] M) (Ts := wsL) (cc := cL_look) (nL := 5) (n := 2) (As := [.int x, .int w]) (rest := [.int 0, .ref (b + 305)]) (b := kad κ (10, 0)) ⟨C.1, C.2.1, C.2.2.2.1, C.2.2.2.2.1, C.2.2.2.2.2.1⟩ (hs hok) (cwV 2 C.2.2.2.2.2.1 ?_ rfl rfl rfl ⟨rfl, hdd1⟩ (by decide)) ⟨eg_blind κ gC _ M, sl_recv C, fun U hU hW => ⟨rfl, by rw [hU]; exact hP, va_K.moved hW.alike hK, by rw [hU]; exact hZ.warm hW⟩⟩ rfl rfl hl.1 rfl (lv_room (Nat.le_of_ble_eq_true rfl)) dL_look_5 ⟨Nat.zero_le _, Nat.zero_le _⟩
    intro w9 hw9
    have ht : w9 ∈ eg_T := by
      unfold wsV at hw9
      rcases List.mem_append.mp hw9 with h1 | h1
      · simp only [List.mem_cons, List.not_mem_nil, or_false] at h1
        rcases h1 with rfl | rfl | rfl | rfl <;> assumption
      · rcases List.mem_cons.mp h1 with rfl | h2
        · exact m5
        · exact h2
    exact ⟨List.mem_cons_of_mem _ ht, eg_T_good ht⟩
  refine va_calli (A0 := s9 κ b z) (H0 := s.heap) hrun va_S.rf (fun q _ h => Or.inl h) (fun q h => Or.inl h) (fun x3 u t H1 locs1 ht hvm hp hB hz1 hk1 hS1 => ?_)
  obtain ⟨e1, e2⟩ := hp
  rw [e1]
  have hP1 : va_P (kD κ) vwCl (eg_ws κ gC M) H1 := by rw [← ht, ← e2]; exact hB.1
  have hO1 : H1[b + 305]? = some (vp_cell (kA κ 3) (1, .inr (.inl (fun _ => o)))) := by
    have h0 : s.heap[b + 305]? = some (vp_cell (kA κ 3) (1, .inr (.inl (fun _ => o)))) := hO 0 _ rfl
    rw [hk1 _ (Array.getElem?_eq_some_iff.mp h0).1 (fun hz => hap _ hz rfl)]
    exact h0
  refine lv_i2l (v := r.toInt64) C.1 C.2.1 dL_look_8 rfl ?_
  refine W.last C.1 C.2.1 hO1 ((hK.2 3 (kA κ 3, .long) rfl).1 1 (fun _ => .long o)) (fun q => by cases q) (by show ¬ ((0 : Int32) < 0 ∨ (arrV _ _ _).slots.size ≤ _); rw [arrV_size]; show ¬ ((0 : Int32) < 0 ∨ 1 ≤ (0 : Int32).toNatClampNeg); decide) rfl rfl dL_look_9 (fun H2 e3 z3 oq => ?_)
  refine lv_goto (pc := 10) (tgt := 21) C.1 C.2.1 dL_look_10 (by decide) ?_
  refine lv_iconst (v := 0) C.1 C.2.1 dL_look_21 (by decide) ?_
  refine W.widen (k := 1) (n := 6) (by decide) (by decide) ?_
  refine sl_ret C dL_look_22 ?_ (lO_upd e3) (hS1.put z3 oq (Or.inr (Or.inl rfl)))
  refine hP1.kept (fun k q hq => oq _ ?_)
  have h5 : eg_A κ gC q.1 := by
    unfold eg_ws at hq
    rw [List.getElem?_map] at hq
    cases hr : gC.1[k]? with
    | none => rw [hr] at hq; cases hq
    | some r9 =>
      rw [hr] at hq
      cases hq
      exact ⟨r9, List.mem_of_getElem? hr, rfl⟩
  exact hap _ h5
