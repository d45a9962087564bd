/-! THE LAW'S STATIC LOOK WHERE THE CLASS'S LOOK THROWS -/
theorem as_self {n : String} {U : State} {k : ClassId} (h : (Cond.castable n n).before #[] U = true) (hc : U.vm.findClass n = some k) : U.vm.assignable k k = true := by
  obtain ⟨c1, t1, h1, h2, h3⟩ := Cond.castable_spec h
  have e1 : c1 = k := Option.some.inj (h1.symm.trans hc)
  have e2 : t1 = k := Option.some.inj (h2.symm.trans hc)
  rw [e1, e2] at h3
  exact h3
/-- the call at 5, where it throws: the static look stands again, the throw above it -/
theorem sl_call {κ : eg_K} {b z : Nat} {o : Int64} {x w : Int32} {M : eg_H} {p : Program} {e : Env} {s : State} {m : MethodId} {args : Array Value} {below : List Frame} {meth : Method} {c : Code} {la : Array Slot} {T : State} {nx : String} (hm : tMet κ nx x w M) (hap : ∀ q, eg_A κ gC q → q ≠ b + 305) (C : sCx κ b o M z p s m args meth c) (hl : lv_has la 5 [(0, Value.ref (kad κ (10, 0))), (1, .int x), (2, .int w), (3, .ref (b + 305))]) (hT : T.heap = s.heap) (Y : Stand p κ.1 e rmL s m args below meth c T [] 0 0) :
    ∃ (T1 : State) (v : Addr) (L : List Loc) (ce : Cell), Stand p κ.1 e rmL s m args below meth c T1 L 1 6 ∧ T1.heap[v]? = some ce ∧ s.vm.findClass nx = some ce.cls ∧ ce.vm = .none ∧ va_P (kD κ) vwCl (eg_ws κ gC M) T1.heap ∧ va_P (kD κ) vwCl (lO κ b o) T1.heap ∧ va_S (s9 κ b z) s.heap T1.heap L ∧
      ∀ target, Steps p.tables e below ((T1.setTop (F0 m 5 la [.int 0, .ref (b + 305)])).pushFrame (.throwing v)) target → Steps p.tables e below (T.setTop (F0 m 5 la [.int w, .int x, .ref (kad κ (10, 0)), .int 0, .ref (b + 305)])) target := by
  obtain ⟨hP, hO, hK, hZ, hx, hno, hz⟩ := id C.2.2.2.2.2.2.2.2
  obtain ⟨⟨m1, m2, m3, m4, m5⟩, hdd1, hml⟩ := ml_L_7
  obtain ⟨cell, r1, r2, r3⟩ := sl_recv C
  have hts : ∀ w9 ∈ wsL, w9.before args s = true := C.2.2.2.2.2.1
  have hg : ∀ w9 ∈ eg_w mtX10_look, w9 ∈ wsL ∧ ((w9.onTables && w9.keeps) = true ∨ ∃ ty, w9 = .arrayClass ty) := fun w9 hw9 => by
    have ht : w9 ∈ eg_T := by
      rcases List.mem_cons.mp hw9 with rfl | h2
      · exact m5
      · exact h2
    exact ⟨List.mem_cons_of_mem _ ht, eg_T_good ht⟩
  have hlen : ∀ sig, parseMethodDescriptor mtX10_look.1.desc = some sig → ([.int x, .int w] : List Value).length = sig.parameters.length := fun sig h => by
    have h2 := hdd1.2.2
    rw [h] at h2
    exact (Option.some.inj h2).symm
  have hd5 : decode c.code 5 = .ok (.invokevirtual 7, 3) := by
    rw [C.2.1]
    exact dL_look_5
  have hsz5 : la.size = c.maxLocals := hl.1.trans C.2.2.2.1.symm
  have hPc : ∀ U : State, U.heap = T.heap → s.WarmedH U.vm → tP κ [vR (10, 0), vI x, vI w] M (Value.ref (kad κ (10, 0)) :: [.int x, .int w]).toArray U := fun U hU hW => by
    have hU2 : U.heap = s.heap := hU.trans hT
    exact ⟨rfl, by rw [hU2]; exact hP, va_K.moved hW.alike hK, by rw [hU2]; exact hZ.warm hW, hx.mv hW (fun q _ => by rw [hU2])⟩
  obtain ⟨st0, t, T1, v, L, h0, hW0, hE, hT1, X1, go⟩ := vt_call (own := RL) (C := mtX10_look.1.cls) (index := 7) (maxL := mtX10_look.2.2.1) (y := mtX10_look.1) (bytes := mtX10_look.2.1) (ret := mtX10_look.2.2.2) (ws := eg_w mtX10_look) (rm := rmT) (Pc := tP κ [vR (10, 0), vI x, vI w] M) (E := TE κ nx M) (mc := 1) (ms := 6) (argsL := [.int x, .int w]) (rest := [.int 0, .ref (b + 305)]) (b := kad κ (10, 0)) (g := F0 m 5 la [.int w, .int x, .ref (kad κ (10, 0)), .int 0, .ref (b + 305)]) hm Y C.1 C.2.2.2.2.1 (hts _ (List.mem_cons_of_mem _ m1)) (hts _ (List.mem_cons_of_mem _ m2)) (hts _ (List.mem_cons_of_mem _ m3)) List.mem_cons_self (pay_in hts hg) (fun a' U hW => word_at hW (eg_T_good m4) (hts _ (List.mem_cons_of_mem _ m4))) ⟨hdd1.1, hdd1.2.1⟩ (by rw [hT]; exact r1) r2 r3 rfl hsz5 hlen rfl hd5 (lv_room (Nat.le_of_ble_eq_true rfl)) (by decide) hPc
  obtain ⟨hL, ⟨ce, g1, g2, g3⟩, hPt, hsz, hold⟩ := hE
  have h00 : st0.heap = s.heap := h0.trans hT
  rw [h00] at hsz hold hL
  rw [hW0.alike.findClass] at g2
  have hO1 : va_P (kD κ) vwCl (lO κ b o) T1.heap := by
    rw [hT1]
    refine hO.kept (fun k q hk => ?_)
    have hk1 : k < 1 := (List.getElem?_eq_some_iff.mp hk).1
    have hl9 := (hO k q hk).lt
    rw [show k = 0 by omega] at hk
    cases hk
    exact hold _ hl9 (fun hz9 => hap _ hz9 rfl)
  have hS1 : va_S (s9 κ b z) s.heap T1.heap L := by
    rw [hT1]
    refine ⟨hsz, fun q q1 q2 => hold q q1 (fun h9 => q2 (Or.inl h9)), fun q hq => ?_⟩
    rcases hL q hq with h9 | h9
    · exact Or.inl h9
    · exact Or.inr (Or.inr (Nat.le_trans (Nat.le_of_eq hz.symm) h9))
  exact ⟨T1, v, L, ce, X1, by rw [hT1]; exact g1, g2, g3, by rw [hT1]; exact hPt, hO1, hS1, go⟩
theorem slk_1 {κ : eg_K} {b z : Nat} {o : Int64} {x w : Int32} {M : eg_H} (hm : tMet κ nmI x w M) (hap : ∀ q, eg_A κ gC q → q ≠ b + 305) : Met κ.1 yL_look wsL rmL (lP κ b o x w M z) (lQ κ b z M o 1) 1 6 (s9 κ b z) := by
  refine sl_of (fun p e s m args below meth c la C hl => ?_)
  intro T hT Y
  obtain ⟨T1, v, L, ce, X1, g1, g2, g3, hP1, hO1, hS1, go⟩ := sl_call hm hap C hl hT Y
  obtain ⟨hP, hO, hK, hZ, hx, hno, hz⟩ := id C.2.2.2.2.2.2.2.2
  have has : s.vm.assignable ce.cls ce.cls = true := as_self (n := nmI) hx.1.1 g2
  have k : W p κ.1 e rmL s m args below meth c T1.heap L 1 6 (MQ below (lQ κ b z M o 1) args s 1 6 (s9 κ b z)) (F0 m 13 la [.ref v]) := by
    refine lv_astore (lv' := [(4, .ref v), (0, Value.ref (kad κ (10, 0))), (1, .int x), (2, .int w), (3, .ref (b + 305))]) C.1 C.2.1 dL_look_13 hl (by decide) rfl (fun la1 hl1 => ?_)
    refine lv_iconst (v := 1) C.1 C.2.1 dL_look_15 (by decide) ?_
    exact sl_ret C dL_look_16 hP1 hO1 hS1
  obtain ⟨t2, a1, b1⟩ := ht_I (la := la) (rest := [.int 0, .ref (b + 305)]) X1 C.2.2.2.2.2.2.2.1 C.2.2.2.2.1 (C.2.2.2.2.2.1 _ (List.mem_cons_of_mem _ (eg_t5 (i := 183) (by decide +kernel) rfl))) g1 g3 g2 has k
  exact ⟨t2, go t2 a1, b1⟩
theorem slk_2 {κ : eg_K} {b z : Nat} {o : Int64} {x w : Int32} {M : eg_H} (hm : tMet κ nmN x w M) (hap : ∀ q, eg_A κ gC q → q ≠ b + 305) : Met κ.1 yL_look wsL rmL (lP κ b o x w M z) (lQ κ b z M o 2) 1 6 (s9 κ b z) := by
  refine sl_of (fun p e s m args below meth c la C hl => ?_)
  intro T hT Y
  obtain ⟨T1, v, L, ce, X1, g1, g2, g3, hP1, hO1, hS1, go⟩ := sl_call hm hap C hl hT Y
  obtain ⟨hP, hO, hK, hZ, hx, hno, hz⟩ := id C.2.2.2.2.2.2.2.2
  have has : s.vm.assignable ce.cls ce.cls = true := as_self (n := nmN) hx.1.2.1 g2
  obtain ⟨a9, b9, n1, n2, n3⟩ := hno
  have ea : a9 = ce.cls := Option.some.inj (n1.symm.trans g2)
  rw [ea] at n3
  have k : W p κ.1 e rmL s m args below meth c T1.heap L 1 6 (MQ below (lQ κ b z M o 2) args s 1 6 (s9 κ b z)) (F0 m 17 la [.ref v]) := by
    refine lv_astore (lv' := [(4, .ref v), (0, Value.ref (kad κ (10, 0))), (1, .int x), (2, .int w), (3, .ref (b + 305))]) C.1 C.2.1 dL_look_17 hl (by decide) rfl (fun la1 hl1 => ?_)
    refine lv_iconst (v := 2) C.1 C.2.1 dL_look_19 (by decide) ?_
    exact sl_ret C dL_look_20 hP1 hO1 hS1
  obtain ⟨t2, a1, b1⟩ := ht_N (la := la) (rest := [.int 0, .ref (b + 305)]) X1 C.2.2.2.2.2.2.2.1 C.2.2.2.2.1 (C.2.2.2.2.2.1 _ (List.mem_cons_of_mem _ (eg_t5 (i := 183) (by decide +kernel) rfl))) (C.2.2.2.2.2.1 _ (List.mem_cons_of_mem _ (eg_t5 (i := 184) (by decide +kernel) rfl))) g1 g3 g2 has n2 n3 k
  exact ⟨t2, go t2 a1, b1⟩
