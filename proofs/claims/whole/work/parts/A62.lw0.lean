/-! THE LAW'S OWN WALK: both worlds and the row of one long -/
def lwC (κ : eg_K) (p : Program) (s : State) (m : MethodId) (meth : Method) (c : Code) (bS Ls : Nat) (xs : Nat → Int32) : Prop :=
  (p.tables.exec = Jvm.exec ∧ c.code = code ∧ meth.sig.returnType = ret ∧ c.maxLocals = 7 ∧ s.vm.findClass RL = some m.cls ∧ (∀ w ∈ lw_tbl, w.before #[Value.ref bS] s = true) ∧ meth.locks = false) ∧ (va_X bS Ls xs s s.heap ∧ bS < s.heap.size ∧ Ls ≤ 3072) ∧ va_K (kD κ) vwCl (eg_tys κ) s ∧ eg_Z κ (fun q => s.heap.size ≤ q) s s.heap ∧ (eg_ok κ gC ∧ eg_ok κ gM) ∧ (∀ r ∈ gC.1, s.heap.size ≤ kad κ r ∧ kad κ r < s.heap.size + 270) ∧ (∀ r ∈ gM.1, s.heap.size + 270 ≤ kad κ r ∧ kad κ r < s.heap.size + 305)
def lwO (κ : eg_K) (s : State) (o : Int64) : va_W := [(s.heap.size + 305, .inl (kA κ 3, 1, .inr (.inl (fun _ => o))))]
def lwH (κ : eg_K) (s : State) (M N : eg_H) (o : Int64) (H : Heap) : Prop := va_P (kD κ) vwCl (eg_ws κ gC M) H ∧ va_P (kD κ) vwCl (eg_ws κ gM N) H ∧ va_P (kD κ) vwCl (lwO κ s o) H
def lqW (κ : eg_K) (p : Program) (e : Env) (s : State) (m : MethodId) (below : List Frame) (meth : Method) (c : Code) (bS : Nat) (pc : Nat) (ls : List (Nat × Value)) (st : List Value) (M N : eg_H) (o : Int64) (cn sn : Nat) : Prop :=
  ∀ (H : Heap) (locs : List Loc) (la : Array Slot), lv_has la 7 ls → lwH κ s M N o H → va_S (fun q => s.heap.size ≤ q) s.heap H locs →
    W p κ.1 e room_1 s m #[Value.ref bS] below meth c H locs cn sn (lw_Z below #[Value.ref bS] s) (F0 m pc la st)
def lsL (κ : eg_K) (s : State) (bS i : Nat) : List (Nat × Value) := [(4, .int (nI i)), (3, .ref (s.heap.size + 305)), (2, .ref (kad κ (60, 0))), (1, .ref (kad κ (10, 0))), (0, .ref bS)]
theorem lw_good {w : Cond} (h : w ∈ eg_T) : w ∈ lw_tbl ∧ ((w.onTables && w.keeps) = true ∨ ∃ ty, w = .arrayClass ty) := ⟨(List.mem_filter.mp h).1, eg_T_good h⟩
theorem lw_gw (mt1 : eg_M) (hc : Cond.code mt1.1 mt1.2.1 mt1.2.2.1 mt1.2.2.2 ∈ eg_T) {l0 : List Cond} (h : ∀ w ∈ l0, w ∈ eg_T) : GoodIn lw_tbl (l0 ++ eg_w mt1) := by
  intro w hw
  rcases List.mem_append.mp hw with h1 | h1
  · exact lw_good (h w h1)
  · rcases List.mem_cons.mp h1 with rfl | h2
    · exact lw_good hc
    · exact lw_good h2
/-- a world's cells are apart from another's addresses -/
theorem ws_kept {κ : eg_K} {G : eg_G} {M : eg_H} {H H1 : Heap} {A : Nat → Prop} (hP : va_P (kD κ) vwCl (eg_ws κ G M) H) (hA : ∀ r ∈ G.1, ¬ A (kad κ r)) (hk : ∀ q : Nat, q < H.size → ¬ A q → H1[q]? = H[q]?) : va_P (kD κ) vwCl (eg_ws κ G M) H1 := by
  refine hP.kept (fun k q hq => ?_)
  have hl := (hP k q hq).lt
  unfold eg_ws at hq
  rw [List.getElem?_map] at hq
  cases hr : G.1[k]? with
  | none => rw [hr] at hq; cases hq
  | some r =>
    rw [hr] at hq
    cases hq
    exact hk _ hl (hA r (List.mem_of_getElem? hr))
theorem wo_kept {κ : eg_K} {s : State} {o : Int64} {H H1 : Heap} {A : Nat → Prop} (hP : va_P (kD κ) vwCl (lwO κ s o) H) (hA : ¬ A (s.heap.size + 305)) (hk : ∀ q : Nat, q < H.size → ¬ A q → H1[q]? = H[q]?) : va_P (kD κ) vwCl (lwO κ s o) H1 := by
  refine hP.kept (fun k q hq => ?_)
  have hl := (hP k q hq).lt
  have hz : k < 1 := (List.getElem?_eq_some_iff.mp hq).1
  rw [show k = 0 by omega] at hq
  cases hq
  exact hk _ hl hA
section LRR
variable {κ : eg_K} {p : Program} {e : Env} {s : State} {m : MethodId} {below : List Frame} {meth : Method} {c : Code} {bS Ls : Nat} {xs : Nat → Int32} {pc : Nat} {ls : List (Nat × Value)} {st : List Value} {M N : eg_H} {o : Int64} {cn sn : Nat}
theorem lwC.aC (C : lwC κ p s m meth c bS Ls xs) {q : Nat} (h : eg_A κ gC q) : s.heap.size ≤ q ∧ q < s.heap.size + 270 := by
  obtain ⟨r, hr, e⟩ := h
  rw [e]
  exact C.2.2.2.2.2.1 r hr
theorem lwC.aM (C : lwC κ p s m meth c bS Ls xs) {q : Nat} (h : eg_A κ gM q) : s.heap.size + 270 ≤ q ∧ q < s.heap.size + 305 := by
  obtain ⟨r, hr, e⟩ := h
  rw [e]
  exact C.2.2.2.2.2.2 r hr
theorem lr_aload {i : Nat} {n : Fin 4} {x : Nat} (C : lwC κ p s m meth c bS Ls xs) (j : Nat) (hd : decode code pc = .ok (.aload_n n, 1)) (hi : (n : Nat) = i) (hj : ls[j]? = some (i, .ref x)) (k : lqW κ p e s m below meth c bS (pc + 1) ls (.ref x :: st) M N o cn sn) : lqW κ p e s m below meth c bS pc ls st M N o cn sn := by
  intro H locs la hl hH hS
  exact lv_aload_n C.1.1 C.1.2.1 hd hi (lv_at hl j hj) (k H locs la hl hH hS)
theorem lr_iload {i : Nat} {x : Int32} (C : lwC κ p s m meth c bS Ls xs) (j : Nat) (hd : decode code pc = .ok (.iload i, 2)) (hj : ls[j]? = some (i, .int x)) (k : lqW κ p e s m below meth c bS (pc + 2) ls (.int x :: st) M N o cn sn) : lqW κ p e s m below meth c bS pc ls st M N o cn sn := by
  intro H locs la hl hH hS
  exact lv_iload C.1.1 C.1.2.1 hd (lv_at hl j hj) (k H locs la hl hH hS)
theorem lr_iconst {n : Int} {v : Int32} (C : lwC κ p s m meth c bS Ls xs) (hd : decode code pc = .ok (.iconst n, 1)) (hv : Int32.ofInt n = v) (k : lqW κ p e s m below meth c bS (pc + 1) ls (.int v :: st) M N o cn sn) : lqW κ p e s m below meth c bS pc ls st M N o cn sn := by
  intro H locs la hl hH hS
  exact lv_iconst C.1.1 C.1.2.1 hd hv (k H locs la hl hH hS)
theorem lr_istore {i : Nat} {x : Int32} {ls1 : List (Nat × Value)} (C : lwC κ p s m meth c bS Ls xs) (hd : decode code pc = .ok (.istore i, 2)) (hn : i < 7) (h1 : (i, Value.int x) :: ls.filter (fun q => !(q.1 == i) && !(q.1 + 1 == i && q.2.category == 2)) = ls1) (k : lqW κ p e s m below meth c bS (pc + 2) ls1 st M N o cn sn) : lqW κ p e s m below meth c bS pc ls (.int x :: st) M N o cn sn := by
  intro H locs la hl hH hS
  subst h1
  exact lv_istore C.1.1 C.1.2.1 hd hl hn rfl (fun la1 hl1 => k H locs la1 hl1 hH hS)
theorem lr_eq {x y : Int32} {off : Int} {tgt : Nat} (C : lwC κ p s m meth c bS Ls xs) (hd : decode code pc = .ok (.if_icmp .eq off, 3)) (ht : (pc : Int) + off = (tgt : Int)) (h : x = y) (k : lqW κ p e s m below meth c bS tgt ls st M N o cn sn) : lqW κ p e s m below meth c bS pc ls (.int y :: .int x :: st) M N o cn sn := by
  intro H locs la hl hH hS
  exact lv_icmp_eq C.1.1 C.1.2.1 hd ht (fun _ => k H locs la hl hH hS) (fun z => absurd h z)
theorem lr_if_eq {x : Int32} {off : Int} {tgt : Nat} (C : lwC κ p s m meth c bS Ls xs) (hd : decode code pc = .ok (.ifCond .eq off, 3)) (ht : (pc : Int) + off = (tgt : Int)) (h : x = 0) (k : lqW κ p e s m below meth c bS tgt ls st M N o cn sn) : lqW κ p e s m below meth c bS pc ls (.int x :: st) M N o cn sn := by
  intro H locs la hl hH hS
  exact lv_if_eq C.1.1 C.1.2.1 hd ht (fun _ => k H locs la hl hH hS) (fun z => absurd h z)
theorem lr_if_ne {x : Int32} {off : Int} {tgt : Nat} (C : lwC κ p s m meth c bS Ls xs) (hd : decode code pc = .ok (.ifCond .ne off, 3)) (ht : (pc : Int) + off = (tgt : Int)) (kt : ¬ x = 0 → lqW κ p e s m below meth c bS tgt ls st M N o cn sn) (kf : x = 0 → lqW κ p e s m below meth c bS (pc + 3) ls st M N o cn sn) : lqW κ p e s m below meth c bS pc ls (.int x :: st) M N o cn sn := by
  intro H locs la hl hH hS
  exact lv_if_ne C.1.1 C.1.2.1 hd ht (fun z => kt z H locs la hl hH hS) (fun z => kf z H locs la hl hH hS)
theorem lr_goto {off : Int} {tgt : Nat} (C : lwC κ p s m meth c bS Ls xs) (hd : decode code pc = .ok (.goto off, 3)) (ht : (pc : Int) + off = (tgt : Int)) (k : lqW κ p e s m below meth c bS tgt ls st M N o cn sn) : lqW κ p e s m below meth c bS pc ls st M N o cn sn := by
  intro H locs la hl hH hS
  exact lv_goto C.1.1 C.1.2.1 hd ht (k H locs la hl hH hS)
/-- a place of the script: five instructions -/
theorem lr_arg {i k : Nat} {v : Int} (C : lwC κ p s m meth c bS Ls xs) (d1 : decode code pc = .ok (.aload_n 0, 1)) (d2 : decode code (pc + 1) = .ok (.iload 4, 2)) (d3 : decode code (pc + 3) = .ok (.iconst v, 1)) (d4 : decode code (pc + 4) = .ok (.iadd, 1)) (d5 : decode code (pc + 5) = .ok (.iaload, 1)) (hv : Int32.ofInt v = nI k) (h0 : (ls[4]? = some (0, .ref bS) ∧ ls[0]? = some (4, .int (nI i))) ∨ (ls[5]? = some (0, .ref bS) ∧ ls[1]? = some (4, .int (nI i)))) (hi : i + k < Ls) (kk : lqW κ p e s m below meth c bS (pc + 6) ls (.int (xs (i + k)) :: st) M N o cn sn) : lqW κ p e s m below meth c bS pc ls st M N o cn sn := by
  intro H locs la hl hH hS
  have hL := C.2.1.2.2
  have l0 : la[0]? = some (.val (.ref bS)) := by
    rcases h0 with h | h
    · exact lv_at hl 4 h.1
    · exact lv_at hl 5 h.1
  have l4 : la[4]? = some (.val (.int (nI i))) := by
    rcases h0 with h | h
    · exact lv_at hl 0 h.2
    · exact lv_at hl 1 h.2
  refine lv_aload_n C.1.1 C.1.2.1 d1 rfl l0 ?_
  refine lv_iload C.1.1 C.1.2.1 d2 l4 ?_
  refine lv_iconst C.1.1 C.1.2.1 d3 hv ?_
  refine lv_iadd C.1.1 C.1.2.1 d4 ?_
  rw [nI_ad]
  refine va_sld C.1.1 C.1.2.1 C.2.1.1 C.2.1.2.1 (fun z => absurd C.2.1.2.1 (Nat.not_lt.mpr z)) hS (nI_in' hi (by omega)) d5 ?_
  rw [nI_t (by omega)]
  exact kk H locs la hl hH hS
theorem lr_runC {mt1 : eg_M} {idx n : Nat} {av : List eg_V} {Q1 : Array Value → State → Outcome → State → Prop} {H : Heap} {locs : List Loc} {la : Array Slot} (C : lwC κ p s m meth c bS Ls xs) (hd : decode code pc = .ok (.invokevirtual idx, 3)) (hm : eg_MV RL idx mt1 n) (hn : av.length = n) (hC : mt1.1.cls = RX10) (hst : (st.map fun v => v.category).sum ≤ 8) (hs : eg_S κ gC mt1 12 (vR (10, 0) :: av) M Q1) (hl : lv_has la 7 ls) (hH : lwH κ s M N o H) (hS : va_S (fun q => s.heap.size ≤ q) s.heap H locs) :
    va_Run p κ.1 e room_1 s m #[Value.ref bS] below meth c H locs cn sn 0 0 (F0 m pc la ((av.map (eg_tr κ)).reverse ++ .ref (kad κ (10, 0)) :: st)) st (Q1 ((vR (10, 0) :: av).map (eg_tr κ)).toArray) (eg_A κ gC) ∨ ¬ (cn ≤ 601024 ∧ sn ≤ 7293034) := by
  by_cases hb : cn ≤ 601024 ∧ sn ≤ 7293034
  · left
    obtain ⟨⟨m1, m2, m3, m4, m5⟩, hdd1, hml⟩ := hm
    have hr : eg_Ob gC (10, 0) 10 := obC_10 (by decide)
    obtain ⟨q, hq⟩ := List.getElem?_of_mem hr.1
    refine va_runV (own := RL) (C := mt1.1.cls) (index := idx) (y := mt1.1) (bytes := mt1.2.1) (maxL := mt1.2.2.1) (ret := mt1.2.2.2) (ws := eg_w mt1) (rm := eg_rm 12) (Pc := eg_P κ gC (vR (10, 0) :: av) M) (Ts := lw_tbl) (cc := code) (nL := 7) (n := n) (As := av.map (eg_tr κ)) (rest := st) (b := kad κ (10, 0)) ⟨C.1.1, C.1.2.1, C.1.2.2.2.1, C.1.2.2.2.2.1, C.1.2.2.2.2.2.1⟩ (hs C.2.2.2.2.1.1) (cwV n C.1.2.2.2.2.2.1 (lw_gw mt1 m5 (l0 := [.methodLink RL idx mt1.1, .instanceMethod mt1.1, .selects mt1.1.cls mt1.1 mt1.1, .initialized mt1.1.cls]) ?_) rfl rfl rfl ⟨rfl, hdd1⟩ ⟨by decide, ?_⟩) ⟨eg_blind κ gC _ M, ?_, fun U hU hW => ⟨rfl, by rw [hU]; exact hH.1, va_K.moved hW.alike C.2.2.1, by rw [hU]; exact ((C.2.2.2.1.kept hS.2.1).warm hW).narrow (fun q hq => (C.aC hq).1)⟩⟩ rfl (by rw [List.length_map]; exact hn) hl.1 rfl (lv_room hst) hd ⟨hb.1, hb.2⟩
    · intro w hw
      simp only [List.mem_cons, List.not_mem_nil, or_false] at hw
      rcases hw with rfl | rfl | rfl | rfl <;> assumption
    · show 8 + (mt1.2.2.1 + 11) + 40 * 12 ≤ 550
      omega
    · have h := va_recv C.2.2.1 hH.1 (eg_cl 10 (by decide)) (q0 := q) (a := kad κ (10, 0)) (fs := (List.range (eg_nf 10)).map (eg_fv κ gC M (10, 0) 10)) (by rw [eg_at hq, eg_cel_ob hr.2])
      rw [hC]
      exact h
  · exact Or.inr hb
theorem lr_runM {mt1 : eg_M} {idx n : Nat} {av : List eg_V} {Q1 : Array Value → State → Outcome → State → Prop} {H : Heap} {locs : List Loc} {la : Array Slot} (C : lwC κ p s m meth c bS Ls xs) (hd : decode code pc = .ok (.invokevirtual idx, 3)) (hm : eg_MV RL idx mt1 n) (hn : av.length = n) (hC : mt1.1.cls = RX11) (hst : (st.map fun v => v.category).sum ≤ 8) (hs : eg_S κ gM mt1 12 (vR (60, 0) :: av) N Q1) (hl : lv_has la 7 ls) (hH : lwH κ s M N o H) (hS : va_S (fun q => s.heap.size ≤ q) s.heap H locs) :
    va_Run p κ.1 e room_1 s m #[Value.ref bS] below meth c H locs cn sn 0 0 (F0 m pc la ((av.map (eg_tr κ)).reverse ++ .ref (kad κ (60, 0)) :: st)) st (Q1 ((vR (60, 0) :: av).map (eg_tr κ)).toArray) (eg_A κ gM) ∨ ¬ (cn ≤ 601024 ∧ sn ≤ 7293034) := by
  by_cases hb : cn ≤ 601024 ∧ sn ≤ 7293034
  · left
    obtain ⟨⟨m1, m2, m3, m4, m5⟩, hdd1, hml⟩ := hm
    have hr : eg_Ob gM (60, 0) 11 := obM_60 (by decide)
    obtain ⟨q, hq⟩ := List.getElem?_of_mem hr.1
    refine va_runV (own := RL) (C := mt1.1.cls) (index := idx) (y := mt1.1) (bytes := mt1.2.1) (maxL := mt1.2.2.1) (ret := mt1.2.2.2) (ws := eg_w mt1) (rm := eg_rm 12) (Pc := eg_P κ gM (vR (60, 0) :: av) N) (Ts := lw_tbl) (cc := code) (nL := 7) (n := n) (As := av.map (eg_tr κ)) (rest := st) (b := kad κ (60, 0)) ⟨C.1.1, C.1.2.1, C.1.2.2.2.1, C.1.2.2.2.2.1, C.1.2.2.2.2.2.1⟩ (hs C.2.2.2.2.1.2) (cwV n C.1.2.2.2.2.2.1 (lw_gw mt1 m5 (l0 := [.methodLink RL idx mt1.1, .instanceMethod mt1.1, .selects mt1.1.cls mt1.1 mt1.1, .initialized mt1.1.cls]) ?_) rfl rfl rfl ⟨rfl, hdd1⟩ ⟨by decide, ?_⟩) ⟨eg_blind κ gM _ N, ?_, fun U hU hW => ⟨rfl, by rw [hU]; exact hH.2.1, va_K.moved hW.alike C.2.2.1, by rw [hU]; exact ((C.2.2.2.1.kept hS.2.1).warm hW).narrow (fun q hq => by have := (C.aM hq).1; show s.heap.size ≤ q; omega)⟩⟩ rfl (by rw [List.length_map]; exact hn) hl.1 rfl (lv_room hst) hd ⟨hb.1, hb.2⟩
    · intro w hw
      simp only [List.mem_cons, List.not_mem_nil, or_false] at hw
      rcases hw with rfl | rfl | rfl | rfl <;> assumption
    · show 8 + (mt1.2.2.1 + 11) + 40 * 12 ≤ 550
      omega
    · have h := va_recv C.2.2.1 hH.2.1 (eg_cl 11 (by decide)) (q0 := q) (a := kad κ (60, 0)) (fs := (List.range (eg_nf 11)).map (eg_fv κ gM N (60, 0) 11)) (by rw [eg_at hq, eg_cel_ob hr.2])
      rw [hC]
      exact h
  · exact Or.inr hb
theorem lr_C1 {A : Prop} (h : A ∨ ¬ (cn ≤ 601024 ∧ sn ≤ 7293034)) (hb : cn ≤ 601024 ∧ sn ≤ 7293034) : A := h.resolve_right (fun z => z hb)
theorem lr_CI {mt1 : eg_M} {idx n : Nat} {av : List eg_V} {stk : List Value} {post : Int32 → eg_H → Prop} (C : lwC κ p s m meth c bS Ls xs) (hb : cn ≤ 601024 ∧ sn ≤ 7293034) (hd : decode code pc = .ok (.invokevirtual idx, 3)) (hm : eg_MV RL idx mt1 n) (hn : av.length = n) (hC : mt1.1.cls = RX10) (hk : stk = (av.map (eg_tr κ)).reverse ++ .ref (kad κ (10, 0)) :: st) (hst : (st.map fun v => v.category).sum ≤ 8) (hs : eg_S κ gC mt1 12 (vR (10, 0) :: av) M (eQI κ gC post)) (kk : ∀ x M1, post x M1 → lqW κ p e s m below meth c bS (pc + 3) ls (.int x :: st) M1 N o cn sn) : lqW κ p e s m below meth c bS pc ls stk M N o cn sn := by
  intro H locs la hl hH hS
  subst hk
  refine va_calli (lr_C1 (lr_runC C hd hm hn hC hst hs hl hH hS) hb) hS (fun q _ h => (C.aC h).1) (fun q h => (C.aC h).1) (fun x u t H1 locs1 ht hvm hp hB hz hk1 hS1 => ?_)
  refine kk x u hp H1 locs1 la hl ⟨by rw [← ht]; exact hB.1, ws_kept hH.2.1 (fun r hr hz => by have := C.2.2.2.2.2.2 r hr; have := C.aC hz; omega) hk1, wo_kept hH.2.2 (fun hz => by have := C.aC hz; omega) hk1⟩ hS1
theorem lr_CL {mt1 : eg_M} {idx n : Nat} {av : List eg_V} {stk : List Value} {post : Int64 → eg_H → Prop} (C : lwC κ p s m meth c bS Ls xs) (hb : cn ≤ 601024 ∧ sn ≤ 7293034) (hd : decode code pc = .ok (.invokevirtual idx, 3)) (hm : eg_MV RL idx mt1 n) (hn : av.length = n) (hC : mt1.1.cls = RX10) (hk : stk = (av.map (eg_tr κ)).reverse ++ .ref (kad κ (10, 0)) :: st) (hst : (st.map fun v => v.category).sum ≤ 8) (hs : eg_S κ gC mt1 12 (vR (10, 0) :: av) M (eQL κ gC post)) (kk : ∀ x M1, post x M1 → lqW κ p e s m below meth c bS (pc + 3) ls (.long x :: st) M1 N o cn sn) : lqW κ p e s m below meth c bS pc ls stk M N o cn sn := by
  intro H locs la hl hH hS
  subst hk
  refine va_calll (lr_C1 (lr_runC C hd hm hn hC hst hs hl hH hS) hb) hS (fun q _ h => (C.aC h).1) (fun q h => (C.aC h).1) (fun x u t H1 locs1 ht hvm hp hB hz hk1 hS1 => ?_)
  refine kk x u hp H1 locs1 la hl ⟨by rw [← ht]; exact hB.1, ws_kept hH.2.1 (fun r hr hz => by have := C.2.2.2.2.2.2 r hr; have := C.aC hz; omega) hk1, wo_kept hH.2.2 (fun hz => by have := C.aC hz; omega) hk1⟩ hS1
theorem lr_MI {mt1 : eg_M} {idx n : Nat} {av : List eg_V} {stk : List Value} {post : Int32 → eg_H → Prop} (C : lwC κ p s m meth c bS Ls xs) (hb : cn ≤ 601024 ∧ sn ≤ 7293034) (hd : decode code pc = .ok (.invokevirtual idx, 3)) (hm : eg_MV RL idx mt1 n) (hn : av.length = n) (hC : mt1.1.cls = RX11) (hk : stk = (av.map (eg_tr κ)).reverse ++ .ref (kad κ (60, 0)) :: st) (hst : (st.map fun v => v.category).sum ≤ 8) (hs : eg_S κ gM mt1 12 (vR (60, 0) :: av) N (eQI κ gM post)) (kk : ∀ x N1, post x N1 → lqW κ p e s m below meth c bS (pc + 3) ls (.int x :: st) M N1 o cn sn) : lqW κ p e s m below meth c bS pc ls stk M N o cn sn := by
  intro H locs la hl hH hS
  subst hk
  refine va_calli (lr_C1 (lr_runM C hd hm hn hC hst hs hl hH hS) hb) hS (fun q _ h => by have := (C.aM h).1; show s.heap.size ≤ q; omega) (fun q h => by have := (C.aM h).1; show s.heap.size ≤ q; omega) (fun x u t H1 locs1 ht hvm hp hB hz hk1 hS1 => ?_)
  refine kk x u hp H1 locs1 la hl ⟨ws_kept hH.1 (fun r hr hz => by have := C.2.2.2.2.2.1 r hr; have := C.aM hz; omega) hk1, by rw [← ht]; exact hB.1, wo_kept hH.2.2 (fun hz => by have := C.aM hz; omega) hk1⟩ hS1
theorem lr_ML {mt1 : eg_M} {idx n : Nat} {av : List eg_V} {stk : List Value} {post : Int64 → eg_H → Prop} (C : lwC κ p s m meth c bS Ls xs) (hb : cn ≤ 601024 ∧ sn ≤ 7293034) (hd : decode code pc = .ok (.invokevirtual idx, 3)) (hm : eg_MV RL idx mt1 n) (hn : av.length = n) (hC : mt1.1.cls = RX11) (hk : stk = (av.map (eg_tr κ)).reverse ++ .ref (kad κ (60, 0)) :: st) (hst : (st.map fun v => v.category).sum ≤ 8) (hs : eg_S κ gM mt1 12 (vR (60, 0) :: av) N (eQL κ gM post)) (kk : ∀ x N1, post x N1 → lqW κ p e s m below meth c bS (pc + 3) ls (.long x :: st) M N1 o cn sn) : lqW κ p e s m below meth c bS pc ls stk M N o cn sn := by
  intro H locs la hl hH hS
  subst hk
  refine va_calll (lr_C1 (lr_runM C hd hm hn hC hst hs hl hH hS) hb) hS (fun q _ h => by have := (C.aM h).1; show s.heap.size ≤ q; omega) (fun q h => by have := (C.aM h).1; show s.heap.size ≤ q; omega) (fun x u t H1 locs1 ht hvm hp hB hz hk1 hS1 => ?_)
  refine kk x u hp H1 locs1 la hl ⟨ws_kept hH.1 (fun r hr hz => by have := C.2.2.2.2.2.1 r hr; have := C.aM hz; omega) hk1, by rw [← ht]; exact hB.1, wo_kept hH.2.2 (fun hz => by have := C.aM hz; omega) hk1⟩ hS1
end LRR
