/-! THE LAW'S CALL OF ITS STATIC LOOK -/
theorem sl_w1 : Cond.methodLink RL 39 yL_look ∈ eg_T ∧ Cond.static yL_look ∈ eg_T ∧ Cond.codeWith yL_look cL_look 5 (some .int) hhL ∈ eg_T ∧ Cond.initialized RL ∈ eg_T := ⟨eg_t5 (i := 180) (by decide +kernel) rfl, eg_t5 (i := 181) (by decide +kernel) rfl, eg_t5 (i := 182) rfl rfl, eg_t1 (i := 0) (by decide +kernel) rfl⟩
theorem sl_run {κ : eg_K} {p : Program} {e : Env} {s : State} {m : MethodId} {below : List Frame} {meth : Method} {c : Code} {bS Ls : Nat} {xs : Nat → Int32} {M N : eg_H} {o o1 : Int64} {x w V : Int32} {H : Heap} {locs : List Loc} {la : Array Slot} {cn sn : Nat} {ls : List (Nat × Value)} (C : lwC κ p s m meth c bS Ls xs) (hno : xnC s) (hb : cn + 1 ≤ 601024 ∧ sn + 6 ≤ 7293034) (hM : Met κ.1 yL_look wsL rmL (lP κ s.heap.size o x w M H.size) (lQ κ s.heap.size H.size M o1 V) 1 6 (s9 κ s.heap.size H.size)) (hl : lv_has la 7 ls) (hH : lwH κ s M N o H) (hS : va_S (fun q => s.heap.size ≤ q) s.heap H locs) :
    va_Run p κ.1 e room_1 s m #[Value.ref bS] below meth c H locs cn sn 1 6 (F0 m 358 la [.ref (s.heap.size + 305), .int w, .int x, .ref (kad κ (10, 0))]) [] (lQ κ s.heap.size H.size M o1 V ([Value.ref (kad κ (10, 0)), .int x, .int w, .ref (s.heap.size + 305)] : List Value).toArray) (s9 κ s.heap.size H.size) := by
  obtain ⟨w1, w2, w3, w4⟩ := sl_w1
  have hts : ∀ w9 ∈ lw_tbl, w9.before #[Value.ref bS] s = true := C.1.2.2.2.2.2.1
  have ht : ∀ w9 ∈ eg_T, w9.before #[Value.ref bS] s = true := fun w9 h9 => hts w9 (List.mem_filter.mp h9).1
  have hws : ∀ w9 ∈ wsL, ∀ (a' : Array Value) (U : State), s.WarmedH U.vm → w9.before a' U = true := fun w9 h9 a' U hW => by
    have h8 : w9 ∈ eg_T := by
      rcases List.mem_cons.mp h9 with rfl | h7
      · exact w3
      · exact h7
    exact word_at hW (eg_T_good h8) (ht w9 h8)
  have hK : Back κ.1 room_1 p e below s #[Value.ref bS] yL_look 3 8 (PreOf room_1 1 6 (lP κ s.heap.size o x w M H.size)) (PostOf (lQ κ s.heap.size H.size M o1 V) 1 6 (s9 κ s.heap.size H.size)) := va_backW (bytes := cL_look) (maxL := 5) (ret := some .int) (hh := hhL) hM (lP_blind κ s.heap.size o x w M H.size) rfl rfl (by decide) (by decide) hws List.mem_cons_self (fun a' U hW => word_at hW (eg_T_good w4) (ht _ w4))
  intro T hT X
  obtain ⟨mk, methM, cM, hn, hmM, -, -, -, -, -, -, hsig⟩ := Cond.codeWith_spec (ht _ w3)
  have hst : methM.isStatic = true := Cond.static_spec hn hmM (ht _ w2)
  obtain ⟨kP, hkP, -⟩ := className_of_methodNamed hn
  have hini : kP.init = .initialized := Cond.initialized_spec (findClass_of_methodNamed hn) hkP (ht _ w4)
  have hlen : ([Value.ref (kad κ (10, 0)), .int x, .int w, .ref (s.heap.size + 305)] : List Value).length = methM.sig.parameters.length := by
    have h2 : (parseMethodDescriptor yL_look.desc).map (fun d => d.parameters.length) = some 4 := by decide +kernel
    rw [hsig] at h2
    exact (Option.some.inj h2).symm
  have hd : decode c.code 358 = .ok (.invokestatic 39, 3) := by
    rw [C.1.2.1]
    exact dL_law_358
  obtain ⟨vm1, X1, go1⟩ := X.invokestatic C.1.1 C.1.2.2.2.2.1 (ht _ w1) hn hmM hst hkP hini (by decide) (g := F0 m 358 la [.ref (s.heap.size + 305), .int w, .int x, .ref (kad κ (10, 0))]) rfl (argsL := [Value.ref (kad κ (10, 0)), .int x, .int w, .ref (s.heap.size + 305)]) (rest := []) hlen rfl hd
  have hpre : lP κ s.heap.size o x w M H.size ([Value.ref (kad κ (10, 0)), .int x, .int w, .ref (s.heap.size + 305)] : List Value).toArray (T.setVm vm1) := by
    have hW : s.WarmedH (T.setVm vm1).vm := X1.warmed
    have hU : (T.setVm vm1).heap = H := hT
    generalize T.setVm vm1 = U at hW hU ⊢
    exact ⟨rfl, by rw [hU]; exact hH.1, by rw [hU]; exact hH.2.2, va_K.moved hW.alike C.2.2.1, by rw [hU]; exact ((C.2.2.2.1.kept hS.2.1).warm hW).narrow (fun q hq => (C.aC hq).1), (exK.of hts).mv hW (fun q hq => by rw [hU]; exact hS.2.1 q hq (Nat.not_le.mpr hq)), hno.mv hW.alike, by rw [hU]⟩
  obtain ⟨v, ⟨U', l2, c2, s2⟩, X', ⟨g', mk2, t, L, e1, e2, hq, h1, hL, h2, h3⟩, st⟩ := hK m meth c ⟨T.setVm vm1, locs, cn, sn⟩ (F0 m 358 la []) (.invokestatic 39) mk ([Value.ref (kad κ (10, 0)), .int x, .int w, .ref (s.heap.size + 305)] : List Value).toArray X1 rfl (hl.1.trans C.1.2.2.2.1.symm) hd (lv_room (st := []) (Nat.le_of_ble_eq_true rfl)) (X1.named hn) ⟨hb.1, hb.2, hpre⟩
  dsimp only [Pt.U, Pt.locs, Pt.cells, Pt.slots] at X' e1 e2 hq h1 h2 h3 st
  subst h1; subst h2; subst h3
  exact ⟨v, (T.setVm vm1).calling g' mk2 ([Value.ref (kad κ (10, 0)), .int x, .int w, .ref (s.heap.size + 305)] : List Value).toArray, t, U', L, hT, X', hL, e1, e2, hq, fun target h => go1 _ fun acts => by rw [doInvoke_state]; exact st.trans h⟩
theorem sl_go {κ : eg_K} {p : Program} {e : Env} {s : State} {m : MethodId} {below : List Frame} {meth : Method} {c : Code} {bS Ls : Nat} {xs : Nat → Int32} {M N : eg_H} {o o1 : Int64} {x w V : Int32} {cn sn : Nat} {ls : List (Nat × Value)} (C : lwC κ p s m meth c bS Ls xs) (hno : xnC s) (hb : cn + 1 ≤ 601024 ∧ sn + 6 ≤ 7293034) (hM : ∀ z : Nat, Met κ.1 yL_look wsL rmL (lP κ s.heap.size o x w M z) (lQ κ s.heap.size z M o1 V) 1 6 (s9 κ s.heap.size z)) (k : lqW κ p e s m below meth c bS 361 ls [.int V] M N o1 (cn + 1) (sn + 6)) : lqW κ p e s m below meth c bS 358 ls [.ref (s.heap.size + 305), .int w, .int x, .ref (kad κ (10, 0))] M N o cn sn := by
  intro H locs la hl hH hS
  have h305 : s.heap.size + 305 < H.size := (hH.2.2 0 _ rfl).lt
  have hfr : ∀ q, s9 κ s.heap.size H.size q → s.heap.size ≤ q := fun q hq => by
    rcases hq with h9 | h9 | h9
    · exact (C.aC h9).1
    · omega
    · exact Nat.le_trans hS.1 h9
  refine va_calli (A0 := fun q => s.heap.size ≤ q) (H0 := s.heap) (sl_run C hno hb (hM H.size) hl hH hS) hS (fun q _ h => hfr q h) (fun q h => hfr q h) (fun r u t H1 locs1 ht hvm hp hB hz hk1 hS1 => ?_)
  have er : r = V := hp
  rw [er]
  refine k H1 locs1 la hl ⟨by rw [← ht]; exact hB.1, ws_kept hH.2.1 (fun r9 hr9 hz9 => ?_) hk1, by rw [← ht]; exact hB.2⟩ hS1
  have h7 := C.2.2.2.2.2.2 r9 hr9
  rcases hz9 with h9 | h9 | h9
  · have h6 := C.aC h9
    omega
  · omega
  · omega
theorem sl_look {κ : eg_K} {p : Program} {e : Env} {s : State} {m : MethodId} {below : List Frame} {meth : Method} {c : Code} {bS Ls : Nat} {xs : Nat → Int32} (C : lwC κ p s m meth c bS Ls xs) (hno : xnC s) (htr : κ.1.stackTraces = false) : SLk κ p e s m below meth c bS := by
  intro M N o cn sn x w ls h1 h2
  have hap : ∀ q, eg_A κ gC q → q ≠ s.heap.size + 305 := fun q hq => by
    have h6 := C.aC hq
    omega
  refine ⟨fun r hs k => ?_, fun q hq ep hg k => ?_, fun q hq ep hg g5 hw k => ?_⟩
  · exact sl_go C hno ⟨h1, h2⟩ (fun z => slk_0 C.2.2.2.2.1.1 hap hs) k
  · exact sl_go C hno ⟨h1, h2⟩ (fun z => slk_1 (tm_I C.2.2.2.2.1.1 htr hq ep hg) hap) k
  · exact sl_go C hno ⟨h1, h2⟩ (fun z => slk_2 (tm_N C.2.2.2.2.1.1 htr hq ep hg g5 hw) hap) k
theorem whole_start {p : Program} {e : Env} {s : State} {m : MethodId} {below : List Frame} {meth : Method} {c : Code} (l : Launch) (htr : l.stackTraces = false) {b L : Nat} {xs : Nat → Int32} (hL : L ≤ 3072) (C0 : lw_At p s m meth c b L xs) : W p l e room_1 s m #[Value.ref b] below meth c s.heap [] 0 0 (lw_Z below #[Value.ref b] s) (entryFrame m ([Value.ref b] : List Value).toArray 7) := by
  obtain ⟨hx, hb, hr, hml, hown, hts, hX, hbl, hlocks, hgv⟩ := id C0
  have hnar : narrow_1.before #[Value.ref b] s = true := s0_nar hgv
  obtain ⟨dC, dI, hcl⟩ := s0_cls hts
  obtain ⟨dA, har⟩ := s0_arr hts
  obtain ⟨tx, wv, hZ⟩ := s0_Z hts hnar
  have hno : xnC s := xnC.of (s0_nc hnar) (nwK.of hts)
  exact s0_run l dC dI dA tx wv hL C0 ⟨hcl, har⟩ (hZ l dC dI dA s.heap.size) (s0_cn hts) (fun C => lc_look C (sl_look C hno htr))
