/-! THE CLASS'S LOOK THROWS: its contracts -/
def rmT : Room := { frames := 10, cells := 1, slots := 6, locals := 400 }
def TE (κ : eg_K) (X : String) (M : eg_H) (s : State) (v : Addr) (L : List Loc) (t : State) : Prop :=
  (∀ q ∈ L, eg_A κ gC q.base ∨ s.heap.size ≤ q.base) ∧
    (∃ ce : Cell, t.heap[v]? = some ce ∧ s.vm.findClass X = some ce.cls ∧ ce.vm = .none) ∧ va_P (kD κ) vwCl (eg_ws κ gC M) t.heap ∧ s.heap.size ≤ t.heap.size ∧ ∀ q : Nat, q < s.heap.size → ¬ eg_A κ gC q → t.heap[q]? = s.heap[q]?
def tP (κ : eg_K) (av : List eg_V) (M : eg_H) : Array Value → State → Prop := va_Pc (av.map (eg_tr κ)) (fun U => va_P (kD κ) vwCl (eg_ws κ gC M) U.heap ∧ va_K (kD κ) vwCl (eg_tys κ) U ∧ eg_Z κ (eg_A κ gC) U U.heap ∧ exK U)
def tMet (κ : eg_K) (X : String) (x w : Int32) (M : eg_H) : Prop :=
  MetFree κ.1 mtX10_look.1 (headSpec (eg_w mtX10_look) rmT) (tP κ [vR (10, 0), vI x, vI w] M) (fun _ _ _ _ _ => True) (fun _ st o t => ∃ (v : Addr) (L : List Loc), o = .threw v ∧ st.WarmedH t.vm ∧ st.sameButNew ({ t with vm := st.vm } : State) L 1 6 ∧ TE κ X M st v L t)
theorem tm_of {κ : eg_K} {X : String} {x w : Int32} {M : eg_H} (hok : eg_ok κ gC) (body : ∀ (p : Program) (e : Env) (s : State) (m : MethodId) (args : Array Value) (below : List Frame) (meth : Method) (c : Code), eg_Cx κ gC mtX10_look p s m args meth c → exK s → va_P (kD κ) vwCl (eg_ws κ gC M) s.heap → (∀ (n : Nat), ∀ z ∈ c.exceptionTable.toList, covers z n = false) → tW κ mtX10_look p e s m args below meth c rmT (TQ κ X M below s) 0 (eg_la 0 [vR (10, 0), vI x, vI w]) [] M) : tMet κ X x w M := by
  refine MetFree.of_bodyS (code := mtX10_look.2.1) (maxLocals := mtX10_look.2.2.1) (ret := mtX10_look.2.2.2) rfl ?_ ?_
  · intro args s m h hn
    obtain ⟨meth, c, h1, h2, h3, h4, h5, h6, -, -⟩ := Cond.code_spec hn (atoms_spec (ws := eg_w mtX10_look) h _ List.mem_cons_self)
    exact ⟨meth, c, h1, h2, h3, h4, h5, h6⟩
  · intro p e s m args below meth c s1 B hml hv _
    obtain ⟨rfl, hP, hK, hZ, hx⟩ := hv
    have hts := atoms_spec (ws := eg_w mtX10_look) B.pre
    have hown : s.vm.findClass mtX10_look.1.cls = some m.cls := findClass_of_methodNamed B.named
    have hl := lv_entry (([vR (10, 0), vI x, vI w] : List eg_V).map (eg_tr κ)) (n := mtX10_look.2.2.1) (by rw [eg_sl_len]; exact Nat.le_of_ble_eq_true rfl)
    rw [← eg_la_tr] at hl
    have hex : c.exceptionTable.isEmpty = true := B.noHandlers (hts _ List.mem_cons_self)
    have hexc : ∀ (n : Nat), ∀ z ∈ c.exceptionTable.toList, covers z n = false := fun n z hz => by
      rw [Array.isEmpty_iff] at hex
      rw [hex] at hz
      cases hz
    have hh0 : s1.heap = s.heap := by rw [B.state]; rfl
    obtain ⟨t, a1, v, L, b1, b2, b3, b4, b5⟩ := body p e s m _ below meth c ⟨B.exec, B.bytes, B.returns, hml, hown, hts, B.notSynchronized, hK, hok, hZ⟩ hx hP hexc s.heap [] _ hl hP va_S.rf s1 hh0 (Stand.of_body B)
    rw [lg_entry_eq]
    exact ⟨t, .threw v, a1, b1, b2, v, L, rfl, b3, b4, b5⟩
theorem tm_I {κ : eg_K} {x w : Int32} {M : eg_H} {q : Nat} (hok : eg_ok κ gC) (htr : κ.1.stackTraces = false) (hq : q < 2) (ep : M.2.2 (10, 0) 3 = (5, q)) (hg : fX5_hasGuest M q x = 0) : tMet κ "java/lang/IndexOutOfBoundsException" x w M := by
  refine tm_of hok (fun p e s m args below meth c C hx hP hexc => ?_)
  refine t_aload_n C 0 dX10_look_0 rfl rfl ?_
  refine t_getD C dX10_look_1 fl_10_32 rfl rfl (obC_10 z1) (by decide) ?_
  rw [ep]
  refine t_iload_n C 1 dX10_look_4 rfl rfl ?_
  refine t_callVI (av := [vI x]) (st := []) (d1 := 0) C dX10_look_5 ml_10_132 rfl rfl (obC_5 hq) (by decide) rfl (Nat.le_of_ble_eq_true rfl) (by decide) (sX5_hasGuest (by omega) M q x hq) (fun x3 M2 hz => ?_)
  obtain ⟨ex3, eM2⟩ := hz
  rw [eM2]
  refine t_if_ne (tgt := 21) C dX10_look_8 rfl (fun c4 => absurd (ex3.trans hg) c4) (fun _ => ?_)
  have hT : ∀ w ∈ eg_T, w.before args s = true := fun w hw => C.2.2.2.2.2.1 w (List.mem_cons_of_mem _ hw)
  exact t_throw C rfl hP (hexc _) htr (by decide) dX10_look_11 dX10_look_14 dX10_look_15 dX10_look_17 dX10_look_20 (hT _ (eg_t5 (i := 189) (by decide +kernel) rfl)) (hT _ (eg_t5 (i := 190) (by decide +kernel) rfl)) (hT _ (eg_t1 (i := 21) (by decide +kernel) rfl)) C.2.2.2.2.2.2.2.2.2.1.2.1 (thI hT hx C.2.2.2.2.2.2.2.2.2) (by decide +kernel) dbI_0 dbI_1 dbI_2 dbI_5
theorem ot11 {w : Int32} (hw : ∀ k, k < 11 → w ≠ nI k) : w.toInt < 0 ∨ 10 < w.toInt := by
  by_cases h : w.toInt < 0
  · exact Or.inl h
  · right
    apply Classical.byContradiction
    intro h2
    refine hw w.toInt.toNat (by omega) ?_
    have e1 : w = Int32.ofInt w.toInt := by simp
    rw [e1]
    have e2 : (Int32.ofInt w.toInt).toInt.toNat = w.toInt.toNat := by simp
    rw [e2]
    have h3 : ∀ z : Int, 0 ≤ z → z ≤ 10 → Int32.ofInt z = nI z.toNat := by
      intro z a1 a2
      have : z = 0 ∨ z = 1 ∨ z = 2 ∨ z = 3 ∨ z = 4 ∨ z = 5 ∨ z = 6 ∨ z = 7 ∨ z = 8 ∨ z = 9 ∨ z = 10 := by omega
      rcases this with h | h | h | h | h | h | h | h | h | h | h <;> subst h <;> decide
    exact h3 _ (by omega) (by omega)
theorem tm_N {κ : eg_K} {x w : Int32} {M : eg_H} {q : Nat} (hok : eg_ok κ gC) (htr : κ.1.stackTraces = false) (hq : q < 2) (ep : M.2.2 (10, 0) 3 = (5, q)) (hg : ¬ fX5_hasGuest M q x = 0) (g5 : vp_in x 15) (hw : ∀ k, k < 11 → w ≠ nI k) : tMet κ "java/util/NoSuchElementException" x w M := by
  refine tm_of hok (fun p e s m args below meth c C hx hP hexc => ?_)
  refine t_aload_n C 0 dX10_look_0 rfl rfl ?_
  refine t_getD C dX10_look_1 fl_10_32 rfl rfl (obC_10 z1) (by decide) ?_
  rw [ep]
  refine t_iload_n C 1 dX10_look_4 rfl rfl ?_
  refine t_callVI (av := [vI x]) (st := []) (d1 := 0) C dX10_look_5 ml_10_132 rfl rfl (obC_5 hq) (by decide) rfl (Nat.le_of_ble_eq_true rfl) (by decide) (sX5_hasGuest (by omega) M q x hq) (fun x3 M2 hz => ?_)
  obtain ⟨ex3, eM2⟩ := hz
  rw [eM2]
  refine t_if_ne (tgt := 21) C dX10_look_8 rfl (fun _ => ?_) (fun c4 => absurd (ex3.symm.trans c4) hg)
  have hT : ∀ w ∈ eg_T, w.before args s = true := fun w hw => C.2.2.2.2.2.1 w (List.mem_cons_of_mem _ hw)
  refine t_aload_n C 0 dX10_look_21 rfl rfl ?_
  refine t_getR C dX10_look_22 fl_10_65 rfl rfl (obC_10 z1) ?_
  show tW κ mtX10_look p e s m args below meth c rmT (TQ κ "java/util/NoSuchElementException" M below s) 25 [(0, vR (10, 0)), (1, vI x), (2, vI w)] [vR (7, 0)] M
  refine t_getR C dX10_look_25 fl_10_143 rfl rfl (obC_7 (by decide : 0 < 4)) ?_
  show tW κ mtX10_look p e s m args below meth c rmT (TQ κ "java/util/NoSuchElementException" M below s) 28 [(0, vR (10, 0)), (1, vI x), (2, vI w)] [vR (42, 0)] M
  refine t_iload_n C 1 dX10_look_28 rfl rfl ?_
  refine t_aaload7 C dX10_look_29 (arC_42 (by decide : 0 < 4) g5) ?_
  show tW κ mtX10_look p e s m args below meth c rmT (TQ κ "java/util/NoSuchElementException" M below s) 30 [(0, vR (10, 0)), (1, vI x), (2, vI w)] [vR (2, 15 * 0 + x.toNatClampNeg)] M
  refine t_astore_n C dX10_look_30 rfl (by decide) (ls1 := [(3, vR (2, 15 * 0 + x.toNatClampNeg)), (0, vR (10, 0)), (1, vI x), (2, vI w)]) rfl ?_
  refine t_iload_n C 3 dX10_look_31 rfl rfl ?_
  refine t_tabO (tgt := 147) C dX10_look_32 (ot11 hw) rfl ?_
  exact t_throw C rfl hP (hexc _) htr (by decide) dX10_look_147 dX10_look_150 dX10_look_151 dX10_look_153 dX10_look_156 (hT _ (eg_t6 (i := 16) (by decide +kernel) rfl)) (hT _ (eg_t6 (i := 17) (by decide +kernel) rfl)) (hT _ (eg_t1 (i := 22) (by decide +kernel) rfl)) C.2.2.2.2.2.2.2.2.2.1.2.2 (thN hT hx C.2.2.2.2.2.2.2.2.2) (by decide +kernel) dbN_0 dbN_1 dbN_2 dbN_5
