/-! THE WORLD OF NAMED CELLS: every cell of the system has a name (kind, number); a heap is three maps; the objects' shapes and their constant references stand still. -/
abbrev eg_R : Type := Nat × Nat
abbrev eg_H : Type := (eg_R → Nat → Int32) × (eg_R → Nat → Int64) × (eg_R → Nat → eg_R)
abbrev eg_V : Type := Int32 ⊕ (Int64 ⊕ eg_R)
abbrev vI (x : Int32) : eg_V := Sum.inl x
abbrev vL (x : Int64) : eg_V := Sum.inr (Sum.inl x)
abbrev vR (x : eg_R) : eg_V := Sum.inr (Sum.inr x)
/-- the names, their shapes ((0, class) an object, (t + 1, n) an array), the constant references -/
abbrev eg_G : Type := List eg_R × (eg_R → Nat × Nat) × (eg_R → Nat → eg_R)
/-- the launch, the classes' numbers, their slots, the array classes' numbers, the addresses -/
abbrev eg_K : Type := Launch × (Nat → ClassId) × (Nat → Nat → Nat) × (Nat → ClassId) × (eg_R → Nat)
abbrev kD (κ : eg_K) : va_G := (κ.2.1, κ.2.2.1)
abbrev kA (κ : eg_K) : Nat → ClassId := κ.2.2.2.1
abbrev kad (κ : eg_K) : eg_R → Nat := κ.2.2.2.2
def eg_tr (κ : eg_K) : eg_V → Value
  | Sum.inl x => .int x
  | Sum.inr (Sum.inl x) => .long x
  | Sum.inr (Sum.inr r) => .ref (kad κ r)
def eg_cat : eg_V → Nat
  | Sum.inr (Sum.inl _) => 2
  | _ => 1
theorem eg_cat_tr (κ : eg_K) (v : eg_V) : (eg_tr κ v).category = eg_cat v := by
  rcases v with x | x | x <;> rfl
def eg_ty : Nat → Nat → FieldType
  | 0 => tyX0 | 1 => tyX1 | 2 => tyX2 | 3 => tyX3 | 4 => tyX4 | 5 => tyX5 | 6 => tyX6 | 7 => tyX7 | 8 => tyX8 | 9 => tyX9 | 10 => tyX10 | _ => tyX11
def eg_nf : Nat → Nat
  | 0 => 4 | 1 => 7 | 2 => 13 | 3 => 7 | 4 => 7 | 5 => 13 | 6 => 15 | 7 => 8 | 8 => 7 | 9 => 7 | 10 => 15 | _ => 82
/-- the fields whose reference changes: Reader.plan, Table.plan, EggTrays.told, EggTrays.spare -/
def eg_dyn (ci k : Nat) : Bool := (ci == 6 && k == 1) || (ci == 7 && k == 0) || (ci == 10 && (k == 3 || k == 4))
def eg_fk : FieldType → Nat
  | .long => 1
  | .object _ => 2
  | .array _ => 2
  | _ => 0
/-- the name that means null: Reader.plan before the first text -/
def eg_nul : eg_R := (999, 999)
theorem eg_n5 (p : Nat) : ((5, p) : eg_R) ≠ eg_nul := fun h => absurd (congrArg Prod.fst h) (by show ¬ (5 : Nat) = 999; decide)
theorem eg_nne {x : eg_R} {p : Nat} (h : x = (5, p)) : x ≠ eg_nul := by rw [h]; exact eg_n5 p
def eg_nq (κ : eg_K) (x : eg_R) : Value := if x = eg_nul then .null else .ref (kad κ x)
def eg_fv (κ : eg_K) (G : eg_G) (M : eg_H) (r : eg_R) (ci k : Nat) : Value :=
  if eg_fk (eg_ty ci k) = 0 then .int (M.1 r k) else if eg_fk (eg_ty ci k) = 1 then .long (M.2.1 r k) else if eg_dyn ci k then (if ci = 6 then eg_nq κ (M.2.2 r k) else .ref (kad κ (M.2.2 r k))) else .ref (kad κ (G.2.2 r k))
theorem eg_nq_of {κ : eg_K} {ci : Nat} {x : eg_R} (h : ci ≠ 6 ∨ x ≠ eg_nul) : (if ci = 6 then eg_nq κ x else .ref (kad κ x)) = Value.ref (kad κ x) := by
  by_cases c : ci = 6
  · rw [if_pos c]
    unfold eg_nq
    rcases h with h | h
    · exact absurd c h
    · rw [if_neg h]
  · rw [if_neg c]
def eg_arr (κ : eg_K) (G : eg_G) (M : eg_H) (r : eg_R) (t n : Nat) : va_E :=
  .inl (kA κ t, n, if t < 3 then .inl (M.1 r) else if t = 3 then .inr (.inl (M.2.1 r)) else .inr (.inr (.inr (.inr (fun k => some (kad κ (G.2.2 r k)))))))
def eg_cel (κ : eg_K) (G : eg_G) (M : eg_H) (r : eg_R) : va_E :=
  if (G.2.1 r).1 = 0 then .inr ((G.2.1 r).2, (List.range (eg_nf (G.2.1 r).2)).map (eg_fv κ G M r (G.2.1 r).2)) else eg_arr κ G M r ((G.2.1 r).1 - 1) (G.2.1 r).2
def eg_ws (κ : eg_K) (G : eg_G) (M : eg_H) : va_W := G.1.map (fun r => (kad κ r, eg_cel κ G M r))
def eg_tys (κ : eg_K) : List (ClassId × FieldType) := [(kA κ 0, .int), (kA κ 1, .byte), (kA κ 2, .boolean), (kA κ 3, .long), (kA κ 4, .object RX1), (kA κ 5, .object RX0), (kA κ 6, .object RX4), (kA κ 7, .object RX2)]
def eg_A (κ : eg_K) (G : eg_G) : Nat → Prop := fun q => ∃ r, r ∈ G.1 ∧ q = kad κ r
def eg_ok (κ : eg_K) (G : eg_G) : Prop := (G.1.map (kad κ)).Nodup
theorem eg_ok.nd {κ : eg_K} {G : eg_G} (h : eg_ok κ G) : G.1.Nodup := by
  unfold eg_ok at h
  exact (List.pairwise_map.mp h).imp (fun hne e => hne (congrArg _ e))
theorem eg_at {κ : eg_K} {G : eg_G} {M : eg_H} {q : Nat} {r : eg_R} (h : G.1[q]? = some r) : (eg_ws κ G M)[q]? = some (kad κ r, eg_cel κ G M r) := by
  unfold eg_ws
  rw [List.getElem?_map, h]
  rfl
theorem eg_D {κ : eg_K} {G : eg_G} (h : eg_ok κ G) (M : eg_H) : va_D (eg_A κ G) (eg_ws κ G M) := by
  have key : ∀ (i : Nat) (p : Nat × va_E), (eg_ws κ G M)[i]? = some p → (G.1.map (kad κ))[i]? = some p.1 := by
    intro i p hp
    unfold eg_ws at hp
    rw [List.getElem?_map] at hp ⊢
    cases hg : G.1[i]? with
    | none => rw [hg] at hp; cases hp
    | some r => rw [hg] at hp; cases hp; rfl
  refine ⟨fun i j p q hp hq e => ?_, fun k q hq => ?_⟩
  · have h1 := key i p hp
    have h2 := key j q hq
    rw [← e] at h2
    have hl : i < (G.1.map (kad κ)).length := (List.getElem?_eq_some_iff.mp h1).1
    exact (List.getElem?_inj hl h).mp (h1.trans h2.symm)
  · have h1 := key k q hq
    rw [List.getElem?_map] at h1
    cases hg : G.1[k]? with
    | none => rw [hg] at h1; cases h1
    | some r => rw [hg] at h1; exact ⟨r, List.mem_of_getElem? hg, (Option.some.inj h1).symm⟩
/-- one cell changed -/
theorem eg_set {κ : eg_K} {G : eg_G} {M M1 : eg_H} {q : Nat} {r : eg_R} {c : va_E} (hn : G.1.Nodup) (hq : G.1[q]? = some r) (ho : ∀ z, z ≠ r → eg_cel κ G M1 z = eg_cel κ G M z) (he : eg_cel κ G M1 r = c) : (eg_ws κ G M).set q (kad κ r, c) = eg_ws κ G M1 := by
  apply List.ext_getElem?
  intro j
  unfold eg_ws
  rw [List.getElem?_set]
  by_cases hj : q = j
  · subst hj
    have hl : q < G.1.length := (List.getElem?_eq_some_iff.mp hq).1
    rw [if_pos rfl, if_pos (by simpa using hl), List.getElem?_map, hq, ← he]
    rfl
  · rw [if_neg hj, List.getElem?_map, List.getElem?_map]
    cases hg : G.1[j]? with
    | none => rfl
    | some z =>
      have hz : z ≠ r := by
        intro e
        subst e
        have hl : q < G.1.length := (List.getElem?_eq_some_iff.mp hq).1
        exact hj ((List.getElem?_inj hl hn).mp (hq.trans hg.symm))
      show some (kad κ z, eg_cel κ G M z) = some (kad κ z, eg_cel κ G M1 z)
      rw [ho z hz]
/-! the writes -/
def sI (M : eg_H) (r : eg_R) (k : Nat) (x : Int32) : eg_H := (fun a j => if a = r ∧ j = k then x else M.1 a j, M.2.1, M.2.2)
def sL (M : eg_H) (r : eg_R) (k : Nat) (x : Int64) : eg_H := (M.1, fun a j => if a = r ∧ j = k then x else M.2.1 a j, M.2.2)
def sR (M : eg_H) (r : eg_R) (k : Nat) (x : eg_R) : eg_H := (M.1, M.2.1, fun a j => if a = r ∧ j = k then x else M.2.2 a j)
theorem eg_cel_congr {κ : eg_K} {G : eg_G} {M M1 : eg_H} {z : eg_R} (h1 : M1.1 z = M.1 z) (h2 : M1.2.1 z = M.2.1 z) (h3 : M1.2.2 z = M.2.2 z) : eg_cel κ G M1 z = eg_cel κ G M z := by
  unfold eg_cel eg_arr
  have e : eg_fv κ G M1 z (G.2.1 z).2 = eg_fv κ G M z (G.2.1 z).2 := by
    funext k
    unfold eg_fv
    rw [h1, h2, h3]
  rw [e, h1, h2]
theorem sI_ne {M : eg_H} {r z : eg_R} {k : Nat} {x : Int32} (h : z ≠ r) : (sI M r k x).1 z = M.1 z := by
  funext j
  simp [sI, h]
theorem sL_ne {M : eg_H} {r z : eg_R} {k : Nat} {x : Int64} (h : z ≠ r) : (sL M r k x).2.1 z = M.2.1 z := by
  funext j
  simp [sL, h]
theorem sR_ne {M : eg_H} {r z y : eg_R} {k : Nat} (h : z ≠ r) : (sR M r k y).2.2 z = M.2.2 z := by
  funext j
  simp [sR, h]
theorem sI_upd {M : eg_H} {r : eg_R} {k : Nat} {x : Int32} : (sI M r k x).1 r = upd (M.1 r) k x := by
  funext j
  simp [sI, upd]
theorem sL_upd {M : eg_H} {r : eg_R} {k : Nat} {x : Int64} : (sL M r k x).2.1 r = vp_updL (M.2.1 r) k x := by
  funext j
  simp [sL, vp_updL]
/-! what stands outside the world and never changes: the texts of the program, statics of the JDK -/
def eg_wt : String := "station pan cold guest wants pass again close law may heap leave eats or and not want room here age line late size taken "
def eg_wb : List Int32 := [115, 116, 97, 116, 105, 111, 110, 32, 112, 97, 110, 32, 99, 111, 108, 100, 32, 103, 117, 101, 115, 116, 32, 119, 97, 110, 116, 115, 32, 112, 97, 115, 115, 32, 97, 103, 97, 105, 110, 32, 99, 108, 111, 115, 101, 32, 108, 97, 119, 32, 109, 97, 121, 32, 104, 101, 97, 112, 32, 108, 101, 97, 118, 101, 32, 101, 97, 116, 115, 32, 111, 114, 32, 97, 110, 100, 32, 110, 111, 116, 32, 119, 97, 110, 116, 32, 114, 111, 111, 109, 32, 104, 101, 114, 101, 32, 97, 103, 101, 32, 108, 105, 110, 101, 32, 108, 97, 116, 101, 32, 115, 105, 122, 101, 32, 116, 97, 107, 101, 110, 32]
def eg_Z (κ : eg_K) (A : Nat → Prop) (U : State) (H : Heap) : Prop :=
  (vk_R "EggTrays$Tokens" 47 eg_wt (kad κ (200, 0)) U ∧ vk_R "EggTrays" 138 "no such guest" (kad κ (200, 1)) U ∧ vk_R "EggTrays" 185 "no such what" (kad κ (200, 2)) U) ∧
  vk_S 1 [121] [eg_wb] (fun i => kad κ (200, i)) (fun i => kad κ (201, i)) A U H ∧ va_Z "java/lang/String" "COMPACT_STRINGS" "Z" (.int 1) A U H ∧
  va_Zq "java/lang/Throwable" "UNASSIGNED_STACK" "[Ljava/lang/StackTraceElement;" A U H ∧ va_Zq "java/lang/Throwable" "SUPPRESSED_SENTINEL" "Ljava/util/List;" A U H ∧ va_Zq "jdk/internal/util/Preconditions" "SIOOBE_FORMATTER" "Ljava/util/function/BiFunction;" A U H
theorem eg_Z.kept {κ : eg_K} {A : Nat → Prop} {U : State} {H H1 : Heap} (h : eg_Z κ A U H) (hq : ∀ a : Nat, a < H.size → ¬ A a → H1[a]? = H[a]?) : eg_Z κ A U H1 :=
  ⟨h.1, h.2.1.kept hq, h.2.2.1.kept hq, h.2.2.2.1.kept hq, h.2.2.2.2.1.kept hq, h.2.2.2.2.2.kept hq⟩
theorem eg_Z.warm {κ : eg_K} {A : Nat → Prop} {s U : State} {H : Heap} (hW : s.WarmedH U.vm) (h : eg_Z κ A s H) : eg_Z κ A U H :=
  ⟨⟨h.1.1.warm hW, h.1.2.1.warm hW, h.1.2.2.warm hW⟩, h.2.1.moved hW.alike, h.2.2.1.moved hW.alike, h.2.2.2.1.moved hW.alike, h.2.2.2.2.1.moved hW.alike, h.2.2.2.2.2.moved hW.alike⟩
theorem eg_Z.same {κ : eg_K} {A : Nat → Prop} {s U : State} {H : Heap} (hv : U.vm = s.vm) (h : eg_Z κ A s H) : eg_Z κ A U H :=
  ⟨⟨h.1.1.same hv, h.1.2.1.same hv, h.1.2.2.same hv⟩, h.2.1.moved (hv ▸ Vm.Alike.refl s.vm), h.2.2.1.moved (hv ▸ Vm.Alike.refl s.vm), h.2.2.2.1.moved (hv ▸ Vm.Alike.refl s.vm), h.2.2.2.2.1.moved (hv ▸ Vm.Alike.refl s.vm), h.2.2.2.2.2.moved (hv ▸ Vm.Alike.refl s.vm)⟩
/-! methods: name, code, locals, answer -/
abbrev eg_M : Type := MethodName × ByteArray × Nat × Option FieldType
def eg_T : List Cond := lw_tbl.filter goodWord
def eg_w (mt : eg_M) : List Cond := Cond.code mt.1 mt.2.1 mt.2.2.1 mt.2.2.2 :: eg_T
theorem eg_T_of {w : Cond} {i : Nat} (h : lw_tbl[i]? = some w) (hg : goodWord w = true) : w ∈ eg_T := List.mem_filter.mpr ⟨List.mem_of_getElem? h, hg⟩
theorem eg_T_good {w : Cond} (h : w ∈ eg_T) : (w.onTables && w.keeps) = true ∨ ∃ ty, w = .arrayClass ty := good_of_word (List.mem_filter.mp h).2
def eg_rm (d : Nat) : Room := { frames := d, cells := 0, slots := 0, locals := 40 * d }
def eg_Cx (κ : eg_K) (G : eg_G) (mt : eg_M) (p : Program) (s : State) (m : MethodId) (args : Array Value) (meth : Method) (c : Code) : Prop :=
  p.tables.exec = Jvm.exec ∧ c.code = mt.2.1 ∧ meth.sig.returnType = mt.2.2.2 ∧ c.maxLocals = mt.2.2.1 ∧ s.vm.findClass mt.1.cls = some m.cls ∧ (∀ w ∈ eg_w mt, w.before args s = true) ∧ meth.locks = false ∧ va_K (kD κ) vwCl (eg_tys κ) s ∧ eg_ok κ G ∧ eg_Z κ (eg_A κ G) s s.heap
/-- from here on the method comes to its end with Qc -/
def eg_W (κ : eg_K) (G : eg_G) (mt : eg_M) (d : Nat) (Qc : Array Value → State → Outcome → State → Prop) (pc : Nat) (ls : List (Nat × eg_V)) (st : List eg_V) (M : eg_H) : Prop :=
  ∀ (p : Program) (e : Env) (s : State) (m : MethodId) (args : Array Value) (below : List Frame) (meth : Method) (c : Code) (H : Heap) (locs : List Loc) (la : Array Slot),
    eg_Cx κ G mt p s m args meth c → lv_has la mt.2.2.1 (ls.map (fun q => (q.1, eg_tr κ q.2))) → va_P (kD κ) vwCl (eg_ws κ G M) H → va_S (eg_A κ G) s.heap H locs →
    W p κ.1 e (eg_rm d) s m args below meth c H locs 0 0 (MQ below Qc args s 0 0 (eg_A κ G)) (F0 m pc la (st.map (eg_tr κ)))
def eg_B (κ : eg_K) (G : eg_G) (u : eg_H) (t : State) : Prop := va_P (kD κ) vwCl (eg_ws κ G u) t.heap ∧ va_K (kD κ) vwCl (eg_tys κ) t
abbrev eQI (κ : eg_K) (G : eg_G) (post : Int32 → eg_H → Prop) : Array Value → State → Outcome → State → Prop := va_Qi post (eg_B κ G) (eg_A κ G)
abbrev eQL (κ : eg_K) (G : eg_G) (post : Int64 → eg_H → Prop) : Array Value → State → Outcome → State → Prop := va_Ql post (eg_B κ G) (eg_A κ G)
abbrev eQV (κ : eg_K) (G : eg_G) (post : eg_H → Prop) : Array Value → State → Outcome → State → Prop := va_Qv post (eg_B κ G) (eg_A κ G)
def eg_P (κ : eg_K) (G : eg_G) (av : List eg_V) (M : eg_H) : Array Value → State → Prop := va_Pc (av.map (eg_tr κ)) (fun U => va_P (kD κ) vwCl (eg_ws κ G M) U.heap ∧ va_K (kD κ) vwCl (eg_tys κ) U ∧ eg_Z κ (eg_A κ G) U U.heap)
/-- a method's contract, at these arguments and this heap -/
def eg_S (κ : eg_K) (G : eg_G) (mt : eg_M) (d : Nat) (av : List eg_V) (M : eg_H) (Qc : Array Value → State → Outcome → State → Prop) : Prop :=
  eg_ok κ G → Met κ.1 mt.1 (eg_w mt) (eg_rm d) (eg_P κ G av M) Qc 0 0 (eg_A κ G)
def eg_la : Nat → List eg_V → List (Nat × eg_V)
  | _, [] => []
  | i, v :: vs => (i, v) :: eg_la (i + eg_cat v) vs
theorem eg_la_tr (κ : eg_K) : ∀ (vs : List eg_V) (i : Nat), (eg_la i vs).map (fun q => (q.1, eg_tr κ q.2)) = lv_args i (vs.map (eg_tr κ))
  | [], _ => rfl
  | v :: vs, i => by
    show (i, eg_tr κ v) :: (eg_la (i + eg_cat v) vs).map (fun q => (q.1, eg_tr κ q.2)) = (i, eg_tr κ v) :: lv_args (if (eg_tr κ v).category = 2 then i + 2 else i + 1) (vs.map (eg_tr κ))
    rw [eg_la_tr κ vs, eg_cat_tr]
    rcases v with x | x | x <;> rfl
theorem eg_sl_len (κ : eg_K) : ∀ (vs : List eg_V), (lg_sl (vs.map (eg_tr κ))).length = (vs.map eg_cat).sum
  | [] => rfl
  | v :: vs => by
    have ih := eg_sl_len κ vs
    simp only [List.map_cons, List.sum_cons]
    rw [← ih]
    unfold lg_sl
    rw [List.flatMap_cons, List.length_append, eg_cat_tr]
    rcases v with x | x | x <;> rfl
theorem eg_S.of {κ : eg_K} {G : eg_G} {mt : eg_M} {d : Nat} {av : List eg_V} {M : eg_H} {Qc : Array Value → State → Outcome → State → Prop} (hy : plainName mt.1.cls = true) (hn : (av.map eg_cat).sum ≤ mt.2.2.1) (k : eg_W κ G mt d Qc 0 (eg_la 0 av) [] M) : eg_S κ G mt d av M Qc := by
  intro hok
  refine Met.ofW (cc := mt.2.1) (maxL := mt.2.2.1) (ret := mt.2.2.2) hy rfl ?_
  intro p e s m args below meth c s₁ B hml hv
  obtain ⟨rfl, hP, hK, hZ⟩ := hv
  have hts := atoms_spec (ws := eg_w mt) B.pre
  have hown : s.vm.findClass mt.1.cls = some m.cls := findClass_of_methodNamed B.named
  have hl := lv_entry (av.map (eg_tr κ)) (n := mt.2.2.1) (by rw [eg_sl_len]; exact hn)
  rw [lg_entry_eq]
  rw [← eg_la_tr] at hl
  exact k p e s m _ below meth c s.heap [] _ ⟨B.exec, B.bytes, B.returns, hml, hown, hts, B.notSynchronized, hK, hok, hZ⟩ hl hP va_S.rf
theorem eg_S.mono {κ : eg_K} {G : eg_G} {mt : eg_M} {d : Nat} {av : List eg_V} {M : eg_H} {Q1 Q2 : Array Value → State → Outcome → State → Prop} (h : eg_S κ G mt d av M Q1) (e : Q1 = Q2) : eg_S κ G mt d av M Q2 := e ▸ h
