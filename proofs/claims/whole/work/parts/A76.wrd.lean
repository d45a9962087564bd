/-! THE WORDS OF THE TWO EXCEPTIONS THAT look THROWS -/
def nwA : Cond := .castable "java/lang/IndexOutOfBoundsException" "java/lang/IndexOutOfBoundsException"
def nwB : Cond := .castable "java/util/NoSuchElementException" "java/util/NoSuchElementException"
def nwD (c : String) : Cond := .declares (Bundle.initS c)
def nwK (U : State) : Prop := va_Nw nwA U ∧ va_Nw nwB U ∧ va_Nw (nwD "java/lang/RuntimeException") U ∧ va_Nw (nwD "java/lang/Exception") U ∧ va_Nw (nwD "java/lang/Throwable") U
theorem nwK.warm {s U : State} (hW : s.WarmedH U.vm) (h : nwK s) : nwK U := ⟨va_Nw.warmC hW h.1, va_Nw.warmC hW h.2.1, va_Nw.warmD hW h.2.2.1, va_Nw.warmD hW h.2.2.2.1, va_Nw.warmD hW h.2.2.2.2⟩
theorem nwK.same {s U : State} (hv : s.vm = U.vm) (h : nwK s) : nwK U := ⟨va_Nw.same rfl hv h.1, va_Nw.same rfl hv h.2.1, va_Nw.same rfl hv h.2.2.1, va_Nw.same rfl hv h.2.2.2.1, va_Nw.same rfl hv h.2.2.2.2⟩
theorem nwK.of {s : State} {a : Array Value} (hts : ∀ w ∈ lw_tbl, w.before a s = true) : nwK s := ⟨va_Nw.of rfl (hts _ (lt_5 (i := 191) (by decide +kernel))), va_Nw.of rfl (hts _ (lt_6 (i := 18) (by decide +kernel))), va_Nw.of rfl (hts _ (lt_5 (i := 193) (by decide +kernel))), va_Nw.of rfl (hts _ (lt_5 (i := 195) (by decide +kernel))), va_Nw.of rfl (hts _ (lt_5 (i := 197) (by decide +kernel)))⟩
theorem isR_of {C n d : String} {A : Nat → Prop} {U : State} {args : Array Value} (h : va_Zq C n d A U U.heap) : (Cond.isRef (.static C n d)).before args U = true := by
  rcases h with ⟨cf, kf, fi, f, a, cell, h1, h2, h3, h4, h5, h6, h7, -⟩ | ⟨t, cf, kf, fi, f, a, cell, h1, h2, h3, h4, h5, h6, h7, -⟩
  · have he : (Term.static C n d).eval args U none [] U = some .null := by simp [Term.eval, State.fieldNamed?, h1, h2, h4, h5, h6, h7]
    simp [Cond.before, Cond.holds, Cond.value, he]
  · have he : (Term.static C n d).eval args U none [] U = some (.ref t) := by simp [Term.eval, State.fieldNamed?, h1, h2, h4, h5, h6, h7]
    simp [Cond.before, Cond.holds, Cond.value, he]
def lsW (n d : String) (U : State) : Prop := (Cond.laysStatic Bundle.tN n d).before #[] U = true
theorem lsW.mv {n d : String} {s U : State} {A A2 : Array Value} (hv : s.vm.Alike U.vm) (hh : ∀ q : Nat, q < s.heap.size → U.heap[q]? = s.heap[q]?) (h : (Cond.laysStatic Bundle.tN n d).before A s = true) : (Cond.laysStatic Bundle.tN n d).before A2 U = true := by
  obtain ⟨c, k, i, f, a, cell, hc, hi, hst, ha, hcell, hs, hcls, hlt, hty⟩ := Cond.laysStatic_spec h
  obtain ⟨k1, hi1, hek⟩ := State.fieldFound?_setVm hv hi
  have hi2 : U.fieldFound? Bundle.tN n d = some (c, k1, i, f) := hi1
  exact Cond.laysStatic_of (s := U) (by rw [hv.findClass]; exact hc) hi2 hst (by rw [hek]; exact ha) (by rw [hh a (Array.getElem?_eq_some_iff.mp hcell).1]; exact hcell) hs hcls hlt (by rw [hek]; exact hty)
/-- what the two throws need beside the words that stay: castable, declares, two statics laid -/
def exK (U : State) : Prop := nwK U ∧ lsW "UNASSIGNED_STACK" Bundle.steD U ∧ lsW "SUPPRESSED_SENTINEL" Bundle.listD U
theorem exK.mv {s U : State} (hW : s.WarmedH U.vm) (hh : ∀ q : Nat, q < s.heap.size → U.heap[q]? = s.heap[q]?) (h : exK s) : exK U := ⟨h.1.warm hW, lsW.mv hW.alike hh h.2.1, lsW.mv hW.alike hh h.2.2⟩
theorem exK.same {s U : State} (hv : s.vm = U.vm) (hh : U.heap = s.heap) (h : exK s) : exK U := ⟨h.1.same hv, lsW.mv (hv ▸ Vm.Alike.refl s.vm) (fun q _ => by rw [hh]) h.2.1, lsW.mv (hv ▸ Vm.Alike.refl s.vm) (fun q _ => by rw [hh]) h.2.2⟩
theorem exK.of {s : State} {a : Array Value} (hts : ∀ w ∈ lw_tbl, w.before a s = true) : exK s := ⟨nwK.of hts, lsW.mv (Vm.Alike.refl s.vm) (fun _ _ => rfl) (hts _ (lt_5 (i := 216) (by decide +kernel))), lsW.mv (Vm.Alike.refl s.vm) (fun _ _ => rfl) (hts _ (lt_5 (i := 218) (by decide +kernel)))⟩
theorem fa_c {P : Cond → Prop} {x : Cond} {l : List Cond} (h : P x) (k : ∀ a ∈ l, P a) : ∀ a ∈ x :: l, P a := List.forall_mem_cons.mpr ⟨h, k⟩
theorem fa_n {P : Cond → Prop} : ∀ a ∈ ([] : List Cond), P a := fun _ h => by cases h
set_option maxRecDepth 4000 in
theorem thI {s : State} {args : Array Value} {κ : eg_K} {A : Nat → Prop} (hT : ∀ w ∈ eg_T, w.before args s = true) (hx : exK s) (hZ : eg_Z κ A s s.heap) : ∀ a ∈ thrA "EggTrays" 140 "java/lang/IndexOutOfBoundsException" "java/lang/RuntimeException" 7 prog_18_method_2_code ["java/lang/Exception"], a.before args s = true :=
  fa_c (hT _ (eg_t1 (i := 18) (by decide +kernel) rfl)) <|
  fa_c (hT _ (eg_t5 (i := 211) (by decide +kernel) rfl)) <|
  fa_c (hT _ (eg_t5 (i := 220) (by decide +kernel) rfl)) <|
  fa_c (hT _ (eg_t5 (i := 223) rfl rfl)) <|
  fa_c (hT _ (eg_t5 (i := 226) (by decide +kernel) rfl)) <|
  fa_c (hT _ (eg_t5 (i := 228) (by decide +kernel) rfl)) <|
  fa_c (hT _ (eg_t5 (i := 212) (by decide +kernel) rfl)) <|
  fa_c (hT _ (eg_t5 (i := 213) rfl rfl)) <|
  fa_c (hT _ (eg_t1 (i := 30) (by decide +kernel) rfl)) <|
  fa_c (hT _ (eg_t1 (i := 31) rfl rfl)) <|
  fa_c (hT _ (eg_t5 (i := 214) (by decide +kernel) rfl)) <|
  fa_c (hT _ (eg_t5 (i := 219) (by decide +kernel) rfl)) <|
  fa_c (hT _ (eg_t5 (i := 224) (by decide +kernel) rfl)) <|
  fa_c (hT _ (eg_t6 (i := 4) (by decide +kernel) rfl)) <|
  fa_c (hT _ (eg_t5 (i := 201) (by decide +kernel) rfl)) <|
  fa_c (hT _ (eg_t6 (i := 5) (by decide +kernel) rfl)) <|
  fa_c (hT _ (eg_t5 (i := 203) (by decide +kernel) rfl)) <|
  fa_c (hT _ (eg_t6 (i := 6) (by decide +kernel) rfl)) <|
  fa_c (hT _ (eg_t5 (i := 205) (by decide +kernel) rfl)) <|
  fa_c (hT _ (eg_t5 (i := 215) (by decide +kernel) rfl)) <|
  fa_c (lsW.mv (Vm.Alike.refl s.vm) (fun _ _ => rfl) hx.2.1) <|
  fa_c (hT _ (eg_t5 (i := 217) (by decide +kernel) rfl)) <|
  fa_c (lsW.mv (Vm.Alike.refl s.vm) (fun _ _ => rfl) hx.2.2) <|
  fa_c (hT _ (eg_t5 (i := 207) (by decide +kernel) rfl)) <|
  fa_c (hT _ (eg_t6 (i := 0) (by decide +kernel) rfl)) <|
  fa_c (hT _ (eg_t6 (i := 1) rfl rfl)) <|
  fa_c (hT _ (eg_t6 (i := 3) (by decide +kernel) rfl)) <|
  fa_c (hT _ (eg_t5 (i := 207) (by decide +kernel) rfl)) <|
  fa_c (hT _ (eg_t5 (i := 231) (by decide +kernel) rfl)) <|
  fa_c (hT _ (eg_t5 (i := 232) rfl rfl)) <|
  fa_c (hT _ (eg_t5 (i := 233) (by decide +kernel) rfl)) <|
  fa_c (hT _ (eg_t5 (i := 234) (by decide +kernel) rfl)) <|
  fa_c (va_Nw.use rfl hx.1.2.2.1) <|
  fa_c (hT _ (eg_t5 (i := 234) (by decide +kernel) rfl)) <|
  fa_c (hT _ (eg_t5 (i := 235) rfl rfl)) <|
  fa_c (hT _ (eg_t5 (i := 236) (by decide +kernel) rfl)) <|
  fa_c (hT _ (eg_t5 (i := 237) (by decide +kernel) rfl)) <|
  fa_c (va_Nw.use rfl hx.1.2.2.2.1) <|
  fa_c (hT _ (eg_t5 (i := 237) (by decide +kernel) rfl)) <|
  fa_c (hT _ (eg_t5 (i := 238) rfl rfl)) <|
  fa_c (hT _ (eg_t5 (i := 239) (by decide +kernel) rfl)) <|
  fa_c (hT _ (eg_t6 (i := 0) (by decide +kernel) rfl)) <|
  fa_c (va_Nw.use rfl hx.1.2.2.2.2) <|
  fa_c (hT _ (eg_t5 (i := 230) (by decide +kernel) rfl)) <|
  fa_c (hT _ (eg_t5 (i := 190) (by decide +kernel) rfl)) <|
  fa_c (va_Nw.use rfl hx.1.1) <|
  fa_c (hT _ (eg_t5 (i := 198) (by decide +kernel) rfl)) <|
  fa_c (hT _ (eg_t5 (i := 199) (by decide +kernel) rfl)) <|
  fa_c (hT _ (eg_t5 (i := 200) (by decide +kernel) rfl)) <|
  fa_c (hT _ (eg_t5 (i := 202) (by decide +kernel) rfl)) <|
  fa_c (hT _ (eg_t5 (i := 204) (by decide +kernel) rfl)) <|
  fa_c (hT _ (eg_t5 (i := 206) (by decide +kernel) rfl)) <|
  fa_c (isR_of hZ.2.2.2.1) <|
  fa_c (isR_of hZ.2.2.2.2.1) <|
  fa_c (hT _ (eg_t5 (i := 210) (by decide +kernel) rfl)) <|
  fa_c (hT _ (eg_t5 (i := 209) (by decide +kernel) rfl)) <|
  fa_c (hT _ (eg_t5 (i := 208) (by decide +kernel) rfl)) <|
  fa_n
theorem dbI_0 : decode prog_18_method_2_code 0 = .ok (.aload_n 0, 1) := by decide +kernel
theorem dbI_1 : decode prog_18_method_2_code 1 = .ok (.aload_n 1, 1) := by decide +kernel
theorem dbI_2 : decode prog_18_method_2_code 2 = .ok (.invokespecial 7, 3) := by decide +kernel
theorem dbI_5 : decode prog_18_method_2_code 5 = .ok (.return_, 1) := by decide +kernel
set_option maxRecDepth 4000 in
theorem thN {s : State} {args : Array Value} {κ : eg_K} {A : Nat → Prop} (hT : ∀ w ∈ eg_T, w.before args s = true) (hx : exK s) (hZ : eg_Z κ A s s.heap) : ∀ a ∈ thrA "EggTrays" 187 "java/util/NoSuchElementException" "java/lang/RuntimeException" 13 prog_28_method_4_code ["java/lang/Exception"], a.before args s = true :=
  fa_c (hT _ (eg_t1 (i := 18) (by decide +kernel) rfl)) <|
  fa_c (hT _ (eg_t5 (i := 211) (by decide +kernel) rfl)) <|
  fa_c (hT _ (eg_t5 (i := 220) (by decide +kernel) rfl)) <|
  fa_c (hT _ (eg_t5 (i := 223) rfl rfl)) <|
  fa_c (hT _ (eg_t5 (i := 226) (by decide +kernel) rfl)) <|
  fa_c (hT _ (eg_t5 (i := 228) (by decide +kernel) rfl)) <|
  fa_c (hT _ (eg_t5 (i := 212) (by decide +kernel) rfl)) <|
  fa_c (hT _ (eg_t5 (i := 213) rfl rfl)) <|
  fa_c (hT _ (eg_t1 (i := 30) (by decide +kernel) rfl)) <|
  fa_c (hT _ (eg_t1 (i := 31) rfl rfl)) <|
  fa_c (hT _ (eg_t5 (i := 214) (by decide +kernel) rfl)) <|
  fa_c (hT _ (eg_t5 (i := 219) (by decide +kernel) rfl)) <|
  fa_c (hT _ (eg_t5 (i := 224) (by decide +kernel) rfl)) <|
  fa_c (hT _ (eg_t6 (i := 4) (by decide +kernel) rfl)) <|
  fa_c (hT _ (eg_t5 (i := 201) (by decide +kernel) rfl)) <|
  fa_c (hT _ (eg_t6 (i := 5) (by decide +kernel) rfl)) <|
  fa_c (hT _ (eg_t5 (i := 203) (by decide +kernel) rfl)) <|
  fa_c (hT _ (eg_t6 (i := 6) (by decide +kernel) rfl)) <|
  fa_c (hT _ (eg_t5 (i := 205) (by decide +kernel) rfl)) <|
  fa_c (hT _ (eg_t5 (i := 215) (by decide +kernel) rfl)) <|
  fa_c (lsW.mv (Vm.Alike.refl s.vm) (fun _ _ => rfl) hx.2.1) <|
  fa_c (hT _ (eg_t5 (i := 217) (by decide +kernel) rfl)) <|
  fa_c (lsW.mv (Vm.Alike.refl s.vm) (fun _ _ => rfl) hx.2.2) <|
  fa_c (hT _ (eg_t5 (i := 207) (by decide +kernel) rfl)) <|
  fa_c (hT _ (eg_t6 (i := 0) (by decide +kernel) rfl)) <|
  fa_c (hT _ (eg_t6 (i := 1) rfl rfl)) <|
  fa_c (hT _ (eg_t6 (i := 3) (by decide +kernel) rfl)) <|
  fa_c (hT _ (eg_t5 (i := 207) (by decide +kernel) rfl)) <|
  fa_c (hT _ (eg_t6 (i := 27) (by decide +kernel) rfl)) <|
  fa_c (hT _ (eg_t6 (i := 28) rfl rfl)) <|
  fa_c (hT _ (eg_t6 (i := 29) (by decide +kernel) rfl)) <|
  fa_c (hT _ (eg_t5 (i := 234) (by decide +kernel) rfl)) <|
  fa_c (va_Nw.use rfl hx.1.2.2.1) <|
  fa_c (hT _ (eg_t5 (i := 234) (by decide +kernel) rfl)) <|
  fa_c (hT _ (eg_t5 (i := 235) rfl rfl)) <|
  fa_c (hT _ (eg_t5 (i := 236) (by decide +kernel) rfl)) <|
  fa_c (hT _ (eg_t5 (i := 237) (by decide +kernel) rfl)) <|
  fa_c (va_Nw.use rfl hx.1.2.2.2.1) <|
  fa_c (hT _ (eg_t5 (i := 237) (by decide +kernel) rfl)) <|
  fa_c (hT _ (eg_t5 (i := 238) rfl rfl)) <|
  fa_c (hT _ (eg_t5 (i := 239) (by decide +kernel) rfl)) <|
  fa_c (hT _ (eg_t6 (i := 0) (by decide +kernel) rfl)) <|
  fa_c (va_Nw.use rfl hx.1.2.2.2.2) <|
  fa_c (hT _ (eg_t6 (i := 26) (by decide +kernel) rfl)) <|
  fa_c (hT _ (eg_t6 (i := 17) (by decide +kernel) rfl)) <|
  fa_c (va_Nw.use rfl hx.1.2.1) <|
  fa_c (hT _ (eg_t6 (i := 19) (by decide +kernel) rfl)) <|
  fa_c (hT _ (eg_t5 (i := 222) (by decide +kernel) rfl)) <|
  fa_c (hT _ (eg_t6 (i := 20) (by decide +kernel) rfl)) <|
  fa_c (hT _ (eg_t6 (i := 21) (by decide +kernel) rfl)) <|
  fa_c (hT _ (eg_t6 (i := 22) (by decide +kernel) rfl)) <|
  fa_c (hT _ (eg_t6 (i := 23) (by decide +kernel) rfl)) <|
  fa_c (isR_of hZ.2.2.2.1) <|
  fa_c (isR_of hZ.2.2.2.2.1) <|
  fa_c (hT _ (eg_t5 (i := 210) (by decide +kernel) rfl)) <|
  fa_c (hT _ (eg_t5 (i := 209) (by decide +kernel) rfl)) <|
  fa_c (hT _ (eg_t6 (i := 24) (by decide +kernel) rfl)) <|
  fa_n
theorem dbN_0 : decode prog_28_method_4_code 0 = .ok (.aload_n 0, 1) := by decide +kernel
theorem dbN_1 : decode prog_28_method_4_code 1 = .ok (.aload_n 1, 1) := by decide +kernel
theorem dbN_2 : decode prog_28_method_4_code 2 = .ok (.invokespecial 13, 3) := by decide +kernel
theorem dbN_5 : decode prog_28_method_4_code 5 = .ok (.return_, 1) := by decide +kernel
