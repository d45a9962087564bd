/-! ONE RULE AN INSTRUCTION -/
def eg_tb : Nat → String × u_T
  | 0 => (RX0, TX0) | 1 => (RX1, TX1) | 2 => (RX2, TX2) | 3 => (RX3, TX3) | 4 => (RX4, TX4) | 5 => (RX5, TX5) | 6 => (RX6, TX6) | 7 => (RX7, TX7) | 8 => (RX8, TX8) | 9 => (RX9, TX9) | 10 => (RX10, TX10) | _ => (RX11, TX11)
theorem eg_12 {P : Nat → Prop} (h0 : P 0) (h1 : P 1) (h2 : P 2) (h3 : P 3) (h4 : P 4) (h5 : P 5) (h6 : P 6) (h7 : P 7) (h8 : P 8) (h9 : P 9) (h10 : P 10) (h11 : P 11) (ci : Nat) (h : ci < 12) : P ci := by
  rcases (by omega : ci = 0 ∨ ci = 1 ∨ ci = 2 ∨ ci = 3 ∨ ci = 4 ∨ ci = 5 ∨ ci = 6 ∨ ci = 7 ∨ ci = 8 ∨ ci = 9 ∨ ci = 10 ∨ ci = 11) with rfl | rfl | rfl | rfl | rfl | rfl | rfl | rfl | rfl | rfl | rfl | rfl <;> assumption
theorem eg_cl (ci : Nat) (h : ci < 12) : vwCl[ci]? = some ((eg_tb ci).1, (eg_tb ci).2, eg_nf ci) := eg_12 (P := fun ci => vwCl[ci]? = some ((eg_tb ci).1, (eg_tb ci).2, eg_nf ci)) rfl rfl rfl rfl rfl rfl rfl rfl rfl rfl rfl rfl ci h
theorem eg_tyk (ci : Nat) (h : ci < 12) : ∀ k, k < eg_nf ci → parseFieldDescriptor ((eg_tb ci).2 k).2.2.1 = some (eg_ty ci k) := eg_12 (P := fun ci => ∀ k, k < eg_nf ci → parseFieldDescriptor ((eg_tb ci).2 k).2.2.1 = some (eg_ty ci k)) tyX0_ok tyX1_ok tyX2_ok tyX3_ok tyX4_ok tyX5_ok tyX6_ok tyX7_ok tyX8_ok tyX9_ok tyX10_ok tyX11_ok ci h
theorem eg_nmk (ci : Nat) (h : ci < 12) : ∀ a, a < eg_nf ci → ∀ b, b < eg_nf ci → a ≠ b → ((eg_tb ci).2 a).2.1 ≠ ((eg_tb ci).2 b).2.1 := eg_12 (P := fun ci => ∀ a, a < eg_nf ci → ∀ b, b < eg_nf ci → a ≠ b → ((eg_tb ci).2 a).2.1 ≠ ((eg_tb ci).2 b).2.1) nmX0 nmX1 nmX2 nmX3 nmX4 nmX5 nmX6 nmX7 nmX8 nmX9 nmX10 nmX11 ci h
/-- a field that an entry of a class's pool names -/
def eg_FL (own : String) (idx ci k : Nat) : Prop := ci < 12 ∧ k < eg_nf ci ∧ Cond.fieldLink own idx ((eg_tb ci).2 k).1 ((eg_tb ci).2 k).2.1 ((eg_tb ci).2 k).2.2.1 ∈ eg_T
def eg_Ob (G : eg_G) (r : eg_R) (ci : Nat) : Prop := r ∈ G.1 ∧ G.2.1 r = (0, ci)
def eg_Ar (G : eg_G) (r : eg_R) (t : Nat) (i : Int32) : Prop := r ∈ G.1 ∧ (G.2.1 r).1 = t + 1 ∧ vp_in i (G.2.1 r).2
theorem eg_cel_ob {κ : eg_K} {G : eg_G} {M : eg_H} {r : eg_R} {ci : Nat} (h : G.2.1 r = (0, ci)) : eg_cel κ G M r = .inr (ci, (List.range (eg_nf ci)).map (eg_fv κ G M r ci)) := by
  unfold eg_cel
  rw [h]
  rfl
theorem eg_cel_ar {κ : eg_K} {G : eg_G} {M : eg_H} {r : eg_R} {t : Nat} (h : (G.2.1 r).1 = t + 1) : eg_cel κ G M r = eg_arr κ G M r t (G.2.1 r).2 := by
  unfold eg_cel
  rw [if_neg (by omega), h]
  rfl
theorem eg_fs_get {N k : Nat} {f : Nat → Value} {v : Value} (hk : k < N) (hv : f k = v) : ((List.range N).map f)[k]? = some v := by
  rw [List.getElem?_map, List.getElem?_range hk]
  exact congrArg some hv
theorem eg_fs_set {N k : Nat} {f f1 : Nat → Value} {v : Value} (ho : ∀ j, j ≠ k → f1 j = f j) (hv : f1 k = v) : (List.range N).map f1 = ((List.range N).map f).set k v := by
  apply List.ext_getElem?
  intro j
  rw [List.getElem?_set, List.getElem?_map]
  by_cases hj : k = j
  · subst hj
    rw [if_pos rfl]
    by_cases hN : k < N
    · rw [if_pos (by simpa using hN), List.getElem?_range hN]
      exact congrArg some hv
    · rw [if_neg (by simpa using hN), List.getElem?_eq_none (by simpa using hN)]
      rfl
  · rw [if_neg hj, List.getElem?_map]
    cases hg : (List.range N)[j]? with
    | none => rfl
    | some z =>
      have hz : z = j := by
        obtain ⟨h1, h2⟩ := List.getElem?_eq_some_iff.mp hg
        rw [List.getElem_range] at h2
        exact h2.symm
      subst hz
      exact congrArg some (ho z (fun e => hj e.symm))
section EGR
variable {κ : eg_K} {G : eg_G} {mt : eg_M} {d : Nat} {Qc : Array Value → State → Outcome → State → Prop} {pc : Nat} {ls : List (Nat × eg_V)} {st : List eg_V} {M : eg_H}
theorem eg_iadd {x y : Int32} (hd : decode mt.2.1 pc = .ok (.iadd, 1)) (k : eg_W κ G mt d Qc (pc + 1) ls (vI (x + y) :: st) M) : eg_W κ G mt d Qc pc ls (vI y :: vI x :: st) M := by
  intro p e s m args below meth c H locs la C hl hP hS
  exact lv_iadd C.1 C.2.1 hd (k p e s m args below meth c H locs la C hl hP hS)
theorem eg_isub {x y : Int32} (hd : decode mt.2.1 pc = .ok (.isub, 1)) (k : eg_W κ G mt d Qc (pc + 1) ls (vI (x - y) :: st) M) : eg_W κ G mt d Qc pc ls (vI y :: vI x :: st) M := by
  intro p e s m args below meth c H locs la C hl hP hS
  exact lv_isub C.1 C.2.1 hd (k p e s m args below meth c H locs la C hl hP hS)
theorem eg_imul {x y : Int32} (hd : decode mt.2.1 pc = .ok (.imul, 1)) (k : eg_W κ G mt d Qc (pc + 1) ls (vI (x * y) :: st) M) : eg_W κ G mt d Qc pc ls (vI y :: vI x :: st) M := by
  intro p e s m args below meth c H locs la C hl hP hS
  exact lv_imul C.1 C.2.1 hd (k p e s m args below meth c H locs la C hl hP hS)
theorem eg_iand {x y : Int32} (hd : decode mt.2.1 pc = .ok (.iand, 1)) (k : eg_W κ G mt d Qc (pc + 1) ls (vI (x &&& y) :: st) M) : eg_W κ G mt d Qc pc ls (vI y :: vI x :: st) M := by
  intro p e s m args below meth c H locs la C hl hP hS
  exact lv_iand C.1 C.2.1 hd (k p e s m args below meth c H locs la C hl hP hS)
theorem eg_ior {x y : Int32} (hd : decode mt.2.1 pc = .ok (.ior, 1)) (k : eg_W κ G mt d Qc (pc + 1) ls (vI (x ||| y) :: st) M) : eg_W κ G mt d Qc pc ls (vI y :: vI x :: st) M := by
  intro p e s m args below meth c H locs la C hl hP hS
  exact lv_ior C.1 C.2.1 hd (k p e s m args below meth c H locs la C hl hP hS)
theorem eg_ixor {x y : Int32} (hd : decode mt.2.1 pc = .ok (.ixor, 1)) (k : eg_W κ G mt d Qc (pc + 1) ls (vI (x ^^^ y) :: st) M) : eg_W κ G mt d Qc pc ls (vI y :: vI x :: st) M := by
  intro p e s m args below meth c H locs la C hl hP hS
  exact lv_ixor C.1 C.2.1 hd (k p e s m args below meth c H locs la C hl hP hS)
theorem eg_ishl {x y : Int32} (hd : decode mt.2.1 pc = .ok (.ishl, 1)) (k : eg_W κ G mt d Qc (pc + 1) ls (vI (x <<< (y &&& 31)) :: st) M) : eg_W κ G mt d Qc pc ls (vI y :: vI x :: st) M := by
  intro p e s m args below meth c H locs la C hl hP hS
  exact lv_ishl C.1 C.2.1 hd (k p e s m args below meth c H locs la C hl hP hS)
theorem eg_ishr {x y : Int32} (hd : decode mt.2.1 pc = .ok (.ishr, 1)) (k : eg_W κ G mt d Qc (pc + 1) ls (vI (x >>> (y &&& 31)) :: st) M) : eg_W κ G mt d Qc pc ls (vI y :: vI x :: st) M := by
  intro p e s m args below meth c H locs la C hl hP hS
  exact lv_ishr C.1 C.2.1 hd (k p e s m args below meth c H locs la C hl hP hS)
theorem eg_irem {x y : Int32} (hd : decode mt.2.1 pc = .ok (.irem, 1)) (hne : ¬ y = 0) (k : eg_W κ G mt d Qc (pc + 1) ls (vI (x - x / y * y) :: st) M) : eg_W κ G mt d Qc pc ls (vI y :: vI x :: st) M := by
  intro p e s m args below meth c H locs la C hl hP hS
  exact lv_irem C.1 C.2.1 hd hne (k p e s m args below meth c H locs la C hl hP hS)
theorem eg_ladd {x y : Int64} (hd : decode mt.2.1 pc = .ok (.ladd, 1)) (k : eg_W κ G mt d Qc (pc + 1) ls (vL (x + y) :: st) M) : eg_W κ G mt d Qc pc ls (vL y :: vL x :: st) M := by
  intro p e s m args below meth c H locs la C hl hP hS
  exact lv_ladd C.1 C.2.1 hd (k p e s m args below meth c H locs la C hl hP hS)
theorem eg_lsub {x y : Int64} (hd : decode mt.2.1 pc = .ok (.lsub, 1)) (k : eg_W κ G mt d Qc (pc + 1) ls (vL (x - y) :: st) M) : eg_W κ G mt d Qc pc ls (vL y :: vL x :: st) M := by
  intro p e s m args below meth c H locs la C hl hP hS
  exact lv_lsub C.1 C.2.1 hd (k p e s m args below meth c H locs la C hl hP hS)
theorem eg_lmul {x y : Int64} (hd : decode mt.2.1 pc = .ok (.lmul, 1)) (k : eg_W κ G mt d Qc (pc + 1) ls (vL (x * y) :: st) M) : eg_W κ G mt d Qc pc ls (vL y :: vL x :: st) M := by
  intro p e s m args below meth c H locs la C hl hP hS
  exact lv_lmul C.1 C.2.1 hd (k p e s m args below meth c H locs la C hl hP hS)
theorem eg_land {x y : Int64} (hd : decode mt.2.1 pc = .ok (.land, 1)) (k : eg_W κ G mt d Qc (pc + 1) ls (vL (x &&& y) :: st) M) : eg_W κ G mt d Qc pc ls (vL y :: vL x :: st) M := by
  intro p e s m args below meth c H locs la C hl hP hS
  exact lv_land C.1 C.2.1 hd (k p e s m args below meth c H locs la C hl hP hS)
theorem eg_ldiv {x y : Int64} (hd : decode mt.2.1 pc = .ok (.ldiv, 1)) (hne : ¬ y = 0) (k : eg_W κ G mt d Qc (pc + 1) ls (vL (x / y) :: st) M) : eg_W κ G mt d Qc pc ls (vL y :: vL x :: st) M := by
  intro p e s m args below meth c H locs la C hl hP hS
  exact lv_ldiv C.1 C.2.1 hd hne (k p e s m args below meth c H locs la C hl hP hS)
theorem eg_lrem {x y : Int64} (hd : decode mt.2.1 pc = .ok (.lrem, 1)) (hne : ¬ y = 0) (k : eg_W κ G mt d Qc (pc + 1) ls (vL (x - x / y * y) :: st) M) : eg_W κ G mt d Qc pc ls (vL y :: vL x :: st) M := by
  intro p e s m args below meth c H locs la C hl hP hS
  exact lv_lrem C.1 C.2.1 hd hne (k p e s m args below meth c H locs la C hl hP hS)
theorem eg_lneg {x : Int64} (hd : decode mt.2.1 pc = .ok (.lneg, 1)) (k : eg_W κ G mt d Qc (pc + 1) ls (vL (-x) :: st) M) : eg_W κ G mt d Qc pc ls (vL x :: st) M := by
  intro p e s m args below meth c H locs la C hl hP hS
  exact lv_lneg C.1 C.2.1 hd (k p e s m args below meth c H locs la C hl hP hS)
theorem eg_lcmp {x y : Int64} (hd : decode mt.2.1 pc = .ok (.lcmp, 1)) (k : eg_W κ G mt d Qc (pc + 1) ls (vI (lg_cmp x y) :: st) M) : eg_W κ G mt d Qc pc ls (vL y :: vL x :: st) M := by
  intro p e s m args below meth c H locs la C hl hP hS
  exact W.lcmp C.1 C.2.1 hd (k p e s m args below meth c H locs la C hl hP hS)
theorem eg_i2l {x : Int32} (hd : decode mt.2.1 pc = .ok (.i2l, 1)) (k : eg_W κ G mt d Qc (pc + 1) ls (vL x.toInt64 :: st) M) : eg_W κ G mt d Qc pc ls (vI x :: st) M := by
  intro p e s m args below meth c H locs la C hl hP hS
  exact lv_i2l C.1 C.2.1 hd rfl (k p e s m args below meth c H locs la C hl hP hS)
theorem eg_l2i {x : Int64} (hd : decode mt.2.1 pc = .ok (.l2i, 1)) (k : eg_W κ G mt d Qc (pc + 1) ls (vI x.toInt32 :: st) M) : eg_W κ G mt d Qc pc ls (vL x :: st) M := by
  intro p e s m args below meth c H locs la C hl hP hS
  exact lv_l2i C.1 C.2.1 hd rfl (k p e s m args below meth c H locs la C hl hP hS)
theorem eg_i2b {x : Int32} (hd : decode mt.2.1 pc = .ok (.i2b, 1)) (k : eg_W κ G mt d Qc (pc + 1) ls (vI x.toInt8.toInt32 :: st) M) : eg_W κ G mt d Qc pc ls (vI x :: st) M := by
  intro p e s m args below meth c H locs la C hl hP hS
  exact lv_i2b C.1 C.2.1 hd rfl (k p e s m args below meth c H locs la C hl hP hS)
theorem eg_dup {v : eg_V} (hd : decode mt.2.1 pc = .ok (.dup, 1)) (hc : eg_cat v = 1) (k : eg_W κ G mt d Qc (pc + 1) ls (v :: v :: st) M) : eg_W κ G mt d Qc pc ls (v :: st) M := by
  intro p e s m args below meth c H locs la C hl hP hS
  exact lv_dup C.1 C.2.1 hd (by rw [eg_cat_tr]; exact hc) (k p e s m args below meth c H locs la C hl hP hS)
theorem eg_pop {v : eg_V} (hd : decode mt.2.1 pc = .ok (.pop, 1)) (hc : eg_cat v = 1) (k : eg_W κ G mt d Qc (pc + 1) ls st M) : eg_W κ G mt d Qc pc ls (v :: st) M := by
  intro p e s m args below meth c H locs la C hl hP hS
  exact lv_pop C.1 C.2.1 hd (by rw [eg_cat_tr]; exact hc) (k p e s m args below meth c H locs la C hl hP hS)
theorem eg_dup2 {v w : eg_V} (hd : decode mt.2.1 pc = .ok (.dup2, 1)) (hc : eg_cat v = 1) (hc2 : eg_cat w = 1) (k : eg_W κ G mt d Qc (pc + 1) ls (v :: w :: v :: w :: st) M) : eg_W κ G mt d Qc pc ls (v :: w :: st) M := by
  intro p e s m args below meth c H locs la C hl hP hS
  exact lv_dup2_11 C.1 C.2.1 hd (by rw [eg_cat_tr]; exact hc) (by rw [eg_cat_tr]; exact hc2) (k p e s m args below meth c H locs la C hl hP hS)
theorem eg_iconst {n : Int} {v : Int32} (hd : decode mt.2.1 pc = .ok (.iconst n, 1)) (hv : Int32.ofInt n = v) (k : eg_W κ G mt d Qc (pc + 1) ls (vI v :: st) M) : eg_W κ G mt d Qc pc ls st M := by
  intro p e s m args below meth c H locs la C hl hP hS
  exact lv_iconst C.1 C.2.1 hd hv (k p e s m args below meth c H locs la C hl hP hS)
theorem eg_bipush {n : Int} {v : Int32} (hd : decode mt.2.1 pc = .ok (.bipush n, 2)) (hv : (Int8.ofInt n).toInt32 = v) (k : eg_W κ G mt d Qc (pc + 2) ls (vI v :: st) M) : eg_W κ G mt d Qc pc ls st M := by
  intro p e s m args below meth c H locs la C hl hP hS
  exact lv_bipush C.1 C.2.1 hd hv (k p e s m args below meth c H locs la C hl hP hS)
theorem eg_sipush {n : Int} {v : Int32} (hd : decode mt.2.1 pc = .ok (.sipush n, 3)) (hv : (Int16.ofInt n).toInt32 = v) (k : eg_W κ G mt d Qc (pc + 3) ls (vI v :: st) M) : eg_W κ G mt d Qc pc ls st M := by
  intro p e s m args below meth c H locs la C hl hP hS
  exact lv_sipush C.1 C.2.1 hd hv (k p e s m args below meth c H locs la C hl hP hS)
theorem eg_lconst {n : Fin 2} {v : Int64} (hd : decode mt.2.1 pc = .ok (.lconst n, 1)) (hv : Int64.ofNat n = v) (k : eg_W κ G mt d Qc (pc + 1) ls (vL v :: st) M) : eg_W κ G mt d Qc pc ls st M := by
  intro p e s m args below meth c H locs la C hl hP hS
  exact lv_lconst C.1 C.2.1 hd hv (k p e s m args below meth c H locs la C hl hP hS)
theorem eg_ldc {idx : Nat} {v : Int32} (hd : decode mt.2.1 pc = .ok (.ldc idx, 2)) (hv : Cond.constant mt.1.cls idx v ∈ eg_T) (k : eg_W κ G mt d Qc (pc + 2) ls (vI v :: st) M) : eg_W κ G mt d Qc pc ls st M := by
  intro p e s m args below meth c H locs la C hl hP hS
  exact lv_ldc C.1 C.2.1 C.2.2.2.2.1 (C.2.2.2.2.2.1 _ (List.mem_cons_of_mem _ hv)) hd (k p e s m args below meth c H locs la C hl hP hS)
theorem eg_ldcw {idx : Nat} {v : Int32} (hd : decode mt.2.1 pc = .ok (.ldc_w idx, 3)) (hv : Cond.constant mt.1.cls idx v ∈ eg_T) (k : eg_W κ G mt d Qc (pc + 3) ls (vI v :: st) M) : eg_W κ G mt d Qc pc ls st M := by
  intro p e s m args below meth c H locs la C hl hP hS
  exact lv_ldcw C.1 C.2.1 C.2.2.2.2.1 (C.2.2.2.2.2.1 _ (List.mem_cons_of_mem _ hv)) hd (k p e s m args below meth c H locs la C hl hP hS)
theorem eg_ldc2 {idx : Nat} {v : Int64} (hd : decode mt.2.1 pc = .ok (.ldc2_w idx, 3)) (hv : Cond.constantLong mt.1.cls idx v ∈ eg_T) (k : eg_W κ G mt d Qc (pc + 3) ls (vL v :: st) M) : eg_W κ G mt d Qc pc ls st M := by
  intro p e s m args below meth c H locs la C hl hP hS
  exact lv_ldc2 C.1 C.2.1 C.2.2.2.2.1 (C.2.2.2.2.2.1 _ (List.mem_cons_of_mem _ hv)) hd (k p e s m args below meth c H locs la C hl hP hS)
theorem eg_loc {κ : eg_K} {la : Array Slot} {nL : Nat} {ls : List (Nat × eg_V)} (h : lv_has la nL (ls.map (fun q => (q.1, eg_tr κ q.2)))) {j i : Nat} {v : eg_V} (hj : ls[j]? = some (i, v)) : la[i]? = some (.val (eg_tr κ v)) :=
  lv_at h j (by rw [List.getElem?_map, hj]; rfl)
theorem eg_locf (κ : eg_K) (f : Nat → Nat → Bool) (ls : List (Nat × eg_V)) : (ls.map (fun q => (q.1, eg_tr κ q.2))).filter (fun q => f q.1 q.2.category) = (ls.filter (fun q => f q.1 (eg_cat q.2))).map (fun q => (q.1, eg_tr κ q.2)) := by
  rw [List.filter_map]
  congr 1
  apply List.filter_congr
  intro q _
  show f q.1 (eg_tr κ q.2).category = f q.1 (eg_cat q.2)
  rw [eg_cat_tr]
theorem eg_iload {i : Nat} {x : Int32} (j : Nat) (hd : decode mt.2.1 pc = .ok (.iload i, 2)) (hj : ls[j]? = some (i, vI x)) (k : eg_W κ G mt d Qc (pc + 2) ls (vI x :: st) M) : eg_W κ G mt d Qc pc ls st M := by
  intro p e s m args below meth c H locs la C hl hP hS
  exact lv_iload C.1 C.2.1 hd (eg_loc hl hj) (k p e s m args below meth c H locs la C hl hP hS)
theorem eg_iload_n {i : Nat} {n : Fin 4} {x : Int32} (j : Nat) (hd : decode mt.2.1 pc = .ok (.iload_n n, 1)) (hi : (n : Nat) = i) (hj : ls[j]? = some (i, vI x)) (k : eg_W κ G mt d Qc (pc + 1) ls (vI x :: st) M) : eg_W κ G mt d Qc pc ls st M := by
  intro p e s m args below meth c H locs la C hl hP hS
  exact lv_iload_n C.1 C.2.1 hd hi (eg_loc hl hj) (k p e s m args below meth c H locs la C hl hP hS)
theorem eg_lload {i : Nat} {x : Int64} (j : Nat) (hd : decode mt.2.1 pc = .ok (.lload i, 2)) (hj : ls[j]? = some (i, vL x)) (k : eg_W κ G mt d Qc (pc + 2) ls (vL x :: st) M) : eg_W κ G mt d Qc pc ls st M := by
  intro p e s m args below meth c H locs la C hl hP hS
  exact lv_lload C.1 C.2.1 hd (eg_loc hl hj) (k p e s m args below meth c H locs la C hl hP hS)
theorem eg_lload_n {i : Nat} {n : Fin 4} {x : Int64} (j : Nat) (hd : decode mt.2.1 pc = .ok (.lload_n n, 1)) (hi : (n : Nat) = i) (hj : ls[j]? = some (i, vL x)) (k : eg_W κ G mt d Qc (pc + 1) ls (vL x :: st) M) : eg_W κ G mt d Qc pc ls st M := by
  intro p e s m args below meth c H locs la C hl hP hS
  exact lv_lload_n C.1 C.2.1 hd hi (eg_loc hl hj) (k p e s m args below meth c H locs la C hl hP hS)
theorem eg_aload {i : Nat} {x : eg_R} (j : Nat) (hd : decode mt.2.1 pc = .ok (.aload i, 2)) (hj : ls[j]? = some (i, vR x)) (k : eg_W κ G mt d Qc (pc + 2) ls (vR x :: st) M) : eg_W κ G mt d Qc pc ls st M := by
  intro p e s m args below meth c H locs la C hl hP hS
  exact lv_aload C.1 C.2.1 hd (eg_loc hl hj) (k p e s m args below meth c H locs la C hl hP hS)
theorem eg_aload_n {i : Nat} {n : Fin 4} {x : eg_R} (j : Nat) (hd : decode mt.2.1 pc = .ok (.aload_n n, 1)) (hi : (n : Nat) = i) (hj : ls[j]? = some (i, vR x)) (k : eg_W κ G mt d Qc (pc + 1) ls (vR x :: st) M) : eg_W κ G mt d Qc pc ls st M := by
  intro p e s m args below meth c H locs la C hl hP hS
  exact lv_aload_n C.1 C.2.1 hd hi (eg_loc hl hj) (k p e s m args below meth c H locs la C hl hP hS)
theorem eg_istore {i : Nat} {x : Int32} {ls1 : List (Nat × eg_V)} (hd : decode mt.2.1 pc = .ok (.istore i, 2)) (hn : i < mt.2.2.1) (h1 : (i, vI x) :: ls.filter (fun q => !(q.1 == i) && !(q.1 + 1 == i && eg_cat q.2 == 2)) = ls1) (k : eg_W κ G mt d Qc (pc + 2) ls1 st M) : eg_W κ G mt d Qc pc ls (vI x :: st) M := by
  intro p e s m args below meth c H locs la C hl hP hS
  subst h1
  refine lv_istore C.1 C.2.1 hd hl hn rfl (fun la1 hl1 => ?_)
  rw [(eg_locf κ (fun a b => !(a == i) && !(a + 1 == i && b == 2)) ls)] at hl1
  exact k p e s m args below meth c H locs la1 C hl1 hP hS
theorem eg_istore_n {i : Nat} {n : Fin 4} {x : Int32} {ls1 : List (Nat × eg_V)} (hd : decode mt.2.1 pc = .ok (.istore_n n, 1)) (hi : (n : Nat) = i) (hn : i < mt.2.2.1) (h1 : (i, vI x) :: ls.filter (fun q => !(q.1 == i) && !(q.1 + 1 == i && eg_cat q.2 == 2)) = ls1) (k : eg_W κ G mt d Qc (pc + 1) ls1 st M) : eg_W κ G mt d Qc pc ls (vI x :: st) M := by
  intro p e s m args below meth c H locs la C hl hP hS
  subst h1
  refine lv_istore_n C.1 C.2.1 hd hi hl hn rfl (fun la1 hl1 => ?_)
  rw [(eg_locf κ (fun a b => !(a == i) && !(a + 1 == i && b == 2)) ls)] at hl1
  exact k p e s m args below meth c H locs la1 C hl1 hP hS
theorem eg_astore {i : Nat} {x : eg_R} {ls1 : List (Nat × eg_V)} (hd : decode mt.2.1 pc = .ok (.astore i, 2)) (hn : i < mt.2.2.1) (h1 : (i, vR x) :: ls.filter (fun q => !(q.1 == i) && !(q.1 + 1 == i && eg_cat q.2 == 2)) = ls1) (k : eg_W κ G mt d Qc (pc + 2) ls1 st M) : eg_W κ G mt d Qc pc ls (vR x :: st) M := by
  intro p e s m args below meth c H locs la C hl hP hS
  subst h1
  refine lv_astore C.1 C.2.1 hd hl hn rfl (fun la1 hl1 => ?_)
  rw [(eg_locf κ (fun a b => !(a == i) && !(a + 1 == i && b == 2)) ls)] at hl1
  exact k p e s m args below meth c H locs la1 C hl1 hP hS
theorem eg_astore_n {i : Nat} {n : Fin 4} {x : eg_R} {ls1 : List (Nat × eg_V)} (hd : decode mt.2.1 pc = .ok (.astore_n n, 1)) (hi : (n : Nat) = i) (hn : i < mt.2.2.1) (h1 : (i, vR x) :: ls.filter (fun q => !(q.1 == i) && !(q.1 + 1 == i && eg_cat q.2 == 2)) = ls1) (k : eg_W κ G mt d Qc (pc + 1) ls1 st M) : eg_W κ G mt d Qc pc ls (vR x :: st) M := by
  intro p e s m args below meth c H locs la C hl hP hS
  subst h1
  refine lv_astore_n C.1 C.2.1 hd hi hl hn rfl (fun la1 hl1 => ?_)
  rw [(eg_locf κ (fun a b => !(a == i) && !(a + 1 == i && b == 2)) ls)] at hl1
  exact k p e s m args below meth c H locs la1 C hl1 hP hS
theorem eg_lstore {i : Nat} {x : Int64} {ls1 : List (Nat × eg_V)} (hd : decode mt.2.1 pc = .ok (.lstore i, 2)) (hn : i + 1 < mt.2.2.1) (h1 : (i, vL x) :: ls.filter (fun q => !(q.1 == i) && (!(q.1 == i + 1) && !(q.1 + 1 == i && eg_cat q.2 == 2))) = ls1) (k : eg_W κ G mt d Qc (pc + 2) ls1 st M) : eg_W κ G mt d Qc pc ls (vL x :: st) M := by
  intro p e s m args below meth c H locs la C hl hP hS
  subst h1
  refine lv_lstore C.1 C.2.1 hd hl hn rfl (fun la1 hl1 => ?_)
  rw [(eg_locf κ (fun a b => !(a == i) && (!(a == i + 1) && !(a + 1 == i && b == 2))) ls)] at hl1
  exact k p e s m args below meth c H locs la1 C hl1 hP hS
theorem eg_lstore_n {i : Nat} {n : Fin 4} {x : Int64} {ls1 : List (Nat × eg_V)} (hd : decode mt.2.1 pc = .ok (.lstore_n n, 1)) (hi : (n : Nat) = i) (hn : i + 1 < mt.2.2.1) (h1 : (i, vL x) :: ls.filter (fun q => !(q.1 == i) && (!(q.1 == i + 1) && !(q.1 + 1 == i && eg_cat q.2 == 2))) = ls1) (k : eg_W κ G mt d Qc (pc + 1) ls1 st M) : eg_W κ G mt d Qc pc ls (vL x :: st) M := by
  intro p e s m args below meth c H locs la C hl hP hS
  subst h1
  refine lv_lstore_n C.1 C.2.1 hd hi hl hn rfl (fun la1 hl1 => ?_)
  rw [(eg_locf κ (fun a b => !(a == i) && (!(a == i + 1) && !(a + 1 == i && b == 2))) ls)] at hl1
  exact k p e s m args below meth c H locs la1 C hl1 hP hS
theorem eg_iinc {i : Nat} {n : Int} {x v : Int32} {ls1 : List (Nat × eg_V)} (j : Nat) (hd : decode mt.2.1 pc = .ok (.iinc i n, 3)) (hj : ls[j]? = some (i, vI x)) (hv : x + Int32.ofInt n = v) (hn : i < mt.2.2.1) (h1 : (i, vI v) :: ls.filter (fun q => !(q.1 == i) && !(q.1 + 1 == i && eg_cat q.2 == 2)) = ls1) (k : eg_W κ G mt d Qc (pc + 3) ls1 st M) : eg_W κ G mt d Qc pc ls st M := by
  intro p e s m args below meth c H locs la C hl hP hS
  subst h1
  refine lv_iinc (k := j) C.1 C.2.1 hd hl (by rw [List.getElem?_map, hj]; rfl) hv hn rfl (fun la1 hl1 => ?_)
  rw [(eg_locf κ (fun a b => !(a == i) && !(a + 1 == i && b == 2)) ls)] at hl1
  exact k p e s m args below meth c H locs la1 C hl1 hP hS
theorem eg_sub {ls1 : List (Nat × eg_V)} (js : List Nat) (h1 : js.filterMap (fun j => ls[j]?) = ls1) (k : eg_W κ G mt d Qc pc ls1 st M) : eg_W κ G mt d Qc pc ls st M := by
  intro p e s m args below meth c H locs la C hl hP hS
  refine k p e s m args below meth c H locs la C ⟨hl.1, hl.2.1, fun q hq => ?_⟩ hP hS
  obtain ⟨a, ha, rfl⟩ := List.mem_map.mp hq
  rw [← h1] at ha
  obtain ⟨j, -, hj⟩ := List.mem_filterMap.mp ha
  exact hl.2.2 _ (List.mem_map.mpr ⟨a, List.mem_of_getElem? hj, rfl⟩)
theorem eg_if_eq {x : Int32} {off : Int} {tgt : Nat} (hd : decode mt.2.1 pc = .ok (.ifCond .eq off, 3)) (ht : (pc : Int) + off = (tgt : Int)) (kt : x = 0 → eg_W κ G mt d Qc tgt ls st M) (kf : ¬ x = 0 → eg_W κ G mt d Qc (pc + 3) ls st M) : eg_W κ G mt d Qc pc ls (vI x :: st) M := by
  intro p e s m args below meth c H locs la C hl hP hS
  exact lv_if_eq C.1 C.2.1 hd ht (fun h => kt h p e s m args below meth c H locs la C hl hP hS) (fun h => kf h p e s m args below meth c H locs la C hl hP hS)
theorem eg_if_ne {x : Int32} {off : Int} {tgt : Nat} (hd : decode mt.2.1 pc = .ok (.ifCond .ne off, 3)) (ht : (pc : Int) + off = (tgt : Int)) (kt : ¬ x = 0 → eg_W κ G mt d Qc tgt ls st M) (kf : x = 0 → eg_W κ G mt d Qc (pc + 3) ls st M) : eg_W κ G mt d Qc pc ls (vI x :: st) M := by
  intro p e s m args below meth c H locs la C hl hP hS
  exact lv_if_ne C.1 C.2.1 hd ht (fun h => kt h p e s m args below meth c H locs la C hl hP hS) (fun h => kf h p e s m args below meth c H locs la C hl hP hS)
theorem eg_if_lt {x : Int32} {off : Int} {tgt : Nat} (hd : decode mt.2.1 pc = .ok (.ifCond .lt off, 3)) (ht : (pc : Int) + off = (tgt : Int)) (kt : x < 0 → eg_W κ G mt d Qc tgt ls st M) (kf : ¬ x < 0 → eg_W κ G mt d Qc (pc + 3) ls st M) : eg_W κ G mt d Qc pc ls (vI x :: st) M := by
  intro p e s m args below meth c H locs la C hl hP hS
  exact lv_if_lt C.1 C.2.1 hd ht (fun h => kt h p e s m args below meth c H locs la C hl hP hS) (fun h => kf h p e s m args below meth c H locs la C hl hP hS)
theorem eg_if_ge {x : Int32} {off : Int} {tgt : Nat} (hd : decode mt.2.1 pc = .ok (.ifCond .ge off, 3)) (ht : (pc : Int) + off = (tgt : Int)) (kt : 0 ≤ x → eg_W κ G mt d Qc tgt ls st M) (kf : ¬ 0 ≤ x → eg_W κ G mt d Qc (pc + 3) ls st M) : eg_W κ G mt d Qc pc ls (vI x :: st) M := by
  intro p e s m args below meth c H locs la C hl hP hS
  exact lv_if_ge C.1 C.2.1 hd ht (fun h => kt h p e s m args below meth c H locs la C hl hP hS) (fun h => kf h p e s m args below meth c H locs la C hl hP hS)
theorem eg_if_gt {x : Int32} {off : Int} {tgt : Nat} (hd : decode mt.2.1 pc = .ok (.ifCond .gt off, 3)) (ht : (pc : Int) + off = (tgt : Int)) (kt : 0 < x → eg_W κ G mt d Qc tgt ls st M) (kf : ¬ 0 < x → eg_W κ G mt d Qc (pc + 3) ls st M) : eg_W κ G mt d Qc pc ls (vI x :: st) M := by
  intro p e s m args below meth c H locs la C hl hP hS
  exact lv_if_gt C.1 C.2.1 hd ht (fun h => kt h p e s m args below meth c H locs la C hl hP hS) (fun h => kf h p e s m args below meth c H locs la C hl hP hS)
theorem eg_if_le {x : Int32} {off : Int} {tgt : Nat} (hd : decode mt.2.1 pc = .ok (.ifCond .le off, 3)) (ht : (pc : Int) + off = (tgt : Int)) (kt : x ≤ 0 → eg_W κ G mt d Qc tgt ls st M) (kf : ¬ x ≤ 0 → eg_W κ G mt d Qc (pc + 3) ls st M) : eg_W κ G mt d Qc pc ls (vI x :: st) M := by
  intro p e s m args below meth c H locs la C hl hP hS
  exact lv_if_le C.1 C.2.1 hd ht (fun h => kt h p e s m args below meth c H locs la C hl hP hS) (fun h => kf h p e s m args below meth c H locs la C hl hP hS)
theorem eg_icmp_eq {x y : Int32} {off : Int} {tgt : Nat} (hd : decode mt.2.1 pc = .ok (.if_icmp .eq off, 3)) (ht : (pc : Int) + off = (tgt : Int)) (kt : x = y → eg_W κ G mt d Qc tgt ls st M) (kf : ¬ x = y → eg_W κ G mt d Qc (pc + 3) ls st M) : eg_W κ G mt d Qc pc ls (vI y :: vI x :: st) M := by
  intro p e s m args below meth c H locs la C hl hP hS
  exact lv_icmp_eq C.1 C.2.1 hd ht (fun h => kt h p e s m args below meth c H locs la C hl hP hS) (fun h => kf h p e s m args below meth c H locs la C hl hP hS)
theorem eg_icmp_ne {x y : Int32} {off : Int} {tgt : Nat} (hd : decode mt.2.1 pc = .ok (.if_icmp .ne off, 3)) (ht : (pc : Int) + off = (tgt : Int)) (kt : ¬ x = y → eg_W κ G mt d Qc tgt ls st M) (kf : x = y → eg_W κ G mt d Qc (pc + 3) ls st M) : eg_W κ G mt d Qc pc ls (vI y :: vI x :: st) M := by
  intro p e s m args below meth c H locs la C hl hP hS
  exact lv_icmp_ne C.1 C.2.1 hd ht (fun h => kt h p e s m args below meth c H locs la C hl hP hS) (fun h => kf h p e s m args below meth c H locs la C hl hP hS)
theorem eg_icmp_lt {x y : Int32} {off : Int} {tgt : Nat} (hd : decode mt.2.1 pc = .ok (.if_icmp .lt off, 3)) (ht : (pc : Int) + off = (tgt : Int)) (kt : x < y → eg_W κ G mt d Qc tgt ls st M) (kf : ¬ x < y → eg_W κ G mt d Qc (pc + 3) ls st M) : eg_W κ G mt d Qc pc ls (vI y :: vI x :: st) M := by
  intro p e s m args below meth c H locs la C hl hP hS
  exact lv_icmp_lt C.1 C.2.1 hd ht (fun h => kt h p e s m args below meth c H locs la C hl hP hS) (fun h => kf h p e s m args below meth c H locs la C hl hP hS)
theorem eg_icmp_ge {x y : Int32} {off : Int} {tgt : Nat} (hd : decode mt.2.1 pc = .ok (.if_icmp .ge off, 3)) (ht : (pc : Int) + off = (tgt : Int)) (kt : y ≤ x → eg_W κ G mt d Qc tgt ls st M) (kf : ¬ y ≤ x → eg_W κ G mt d Qc (pc + 3) ls st M) : eg_W κ G mt d Qc pc ls (vI y :: vI x :: st) M := by
  intro p e s m args below meth c H locs la C hl hP hS
  exact lv_icmp_ge C.1 C.2.1 hd ht (fun h => kt h p e s m args below meth c H locs la C hl hP hS) (fun h => kf h p e s m args below meth c H locs la C hl hP hS)
theorem eg_icmp_gt {x y : Int32} {off : Int} {tgt : Nat} (hd : decode mt.2.1 pc = .ok (.if_icmp .gt off, 3)) (ht : (pc : Int) + off = (tgt : Int)) (kt : y < x → eg_W κ G mt d Qc tgt ls st M) (kf : ¬ y < x → eg_W κ G mt d Qc (pc + 3) ls st M) : eg_W κ G mt d Qc pc ls (vI y :: vI x :: st) M := by
  intro p e s m args below meth c H locs la C hl hP hS
  exact lv_icmp_gt C.1 C.2.1 hd ht (fun h => kt h p e s m args below meth c H locs la C hl hP hS) (fun h => kf h p e s m args below meth c H locs la C hl hP hS)
theorem eg_icmp_le {x y : Int32} {off : Int} {tgt : Nat} (hd : decode mt.2.1 pc = .ok (.if_icmp .le off, 3)) (ht : (pc : Int) + off = (tgt : Int)) (kt : x ≤ y → eg_W κ G mt d Qc tgt ls st M) (kf : ¬ x ≤ y → eg_W κ G mt d Qc (pc + 3) ls st M) : eg_W κ G mt d Qc pc ls (vI y :: vI x :: st) M := by
  intro p e s m args below meth c H locs la C hl hP hS
  exact lv_icmp_le C.1 C.2.1 hd ht (fun h => kt h p e s m args below meth c H locs la C hl hP hS) (fun h => kf h p e s m args below meth c H locs la C hl hP hS)
theorem eg_goto {off : Int} {tgt : Nat} (hd : decode mt.2.1 pc = .ok (.goto off, 3)) (ht : (pc : Int) + off = (tgt : Int)) (k : eg_W κ G mt d Qc tgt ls st M) : eg_W κ G mt d Qc pc ls st M := by
  intro p e s m args below meth c H locs la C hl hP hS
  exact lv_goto C.1 C.2.1 hd ht (k p e s m args below meth c H locs la C hl hP hS)
theorem eg_tabO {dflt lo hi : Int} {offs : Array Int} {len : Nat} {x : Int32} {tgt : Nat} (hd : decode mt.2.1 pc = .ok (.tableswitch dflt lo hi offs, len)) (h : x.toInt < lo ∨ hi < x.toInt) (ht : (pc : Int) + dflt = (tgt : Int)) (k : eg_W κ G mt d Qc tgt ls st M) : eg_W κ G mt d Qc pc ls (vI x :: st) M := by
  intro p e s m args below meth c H locs la C hl hP hS
  exact lv_tableOut C.1 C.2.1 hd h ht (k p e s m args below meth c H locs la C hl hP hS)
theorem eg_tabI {dflt lo hi : Int} {offs : Array Int} {len : Nat} {x : Int32} {off : Int} {tgt : Nat} (hd : decode mt.2.1 pc = .ok (.tableswitch dflt lo hi offs, len)) (h1 : ¬ x.toInt < lo) (h2 : ¬ hi < x.toInt) (ho : offs[(x.toInt - lo).toNat]? = some off) (ht : (pc : Int) + off = (tgt : Int)) (k : eg_W κ G mt d Qc tgt ls st M) : eg_W κ G mt d Qc pc ls (vI x :: st) M := by
  intro p e s m args below meth c H locs la C hl hP hS
  exact lv_tableIn C.1 C.2.1 hd h1 h2 ho ht (k p e s m args below meth c H locs la C hl hP hS)
theorem eg_ireturn {post : Int32 → eg_H → Prop} {x : Int32} (hd : decode mt.2.1 pc = .ok (.ireturn, 1)) (hr : mt.2.2.2 = some .int) (h : post x M) : eg_W κ G mt d (eQI κ G post) pc ls [vI x] M := by
  intro p e s m args below meth c H locs la C hl hP hS
  exact W.iret (v := x) C.1 C.2.1 (C.2.2.1.trans hr) (fun t ht hW => ⟨⟨x, M, rfl, h, by rw [ht]; exact hP, va_K.moved hW.alike C.2.2.2.2.2.2.2.1⟩, hS.F ht⟩) hS.2.2 hd C.2.2.2.2.2.2.1
theorem eg_nz {x : Int32} (h : x = 0 ∨ x = 1) : narrow .boolean (.int x) = .int x := by
  rcases h with rfl | rfl <;> rfl
theorem eg_fz {x : Int32} (h : x = 0 ∨ x = 1) : fits .boolean (.int x) = true := by
  rcases h with rfl | rfl <;> rfl
theorem eg_zreturn {post : Int32 → eg_H → Prop} {x : Int32} (hd : decode mt.2.1 pc = .ok (.ireturn, 1)) (hr : mt.2.2.2 = some .boolean) (hx : x = 0 ∨ x = 1) (h : post x M) : eg_W κ G mt d (eQI κ G post) pc ls [vI x] M := by
  intro p e s m args below meth c H locs la C hl hP hS
  exact W.zret (v := x) C.1 C.2.1 (C.2.2.1.trans hr) (eg_nz hx) (fun t ht hW => ⟨⟨x, M, rfl, h, by rw [ht]; exact hP, va_K.moved hW.alike C.2.2.2.2.2.2.2.1⟩, hS.F ht⟩) hS.2.2 hd C.2.2.2.2.2.2.1
theorem eg_lreturn {post : Int64 → eg_H → Prop} {x : Int64} (hd : decode mt.2.1 pc = .ok (.lreturn, 1)) (hr : mt.2.2.2 = some .long) (h : post x M) : eg_W κ G mt d (eQL κ G post) pc ls [vL x] M := by
  intro p e s m args below meth c H locs la C hl hP hS
  exact W.lret (v := x) C.1 C.2.1 (C.2.2.1.trans hr) (fun t ht hW => ⟨⟨x, M, rfl, h, by rw [ht]; exact hP, va_K.moved hW.alike C.2.2.2.2.2.2.2.1⟩, hS.F ht⟩) hS.2.2 hd C.2.2.2.2.2.2.1
theorem eg_vreturn {post : eg_H → Prop} (hd : decode mt.2.1 pc = .ok (.return_, 1)) (hr : mt.2.2.2 = none) (h : post M) : eg_W κ G mt d (eQV κ G post) pc ls [] M := by
  intro p e s m args below meth c H locs la C hl hP hS
  exact W.vret C.1 C.2.1 (C.2.2.1.trans hr) (fun t ht hW => ⟨⟨M, rfl, h, by rw [ht]; exact hP, va_K.moved hW.alike C.2.2.2.2.2.2.2.1⟩, hS.F ht⟩) hS.2.2 hd C.2.2.2.2.2.2.1
end EGR
