/-! A MAKER: its object at k, the cells that it has made behind L -/
def wS (L : List va_E) (k : Nat) (As : List va_E) (ci : Nat) (fs : List Value) : List va_E := (L ++ As).set k (.inr (ci, fs))
section WS
variable {L : List va_E} {k n : Nat} {As : List va_E} {ci : Nat} {fs : List Value}
theorem wS_len (hL : L.length = n) : (wS L k As ci fs).length = n + As.length := by
  unfold wS
  rw [List.length_set, List.length_append, hL]
theorem wS_ne (hL : L.length = n) (hk : k < n) : wS L k As ci fs ≠ [] := fun z => by
  have := wS_len (L := L) (k := k) (As := As) (ci := ci) (fs := fs) hL
  rw [z] at this
  have e : ([] : List va_E).length = 0 := rfl
  omega
theorem wS_k (hL : L.length = n) (hk : k < n) : (wS L k As ci fs)[k]? = some (.inr (ci, fs)) := by
  unfold wS
  rw [List.getElem?_set_self (by rw [List.length_append]; omega)]
theorem wS_at (hL : L.length = n) (hk : k < n) {i : Nat} {e : va_E} (h : As[i]? = some e) : (wS L k As ci fs)[n + i]? = some e := by
  unfold wS
  rw [List.getElem?_set_ne (by omega), List.getElem?_append_right (by omega), hL, Nat.add_sub_cancel_left]
  exact h
theorem wS_old (hL : L.length = n) {j : Nat} (hj : j < n) (hne : j ≠ k) : (wS L k As ci fs)[j]? = L[j]? := by
  unfold wS
  rw [List.getElem?_set_ne (fun z => hne z.symm), List.getElem?_append_left (by omega)]
theorem wS_put (fs' : List Value) : (wS L k As ci fs).set k (.inr (ci, fs')) = wS L k As ci fs' := by
  unfold wS
  rw [List.set_set]
theorem wS_apps (hL : L.length = n) (hk : k < n) (Bs : List va_E) : wS L k As ci fs ++ Bs = wS L k (As ++ Bs) ci fs := by
  unfold wS
  rw [← List.append_assoc]
  exact (List.set_append_left (s := L ++ As) (t := Bs) k _ (by rw [List.length_append]; omega)).symm
theorem wS_app (hL : L.length = n) (hk : k < n) (e : va_E) : wS L k As ci fs ++ [e] = wS L k (As ++ [e]) ci fs := wS_apps hL hk [e]
theorem wS_set (hL : L.length = n) (hk : k < n) (i : Nat) (e : va_E) : (wS L k As ci fs).set (n + i) e = wS L k (As.set i e) ci fs := by
  unfold wS
  rw [List.set_comm _ _ (by omega), List.set_append_right _ _ (by omega), hL, Nat.add_sub_cancel_left]
theorem wS_in (hL : L.length = n) (hk : k < n) (i cj : Nat) (gs : List Value) (Bs : List va_E) (hi : i < As.length) : wS (wS L k As ci fs) (n + i) Bs cj gs = wS L k (As.set i (.inr (cj, gs)) ++ Bs) ci fs := by
  show (wS L k As ci fs ++ Bs).set (n + i) (.inr (cj, gs)) = _
  rw [wS_apps hL hk, wS_set hL hk, List.set_append_left i _ hi]
theorem wS_0 (h : L[k]? = some (.inr (ci, fs))) : wS L k [] ci fs = L := by
  unfold wS
  rw [List.append_nil]
  apply List.ext_getElem?
  intro j
  by_cases c : k = j
  · subst c
    rw [List.getElem?_set_self (List.getElem?_eq_some_iff.mp h).1, h]
  · rw [List.getElem?_set_ne c]
end WS
section ENO
variable {κ : eg_K} {b : Nat} {mt mt1 : eg_M} {d d1 mc ms mc1 ms1 idx n a : Nat} {Qc : Array Value → State → Outcome → State → Prop} {pc : Nat} {ls : List (Nat × Value)} {st Ar stk : List Value} {L As : List va_E} {k ci : Nat} {fs : List Value} {cn sn m : Nat}
theorem ow_new {cj : Nat} (hL : L.length = n) (hk : k < n) (hm1 : As.length = m) (hd : decode mt.2.1 pc = .ok (.new idx, 3)) (hm : eg_CK mt.1.cls idx cj) (hc1 : cn + 1 ≤ mc) (hs1 : sn + eg_nf cj ≤ ms) (kk : eg_N κ b mt d mc ms Qc (pc + 3) ls (.ref (b + (n + m)) :: st) (wS L k (As ++ [.inr (cj, eg_d0 cj)]) ci fs) (cn + 1) (sn + eg_nf cj)) : eg_N κ b mt d mc ms Qc pc ls st (wS L k As ci fs) cn sn := by
  refine nw_new hd hm (Or.inl (wS_ne hL hk)) hc1 hs1 ?_
  rw [wS_len hL, hm1, wS_app hL hk]
  exact kk
theorem ow_arr {atype : ArrayType} {t : Nat} {ty : FieldType} {x : Int32} {N' : Nat} {a0 : vp_A} (hL : L.length = n) (hk : k < n) (hm1 : As.length = m) (hd : decode mt.2.1 pc = .ok (.newarray atype, 2)) (hty : newarray.typeOf atype = ty) (hw : Cond.arrayClass ty ∈ eg_T) (ht1 : (eg_tys κ)[t]? = some (kA κ t, ty)) (hobj : ∀ C, ty ≠ .object C) (ha : ∀ cA : ClassId, vp_cell cA a0 = arrV cA N' (fun _ => defaultValue ty)) (hn : ¬ x < 0) (hN : x.toNatClampNeg = N') (hby : N' * componentBytes ty ≤ 536870912) (hc1 : cn + 1 ≤ mc) (hs1 : sn + N' ≤ ms) (kk : eg_N κ b mt d mc ms Qc (pc + 2) ls (.ref (b + (n + m)) :: st) (wS L k (As ++ [.inl (kA κ t, a0)]) ci fs) (cn + 1) (sn + N')) : eg_N κ b mt d mc ms Qc pc ls (.int x :: st) (wS L k As ci fs) cn sn := by
  refine nw_arr hd hty hw ht1 hobj ha hn hN hby (Or.inl (wS_ne hL hk)) hc1 hs1 ?_
  rw [wS_len hL, hm1, wS_app hL hk]
  exact kk
theorem ow_anew {t : Nat} {Cn : String} {x : Int32} {N' : Nat} (hL : L.length = n) (hk : k < n) (hm1 : As.length = m) (hd : decode mt.2.1 pc = .ok (.anewarray idx, 3)) (hw : Cond.classLink mt.1.cls idx Cn ∈ eg_T) (hA : Cn ∈ cnA) (ht1 : (eg_tys κ)[t]? = some (kA κ t, .object Cn)) (hn : ¬ x < 0) (hN : x.toNatClampNeg = N') (hby : N' * 4 ≤ 536870912) (hc1 : cn + 1 ≤ mc) (hs1 : sn + N' ≤ ms) (kk : eg_N κ b mt d mc ms Qc (pc + 3) ls (.ref (b + (n + m)) :: st) (wS L k (As ++ [.inl (kA κ t, N', .inr (.inr (.inr (.inr (fun _ => none)))))]) ci fs) (cn + 1) (sn + N')) : eg_N κ b mt d mc ms Qc pc ls (.int x :: st) (wS L k As ci fs) cn sn := by
  refine nw_anew hd hw hA ht1 hn hN hby (Or.inl (wS_ne hL hk)) hc1 hs1 ?_
  rw [wS_len hL, hm1, wS_app hL hk]
  exact kk
theorem ow_putF {k0 : Nat} {v : Value} (hL : L.length = n) (hk : k < n) (hd : decode mt.2.1 pc = .ok (.putfield idx, 3)) (hf : eg_FL mt.1.cls idx ci k0) (hfin : ((eg_tb ci).2 k0).2.2.2 = true) (hnm : mt.1.name = "<init>") (hdc : ((eg_tb ci).2 k0).1 = mt.1.cls) (hn : narrow (eg_ty ci k0) v = v) (hfit : fits (eg_ty ci k0) v = true) (hl0 : k0 < fs.length) (kk : eg_N κ b mt d mc ms Qc (pc + 3) ls st (wS L k As ci (fs.set k0 v)) cn sn) : eg_N κ b mt d mc ms Qc pc ls (v :: .ref (b + k) :: st) (wS L k As ci fs) cn sn := by
  refine nw_putF hd hf hfin hnm hdc (wS_k hL hk) hn hfit hl0 ?_
  rw [wS_put]
  exact kk
theorem ow_put {k0 : Nat} {v : Value} (hL : L.length = n) (hk : k < n) (hd : decode mt.2.1 pc = .ok (.putfield idx, 3)) (hf : eg_FL mt.1.cls idx ci k0) (hfin : ((eg_tb ci).2 k0).2.2.2 = false) (hn : narrow (eg_ty ci k0) v = v) (hfit : fits (eg_ty ci k0) v = true) (hl0 : k0 < fs.length) (kk : eg_N κ b mt d mc ms Qc (pc + 3) ls st (wS L k As ci (fs.set k0 v)) cn sn) : eg_N κ b mt d mc ms Qc pc ls (v :: .ref (b + k) :: st) (wS L k As ci fs) cn sn := by
  refine nw_put hd hf hfin (wS_k hL hk) hn hfit hl0 ?_
  rw [wS_put]
  exact kk
theorem ow_get {k0 : Nat} {v : Value} (hL : L.length = n) (hk : k < n) (hd : decode mt.2.1 pc = .ok (.getfield idx, 3)) (hf : eg_FL mt.1.cls idx ci k0) (hv : fs[k0]? = some v) (kk : eg_N κ b mt d mc ms Qc (pc + 3) ls (v :: st) (wS L k As ci fs) cn sn) : eg_N κ b mt d mc ms Qc pc ls (.ref (b + k) :: st) (wS L k As ci fs) cn sn := nw_get hd hf (wS_k hL hk) hv kk
theorem ow_iast {i N' : Nat} {f : Nat → Int32} {j x : Int32} (hL : L.length = n) (hk : k < n) (hd : decode mt.2.1 pc = .ok (.iastore, 1)) (he : As[i]? = some (.inl (kA κ 0, N', .inl f))) (hin : vp_in j N') (kk : eg_N κ b mt d mc ms Qc (pc + 1) ls st (wS L k (As.set i (.inl (kA κ 0, N', .inl (upd f j.toNatClampNeg x)))) ci fs) cn sn) : eg_N κ b mt d mc ms Qc pc ls (.int x :: .int j :: .ref (b + (n + i)) :: st) (wS L k As ci fs) cn sn := by
  refine nw_iast hd (wS_at hL hk he) hin ?_
  rw [wS_set hL hk]
  exact kk
theorem ow_aast {i j N' t cj : Nat} {f : Nat → Option Nat} {vs : List Value} {x : Int32} (hL : L.length = n) (hk : k < n) (hd : decode mt.2.1 pc = .ok (.aastore, 1)) (hci : cj < 12) (he : As[i]? = some (.inl (kA κ t, N', .inr (.inr (.inr (.inr f)))))) (ht1 : (eg_tys κ)[t]? = some (kA κ t, .object (eg_tb cj).1)) (hv : As[j]? = some (.inr (cj, vs))) (hin : vp_in x N') (kk : eg_N κ b mt d mc ms Qc (pc + 1) ls st (wS L k (As.set i (.inl (kA κ t, N', .inr (.inr (.inr (.inr (va_up f x.toNatClampNeg (some (b + (n + j))))))))) ) ci fs) cn sn) : eg_N κ b mt d mc ms Qc pc ls (.ref (b + (n + j)) :: .int x :: .ref (b + (n + i)) :: st) (wS L k As ci fs) cn sn := by
  refine nw_aast hd hci (wS_at hL hk he) ht1 (wS_at hL hk hv) hin ?_
  rw [wS_set hL hk]
  exact kk
/-- a maker called for the cell i that was made last -/
theorem ow_init {i cj : Nat} {gs : List Value} {Bs : List va_E} (hL : L.length = n) (hk : k < n) (hi : i < As.length) (hd : decode mt.2.1 pc = .ok (.invokespecial idx, 3)) (hm : eg_MI mt.1.cls idx mt1 a) (hn : Ar.length = a) (hk2 : stk = Ar.reverse ++ .ref (b + (n + i)) :: st) (hX : eg_X κ b mt1 d1 mc1 ms1 (.ref (b + (n + i)) :: Ar) (wS L k As ci fs) (wS (wS L k As ci fs) (n + i) Bs cj gs)) (hBs : Bs.length = mc1) (hdd : d1 + 1 ≤ d) (hc : cn + mc1 ≤ mc) (hs : sn + ms1 ≤ ms) (hst : (st.map fun v => v.category).sum ≤ 8) (kk : eg_N κ b mt d mc ms Qc (pc + 3) ls st (wS L k (As.set i (.inr (cj, gs)) ++ Bs) ci fs) (cn + mc1) (sn + ms1)) : eg_N κ b mt d mc ms Qc pc ls stk (wS L k As ci fs) cn sn := by
  rw [wS_in hL hk i cj gs Bs hi] at hX
  refine nw_init hd hm hn hk2 hX hdd hc hs hst (wS_ne hL hk) ?_ kk
  rw [wS_len hL, wS_len hL, List.length_append, List.length_set, hBs, Nat.add_assoc]
theorem ow_nest {i cj : Nat} {gs : List Value} {Bs : List va_E} (hL : L.length = n) (hk : k < n) (hi : i < As.length) (hd : decode mt.2.1 pc = .ok (.invokespecial idx, 3)) (hm : eg_MN mt.1.cls idx mt1 a) (hn : Ar.length = a) (hk2 : stk = Ar.reverse ++ .ref (b + (n + i)) :: st) (hX : eg_X κ b mt1 d1 mc1 ms1 (.ref (b + (n + i)) :: Ar) (wS L k As ci fs) (wS (wS L k As ci fs) (n + i) Bs cj gs)) (hBs : Bs.length = mc1) (hdd : d1 + 1 ≤ d) (hc : cn + mc1 ≤ mc) (hs : sn + ms1 ≤ ms) (hst : (st.map fun v => v.category).sum ≤ 8) (kk : eg_N κ b mt d mc ms Qc (pc + 3) ls st (wS L k (As.set i (.inr (cj, gs)) ++ Bs) ci fs) (cn + mc1) (sn + ms1)) : eg_N κ b mt d mc ms Qc pc ls stk (wS L k As ci fs) cn sn := by
  rw [wS_in hL hk i cj gs Bs hi] at hX
  refine nw_nest hd hm hn hk2 hX hdd hc hs hst (wS_ne hL hk) ?_ kk
  rw [wS_len hL, wS_len hL, List.length_append, List.length_set, hBs, Nat.add_assoc]
theorem ow_of {av : List Value} {Bs : List va_E} {gs : List Value} (hL : L.length = n) (he : L[k]? = some (.inr (ci, fs))) (hy : plainName mt.1.cls = true) (hn : (lg_sl av).length ≤ mt.2.2.1) (kk : k < n → eg_N κ b mt d mc ms (eg_Qx κ b (wS L k Bs ci gs)) 0 (lv_args 0 av) [] (wS L k [] ci fs) 0 0) : eg_X κ b mt d mc ms av L (wS L k Bs ci gs) := by
  have hk : k < n := by rw [← hL]; exact (List.getElem?_eq_some_iff.mp he).1
  have h := kk hk
  rw [wS_0 he] at h
  exact eg_X.of hy hn h
theorem ow_ret {Bs : List va_E} {gs : List Value} (hL : L.length = n) (hk : k < n) (hd : decode mt.2.1 pc = .ok (.return_, 1)) (hr : mt.2.2.2 = none) (h1 : cn ≤ mc) (h2 : sn ≤ ms) (e1 : As = Bs) (e2 : fs = gs) : eg_N κ b mt d mc ms (eg_Qx κ b (wS L k Bs ci gs)) pc ls [] (wS L k As ci fs) cn sn := by
  subst e1
  subst e2
  exact nw_ret hd hr (wS_ne hL hk) h1 h2
end ENO
