/-! MAKING THE WORLD: calls -/
def eg_MI (own : String) (idx : Nat) (mt : eg_M) (n : Nat) : Prop :=
  (Cond.methodLink own idx mt.1 ∈ eg_T ∧ Cond.instanceMethod mt.1 ∈ eg_T ∧ Cond.initialized mt.1.cls ∈ eg_T ∧ Cond.code mt.1 mt.2.1 mt.2.2.1 mt.2.2.2 ∈ eg_T) ∧ (mt.1.cls ≠ "java/lang/invoke/MethodHandle" ∧ mt.1.cls ≠ "java/lang/invoke/VarHandle" ∧ (parseMethodDescriptor mt.1.desc).map (fun d => d.parameters.length) = some n) ∧ mt.2.2.1 ≤ 21 ∧ mt.2.2.2 = none ∧ mt.1.name = "<init>"
def eg_MN (own : String) (idx : Nat) (mt : eg_M) (n : Nat) : Prop :=
  ((own, idx, mt.1) ∈ cnM ∧ Cond.instanceMethod mt.1 ∈ eg_T ∧ Cond.initialized mt.1.cls ∈ eg_T ∧ Cond.code mt.1 mt.2.1 mt.2.2.1 mt.2.2.2 ∈ eg_T) ∧ (mt.1.cls ≠ "java/lang/invoke/MethodHandle" ∧ mt.1.cls ≠ "java/lang/invoke/VarHandle" ∧ (parseMethodDescriptor mt.1.desc).map (fun d => d.parameters.length) = some n) ∧ mt.2.2.1 ≤ 21 ∧ mt.2.2.2 = none ∧ mt.1.name = "<init>"
theorem HW_blind (κ : eg_K) (b : Nat) (L : List va_E) (av : List Value) : FrameBlind (va_Pc av (fun U => HW κ b L U)) := by
  intro a U g mk q
  obtain ⟨q0, qz, qP, qK, qc⟩ := q
  exact ⟨q0, qz, qP, va_K.moved (u := U) (U := U.calling g mk a) (Vm.Alike.refl U.vm) qK, qc.1.same (U := U.calling g mk a) rfl, eg_Z.same (s := U) (U := U.calling g mk a) rfl qc.2⟩
theorem HW.of {κ : eg_K} {b : Nat} {mt : eg_M} {L : List va_E} {p : Program} {s : State} {m : MethodId} {args : Array Value} {meth : Method} {c : Code} {H : Heap} {locs : List Loc} (C : eg_Cn κ b mt p s m args meth c) (hS : va_S (fun q => b ≤ q) s.heap H locs) (hz : H.size = b + L.length) (hP : va_P (kD κ) vwCl (wl b L) H) {U : State} (hU : U.heap = H) (hW : s.WarmedH U.vm) : HW κ b L U := ⟨⟨by rw [hU]; exact hz, by rw [hU, hz]; omega⟩, by rw [hU]; exact hP, va_K.moved hW.alike C.2.2.2.2.2.2.2.1, C.2.2.2.2.2.2.2.2.1.1.warm hW, by rw [hU]; exact (C.2.2.2.2.2.2.2.2.1.2.kept hS.2.1).warm hW⟩
section ENC
variable {κ : eg_K} {b : Nat} {mt mt1 : eg_M} {d d1 mc ms mc1 ms1 idx n a : Nat} {Qc : Array Value → State → Outcome → State → Prop} {pc : Nat} {ls : List (Nat × Value)} {st As stk : List Value} {L L1 : List va_E} {cn sn : Nat}
theorem nw_init (hd : decode mt.2.1 pc = .ok (.invokespecial idx, 3)) (hm : eg_MI mt.1.cls idx mt1 n) (hn : As.length = n) (hk : stk = As.reverse ++ .ref a :: st) (hX : eg_X κ b mt1 d1 mc1 ms1 (.ref a :: As) L L1) (hdd : d1 + 1 ≤ d) (hc : cn + mc1 ≤ mc) (hs : sn + ms1 ≤ ms) (hst : (st.map fun v => v.category).sum ≤ 8) (hne : L ≠ []) (hL : L1.length = L.length + mc1) (k : eg_N κ b mt d mc ms Qc (pc + 3) ls st L1 (cn + mc1) (sn + ms1)) : eg_N κ b mt d mc ms Qc pc ls stk L cn sn := by
  intro p e s m args below meth c H locs la C hl hz hP hS
  obtain ⟨⟨m1, m2, m3, m4⟩, hd1, hml, hr1, hn1⟩ := hm
  have ht : ∀ w ∈ eg_T, w.before args s = true := fun w hw => C.2.2.2.2.2.1 w (List.mem_cons_of_mem _ hw)
  refine W_sz (fun hsz => ?_)
  have e0 := wl_sz (Or.inl hne) hP hz hS.1 hsz
  subst hk
  have hX1 : Met κ.1 mt1.1 (eg_w mt1) (eg_rn d1 mc1 ms1) (va_Pc (.ref a :: As) (fun U => HW κ b L U)) (eg_Qx κ b L1) mc1 ms1 (fun q => b ≤ q) := hX
  have hw1 : eg_w mt1 = Cond.code mt1.1 mt1.2.1 mt1.2.2.1 none :: eg_T := by unfold eg_w; rw [hr1]
  refine va_callv (va_runI (own := mt.1.cls) (index := idx) (y := mt1.1) (bytes := mt1.2.1) (maxL := mt1.2.2.1) (ws := eg_w mt1) (rm := eg_rn d1 mc1 ms1) (Ts := eg_w mt) (cc := mt.2.1) (nL := mt.2.2.1) (n := n) (As := As) (rest := st) (b := a) ⟨C.1, C.2.1, C.2.2.2.1, C.2.2.2.2.1, C.2.2.2.2.2.1⟩ hX1 (cwI n C.2.2.2.2.2.1 (eg_gw mt mt1 m4 (l0 := []) (fun w h => by cases h)) hw1 rfl rfl (ht _ m3) (ht _ m1) (ht _ m2) hn1 hd1 ⟨hdd, ?_⟩) ⟨HW_blind κ b L _, fun U hU hW => ⟨rfl, HW.of C hS e0 hP hU hW⟩⟩ rfl hn hl.1 rfl (lv_room hst) hd ⟨hc, hs⟩) hS (fun _ _ h => h) (fun _ h => h) (fun u t H1 locs1 ht1 hvm _ hB hz1 hk1 hS1 => ?_)
  · show 8 + (mt1.2.2.1 + 11) + 40 * d1 ≤ 40 * d
    omega
  · refine k p e s m args below meth c H1 locs1 la C hl (by rw [hL]; omega) ?_ hS1
    rw [← ht1]
    exact hB.2.1
theorem nw_nest (hd : decode mt.2.1 pc = .ok (.invokespecial idx, 3)) (hm : eg_MN mt.1.cls idx mt1 n) (hn : As.length = n) (hk : stk = As.reverse ++ .ref a :: st) (hX : eg_X κ b mt1 d1 mc1 ms1 (.ref a :: As) L L1) (hdd : d1 + 1 ≤ d) (hc : cn + mc1 ≤ mc) (hs : sn + ms1 ≤ ms) (hst : (st.map fun v => v.category).sum ≤ 8) (hne : L ≠ []) (hL : L1.length = L.length + mc1) (k : eg_N κ b mt d mc ms Qc (pc + 3) ls st L1 (cn + mc1) (sn + ms1)) : eg_N κ b mt d mc ms Qc pc ls stk L cn sn := by
  intro p e s m args below meth c H locs la C hl hz hP hS
  obtain ⟨⟨m1, m2, m3, m4⟩, hd1, hml, hr1, hn1⟩ := hm
  have ht : ∀ w ∈ eg_T, w.before args s = true := fun w hw => C.2.2.2.2.2.1 w (List.mem_cons_of_mem _ hw)
  refine W_sz (fun hsz => ?_)
  have e0 := wl_sz (Or.inl hne) hP hz hS.1 hsz
  subst hk
  have hX1 : Met κ.1 mt1.1 (eg_w mt1) (eg_rn d1 mc1 ms1) (va_Pc (.ref a :: As) (fun U => HW κ b L U)) (eg_Qx κ b L1) mc1 ms1 (fun q => b ≤ q) := hX
  have hw1 : eg_w mt1 = Cond.code mt1.1 mt1.2.1 mt1.2.2.1 none :: eg_T := by unfold eg_w; rw [hr1]
  refine va_callv (va_runIN (own := mt.1.cls) (host := RX10) (index := idx) (y := mt1.1) (bytes := mt1.2.1) (maxL := mt1.2.2.1) (ws := eg_w mt1) (rm := eg_rn d1 mc1 ms1) (Ts := eg_w mt) (cc := mt.2.1) (nL := mt.2.2.1) (n := n) (As := As) (rest := st) (b := a) ⟨C.1, C.2.1, C.2.2.2.1, C.2.2.2.2.1, C.2.2.2.2.2.1⟩ hX1 ⟨va_cnB n C.2.2.2.2.2.1 (eg_gw mt mt1 m4 (l0 := []) (fun w h => by cases h)) hw1 rfl rfl (C.2.2.2.2.2.2.2.2.1.1.1 _ m1) (ht _ m3) hd1 ⟨hdd, ?_⟩, hn1, ht _ m2⟩ ⟨HW_blind κ b L _, fun U hU hW => ⟨rfl, HW.of C hS e0 hP hU hW⟩⟩ rfl hn hl.1 rfl (lv_room hst) hd ⟨hc, hs⟩) hS (fun _ _ h => h) (fun _ h => h) (fun u t H1 locs1 ht1 hvm _ hB hz1 hk1 hS1 => ?_)
  · show 8 + (mt1.2.2.1 + 11) + 40 * d1 ≤ 40 * d
    omega
  · refine k p e s m args below meth c H1 locs1 la C hl (by rw [hL]; omega) ?_ hS1
    rw [← ht1]
    exact hB.2.1
theorem nw_virt {q0 ci : Nat} {fs : List Value} (hd : decode mt.2.1 pc = .ok (.invokevirtual idx, 3)) (hm : eg_MV mt.1.cls idx mt1 n) (hn : As.length = n) (hk : stk = As.reverse ++ .ref (b + q0) :: st) (he : L[q0]? = some (.inr (ci, fs))) (hci : ci < 12) (hC : (eg_tb ci).1 = mt1.1.cls) (hX : eg_X κ b mt1 d1 mc1 ms1 (.ref (b + q0) :: As) L L1) (hdd : d1 + 1 ≤ d) (hc : cn + mc1 ≤ mc) (hs : sn + ms1 ≤ ms) (hst : (st.map fun v => v.category).sum ≤ 8) (hL : L1.length = L.length + mc1) (k : eg_N κ b mt d mc ms Qc (pc + 3) ls st L1 (cn + mc1) (sn + ms1)) : eg_N κ b mt d mc ms Qc pc ls stk L cn sn := by
  intro p e s m args below meth c H locs la C hl hz hP hS
  obtain ⟨⟨m1, m2, m3, m4, m5⟩, hd1, hml⟩ := hm
  have ht : ∀ w ∈ eg_T, w.before args s = true := fun w hw => C.2.2.2.2.2.1 w (List.mem_cons_of_mem _ hw)
  have hne : L ≠ [] := fun z => by rw [z] at he; cases he
  refine W_sz (fun hsz => ?_)
  have e0 := wl_sz (Or.inl hne) hP hz hS.1 hsz
  subst hk
  have hX1 : Met κ.1 mt1.1 (eg_w mt1) (eg_rn d1 mc1 ms1) (va_Pc (.ref (b + q0) :: As) (fun U => HW κ b L U)) (eg_Qx κ b L1) mc1 ms1 (fun q => b ≤ q) := hX
  refine va_callv (va_runV (own := mt.1.cls) (C := mt1.1.cls) (index := idx) (y := mt1.1) (bytes := mt1.2.1) (maxL := mt1.2.2.1) (ret := mt1.2.2.2) (ws := eg_w mt1) (rm := eg_rn d1 mc1 ms1) (Ts := eg_w mt) (cc := mt.2.1) (nL := mt.2.2.1) (n := n) (As := As) (rest := st) (b := b + q0) ⟨C.1, C.2.1, C.2.2.2.1, C.2.2.2.2.1, C.2.2.2.2.2.1⟩ hX1 (cwV n C.2.2.2.2.2.1 (eg_gw mt mt1 m5 (l0 := [.methodLink mt.1.cls idx mt1.1, .instanceMethod mt1.1, .selects mt1.1.cls mt1.1 mt1.1, .initialized mt1.1.cls]) ?_) rfl rfl rfl ⟨rfl, hd1⟩ ⟨hdd, ?_⟩) ⟨HW_blind κ b L _, ?_, fun U hU hW => ⟨rfl, HW.of C hS e0 hP hU hW⟩⟩ rfl hn hl.1 rfl (lv_room hst) hd ⟨hc, hs⟩) hS (fun _ _ h => h) (fun _ h => h) (fun u t H1 locs1 ht1 hvm _ hB hz1 hk1 hS1 => ?_)
  · intro w hw
    simp only [List.mem_cons, List.not_mem_nil, or_false] at hw
    rcases hw with rfl | rfl | rfl | rfl <;> assumption
  · show 8 + (mt1.2.2.1 + 11) + 40 * d1 ≤ 40 * d
    omega
  · have h := va_recv C.2.2.2.2.2.2.2.1 hP (eg_cl ci hci) (q0 := q0) (a := b + q0) (fs := fs) (wl_a he)
    rw [← hC]
    exact h
  · refine k p e s m args below meth c H1 locs1 la C hl (by rw [hL]; omega) ?_ hS1
    rw [← ht1]
    exact hB.2.1
end ENC
