/-! THE MODEL'S MAKING COMES TO ITS END -/
def eg_Nq (κ : eg_K) (b : Nat) : Array Value → State → Outcome → State → Prop := va_Qv (fun N1 : eg_H => PME (plH Nz) N1) (fun N1 t => t.heap.size = b + 35 ∧ va_P (kD κ) vwCl (eg_ws κ gM N1) t.heap ∧ va_K (kD κ) vwCl (eg_tys κ) t) (fun q => b ≤ q)
theorem eg_Xq.of {κ : eg_K} {b : Nat} {mt : eg_M} {d mc ms : Nat} {av : List Value} {L : List va_E} {Qc : Array Value → State → Outcome → State → Prop} (hy : plainName mt.1.cls = true) (hn : (lg_sl av).length ≤ mt.2.2.1) (k : eg_N κ b mt d mc ms Qc 0 (lv_args 0 av) [] L 0 0) : Met κ.1 mt.1 (eg_w mt) (eg_rn d mc ms) (va_Pc av (fun U => HW κ b L U)) Qc mc ms (fun q => b ≤ q) := by
  refine Met.ofW (cc := mt.2.1) (maxL := mt.2.2.1) (ret := mt.2.2.2) hy rfl ?_
  intro p e s m args below meth c s₁ B hml hv
  obtain ⟨rfl, ⟨hz, hb0⟩, hP, hK, hc⟩ := hv
  have hts := atoms_spec (ws := eg_w mt) B.pre
  have hown : s.vm.findClass mt.1.cls = some m.cls := findClass_of_methodNamed B.named
  have hin : meth.name = mt.1.name := (name_of_methodNamed B.named B.method).1
  have hl := lv_entry av (n := mt.2.2.1) hn
  rw [lg_entry_eq]
  exact k p e s m _ below meth c s.heap [] _ ⟨B.exec, B.bytes, B.returns, hml, hown, hts, B.notSynchronized, hK, hc, hb0, hin⟩ hl hz hP va_S.rf
theorem m_call {κ : eg_K} {b pc idx d d1 mc ms cn sn : Nat} {mt1 : eg_M} {N : eg_H} {post : eg_H → Prop} {Q : State → Prop} {p : Program} {e : Env} {s : State} {m : MethodId} {args : Array Value} {below : List Frame} {meth : Method} {c : Code} {H : Heap} {locs : List Loc} {la : Array Slot} {ls : List (Nat × Value)} (C : eg_Cn κ b mtX11_init p s m args meth c) (hl : lv_has la mtX11_init.2.2.1 ls) (hok : eg_ok κ gM) (hrg : ∀ q, eg_A κ gM q → b ≤ q) (hP : va_P (kD κ) vwCl (eg_ws κ gM N) H) (hS : va_S (fun q => b ≤ q) s.heap H locs) (hd : decode mtX11_init.2.1 pc = .ok (.invokevirtual idx, 3)) (hm : eg_MV RX11 idx mt1 0) (hC : mt1.1.cls = RX11) (hdd : d1 + 1 ≤ d) (hs : eg_S κ gM mt1 d1 [vR (60, 0)] N (eQV κ gM post)) (h1 : cn ≤ mc) (h2 : sn ≤ ms)
    (kk : ∀ (N1 : eg_H) (H1 : Heap) (locs1 : List Loc), post N1 → va_P (kD κ) vwCl (eg_ws κ gM N1) H1 → H.size ≤ H1.size → va_S (fun q => b ≤ q) s.heap H1 locs1 → W p κ.1 e (eg_rn d mc ms) s m args below meth c H1 locs1 cn sn Q (F0 m (pc + 3) la [])) : W p κ.1 e (eg_rn d mc ms) s m args below meth c H locs cn sn Q (F0 m pc la [.ref (kad κ (60, 0))]) := by
  obtain ⟨⟨m1, m2, m3, m4, m5⟩, hdd1, hml⟩ := hm
  have hr : eg_Ob gM (60, 0) 11 := obM_60 (by decide)
  obtain ⟨q, hq⟩ := List.getElem?_of_mem hr.1
  refine va_callv (va_runV (own := RX11) (C := mt1.1.cls) (index := idx) (y := mt1.1) (bytes := mt1.2.1) (maxL := mt1.2.2.1) (ret := mt1.2.2.2) (ws := eg_w mt1) (rm := eg_rm d1) (Pc := eg_P κ gM [vR (60, 0)] N) (Ts := eg_w mtX11_init) (cc := mtX11_init.2.1) (nL := mtX11_init.2.2.1) (n := 0) (As := []) (rest := []) (b := kad κ (60, 0)) ⟨C.1, C.2.1, C.2.2.2.1, C.2.2.2.2.1, C.2.2.2.2.2.1⟩ (hs hok) (cwV 0 C.2.2.2.2.2.1 (eg_gw mtX11_init mt1 m5 (l0 := [.methodLink RX11 idx mt1.1, .instanceMethod mt1.1, .selects mt1.1.cls mt1.1 mt1.1, .initialized mt1.1.cls]) ?_) rfl rfl rfl ⟨rfl, hdd1⟩ ⟨hdd, ?_⟩) ⟨eg_blind κ gM _ N, ?_, fun U hU hW => ⟨rfl, by rw [hU]; exact hP, va_K.moved hW.alike C.2.2.2.2.2.2.2.1, by rw [hU]; exact ((C.2.2.2.2.2.2.2.2.1.2.kept hS.2.1).warm hW).narrow hrg⟩⟩ rfl rfl hl.1 rfl (lv_room (by decide)) hd ⟨h1, h2⟩) hS (fun q _ h => hrg q h) hrg (fun u t H1 locs1 ht hvm hp hB hz hk2 hS1 => ?_)
  · intro w hw
    simp only [List.mem_cons, List.not_mem_nil, or_false] at hw
    rcases hw with rfl | rfl | rfl | rfl <;> assumption
  · show 8 + (mt1.2.2.1 + 11) + 40 * d1 ≤ 40 * d
    omega
  · have h := va_recv C.2.2.2.2.2.2.2.1 hP (eg_cl 11 (by decide)) (q0 := q) (a := kad κ (60, 0)) (fs := (List.range (eg_nf 11)).map (eg_fv κ gM N (60, 0) 11)) (by rw [eg_at hq, eg_cel_ob hr.2])
    rw [hC]
    exact h
  · exact kk u H1 locs1 hp (by rw [← ht]; exact hB.1) hz hS1
theorem f0_5 : M0.1 (5, 0) 0 = 0 ∧ M0.1 (5, 0) 2 = 0 ∧ M0.1 (5, 0) 7 = 0 ∧ M0.1 (5, 0) 4 = 0 ∧ M0.1 (5, 0) 5 = 0 ∧ M0.1 (5, 0) 6 = 3600 := ⟨rfl, rfl, rfl, rfl, rfl, rfl⟩
theorem f0_35 : ∀ j, j < 3 → M0.1 (35, 0) j = -1
  | 0, _ => rfl
  | 1, _ => rfl
  | 2, _ => rfl
  | j + 3, h => absurd h (by omega)
theorem f0_N : (plH Nz).1 (60, 0) 19 = 0 ∧ (plH Nz).1 (60, 0) 20 = 0 ∧ (plH Nz).1 (60, 0) 21 = 0 ∧ (plH Nz).1 (60, 0) 22 = 0 ∧ (plH Nz).1 (60, 0) 23 = 0 ∧ (plH Nz).1 (60, 0) 24 = 0 ∧ (plH Nz).1 (60, 0) 25 = 3600 := ⟨rfl, rfl, rfl, rfl, rfl, rfl, rfl⟩
theorem f0_98 : ∀ j, j < 3 → (plH Nz).1 (98, 0) (3 + j) = 0
  | 0, _ => rfl
  | 1, _ => rfl
  | 2, _ => rfl
  | j + 3, h => absurd h (by omega)
theorem f0_110 (j : Nat) : (plH Nz).1 (110, 0) j = 0 := rfl
theorem bg_0 {A : eg_H} (h : AK (plH Nz) A) : gX11_begins (fX11_clears A) := by
  obtain ⟨a1, a2, a3, a4, a5, a6⟩ := h
  have pl : PL M0 0 (kp (plH Nz)) := PL_0 (q := 0) (by omega) f0_5 rfl f0_35 f0_N f0_98
  have plA : PL M0 0 A := pl.congH (fun _ _ => rfl) a1 a2
  have c0 : cN M0 0 = 0 := by unfold cN; rw [f0_5.1]; rfl
  have n6 : eN (cE M0 0) < 6 := (cN_e plA.cW).2
  have hR : oR (cE M0 0) (M0.1 (40, 0)) := oR_n n6 (fun k hk => if_pos hk)
  have c110 : ∀ j, 366 ≤ j → (fX11_clears A).1 (110, 0) j = 0 := fun j hj => by
    rw [clr_o _ (by decide) (by decide) (by decide), a6 110 (by omega)]; exact f0_110 j
  exact (plA.qs hR (fun k hk => by rw [c0] at hk; exact absurd hk (Nat.not_lt_zero k)) c110).2
theorem J_0 {N1 : eg_H} (C : Nat) (hY : PME (plH Nz) N1) : JJ M0 N1 (C + 60) 0 := JJ0 ⟨rfl, rfl, rfl⟩ f0_5 rfl f0_35 ⟨rfl, rfl⟩ (fun k hk => if_pos hk) ⟨rfl, rfl, rfl⟩ ⟨rfl, rfl⟩ ⟨rfl, rfl⟩ f0_N f0_98 ⟨rfl, rfl, rfl⟩ (fun j _ => f0_110 j) (fun i hi => if_pos hi) hY
theorem c_X11 (l : Launch) (dC : Nat → ClassId) (dI : Nat → Nat → Nat) (dA : Nat → ClassId) (b : Nat) (tx wv : Nat → Nat) : Met l mtX11_init.1 (eg_w mtX11_init) (eg_rn 5 34 10528) (va_Pc [.ref (b + 270 + 0)] (fun U => HW (eK l dC dI dA b tx wv) (b + 270) [.inr (11, eg_d0 11)] U)) (eg_Nq (eK l dC dI dA b tx wv) (b + 270)) 34 10528 (fun q => b + 270 ≤ q) := by
  refine eg_Xq.of (κ := eK l dC dI dA b tx wv) rfl (Nat.le_of_ble_eq_true rfl) ?_
  refine m_pre (κ := eK l dC dI dA b tx wv) (b := b + 270) (L := [.inr (11, eg_d0 11)]) (k := 0) (n := 1) rfl (by decide) (by decide) (Nat.le_refl _) (Nat.le_refl _) ?_
  intro p e s m args below meth c H locs la C hl hz hP hS
  rw [asM_l] at hz hP
  have hA : ∀ q, eg_A (eK l dC dI dA b tx wv) gM q → b + 270 ≤ q := fun q ⟨r, hr, er⟩ => by rw [er]; exact (rg_M l dC dI dA b tx wv r hr).1
  refine W_sz (fun hsz => ?_)
  have e0 : H.size = b + 270 + 35 := wl_sz (Or.inl (fun z => by cases z)) hP hz hS.1 hsz
  have hP1 := cv_M l dC dI dA b tx wv hP
  have hz0 : s.heap.size + 34 = b + 270 + 35 := hz
  refine lv_aload_n C.1 C.2.1 dX11_init_1010 rfl (lv_at hl 0 rfl) ?_
  refine m_call (d1 := 4) C hl (ok_M l dC dI dA b tx wv) hA hP1 hS dX11_init_1011 ml_11_121 rfl (by decide) (sX11_plain Nz) (by omega) (by omega) (fun N1 H1 locs1 hN hP2 hz1 hS1 => ?_)
  subst hN
  refine lv_aload_n C.1 C.2.1 dX11_init_1014 rfl (lv_at hl 0 rfl) ?_
  refine m_call (d1 := 4) (post := PME (plH Nz)) C hl (ok_M l dC dI dA b tx wv) hA hP2 hS1 dX11_init_1015 ml_11_124 rfl (by decide) (KT_0 (by decide) ?_ ?_ (fun A hA => ?_)) (by omega) (by omega) (fun N1 H2 locs2 hN hP3 hz2 hS2 => ?_)
  · exact Or.inl rfl
  · intro j hj
    left
    rcases (show j = 0 ∨ j = 1 ∨ j = 2 by omega) with z | z | z <;> subst z <;> rfl
  · exact ⟨bg_0 hA, A, hA, rfl⟩
  · refine W_sz (fun hsz2 => ?_)
    exact W.vret C.1 C.2.1 C.2.2.1 (fun t ht hW => ⟨⟨N1, rfl, hN, by rw [ht]; have := hsz2; omega, by rw [ht]; exact hP3, va_K.moved hW.alike C.2.2.2.2.2.2.2.1⟩, hS2.F ht⟩) hS2.2.2 dX11_init_1018 C.2.2.2.2.2.2.1
