/-! THE LAW COMES TO ITS LOOP -/
theorem mi_L_17 : eg_MI RL 17 mtX10_init 0 := ⟨⟨(eg_t1 (i := 26) (by decide +kernel) rfl), (eg_t1 (i := 27) (by decide +kernel) rfl), (eg_t1 (i := 1) (by decide +kernel) rfl), (eg_t1 (i := 28) rfl rfl)⟩, ⟨by decide, by decide, by decide +kernel⟩, by decide, rfl, rfl⟩
theorem mi_L_20 : eg_MI RL 20 mtX11_init 0 := ⟨⟨(eg_t6 (i := 34) (by decide +kernel) rfl), (eg_t6 (i := 35) (by decide +kernel) rfl), (eg_t1 (i := 12) (by decide +kernel) rfl), (eg_t6 (i := 36) rfl rfl)⟩, ⟨by decide, by decide, by decide +kernel⟩, by decide, rfl, rfl⟩
theorem ck_L_8 : eg_CK RL 8 10 := ⟨by decide, (eg_t1 (i := 24) (by decide +kernel) rfl), s0_in 10 (by decide), (eg_t1 (i := 1) (by decide +kernel) rfl)⟩
theorem ck_L_18 : eg_CK RL 18 11 := ⟨by decide, (eg_t6 (i := 32) (by decide +kernel) rfl), s0_in 11 (by decide), (eg_t1 (i := 12) (by decide +kernel) rfl)⟩
/-- a new object's cell, as the world has it -/
theorem s0_born {κ : eg_K} {s : State} {a : Array Value} {ci h : Nat} {H1 : Heap} {kC : Class} (ht : ∀ w ∈ eg_T, w.before a s = true) (hci : ci < 12) (hK : va_K (kD κ) vwCl (eg_tys κ) s) (hkC : s.vm.classes[(kD κ).1 ci]? = some kC) (e1 : H1[h]? = some (blank ((kD κ).1 ci) kC)) : va_P (kD κ) vwCl (wl h [.inr (ci, eg_d0 ci)]) H1 := by
  intro j x hx
  have hj : j < 1 := (List.getElem?_eq_some_iff.mp hx).1
  rw [show j = 0 by omega] at hx
  cases hx
  have hKn := hK.1 ci _ (eg_cl ci hci)
  refine ⟨_, eg_cl ci hci, (u_born (eg_ty ci) ht (eg_uin ci hci) hKn hkC e1 (eg_tyk ci hci)).to (fun j hj => ?_)⟩
  unfold vp_V eg_d0
  rw [List.getD_eq_getElem?_getD, List.getElem?_map, List.getElem?_range hj]
  rfl
set_option maxHeartbeats 4000000 in
theorem s0_run {p : Program} {e : Env} {s : State} {m : MethodId} {below : List Frame} {meth : Method} {c : Code} (l : Launch) (dC : Nat → ClassId) (dI : Nat → Nat → Nat) (dA : Nat → ClassId) (tx wv : Nat → Nat) {b L : Nat} {xs : Nat → Int32} (hL : L ≤ 3072) (C0 : lw_At p s m meth c b L xs) (hK : va_K (kD (eK l dC dI dA s.heap.size tx wv)) vwCl (eg_tys (eK l dC dI dA s.heap.size tx wv)) s) (hZ : eg_Z (eK l dC dI dA s.heap.size tx wv) (fun q => s.heap.size ≤ q) s s.heap) (hcn : cnK s) (hk : lwC (eK l dC dI dA s.heap.size tx wv) p s m meth c b L xs → LkC (eK l dC dI dA s.heap.size tx wv) p e s m below meth c b L) : W p l e room_1 s m #[Value.ref b] below meth c s.heap [] 0 0 (lw_Z below #[Value.ref b] s) (entryFrame m ([Value.ref b] : List Value).toArray 7) := by
  obtain ⟨hx, hb, hr, hml, hown, hts, hX, hbl, hlocks, hgv⟩ := id C0
  have C : lwC (eK l dC dI dA s.heap.size tx wv) p s m meth c b L xs := ⟨⟨hx, hb, hr, hml, hown, hts, hlocks⟩, ⟨hX, hbl, hL⟩, hK, hZ, ⟨ok_C l dC dI dA s.heap.size tx wv, ok_M l dC dI dA s.heap.size tx wv⟩, rg_C l dC dI dA s.heap.size tx wv, rg_M l dC dI dA s.heap.size tx wv⟩
  have hloop := fun (N1 : eg_H) (h : PME (plH Nz) N1) => lw_loop (e := e) (below := below) (o := 0) C (hk C) (S0 := 13959) (by decide) (J_0 140 h)
  have ht : ∀ w ∈ eg_T, w.before #[Value.ref b] s = true := fun w hw => hts w (List.mem_filter.mp hw).1
  have hl := lv_entry ([.ref b]) (n := 7) (Nat.le_of_ble_eq_true rfl)
  rw [lg_entry_eq]
  generalize (lg_sl ([.ref b]) ++ List.replicate (7 - (lg_sl ([.ref b])).length) Slot.unset).toArray = la at hl ⊢
  have hl : lv_has la 7 [(0, .ref b)] := hl
  refine W.newcK hx hb hown (ht _ ck_L_8.2.1) (ht _ ck_L_8.2.2.1) (ht _ ck_L_8.2.2.2) rfl dL_law_0 (Nat.le_of_ble_eq_true rfl) (Nat.le_of_ble_eq_true rfl) (hK.1 10 _ (eg_cl 10 (by decide))).2.1 rfl fun H1 kC hkC e1 z1 o1 => ?_
  have hP1 := s0_born ht (ci := 10) (by decide) hK hkC e1
  have hS1 : va_S (fun q => s.heap.size ≤ q) s.heap H1 [] := ⟨by omega, fun q h _ => o1 q h, fun q hq => by cases hq⟩
  refine lv_dup hx hb dL_law_3 rfl ?_
  obtain ⟨⟨m1, m2, m3, m4⟩, hd1, hml1, hr1, hn1⟩ := mi_L_17
  have hw1 : eg_w mtX10_init = Cond.code mtX10_init.1 mtX10_init.2.1 mtX10_init.2.2.1 none :: eg_T := rfl
  refine va_callv (va_runI (own := RL) (index := 17) (y := mtX10_init.1) (bytes := mtX10_init.2.1) (maxL := mtX10_init.2.2.1) (ws := eg_w mtX10_init) (rm := eg_rn 3 269 3333) (Ts := lw_tbl) (cc := code) (nL := 7) (n := 0) (As := []) (rest := [.ref s.heap.size]) (b := s.heap.size) ⟨hx, hb, hml, hown, hts⟩ (c_X10 (κ := eK l dC dI dA s.heap.size tx wv) (b := s.heap.size) (L := [.inr (10, eg_d0 10)]) (k := 0) (n := 1) rfl rfl) (cwI 0 hts (lw_gw mtX10_init m4 (l0 := []) (fun w h => by cases h)) hw1 rfl rfl (ht _ m3) (ht _ m1) (ht _ m2) hn1 hd1 ⟨by decide, by decide⟩) ⟨HW_blind _ _ _ _, fun U hU hW => ⟨rfl, ⟨by rw [hU, z1]; rfl, by rw [hU, z1]; omega⟩, by rw [hU]; exact hP1, va_K.moved hW.alike hK, hcn.warm hW, by rw [hU]; exact (hZ.kept hS1.2.1).warm hW⟩⟩ rfl rfl hl.1 rfl (lv_room (Nat.le_of_ble_eq_true rfl)) dL_law_4 ⟨Nat.le_of_ble_eq_true rfl, Nat.le_of_ble_eq_true rfl⟩) hS1 (fun q _ h => h) (fun _ h => h) (fun u t H2 locs2 ht2 hvm _ hB hz2 hk2 hS2 => ?_)
  have z2 : H2.size = s.heap.size + 270 := by
    have h := hB.1.1
    rw [ht2] at h
    rw [h, wS_len (n := 1) rfl, qf_l]
  have hP2 : va_P (kD (eK l dC dI dA s.heap.size tx wv)) vwCl (eg_ws (eK l dC dI dA s.heap.size tx wv) gC M0) H2 := cv_C l dC dI dA s.heap.size tx wv (by rw [← ht2]; exact hB.2.1)
  clear hB
  refine lv_astore_n (lv' := [(1, .ref s.heap.size), (0, .ref b)]) hx hb dL_law_7 rfl hl (by decide) rfl (fun la hl => ?_)
  refine W.newcK hx hb hown (ht _ ck_L_18.2.1) (ht _ ck_L_18.2.2.1) (ht _ ck_L_18.2.2.2) rfl dL_law_8 (Nat.le_of_ble_eq_true rfl) (Nat.le_of_ble_eq_true rfl) (hK.1 11 _ (eg_cl 11 (by decide))).2.1 z2 fun H3 kC3 hkC3 e3 z3 o3 => ?_
  have hP3 := s0_born ht (ci := 11) (by decide) hK hkC3 e3
  have hS3 : va_S (fun q => s.heap.size ≤ q) s.heap H3 locs2 := ⟨by omega, fun q h1 h2 => (o3 q (by omega)).trans (hS2.2.1 q h1 h2), hS2.2.2⟩
  have hC3 : va_P (kD (eK l dC dI dA s.heap.size tx wv)) vwCl (eg_ws (eK l dC dI dA s.heap.size tx wv) gC M0) H3 := ws_kept (A := fun q => s.heap.size + 270 ≤ q) hP2 (fun r hr hz => by have := (C.2.2.2.2.2.1 r hr).2; have hz : s.heap.size + 270 ≤ kad (eK l dC dI dA s.heap.size tx wv) r := hz; omega) (fun q h1 _ => o3 q (by omega))
  refine lv_dup hx hb dL_law_11 rfl ?_
  obtain ⟨⟨n1, n2, n3, n4⟩, nd1, nml1, nr1, nn1⟩ := mi_L_20
  have hw2 : eg_w mtX11_init = Cond.code mtX11_init.1 mtX11_init.2.1 mtX11_init.2.2.1 none :: eg_T := rfl
  refine va_callv (va_runI (own := RL) (index := 20) (y := mtX11_init.1) (bytes := mtX11_init.2.1) (maxL := mtX11_init.2.2.1) (ws := eg_w mtX11_init) (rm := eg_rn 5 34 10528) (Ts := lw_tbl) (cc := code) (nL := 7) (n := 0) (As := []) (rest := [.ref (s.heap.size + 270)]) (b := s.heap.size + 270) ⟨hx, hb, hml, hown, hts⟩ (c_X11 l dC dI dA s.heap.size tx wv) (cwI 0 hts (lw_gw mtX11_init n4 (l0 := []) (fun w h => by cases h)) hw2 rfl rfl (ht _ n3) (ht _ n1) (ht _ n2) nn1 nd1 ⟨by decide, by decide⟩) ⟨HW_blind _ _ _ _, fun U hU hW => ⟨rfl, ⟨by rw [hU, z3]; rfl, by rw [hU, z3]; omega⟩, by rw [hU]; exact hP3, va_K.moved hW.alike hK, hcn.warm hW, by rw [hU]; exact ((hZ.kept hS3.2.1).warm hW).narrow (fun q hq => by have hq : s.heap.size + 270 ≤ q := hq; show s.heap.size ≤ q; omega)⟩⟩ rfl rfl hl.1 rfl (lv_room (Nat.le_of_ble_eq_true rfl)) dL_law_12 ⟨Nat.le_of_ble_eq_true rfl, Nat.le_of_ble_eq_true rfl⟩) hS3 (fun q _ h => by have h : s.heap.size + 270 ≤ q := h; show s.heap.size ≤ q; omega) (fun q h => by have h : s.heap.size + 270 ≤ q := h; show s.heap.size ≤ q; omega) (fun N1 t4 H4 locs4 ht4 hvm4 hN hB4 hz4 hk4 hS4 => ?_)
  have z4 : H4.size = s.heap.size + 305 := by
    have h := hB4.1
    rw [ht4] at h
    exact h
  have hM4 : va_P (kD (eK l dC dI dA s.heap.size tx wv)) vwCl (eg_ws (eK l dC dI dA s.heap.size tx wv) gM N1) H4 := by rw [← ht4]; exact hB4.2.1
  have hC4 : va_P (kD (eK l dC dI dA s.heap.size tx wv)) vwCl (eg_ws (eK l dC dI dA s.heap.size tx wv) gC M0) H4 := ws_kept (A := fun q => s.heap.size + 270 ≤ q) hC3 (fun r hr hz => by have := (C.2.2.2.2.2.1 r hr).2; have hz : s.heap.size + 270 ≤ kad (eK l dC dI dA s.heap.size tx wv) r := hz; omega) hk4
  clear hB4
  refine lv_astore_n (lv' := [(2, .ref (s.heap.size + 270)), (1, .ref s.heap.size), (0, .ref b)]) hx hb dL_law_15 rfl hl (by decide) rfl (fun la hl => ?_)
  refine lv_iconst (v := 1) hx hb dL_law_16 (by decide) ?_
  refine va_newaK (atype := .long) hx hb (ht _ ac_long) rfl dL_law_17 rfl (by decide) (N := 1) (by decide) (by decide) (Nat.le_of_ble_eq_true rfl) (Nat.le_of_ble_eq_true rfl) z4 fun H5 cA e5 z5 o5 hAr hNm => ?_
  have hcA : cA = kA (eK l dC dI dA s.heap.size tx wv) 3 := Option.some.inj (hNm.symm.trans (hK.2 3 _ rfl).2)
  have hO5 : va_P (kD (eK l dC dI dA s.heap.size tx wv)) vwCl (lwO (eK l dC dI dA s.heap.size tx wv) s 0) H5 := fun j x hx => by
    have hj : j < 1 := (List.getElem?_eq_some_iff.mp hx).1
    rw [show j = 0 by omega] at hx
    cases hx
    show H5[s.heap.size + 305]? = some (arrV (kA (eK l dC dI dA s.heap.size tx wv) 3) 1 (fun _ => .long 0))
    rw [e5, hcA]
    rfl
  have hC5 : va_P (kD (eK l dC dI dA s.heap.size tx wv)) vwCl (eg_ws (eK l dC dI dA s.heap.size tx wv) gC M0) H5 := ws_kept (A := fun q => s.heap.size + 305 ≤ q) hC4 (fun r hr hz => by have := (C.2.2.2.2.2.1 r hr).2; have hz : s.heap.size + 305 ≤ kad (eK l dC dI dA s.heap.size tx wv) r := hz; omega) (fun q h1 _ => o5 q (by omega))
  have hM5 : va_P (kD (eK l dC dI dA s.heap.size tx wv)) vwCl (eg_ws (eK l dC dI dA s.heap.size tx wv) gM N1) H5 := ws_kept (A := fun q => s.heap.size + 305 ≤ q) hM4 (fun r hr hz => by have := (C.2.2.2.2.2.2 r hr).2; have hz : s.heap.size + 305 ≤ kad (eK l dC dI dA s.heap.size tx wv) r := hz; omega) (fun q h1 _ => o5 q (by omega))
  have hS5 : va_S (fun q => s.heap.size ≤ q) s.heap H5 locs4 := ⟨by omega, fun q h1 h2 => (o5 q (by omega)).trans (hS4.2.1 q h1 h2), hS4.2.2⟩
  refine lv_astore_n (lv' := [(3, .ref (s.heap.size + 305)), (2, .ref (s.heap.size + 270)), (1, .ref s.heap.size), (0, .ref b)]) hx hb dL_law_19 rfl hl (by decide) rfl (fun la hl => ?_)
  refine lv_iconst (v := 0) hx hb dL_law_20 (by decide) ?_
  refine lv_istore (lv' := [(4, .int 0), (3, .ref (s.heap.size + 305)), (2, .ref (s.heap.size + 270)), (1, .ref s.heap.size), (0, .ref b)]) hx hb dL_law_21 hl (by decide) rfl (fun la hl => ?_)
  exact hloop N1 hN H5 locs4 la hl ⟨hC5, hM5, hO5⟩ hS5
