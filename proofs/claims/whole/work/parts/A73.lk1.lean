/-! THE LAW'S CASE OF LOOK -/
theorem wi_mtX11_look : Cond.initialized mtX11_look.1.cls ∈ eg_T ∧ Cond.code mtX11_look.1 mtX11_look.2.1 mtX11_look.2.2.1 mtX11_look.2.2.2 ∈ eg_T := ⟨(eg_t1 (i := 12) (by decide +kernel) rfl), (eg_t7 (i := 225) rfl rfl)⟩
theorem ws_mtX11_look : Cond.instanceMethod mtX11_look.1 ∈ eg_T ∧ Cond.selects mtX11_look.1.cls mtX11_look.1 mtX11_look.1 ∈ eg_T := ⟨(eg_t7 (i := 223) (by decide +kernel) rfl), (eg_t7 (i := 224) (by decide +kernel) rfl)⟩
theorem wd_mtX11_look : (mtX11_look.1.cls ≠ "java/lang/invoke/MethodHandle" ∧ mtX11_look.1.cls ≠ "java/lang/invoke/VarHandle" ∧ (parseMethodDescriptor mtX11_look.1.desc).map (fun d => d.parameters.length) = some 2) ∧ mtX11_look.2.2.1 ≤ 21 := by decide +kernel
theorem ml_L_44 : eg_MV RL 44 mtX11_look 2 := ⟨⟨(eg_t7 (i := 222) (by decide +kernel) rfl), ws_mtX11_look.1, ws_mtX11_look.2, wi_mtX11_look⟩, wd_mtX11_look⟩
theorem wi_mtX11_thrown : Cond.initialized mtX11_thrown.1.cls ∈ eg_T ∧ Cond.code mtX11_thrown.1 mtX11_thrown.2.1 mtX11_thrown.2.2.1 mtX11_thrown.2.2.2 ∈ eg_T := ⟨(eg_t1 (i := 12) (by decide +kernel) rfl), (eg_t7 (i := 92) rfl rfl)⟩
theorem ws_mtX11_thrown : Cond.instanceMethod mtX11_thrown.1 ∈ eg_T ∧ Cond.selects mtX11_thrown.1.cls mtX11_thrown.1 mtX11_thrown.1 ∈ eg_T := ⟨(eg_t7 (i := 90) (by decide +kernel) rfl), (eg_t7 (i := 91) (by decide +kernel) rfl)⟩
theorem wd_mtX11_thrown : (mtX11_thrown.1.cls ≠ "java/lang/invoke/MethodHandle" ∧ mtX11_thrown.1.cls ≠ "java/lang/invoke/VarHandle" ∧ (parseMethodDescriptor mtX11_thrown.1.desc).map (fun d => d.parameters.length) = some 0) ∧ mtX11_thrown.2.2.1 ≤ 21 := by decide +kernel
theorem ml_L_45 : eg_MV RL 45 mtX11_thrown 0 := ⟨⟨(eg_t7 (i := 89) (by decide +kernel) rfl), ws_mtX11_thrown.1, ws_mtX11_thrown.2, wi_mtX11_thrown⟩, wd_mtX11_thrown⟩
/-- the static call at 358: what the class's look does, with its throws caught -/
def SLk (κ : eg_K) (p : Program) (e : Env) (s : State) (m : MethodId) (below : List Frame) (meth : Method) (c : Code) (bS : Nat) : Prop := ∀ (M N : eg_H) (o : Int64) (cn sn : Nat) (x w : Int32) (ls : List (Nat × Value)), cn + 1 ≤ 601024 → sn + 6 ≤ 7293034 →
  (∀ r : Int32, eg_S κ gC mtX10_look 10 [vR (10, 0), vI x, vI w] M (eQI κ gC (fun r' M1 => r' = r ∧ M1 = M)) → lqW κ p e s m below meth c bS 361 ls [.int 0] M N r.toInt64 (cn + 1) (sn + 6) → lqW κ p e s m below meth c bS 358 ls [.ref (s.heap.size + 305), .int w, .int x, .ref (kad κ (10, 0))] M N o cn sn) ∧
  (∀ q, q < 2 → M.2.2 (10, 0) 3 = (5, q) → fX5_hasGuest M q x = 0 → lqW κ p e s m below meth c bS 361 ls [.int 1] M N o (cn + 1) (sn + 6) → lqW κ p e s m below meth c bS 358 ls [.ref (s.heap.size + 305), .int w, .int x, .ref (kad κ (10, 0))] M N o cn sn) ∧
  ∀ q, q < 2 → M.2.2 (10, 0) 3 = (5, q) → ¬ fX5_hasGuest M q x = 0 → vp_in x 15 → (∀ k, k < 11 → w ≠ nI k) → lqW κ p e s m below meth c bS 361 ls [.int 2] M N o (cn + 1) (sn + 6) → lqW κ p e s m below meth c bS 358 ls [.ref (s.heap.size + 305), .int w, .int x, .ref (kad κ (10, 0))] M N o cn sn
theorem lk_tail {κ : eg_K} {p : Program} {e : Env} {s : State} {m : MethodId} {below : List Frame} {meth : Method} {c : Code} {bS Ls : Nat} {xs : Nat → Int32} {M N : eg_H} {o : Int64} {cn sn i : Nat} (C : lwC κ p s m meth c bS Ls xs) (hb : cn ≤ 601024 ∧ sn ≤ 7293034) (hi : i + 6 ≤ Ls) {v r : Int32} {N1 : eg_H} (hm : eg_S κ gM mtX11_look 12 [vR (60, 0), vI (xs (i + 1)), vI (xs (i + 2))] N (eQI κ gM (fun r' N2 => r' = r ∧ N2 = N1))) (ht : N1.1 (60, 0) 2 = v) (hv : v = 0 → o = r.toInt64) (kk : lqW κ p e s m below meth c bS 1400 (lsL κ s bS i) [] M N1 o cn sn) : lqW κ p e s m below meth c bS 361 (lsL κ s bS i) [.int v] M N o cn sn := by
  refine lr_istore (ls1 := (5, .int v) :: lsL κ s bS i) C dL_law_361 (by decide) rfl ?_
  refine lr_aload C 3 dL_law_363 rfl rfl ?_
  refine lr_arg (k := 1) C dL_law_364 dL_law_365 dL_law_367 dL_law_368 dL_law_369 (by decide) (Or.inr ⟨rfl, rfl⟩) (by omega) ?_
  refine lr_arg (k := 2) C dL_law_370 dL_law_371 dL_law_373 dL_law_374 dL_law_375 (by decide) (Or.inr ⟨rfl, rfl⟩) (by omega) ?_
  refine lr_MI (av := [vI (xs (i + 1)), vI (xs (i + 2))]) (st := []) C hb dL_law_376 ml_L_44 rfl rfl rfl (by decide) hm (fun z N2 hz => ?_)
  obtain ⟨ez, e2⟩ := hz
  subst e2
  refine lr_istore (ls1 := (6, .int z) :: (5, .int v) :: lsL κ s bS i) C dL_law_379 (by decide) rfl ?_
  refine lr_aload C 4 dL_law_381 rfl rfl ?_
  refine lr_MI (av := []) (st := []) C hb dL_law_382 ml_L_45 rfl rfl rfl (by decide) (eg_S.of rfl (Nat.le_of_ble_eq_true rfl) (vX11_thrown_0 N2 (post := fun r' N3 => r' = N2.1 (60, 0) 2 ∧ N3 = N2) ⟨rfl, rfl⟩)) (fun y N3 hy => ?_)
  obtain ⟨ey, e3⟩ := hy
  subst e3
  refine lr_iload C 1 dL_law_385 rfl ?_
  refine lr_eq (tgt := 392) C dL_law_387 (by decide) (ey.trans ht) ?_
  refine lr_iload C 1 dL_law_392 rfl ?_
  have kend : lqW κ p e s m below meth c bS 409 ((6, .int z) :: (5, .int v) :: lsL κ s bS i) [] M N3 o cn sn := lr_goto (tgt := 1400) C dL_law_409 (by decide) (lr_sub [2, 3, 4, 5, 6] rfl kk)
  refine lr_if_ne (tgt := 409) C dL_law_394 (by decide) (fun _ => kend) (fun c0 => ?_)
  refine lr_aload C 3 dL_law_397 rfl rfl ?_
  refine lr_iconst (v := 0) C dL_law_398 (by decide) ?_
  intro H locs la hl hH hS
  refine va_lald C.1.1 C.1.2.1 C.2.2.1 hH.2.2 0 3 (cA := kA κ 3) (n := 1) (f := fun _ => o) rfl rfl (nI_in' (n := 0) (by omega) (by omega)) dL_law_399 ?_
  refine lv_iload C.1.1 C.1.2.1 dL_law_400 (lv_at hl 0 rfl) ?_
  refine lv_i2l C.1.1 C.1.2.1 dL_law_402 rfl ?_
  exact lr_lcmp C dL_law_403 (by rw [hv c0, ez]) (lr_if_eq (tgt := 409) C dL_law_404 (by decide) rfl kend) H locs la hl hH hS
theorem lc_look {κ : eg_K} {p : Program} {e : Env} {s : State} {m : MethodId} {below : List Frame} {meth : Method} {c : Code} {bS Ls : Nat} {xs : Nat → Int32} (C : lwC κ p s m meth c bS Ls xs) (hK : SLk κ p e s m below meth c bS) : LkC κ p e s m below meth c bS Ls := by
  intro M N o cn sn i C0 p1 h1 h2 hi hJ kk
  refine lr_aload C 3 dL_law_344 rfl rfl ?_
  refine lr_arg (k := 1) C dL_law_345 dL_law_346 dL_law_348 dL_law_349 dL_law_350 (by decide) (Or.inl ⟨rfl, rfl⟩) (by omega) ?_
  refine lr_arg (k := 2) C dL_law_351 dL_law_352 dL_law_354 dL_law_355 dL_law_356 (by decide) (Or.inl ⟨rfl, rfl⟩) (by omega) ?_
  refine lr_aload C 1 dL_law_357 rfl rfl ?_
  obtain ⟨k0, k1, k2⟩ := hK M N o cn sn (xs (i + 1)) (xs (i + 2)) (lsL κ s bS i) h1 h2
  have F0 : FrN N (t0 N) := FrN_f N (by omega) 0
  have hp := hJ.hp
  have pl0 : PL M p1 (t0 N) := hJ.1.2.1.cong (fun _ _ => rfl) F0.T
  have hN16 : cP M p1 < 16 := hJ.1.2.1.cW.2.2.2.2.1.2.1
  have jj : ∀ v : Int32, JJ M (sI (t0 N) (60, 0) 2 v) (C0 + 60) p1 := fun v => (hJ.cong (FrQ.rf p1 M) (F0.tr (FrN_f (t0 N) (by omega) v))).mono (by omega)
  have jj0 : JJ M (t0 N) (C0 + 60) p1 := (hJ.cong (FrQ.rf p1 M) F0).mono (by omega)
  rcases isGuest_n (t0 N) (xs (i + 1)) pl0.hg with z | z
  · refine k1 p1 hp.2.1 hp.1.1 (by rw [hasGuest_n pl0]; exact z.1) (lk_tail C ⟨by omega, by omega⟩ hi (lk_m1 (by decide) N z.1) ?_ (fun c0 => absurd c0 (by decide)) ?_)
    · rw [sI_60, if_pos rfl]
    · exact kk M _ o p1 (jj 1)
  · have hx := z.2
    have hg0 : ¬ fX11_isGuest (t0 N) (xs (i + 1)) = 0 := by rw [z.1]; decide
    rw [← pl0.g1] at hx
    obtain ⟨ex, hg⟩ := nI_of' hx (by omega)
    have h10 := vp_lt pl0.hg
    rw [← pl0.g1] at h10
    have h15 : vp_in (xs (i + 1)) 15 := by rw [ex]; exact nI_in' (by omega) (by omega)
    by_cases hw : ∃ k, k < 11 ∧ xs (i + 2) = nI k
    · obtain ⟨k, hk, ew⟩ := hw
      have ev := lk_v hJ hg hk
      refine k0 (lkV M (15 * 0 + (xs (i + 1)).toNatClampNeg) k) (by rw [ew]; exact lk_c (by decide) M hp.2.1 hp.1.1 _ (by rw [hasGuest_n pl0]; exact hg0) h15 hk) (lk_tail C ⟨by omega, by omega⟩ hi (r := lkV M (15 * 0 + (xs (i + 1)).toNatClampNeg) k) (N1 := t0 N) ?_ ?_ (fun _ => rfl) (kk M _ _ p1 jj0))
      · rw [ev, ew]
        have hm := lk_m (κ := κ) (d := 12) (by decide) N (g := (xs (i + 1)).toNatClampNeg) (by rw [← ex]; exact hg0) (by omega) hk
        rw [← ex] at hm
        exact hm
      · rw [sI_60, if_pos rfl]
    · have hw' : ∀ k, k < 11 → xs (i + 2) ≠ nI k := fun k hk hz => hw ⟨k, hk, hz⟩
      refine k2 p1 hp.2.1 hp.1.1 (by rw [hasGuest_n pl0]; exact hg0) h15 hw' (lk_tail C ⟨by omega, by omega⟩ hi (lk_m2 (by decide) N hg0 hw') ?_ (fun c0 => absurd c0 (by decide)) ?_)
      · rw [sI_60, if_pos rfl]
      · exact kk M _ o p1 (jj 2)
