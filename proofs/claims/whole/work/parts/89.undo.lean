/-! UNDO -/
def unC (M : eg_H) (p : Nat) (u : Nat) (X : Nat → Int32) (M1 : eg_H) : Prop := ∃ nm st Z, M1 = TX (sI M (10, 0) 11 (nI u)) 0 p nm st Z ∧ RY (cE M p) Z X
def unM (N : eg_H) (u : Nat) (N1 : eg_H) : Prop := ∃ f g, (∀ j, j < 366 → f j = N.1 (131, 0) (366 * u + j)) ∧ (∀ i, i < 5 → g i = f (360 + i)) ∧ N1 = sW (sW (sI (t0 N) (60, 0) 69 (nI u)) (111, 0) f) (112, 0) g
theorem st_undo {M N : eg_H} {C p : Nat} (h : JJ M N C p) (hC : C < 1000000) : StI mtX10_undo mtX11_undo [] M N C := by
  have F0 : FrN N (t0 N) := FrN_f N (by omega) 0
  have pl := h.1.2.1
  have hW := pl.cW
  have hE := hW.2.2.2.2.1
  have e7 : M.2.2 (7, 0) 0 = (5, p) := h.1.1.2.2
  obtain ⟨u, Ys, hu, u1, u2, u0, u3, u4, u5⟩ := h.2.2.1.all
  have B : (t0 N).1 (60, 0) 69 = nI u := by rw [t0_k N (by decide)]; exact u2
  by_cases z : u = 0
  · refine StI.q h (-1) (fun κ => ?_) (fun κ => ?_)
    · refine eg_S.of rfl (Nat.le_of_ble_eq_true rfl) (vX10_undo_0 (by omega) M ⟨fun c => ?_, fun _ => ⟨rfl, FrQ.rf p M⟩⟩)
      rw [u1, z] at c
      exact absurd c (by decide)
    · refine eg_S.of rfl (Nat.le_of_ble_eq_true rfl) (vX11_undo_0 N (fun M1 e1 => ?_))
      have e1 : M1 = t0 N := e1
      rw [e1, B, z]
      exact ⟨fun c => absurd rfl c, fun _ => ⟨rfl, F0⟩⟩
  · obtain ⟨v, hv⟩ : ∃ v, u = v + 1 := ⟨u - 1, by omega⟩
    rw [hv] at hu u1 u3 u4 u5 B
    obtain ⟨e73, r3⟩ := u4 (by omega)
    refine ⟨nI v, unC M p v (Ys v), unM N v, fun κ => ?_, fun κ => ?_, fun M1 N1 hP hQ => ⟨p, ?_⟩⟩
    · obtain ⟨M2, hM2⟩ : ∃ M2, M2 = sI M (10, 0) 11 (nI v) := ⟨_, rfl⟩
      have o2 : ∀ r, r ≠ (10, 0) → M2.1 r = M.1 r := fun r hr => by rw [hM2, sI_ne hr]
      have eP : ∀ r, pOf r p → M2.1 r = M.1 r := fun r q => o2 r (fun e => by rw [e] at q; unfold pOf at q; omega)
      have eE : cE M2 p = cE M p := cE_cong hW eP
      have w2 : cW M2 p := (pl.cong eP (FrN.rf N).T).cW
      have r2 : M2.2.2 = M.2.2 := by rw [hM2]; rfl
      have a3 : aT M2 3 = aT M 3 := by rw [hM2, sI_tf]
      have es : sR M2 (7, 0) 0 (5, p) = M2 := by
        have : (5, p) = M2.2.2 (7, 0) 0 := by rw [r2, e7]
        rw [this, sR_self]
      have q0 : (Ys 0 1).toNatClampNeg < 16 := (u5 0 (by omega)).2.1.1.q16 hE
      refine eg_S.of rfl (Nat.le_of_ble_eq_true rfl) (vX10_undo_0 (by omega) M ⟨fun _ M2' e2 => ?_, fun c => ?_⟩)
      · rw [u1, nI_p, ← hM2] at e2
        rw [e2]
        have cf := sX7_copyFrom (κ := κ) (d := 12 - 1) (M := M2) (t0 := 0) (t1 := 3) (p := p) (by omega) (by omega) (by omega) (by omega) w2 (by rw [r2]; exact e73) (JJ.b01 (M := M2) (Y := Ys 0) (by rw [eE]; exact hE) (by rw [eE, a3]; exact r3))
        rw [es, eE] at cf
        refine ⟨_, cf, fun M3 ⟨Z1, e3, q3⟩ => ?_⟩
        rw [e3]
        rw [a3] at q3
        have s0 := tEq_R hE q3 q0 r3
        suffices key : ∀ m i nm st Z, i + m = v → RY (cE M p) Z (Ys i) → eg_W κ gC mtX10_undo 12 (eQI κ gC (fun r' M1 => r' = nI v ∧ unC M p v (Ys v) M1)) 32 [(0, vR (10, 0)), (1, vI (nI i))] [] (TX M2 0 p nm st Z) from key v 0 _ _ _ (by omega) s0
        intro m
        have e11 : ∀ nm st Z, (TX M2 0 p nm st Z).1 (10, 0) 11 = nI v := fun nm st Z => by
          rw [TX_fr _ _ _ _ _ _ (nT_k (by omega)), hM2, sI_upd]; exact pk_us
        induction m with
        | zero =>
          intro i nm st Z hi rz
          have ei : i = v := by omega
          rw [ei] at rz ⊢
          refine vX10_undo_32 (by omega) _ _ ⟨fun _ => ⟨e11 nm st Z, nm, st, Z, by rw [hM2], rz⟩, fun c => ?_⟩
          rw [e11] at c
          exact absurd ((nI_le' (by omega) (by omega)).mpr (Nat.le_refl v)) c
        | succ m ih =>
          intro i nm st Z hi rz
          refine vX10_undo_32 (by omega) _ _ ⟨fun c => ?_, fun _ => ?_⟩
          · rw [e11] at c
            exact absurd ((nI_le' (by omega) (by omega)).mp c) (by omega)
          · obtain ⟨_, t1, d1, n1⟩ := u5 i (by omega)
            have k51 : (TX M2 0 p nm st Z).1 (51, 0) = M.1 (51, 0) := by rw [TX_fr _ _ _ _ _ _ (nT_k (by omega)), o2 _ (by decide)]
            have pa : eg_S κ gC mtX10_performAgain (12 - 1) [vR (10, 0), vR (7, 0), vI (nI i)] (TX M2 0 p nm st Z) (eQV κ gC (fun M1 => ∃ Z1, M1 = TX M2 0 p nm st Z1 ∧ RY (cE M2 p) Z1 (dF (cE M2 p) (M.1 (51, 0) (3 * i)) (M.1 (51, 0) (3 * i + 1)) (M.1 (51, 0) (3 * i + 2)) (Ys i)))) := by
              refine eg_S.of rfl (Nat.le_of_ble_eq_true rfl) (vX10_performAgain_0 (by omega) _ (by omega) _ (fun x1 e1 => ?_))
              rw [nI_m3, Nat.mul_comm] at e1
              have n1' : x1 + 1 = nI (3 * i + 1) := by rw [e1]; exact nI_add _ 1
              have n2' : x1 + 2 = nI (3 * i + 2) := by rw [e1]; exact nI_add _ 2
              rw [n1', n2', e1, nI_t (by omega), nI_t (by omega), nI_t (by omega), k51]
              refine ⟨nI_in' (by omega) (by omega), nI_in' (by omega) (by omega), nI_in' (by omega) (by omega), ?_⟩
              exact ⟨_, sX7_perform (by omega) (by omega) w2 (by rw [r2]; exact e7) (C := C) (Y := Ys i) (by rw [eE]; exact t1) (by rw [eE]; exact rz) (by rw [eE]; exact d1), fun M5 q => q⟩
            refine ⟨_, pa, fun M5 ⟨Z5, e5, r5⟩ x4 e4 => ?_⟩
            rw [e5, e4, nI_1]
            rw [eE] at r5
            exact ih (i + 1) nm st Z5 (by omega) (RY_Y hE r5 ((TI_dF hE hC t1 d1).1.q16 hE) n1)
      · rw [u1] at c
        exact absurd ((nI_lt' (a := 0) (by omega) (by omega)).mpr (by omega)) c
    · refine eg_S.of rfl (Nat.le_of_ble_eq_true rfl) (vX11_undo_0 N (fun M1 e1 => ?_))
      have e1 : M1 = t0 N := e1
      rw [e1, B]
      refine ⟨fun _ M3 e3 => ?_, fun c => absurd ((nI_eq' (b := 0) (by omega) (by omega)).mp c) (by omega)⟩
      rw [nI_p] at e3
      have k69 : M3.1 (60, 0) 69 = nI v := by rw [e3, sI_60, if_pos rfl]
      have k131 : M3.1 (131, 0) = N.1 (131, 0) := by rw [e3, sI_ne (by decide), t0_ne N (by decide)]
      suffices key : ∀ m i, i + m = 366 → eg_W κ gM mtX11_undo 12 (eQI κ gM (fun r' N1 => r' = nI v ∧ unM N v N1)) 26 [(0, vR (60, 0)), (1, vI (nI i))] [] (sW M3 (111, 0) (cpT (fun j => N.1 (131, 0) (366 * v + j)) (M3.1 (111, 0)) i)) by
        have k := key 366 0 (by omega)
        rw [cpT_0, sW_self] at k
        exact k
      intro m
      induction m with
      | zero =>
        intro i hi
        have ei : i = 366 := by omega
        rw [ei]
        refine vX11_undo_26 (by omega) _ _ ⟨fun _ M2 e2 => ⟨?_, ?_⟩, fun c => absurd (by decide) c⟩
        · rw [e2]
          unfold fX11_layRow
          rw [sW_ne _ _ (by decide), sW_ne _ _ (by decide)]; exact k69
        · unfold fX11_layRow at e2
          rw [sW_at] at e2
          refine ⟨cpT (fun j => N.1 (131, 0) (366 * v + j)) (M3.1 (111, 0)) 366, cpT (fun j => cpT (fun j => N.1 (131, 0) (366 * v + j)) (M3.1 (111, 0)) 366 (360 + j)) ((sW M3 (111, 0) (cpT (fun j => N.1 (131, 0) (366 * v + j)) (M3.1 (111, 0)) 366)).1 (112, 0)) 5, fun j hj => cpT_lt hj, fun i hi => cpT_lt hi, ?_⟩
          rw [← e3]
          exact e2
      | succ m ih =>
        intro i hi
        refine vX11_undo_26 (by omega) _ _ ⟨fun c => ?_, fun _ => ?_⟩
        · exact absurd ((nI_le' (a := 366) (by omega) (by omega)).mp c) (by omega)
        · have ea : (366 : Int32) * nI v + nI i = nI (366 * v + i) := by
            have : (366 : Int32) * nI v = nI (366 * v) := (Int32.ofNat_mul 366 v).symm
            rw [this, nI_add]
          rw [sW_ne _ _ (show ((60, 0) : eg_R) ≠ (111, 0) by decide), k69, ea, nI_t (by omega), nI_t (by omega)]
          refine ⟨nI_in' (by omega) (by omega), nI_in' (by omega) (by omega), fun M6 e6 x7 e7' => ?_⟩
          rw [sW_ne _ _ (show ((131, 0) : eg_R) ≠ (111, 0) by decide), k131, sI_sW, cpT_s (fun j => N.1 (131, 0) (366 * v + j))] at e6
          rw [e6, e7', nI_1]
          exact ih (i + 1) (by omega)
    · obtain ⟨nm, st, Z, e1, rz⟩ := hP
      obtain ⟨f, g, hf, hg, e2⟩ := hQ
      have hvv := u5 v (by omega)
      have fY : ∀ j, j < 366 → f j = Ys v j := fun j hj => by rw [hf j hj, hvv.1 j hj]
      have eN : ∀ k, k ≠ 60 → k ≠ 111 → k ≠ 112 → N1.1 (k, 0) = N.1 (k, 0) := fun k a b c => by rw [e2, sW_ne _ _ (kd_ne c), sW_ne _ _ (kd_ne b), sI_ne (kd_ne a), t0_ne N a]
      have e111 : N1.1 (111, 0) = f := by rw [e2, sW_ne _ _ (by decide), sW_at]
      have e112 : N1.1 (112, 0) = g := by rw [e2, sW_at]
      have r70 : (sI M (10, 0) 11 (nI v)).2.2 (7, 0) 0 = (5, p) := e7
      have FD : FrD M M1 := by rw [e1]; exact (FrD_f M (by omega) _).tr (FrD_tx _ (by omega) r70 _ _ _)
      have FE : FrE N N1 := by rw [e2]; exact (((FrE_f N (k := 2) (by omega) 0).tr (FrE_f _ (by omega) _)).tr (lay_FrE _ (by omega) _)).tr (lay_FrE _ (by omega) _)
      have rr : M1.2.2 = M.2.2 := by rw [e1]; rfl
      have o1 : ∀ r, ¬ tOf r 0 → r ≠ (10, 0) → M1.1 r = M.1 r := fun r h1 h2 => by rw [e1, TX_fr _ _ _ _ _ _ h1, sI_ne h2]
      have f10 : ∀ k, k ≠ 11 → M1.1 (10, 0) k = M.1 (10, 0) k := fun k hk => by rw [e1, TX_fr _ _ _ _ _ _ (nT_k (by omega)), sI_upd, pk_un hk]
      have f11 : M1.1 (10, 0) 11 = nI v := by rw [e1, TX_fr _ _ _ _ _ _ (nT_k (by omega)), sI_upd]; exact pk_us
      have n69 : N1.1 (60, 0) 69 = nI v := by rw [e2, sW_ne _ _ (by decide), sW_ne _ _ (by decide), sI_60, if_pos rfl]
      have tn := hvv.2.1
      have nt : ∀ t r, tOf r t → r ≠ (10, 0) := fun t r hr q => by rw [q] at hr; exact nT_k (by omega) hr
      refine h.tab (D := C + 60) FD FE (by rw [rr]; exact e7) ?_ ?_ ?_ (fun eE => ?_) (fun eE => ?_)
      · rw [e111, e1]; exact RY_Y hE (aT_TR hE (tn.1.q16 hE) rz) (tn.1.q16 hE) fY
      · rw [e111]; exact TI_Y hE (tn.mono (by omega)) fY
      · rw [e111, e112]; exact hg
      · exact h.2.1.cong (by omega) eE (f10 8 (by omega)) (fun r hr => o1 r (nT_t hr (by omega)) (nt 2 r hr)) (by rw [rr]) (by rw [e2, sW_ne _ _ (by decide), sW_ne _ _ (by decide), sI_60, if_neg (by decide), t0_k N (by decide)]) (eN 142 (by decide) (by decide) (by decide))
      · refine ⟨v, by omega, f11, n69, fun hv0 => ⟨by rw [rr]; exact e73, Ys, ?_, fun j hj => by rw [e111]; exact (fY j hj).symm, fun k hk => ?_⟩⟩
        · rw [eE, aT_cong (fun r hr => o1 r (nT_t hr (by omega)) (nt 3 r hr))]; exact r3
        · rw [eE, o1 (51, 0) (nT_k (by omega)) (by decide), eN 131 (by decide) (by decide) (by decide)]
          obtain ⟨w1, w2, w3, w4⟩ := u5 k (by omega)
          exact ⟨w1, w2.mono (by omega), w3, w4⟩
