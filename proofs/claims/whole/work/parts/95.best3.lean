/-! BEST ON BOTH SIDES -/
theorem rw_id {g : Nat → Int32} (h : ∀ k, k < 5 → g k = nI k) : rwL g (rwD 43210) := by
  intro k hk
  have : k = 0 ∨ k = 1 ∨ k = 2 ∨ k = 3 ∨ k = 4 := by omega
  have e : rwD 43210 k = k := by
    rcases this with z | z | z | z | z <;> rw [z] <;> rfl
  rw [e]
  exact ⟨h k hk, hk⟩
theorem st_best {M N : eg_H} {C p : Nat} (h : JJ M N C p) (x y : Int32) : StI mtX10_best mtX11_best [vI x, vI y] M N C := by
  have F0 : FrN N (t0 N) := FrN_f N (by omega) 0
  have hp := h.hp
  have pl0 : PL M p (t0 N) := h.1.2.1.cong (fun _ _ => rfl) F0.T
  have hW := h.1.2.1.cW
  have en := cN_e hW
  have n6 := en.2
  have B12 : (t0 N).1 (60, 0) 12 = nI (cN M p) := by rw [← pl0.en]; exact en.1
  have ni : (nI (cN M p)).toInt = cN M p := t_nI (by omega)
  have nz : nI (cN M p) = 0 ↔ cN M p = 0 := nI_eq' (b := 0) (by omega) (by omega)
  by_cases z : 1 ≤ cN M p ∧ vp_in x 3601 ∧ vp_in y (cN M p + 1)
  · obtain ⟨n1, hx, hy⟩ := z
    have hy' := t_in.mp hy
    obtain ⟨ex, hm⟩ := nI_of' hx (by omega)
    obtain ⟨ey, hyn⟩ := nI_of' hy (by omega)
    generalize x.toNatClampNeg = m at ex hm
    generalize y.toNatClampNeg = w at ey hyn
    obtain ⟨l, hl, hl2⟩ := rwT_ex (n := cN M p) n1 (by omega)
    refine StI.q h (bsA w ((43210 :: l).foldl (bsF (bvM N (cP M p) m)) (-1, 0))) (fun κ => ?_) (fun κ => ?_)
    · refine eg_S.of rfl (Nat.le_of_ble_eq_true rfl) (vX10_best_0 (by omega) M _ _ ⟨p, hp.2.1, hp.1.1, fun c => ?_, fun _ x4 e4 => ⟨fun c => ?_, fun _ => ⟨fun c => ?_, fun _ => ⟨fun _ M8 e8 => ?_, fun c => ?_⟩⟩⟩⟩)
      · rw [en.1] at c; have := nz.mp c; omega
      · rcases isLength_n M x with q | q
        · exact absurd hx q.2
        · exact absurd (c.symm.trans (e4.trans q.1)) (by decide)
      · rw [t_lt, t_0] at c; omega
      · rw [ex, ey]
        unfold fX10_orderByNumbers at e8
        have F8 : FrQ p M M8 := by rw [e8]; exact ⟨fun r _ _ h1 _ _ => sW_ne _ _ (fun q => h1 (by rw [q])), fun _ _ _ => rfl⟩
        exact bs_c h (by omega) n1 (by omega) (by omega) l 43210 0 (-1, 0) M8 hl (by omega) F8 (rw_id (fun k hk => by rw [e8, sW_at, cpT_lt hk])) (Or.inl rfl)
      · rw [en.1, t_le, ni] at c; omega
    · refine eg_S.of rfl (Nat.le_of_ble_eq_true rfl) (vX11_best_0 (by omega) N _ _ (fun M1 e1 => ?_))
      have e1 : M1 = t0 N := e1
      rw [e1, B12]
      refine ⟨fun c => ?_, fun _ x4 e4 => ⟨fun c => ?_, fun _ x7 e7 => ⟨fun _ => ?_, fun c => ?_⟩⟩⟩
      · have := nz.mp c; omega
      · rcases isTime_n (t0 N) x with q | q
        · exact absurd hx q.2
        · exact absurd (c.symm.trans (e4.trans q.1)) (by decide)
      · rw [ex, ey]
        suffices key : ∀ r i, i + r = 5 → eg_W κ gM mtX11_best 12 (eQI κ gM (fun r M1 => r = bsA w ((43210 :: l).foldl (bsF (bvM N (cP M p) m)) (-1, 0)) ∧ FrN N M1)) 35 [(0, vR (60, 0)), (1, vI (nI m)), (2, vI (nI w)), (3, vI (nI i))] [] (sW (t0 N) (132, 0) (cpT nI ((t0 N).1 (132, 0)) i)) by
          have k := key 5 0 (by omega)
          rw [cpT_0, sW_self] at k
          exact k
        intro r
        induction r with
        | zero =>
          intro i hi
          have ei : i = 5 := by omega
          rw [ei]
          refine vX11_best_35 _ _ _ _ ⟨fun _ => ?_, fun c => absurd (by decide) c⟩
          obtain ⟨X, hX⟩ : ∃ X, X = sW (t0 N) (132, 0) (cpT nI ((t0 N).1 (132, 0)) 5) := ⟨_, rfl⟩
          have eX : X = bH (t0 N) (cpT nI ((t0 N).1 (132, 0)) 5) (X.1 (133, 0)) (X.2.1 (127, 0)) (X.2.1 (128, 0), X.1 (60, 0) 68) (X.1 (110, 0)) := by
            unfold bH
            rw [← hX, sW_self, SX_self]
          have FX : FrN N X := by rw [hX]; exact F0.tr (FrN_w _ (by omega) _)
          have Yh : ∀ j, 366 ≤ j → X.1 (110, 0) j = 0 := fun j hj => by rw [FX.2.2.2 j hj]; exact h.2.2.2.2.1 j hj
          have k := bs_m (κ := κ) (d := 12) h (m := m) (y := w) (by omega) n1 (by omega) (by omega) l 43210 (-1, 0) (t0 N) (cpT nI ((t0 N).1 (132, 0)) 5) (X.1 (133, 0)) (X.2.1 (127, 0)) (X.2.1 (128, 0), X.1 (60, 0) 68) (X.1 (110, 0)) hl rfl (by rw [← eX]; exact FX) Yh (rw_id (fun k hk => cpT_lt hk)) (Or.inl rfl)
          rw [← eX] at k
          rw [← hX]
          exact k
        | succ r ih =>
          intro i hi
          refine vX11_best_35 _ _ _ _ ⟨fun c => absurd ((nI_le' (a := 5) (by omega) (by omega)).mp c) (by omega), fun _ => ⟨nI_in' (by omega) (by omega), fun M3 e3 x4 e4 => ?_⟩⟩
          rw [nI_t (by omega), sI_sW, cpT_s nI] at e3
          rw [e3, e4, nI_1]
          exact ih (i + 1) (by omega)
      · rcases isIn_n (t0 N) y 0 (nI (cN M p)) with q | q
        · rw [t_0, ni] at q; omega
        · exact absurd (c.symm.trans (e7.trans q.1)) (by decide)
  · refine StI.q h (-1) (fun κ => ?_) (fun κ => ?_)
    · refine eg_S.of rfl (Nat.le_of_ble_eq_true rfl) (vX10_best_0 (by omega) M _ _ ⟨p, hp.2.1, hp.1.1, fun c => ⟨rfl, FrQ.rf p M⟩, fun c0 x4 e4 => ⟨fun c => ⟨rfl, FrQ.rf p M⟩, fun c4 => ⟨fun c => ⟨rfl, FrQ.rf p M⟩, fun c5 => ⟨fun c6 => ?_, fun c => ⟨rfl, FrQ.rf p M⟩⟩⟩⟩⟩)
      exfalso
      rw [en.1] at c0 c6
      rw [t_lt, t_0] at c5
      rw [t_le, ni] at c6
      rcases isLength_n M x with q | q
      · exact c4 (e4.trans q.1)
      · exact z ⟨Nat.pos_of_ne_zero (fun w => c0 (nz.mpr w)), q.2, t_in.mpr (by omega)⟩
    · refine eg_S.of rfl (Nat.le_of_ble_eq_true rfl) (vX11_best_0 (by omega) N _ _ (fun M1 e1 => ?_))
      have e1 : M1 = t0 N := e1
      rw [e1, B12]
      refine ⟨fun c => ⟨rfl, F0⟩, fun c0 x4 e4 => ⟨fun c => ⟨rfl, F0⟩, fun c4 x7 e7 => ⟨fun c7 => ?_, fun c => ⟨rfl, F0⟩⟩⟩⟩
      exfalso
      rcases isTime_n (t0 N) x with q | q
      · exact c4 (e4.trans q.1)
      · rcases isIn_n (t0 N) y 0 (nI (cN M p)) with q2 | q2
        · exact c7 (e7.trans q2.1)
        · rw [t_0, ni] at q2
          exact z ⟨Nat.pos_of_ne_zero (fun w => c0 (nz.mpr w)), q.2, t_in.mpr (by omega)⟩
