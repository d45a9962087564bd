/-! THE FIRST STATE -/
theorem PL_0 {M N : eg_H} {q : Nat} (hq : q < 2) (h5 : M.1 (5, q) 0 = 0 ∧ M.1 (5, q) 2 = 0 ∧ M.1 (5, q) 7 = 0 ∧ M.1 (5, q) 4 = 0 ∧ M.1 (5, q) 5 = 0 ∧ M.1 (5, q) 6 = 3600) (h3 : M.1 (3, q) 3 = 0) (h35 : ∀ l, l < 3 → M.1 (35, q) l = -1) (hN : N.1 (60, 0) 19 = 0 ∧ N.1 (60, 0) 20 = 0 ∧ N.1 (60, 0) 21 = 0 ∧ N.1 (60, 0) 22 = 0 ∧ N.1 (60, 0) 23 = 0 ∧ N.1 (60, 0) 24 = 0 ∧ N.1 (60, 0) 25 = 3600) (h98 : ∀ l, l < 3 → N.1 (98, 0) (3 + l) = 0) : PL M q (kp N) := by
  obtain ⟨a1, a2, a3, a4, a5, a6⟩ := h5
  obtain ⟨n1, n2, n3, n4, n5, n6, n7⟩ := hN
  have e12 : (kp N).1 (60, 0) 12 = 0 := by rw [kp_60 _ (by omega)]; exact n1
  have e13 : (kp N).1 (60, 0) 13 = 0 := by rw [kp_60 _ (by omega)]; exact n2
  have e14 : (kp N).1 (60, 0) 14 = 0 := by rw [kp_60 _ (by omega)]; exact n3
  have e15 : (kp N).1 (60, 0) 15 = 0 := by rw [kp_60 _ (by omega)]; exact n4
  have e16 : (kp N).1 (60, 0) 16 = 0 := by rw [kp_60 _ (by omega)]; exact n5
  have e17 : (kp N).1 (60, 0) 17 = 0 := by rw [kp_60 _ (by omega)]; exact n6
  have e18 : (kp N).1 (60, 0) 18 = 3600 := by rw [kp_60 _ (by omega)]; exact n7
  unfold PL
  rw [e12, e13, e14, e15, e16, e17, e18, a1, a2, a3, a4, a5, a6, h3]
  refine ⟨hq, ⟨nI_in' (n := 0) (by omega) (by omega), rfl⟩, ⟨nI_in' (n := 0) (by omega) (by omega), rfl⟩, ⟨nI_in' (n := 0) (by omega) (by omega), rfl⟩, rfl, ⟨Or.inl rfl, rfl⟩, ⟨⟨by decide, by decide⟩, rfl⟩, ⟨⟨by decide, by decide⟩, rfl⟩, fun s hs => absurd hs (Nat.not_lt_zero s), fun s hs => absurd hs (Nat.not_lt_zero s), fun s hs => absurd hs (Nat.not_lt_zero s), fun l hl => Or.inl ⟨h35 l hl, ?_⟩⟩
  rw [kp_98, Nat.add_comm]
  exact h98 l hl
theorem JJ0 {M N N1 : eg_H} {C : Nat} (hr : M.2.2 (10, 0) 3 = (5, 0) ∧ M.2.2 (10, 0) 4 = (5, 1) ∧ M.2.2 (7, 0) 0 = (5, 0)) (h5 : M.1 (5, 0) 0 = 0 ∧ M.1 (5, 0) 2 = 0 ∧ M.1 (5, 0) 7 = 0 ∧ M.1 (5, 0) 4 = 0 ∧ M.1 (5, 0) 5 = 0 ∧ M.1 (5, 0) 6 = 3600) (h3 : M.1 (3, 0) 3 = 0) (h35 : ∀ l, l < 3 → M.1 (35, 0) l = -1) (h7 : M.1 (7, 0) 1 = 0 ∧ M.1 (7, 0) 6 = 0) (h40 : ∀ k, k < 5 → M.1 (40, 0) k = nI k) (h10 : M.1 (10, 0) 1 = 0 ∧ M.1 (10, 0) 8 = 0 ∧ M.1 (10, 0) 11 = 0) (h8 : M.1 (8, 0) 0 = 0 ∧ M.1 (8, 0) 1 = -1) (h6 : M.1 (6, 0) 2 = 0 ∧ M.1 (6, 0) 3 = -1)
    (hN : N.1 (60, 0) 19 = 0 ∧ N.1 (60, 0) 20 = 0 ∧ N.1 (60, 0) 21 = 0 ∧ N.1 (60, 0) 22 = 0 ∧ N.1 (60, 0) 23 = 0 ∧ N.1 (60, 0) 24 = 0 ∧ N.1 (60, 0) 25 = 3600) (h98 : ∀ l, l < 3 → N.1 (98, 0) (3 + l) = 0) (hN1 : N.1 (60, 0) 1 = 0 ∧ N.1 (60, 0) 4 = 0 ∧ N.1 (60, 0) 5 = -1) (h110 : ∀ j, 366 ≤ j → N.1 (110, 0) j = 0) (h64 : ∀ i, i < 121 → N.1 (64, 0) i = wdM i) (hY : PME N N1) : JJ M N1 (C + 60) 0 := by
  obtain ⟨A, ⟨a1, a2, a3, a4, a5, a6⟩, eY⟩ := hY
  have pl := PL_0 (q := 0) (by omega) h5 h3 h35 hN h98
  have plA : PL M 0 A := pl.congH (fun _ _ => rfl) a1 a2
  have c0 : cN M 0 = 0 := by unfold cN; rw [h5.1]; rfl
  have p0 : cP M 0 = 0 := by unfold cP; rw [h5.2.1]; rfl
  have n6 : eN (cE M 0) < 6 := (cN_e plA.cW).2
  have hR : oR (cE M 0) (M.1 (40, 0)) := oR_n n6 h40
  have c110 : ∀ j, 366 ≤ j → (fX11_clears A).1 (110, 0) j = 0 := fun j hj => by
    rw [clr_o _ (by decide) (by decide) (by decide), a6 110 (by omega)]; exact h110 j hj
  obtain ⟨qs, _⟩ := plA.qs hR (fun k hk => by rw [c0] at hk; exact absurd hk (Nat.not_lt_zero k)) c110
  have hE : wE (cE M 0) := plA.wE
  have bC := qs.bgC
  have ti : TI (cE M 0) (C + 60) (begM (fX11_clears A)) := bg_T hE plA.wE2 hR (by omega) bC
  have bz : bgZ (cE M 0) (M.1 (40, 0)) (aT M 0) := ⟨h7.1, h7.2, fun k _ => aT_r M 0 k, fun s hs => absurd (show s < cN M 0 from hs) (by rw [c0]; exact Nat.not_lt_zero s), fun g hg => absurd (show g < cP M 0 from hg) (by rw [p0]; exact Nat.not_lt_zero g)⟩
  have ry : RY (cE M 0) (aT M 0) (begM (fX11_clears A)) := bg_R hE bz bC
  have hq16 := ti.1.q16 hE
  have eYo : ∀ {r : eg_R}, r ≠ (110, 0) → r ≠ (111, 0) → N1.1 r = (fX11_clears A).1 r := fun {r} x1 x2 => by
    rw [eY]
    unfold fX11_lays fX11_begins
    rw [sW_ne _ _ x2, sW_ne _ _ x1]
  have eYf : ∀ k, k < 52 ∨ 62 < k → N1.1 (60, 0) k = A.1 (60, 0) k := fun k hk => by
    rw [eYo (by decide) (by decide), clr_f, if_neg (by omega), if_neg (by omega), if_neg (by omega), if_neg (by omega), if_neg (by omega), if_neg (by omega), if_neg (by omega), if_neg (by omega)]
  have y111 : ∀ j, j < 366 → N1.1 (111, 0) j = begM (fX11_clears A) j := fun j hj => by
    rw [eY]
    unfold fX11_lays
    rw [sW_at, cpT_lt hj]
    unfold fX11_begins
    rw [sW_at]
  have plX : PL M 0 N1 := plA.cong (fun _ _ => rfl) ((clr_Fr A).T.tr ⟨fun k x1 x2 => by rw [eYo (by decide) (by decide)], fun k x1 x2 _ _ _ => eYo (kd_ne (by omega)) (kd_ne (by omega)), fun g _ => ⟨by rw [eYo (by decide) (by decide)], by rw [eYo (by decide) (by decide)], fun k _ => by rw [eYo (by decide) (by decide)]⟩⟩)
  refine ⟨⟨⟨hr.1, hr.2.1, hr.2.2⟩, plX, ⟨RY_Y hE ry hq16 y111, TI_Y hE ti y111⟩, fun k hk => ?_⟩, ⟨Or.inl ?_, ?_, fun z => absurd ?_ z⟩, ⟨0, by omega, h10.2.2, ?_, fun z => absurd z (by omega)⟩, ⟨0, by omega, h8.1, ?_, ?_, ⟨?_, ?_⟩, fun i hi => absurd hi (by omega)⟩, fun j hj => ?_, ⟨0, by omega, h10.1, ?_, fun i hi => absurd hi (by omega)⟩, ?_, ?_, fun i hi => ?_⟩
  · rw [eYo (by decide) (by decide), clr_o _ (by decide) (by decide) (by decide), y111 _ (by omega)]
    unfold begM
    rw [putR_in hk, clr_126 _ hk]
  · rw [eYf _ (by omega)]; exact a4.2.2.2
  · rw [h10.2.1, eYf _ (by omega)]; exact a4.2.2.2.symm
  · rw [eYf _ (by omega)]; exact a4.2.2.2
  · rw [eYf _ (by omega)]; exact a4.2.2.1
  · rw [eYf _ (by omega)]; exact a4.1
  · rw [h8.2, eYf _ (by omega)]; exact a4.2.1.symm
  · rw [eYf _ (by omega), a4.2.1]; decide
  · rw [eYf _ (by omega), a4.2.1]; decide
  · have : N1.1 (110, 0) = begM (fX11_clears A) := by
      rw [eY]
      unfold fX11_lays
      rw [sW_ne _ _ (by decide)]
      unfold fX11_begins
      rw [sW_at]
    rw [this, begM_hi _ (nM_le qs.2.2.2.2.1).2 (NM_le qs.2.2.2.2.1).2 hj]
    exact c110 j hj
  · rw [eYf _ (by omega), a3 1 (by omega)]; exact hN1.1
  · rw [h6.1, eYf _ (by omega), a3 4 (by omega), hN1.2.1]
  · rw [h6.2, eYf _ (by omega), a3 5 (by omega), hN1.2.2]
  · rw [eYo (by decide) (by decide), clr_o _ (by decide) (by decide) (by decide), a6 64 (by omega)]
    exact h64 i hi
