/-! PUT, CHANGE -/
theorem rem_FrE (N : eg_H) : FrE N (fX11_remembers N) := by
  unfold fX11_remembers
  exact (lay_FrE N (by omega) _).tr (FrE_f _ (by omega) _)
theorem hnM_of {M N N1 : eg_H} {p u : Nat} {k a b : Int32} (hu : u ≤ 20) (u2 : N.1 (60, 0) 69 = nI u) (F : FrE (fX11_remembers (t0 N)) N1) (f80 : N1.1 (60, 0) 80 = (fX11_remembers (t0 N)).1 (60, 0) 80) (f69 : N1.1 (60, 0) 69 = (fX11_remembers (t0 N)).1 (60, 0) 69) (o142 : N1.1 (142, 0) = (fX11_remembers (t0 N)).1 (142, 0)) (o131 : N1.1 (131, 0) = (fX11_remembers (t0 N)).1 (131, 0)) (e111 : ∀ j, j < 366 → N1.1 (111, 0) j = dF (cE M p) k a b (N.1 (111, 0)) j) (e112 : ∀ i, i < 5 → N1.1 (112, 0) i = N1.1 (111, 0) (360 + i)) : hnM M N p k a b (if u = 20 then 19 else u) (if u = 20 then 1 else 0) N1 := by
  obtain ⟨g, v1, v2, v3, v4, v5⟩ := rem_v (N := t0 N) hu (by rw [t0_k N (by decide)]; exact u2)
  refine ⟨((FrE_f N (k := 2) (by omega) 0).tr (rem_FrE _)).tr F, ?_, ?_, e111, e112, by rw [f69]; exact v1, fun i j hi hj => ?_, fun j hj => ?_⟩
  · rw [f80, v2 80 (by omega), t0_k N (by decide)]
  · rw [o142, v3 _ (by decide) (by decide), t0_ne N (by decide)]
  · rw [o131, v4 i j hi hj, t0_ne N (by decide)]
  · rw [o131, v5 j hj, t0_ne N (by decide)]
theorem rem_111 {N : eg_H} {u : Nat} (hu : u ≤ 20) (u2 : N.1 (60, 0) 69 = nI u) : gX11_remembers (t0 N) ∧ (fX11_remembers (t0 N)).1 (111, 0) = N.1 (111, 0) ∧ (fX11_remembers (t0 N)).1 (112, 0) = N.1 (112, 0) ∧ ∀ k, k ≠ 60 → k ≠ 131 → (fX11_remembers (t0 N)).1 (k, 0) = N.1 (k, 0) := by
  obtain ⟨g, v1, v2, v3, v4, v5⟩ := rem_v (N := t0 N) hu (by rw [t0_k N (by decide)]; exact u2)
  have o : ∀ k, k ≠ 60 → k ≠ 131 → (fX11_remembers (t0 N)).1 (k, 0) = N.1 (k, 0) := fun k a b => by rw [v3 _ (kd_ne a) (kd_ne b), t0_ne N a]
  exact ⟨g, o 111 (by decide) (by decide), o 112 (by decide) (by decide), o⟩
theorem st_put {M N : eg_H} {C p : Nat} (h : JJ M N C p) (hC : C < 1000000) (x : Int32) : StI mtX10_put mtX11_put [vI x] M N C := by
  have F0 : FrN N (t0 N) := FrN_f N (by omega) 0
  have hp := h.hp
  have pl0 : PL M p (t0 N) := h.1.2.1.cong (fun _ _ => rfl) F0.T
  have hW := h.1.2.1.cW
  have hE := hW.2.2.2.2.1
  have n6 := (cN_e hW).2
  have hb := hasPan_b pl0 x
  have row := h.1.2.2.2
  obtain ⟨u, Ys, hu, u1, u2, u0, u3, u4, u5⟩ := h.2.2.1.all
  by_cases z : fX5_hasPan M p x = 0
  · refine StI.q h (-1) (fun κ => ?_) (fun κ => ?_)
    · exact eg_S.of rfl (Nat.le_of_ble_eq_true rfl) (vX10_put_0 (by omega) M _ ⟨p, hp.2.1, hp.1.1, hb.1, fun x4 e4 => ⟨fun c => absurd (e4.trans z) c, fun _ => ⟨rfl, FrQ.rf p M⟩⟩⟩)
    · refine eg_S.of rfl (Nat.le_of_ble_eq_true rfl) (vX11_put_0 (by omega) N _ (fun M1 e1 x3 e3 => ?_))
      have e1 : M1 = t0 N := e1
      rw [e1] at e3 ⊢
      refine ⟨fun _ => ⟨rfl, F0⟩, fun c3 => ?_⟩
      rcases isStation_n (t0 N) x pl0.hn with w | w
      · exact absurd (e3.trans w.1) c3
      · have hx := w.2
        rw [← pl0.n1] at hx
        obtain ⟨ex, hs⟩ := nI_of' hx (by omega)
        refine ⟨by rw [ex]; exact ghas_n _ _ 2 (by omega), fun x7 e7 => ⟨fun c7 => ?_, fun _ => ⟨rfl, F0⟩⟩⟩
        rw [ex] at e7
        rcases hasPan_m pl0 hs with v | v
        · exact absurd (e7.trans v.1) c7
        · rcases hb.2 with y | y
          · exact absurd ⟨hx, v.2⟩ y.2
          · exact absurd (y.1.symm.trans z) (by decide)
  · obtain ⟨hx, hd⟩ : vp_in x (cN M p) ∧ ¬ dC M p x.toNatClampNeg 2 = 0 := by
      rcases hb.2 with w | w
      · exact absurd w.1 z
      · exact w.2
    have dk : dOK (cE M p) 0 x 0 (N.1 (111, 0)) := Or.inl ⟨rfl, hx, by rw [eD_c (vp_lt hx)]; exact hd⟩
    obtain ⟨ex, hs⟩ := nI_of' hx (by omega)
    generalize hsx : x.toNatClampNeg = s at ex hs hd
    have hs' : s < ((t0 N).1 (60, 0) 12).toNatClampNeg := by rw [← pl0.n1]; exact hs
    have ps := (pl0.s hs').2.2.2.1
    have eD2 : eD (cE M p) s 2 = (t0 N).1 (89, 0) (6 * s + 2) := by
      rw [eD_c hs]
      have : dC M p s 2 = M.1 (1, 5 * p + s) 3 := rfl
      rw [this] at hd ⊢
      rw [ps.2] at hd ⊢
      by_cases c : (t0 N).1 (89, 0) (6 * s + 2) < 0
      · rw [if_pos c] at hd; exact absurd rfl hd
      · rw [if_neg c]
    have eF : dF (cE M p) 0 x 0 (N.1 (111, 0)) = putF (eD (cE M p) s 2) s (N.1 (111, 0)) := by
      unfold dF
      rw [if_pos rfl, hsx]
    refine ⟨putF (eD (cE M p) s 2) s (N.1 (111, 0)) (320 + 8 * s), hnC M p (dF (cE M p) 0 x 0 (N.1 (111, 0))) (Ys (if u = 20 then 1 else 0)) 0 x 0 (if u = 20 then 19 else u) (if u = 20 then 3 else 0), hnM M N p 0 x 0 (if u = 20 then 19 else u) (if u = 20 then 1 else 0), fun κ => ?_, fun κ => ?_, fun M1 N1 hP hQ => ⟨p, h.deed hC dk hu u0 u3 u5 hP hQ⟩⟩
    · refine eg_S.of rfl (Nat.le_of_ble_eq_true rfl) (vX10_put_0 (by omega) M _ ⟨p, hp.2.1, hp.1.1, hb.1, fun x4 e4 => ⟨fun _ => ⟨_, h.hand hC dk hu u1 u0 u4 u5 (by omega), fun M6 q6 => ⟨?_, ?_, q6⟩⟩, fun c => absurd (e4.symm.trans c) z⟩⟩)
      · rw [t_in] at hx ⊢; omega
      · have r := q6.2.1
        rw [eF] at r
        rw [hsx, ← r.p0 hs]
        exact (aT_p M6 0 s 0 (by omega) (by omega)).symm
    · refine eg_S.of rfl (Nat.le_of_ble_eq_true rfl) (vX11_put_0 (by omega) N _ (fun M1 e1 x3 e3 => ?_))
      have e1 : M1 = t0 N := e1
      rw [e1] at e3 ⊢
      obtain ⟨gr, r111, r112, ro⟩ := rem_111 hu u2
      have hst : fX11_isStation (t0 N) x = 1 := by
        rcases isStation_n (t0 N) x pl0.hn with w | w
        · rw [← pl0.n1] at w; exact absurd hx w.2
        · exact w.1
      have hh : fX11_hasPan (t0 N) x = 1 := by
        rw [ex]
        rcases hasPan_m pl0 hs with w | w
        · exact absurd w.2 hd
        · exact w.1
      refine ⟨fun c => absurd (c.symm.trans (e3.trans hst)) (by decide), fun _ => ⟨by rw [ex]; exact ghas_n _ _ 2 (by omega), fun x7 e7 => ⟨fun _ => ⟨gr, fun M10 e10 x13 e13 => ?_⟩, fun c => absurd (c.symm.trans (e7.trans hh)) (by decide)⟩⟩⟩
      rw [ex, pan_n] at e13
      rw [e13]
      refine ⟨nI_in' (by omega) (by omega), by rw [ex]; exact ghas_n _ _ 2 (by omega), fun x17 e17 M18 e18 x20 e20 => ?_⟩
      have v17 : x17 = eD (cE M p) s 2 := by
        rw [e17, ex, show (2 : Int32) = nI 2 from rfl, has_n _ s 2 (by omega) (by omega), eD2, e10, ro 89 (by decide) (by decide), t0_ne N (by decide)]
      rw [nI_t (by omega), v17] at e18
      rw [ex, pan_n] at e20
      have n1 : x20 + 1 = nI (320 + 8 * s + 1) := by rw [e20]; exact nI_add _ 1
      rw [n1, nI_t (by omega)]
      refine ⟨nI_in' (by omega) (by omega), fun M22 e22 x24 e24 => ?_⟩
      rw [ex, pan_n] at e24
      have n6' : x24 + 6 = nI (320 + 8 * s + 6) := by rw [e24]; exact nI_add _ 6
      rw [n6', nI_t (by omega)]
      refine ⟨nI_in' (by omega) (by omega), fun M26 e26 x28 e28 => ?_⟩
      rw [ex, pan_n] at e28
      rw [e28, nI_t (by omega)]
      have k10 : M10.1 (111, 0) = N.1 (111, 0) := by rw [e10]; exact r111
      have e18' : M18 = sW M10 (111, 0) (upd (N.1 (111, 0)) (320 + 8 * s) (N.1 (111, 0) (320 + 8 * s) + eD (cE M p) s 2)) := by rw [e18, sI_eq, k10]
      have e22' : M22 = sW M10 (111, 0) (upd (upd (N.1 (111, 0)) (320 + 8 * s) (N.1 (111, 0) (320 + 8 * s) + eD (cE M p) s 2)) (320 + 8 * s + 1) 0) := by rw [e22, e18', sI_sW]
      have e26' : M26 = sW M10 (111, 0) (putF (eD (cE M p) s 2) s (N.1 (111, 0))) := by
        rw [e26, e22', sI_sW, sW_at, pk_un (j := 320 + 8 * s + 6) (by omega), pk_un (j := 320 + 8 * s + 6) (by omega)]
        rfl
      refine ⟨nI_in' (by omega) (by omega), by rw [e26', sW_at], ?_⟩
      rw [e26', e10]
      refine hnM_of hu u2 (lay_FrE _ (by omega) _) (by rw [sW_ne _ _ (by decide)]) (by rw [sW_ne _ _ (by decide)]) (sW_ne _ _ (by decide)) (sW_ne _ _ (by decide)) (fun j _ => by rw [sW_at, eF]) (fun i hi => ?_)
      rw [sW_ne _ _ (by decide), sW_at, r112, row i hi]
      unfold putF
      rw [pk_un (by omega), pk_un (by omega), pk_un (by omega)]
theorem st_change {M N : eg_H} {C p : Nat} (h : JJ M N C p) (hC : C < 1000000) (x y : Int32) : StI mtX10_change mtX11_change [vI x, vI y] M N C := by
  have F0 : FrN N (t0 N) := FrN_f N (by omega) 0
  have hp := h.hp
  have pl0 : PL M p (t0 N) := h.1.2.1.cong (fun _ _ => rfl) F0.T
  have hW := h.1.2.1.cW
  have hE := hW.2.2.2.2.1
  have n6 := (cN_e hW).2
  have ry := h.1.2.2.1.1
  have ti := h.1.2.2.1.2
  have e76 : M.1 (7, 0) 6 = N.1 (111, 0) 1 := ry.q
  have e111 : (t0 N).1 (111, 0) = N.1 (111, 0) := t0_ne N (by decide)
  have i1 : (1 : Int32).toNatClampNeg = 1 := rfl
  have y1 := t_in.mp ti.1.1.1
  have st : ∀ w, ¬ fX11_isStation (t0 N) w = 0 → vp_in w (cN M p) := fun w hw => by
    rcases isStation_n (t0 N) w pl0.hn with v | v
    · exact absurd v.1 hw
    · rw [pl0.n1]; exact v.2
  have st1 : ∀ w, vp_in w (cN M p) → ¬ fX11_isStation (t0 N) w = 0 := fun w hw => by
    rcases isStation_n (t0 N) w pl0.hn with v | v
    · rw [← pl0.n1] at v; exact absurd hw v.2
    · rw [v.1]; decide
  obtain ⟨u, Ys, hu, u1, u2, u0, u3, u4, u5⟩ := h.2.2.1.all
  by_cases z : vp_in x (cN M p) ∧ vp_in y (cN M p) ∧ ¬ x = y ∧ N.1 (111, 0) 1 = 0
  · obtain ⟨zx, zy, zne, z1⟩ := z
    have dk : dOK (cE M p) 1 x y (N.1 (111, 0)) := Or.inr (Or.inl ⟨rfl, zx, zy, zne, z1⟩)
    obtain ⟨ex, hs⟩ := nI_of' zx (by omega)
    obtain ⟨ey, hr⟩ := nI_of' zy (by omega)
    have le0 : N.1 (111, 0) 1 ≤ 0 := by rw [z1]; decide
    have eF : dF (cE M p) 1 x y (N.1 (111, 0)) = chgF x.toNatClampNeg y.toNatClampNeg (N.1 (111, 0)) := by
      unfold dF
      rw [if_neg (by decide), if_pos rfl]
    refine ⟨1, hnC M p (dF (cE M p) 1 x y (N.1 (111, 0))) (Ys (if u = 20 then 1 else 0)) 1 x y (if u = 20 then 19 else u) (if u = 20 then 3 else 0), hnM M N p 1 x y (if u = 20 then 19 else u) (if u = 20 then 1 else 0), fun κ => ?_, fun κ => ?_, fun M1 N1 hP hQ => ⟨p, h.deed hC dk hu u0 u3 u5 hP hQ⟩⟩
    · refine eg_S.of rfl (Nat.le_of_ble_eq_true rfl) (vX10_change_0 (by omega) M _ _ ⟨p, hp.2.1, hp.1.1, fun x3 e3 => ?_⟩)
      rw [hasStation_n pl0] at e3
      refine ⟨fun c => absurd (e3.symm.trans c) (st1 x zx), fun _ x6 e6 => ?_⟩
      rw [hasStation_n pl0] at e6
      refine ⟨fun c => absurd (e6.symm.trans c) (st1 y zy), fun _ => ⟨fun c => absurd c zne, fun _ => ⟨fun _ => ⟨_, h.hand hC dk hu u1 u0 u4 u5 (by omega), fun M10 q => ⟨rfl, q⟩⟩, fun c => ?_⟩⟩⟩
      rw [e76] at c
      exact absurd le0 c
    · refine eg_S.of rfl (Nat.le_of_ble_eq_true rfl) (vX11_change_0 (by omega) N _ _ (fun M1 e1 x3 e3 => ?_))
      have e1 : M1 = t0 N := e1
      rw [e1] at e3 ⊢
      obtain ⟨gr, r111, r112, ro⟩ := rem_111 hu u2
      refine ⟨fun c => absurd (e3.symm.trans c) (st1 x zx), fun _ x6 e6 => ⟨fun c => absurd (e6.symm.trans c) (st1 y zy), fun _ => ⟨fun c => absurd c zne, fun _ => ⟨nI_in' (n := 1) (by omega) (by omega), ?_⟩⟩⟩⟩
      rw [e111, i1]
      refine ⟨fun _ => ⟨gr, fun M12 e12 => ?_⟩, fun c => absurd le0 c⟩
      have ax : (360 : Int32) + x = nI (360 + x.toNatClampNeg) := by rw [← nI_add, ← ex]; rfl
      have ay : (360 : Int32) + y = nI (360 + y.toNatClampNeg) := by rw [← nI_add, ← ey]; rfl
      generalize hsx : x.toNatClampNeg = s at *
      generalize hsy : y.toNatClampNeg = r at *
      rw [ax, ay, nI_t (by omega), nI_t (by omega)]
      refine ⟨nI_in' (by omega) (by omega), fun x15 e15 => ⟨nI_in' (by omega) (by omega), fun M17 e17 M18 e18 M19 e19 => ⟨rfl, ?_⟩⟩⟩
      have k12 : M12.1 (111, 0) = N.1 (111, 0) := by rw [e12]; exact r111
      rw [k12] at e15 e17
      have e18' : M18 = sW M12 (111, 0) (chgF s r (N.1 (111, 0))) := by
        rw [e18, e17, sI_eq M12, sI_sW, k12, e15]
        rfl
      unfold fX11_layRow at e19
      rw [e19, e18', e12]
      refine hnM_of hu u2 ((lay_FrE _ (a := 111) (by omega) _).tr (lay_FrE _ (by omega) _)) (by rw [sW_ne _ _ (by decide), sW_ne _ _ (by decide)]) (by rw [sW_ne _ _ (by decide), sW_ne _ _ (by decide)]) (by rw [sW_ne _ _ (by decide), sW_ne _ _ (by decide)]) (by rw [sW_ne _ _ (by decide), sW_ne _ _ (by decide)]) (fun j _ => by rw [sW_ne _ _ (by decide), sW_at, eF]) (fun i hi => ?_)
      have k1 : (sW (sW (fX11_remembers (t0 N)) (111, 0) (chgF s r (N.1 (111, 0)))) (112, 0) (cpT (fun j => (sW (fX11_remembers (t0 N)) (111, 0) (chgF s r (N.1 (111, 0)))).1 (111, 0) (360 + j)) ((sW (fX11_remembers (t0 N)) (111, 0) (chgF s r (N.1 (111, 0)))).1 (112, 0)) 5)).1 (111, 0) = (sW (fX11_remembers (t0 N)) (111, 0) (chgF s r (N.1 (111, 0)))).1 (111, 0) := sW_ne _ _ (by decide)
      rw [k1]
      have k2 := sW_at (sW (fX11_remembers (t0 N)) (111, 0) (chgF s r (N.1 (111, 0)))) (112, 0) (cpT (fun j => (sW (fX11_remembers (t0 N)) (111, 0) (chgF s r (N.1 (111, 0)))).1 (111, 0) (360 + j)) ((sW (fX11_remembers (t0 N)) (111, 0) (chgF s r (N.1 (111, 0)))).1 (112, 0)) 5)
      rw [k2]
      exact cpT_lt hi
  · refine StI.q h 0 (fun κ => ?_) (fun κ => ?_)
    · refine eg_S.of rfl (Nat.le_of_ble_eq_true rfl) (vX10_change_0 (by omega) M _ _ ⟨p, hp.2.1, hp.1.1, fun x3 e3 => ?_⟩)
      rw [hasStation_n pl0] at e3
      refine ⟨fun _ => ⟨rfl, FrQ.rf p M⟩, fun c3 x6 e6 => ?_⟩
      rw [hasStation_n pl0] at e6
      refine ⟨fun _ => ⟨rfl, FrQ.rf p M⟩, fun c6 => ⟨fun _ => ⟨rfl, FrQ.rf p M⟩, fun c7 => ⟨fun c8 => ?_, fun _ => ⟨rfl, FrQ.rf p M⟩⟩⟩⟩
      rw [e76, t_le, t_0] at c8
      exact absurd ⟨st x (fun q => c3 (e3.trans q)), st y (fun q => c6 (e6.trans q)), c7, t_eq.mpr (by rw [t_0]; omega)⟩ z
    · refine eg_S.of rfl (Nat.le_of_ble_eq_true rfl) (vX11_change_0 (by omega) N _ _ (fun M1 e1 x3 e3 => ?_))
      have e1 : M1 = t0 N := e1
      rw [e1] at e3 ⊢
      refine ⟨fun _ => ⟨rfl, F0⟩, fun c3 x6 e6 => ⟨fun _ => ⟨rfl, F0⟩, fun c6 => ⟨fun _ => ⟨rfl, F0⟩, fun c7 => ⟨nI_in' (n := 1) (by omega) (by omega), fun c8 => ?_, fun _ => ⟨rfl, F0⟩⟩⟩⟩⟩
      rw [e111, i1, t_le, t_0] at c8
      exact absurd ⟨st x (fun q => c3 (e3.trans q)), st y (fun q => c6 (e6.trans q)), c7, t_eq.mpr (by rw [t_0]; omega)⟩ z
