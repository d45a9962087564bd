/-! SECONDS -/
theorem clr_FrE (N : eg_H) : FrE N (fX11_clears N) := by
  refine ⟨fun k a b c _ _ => (clr_Fr N).1 k a b c, fun r h1 h2 h3 h4 h5 h6 _ _ => clr_o _ (fun q => h1 (by rw [q])) (fun q => h5 (by rw [q])) (fun q => h6 (by rw [q])), fun j hj => (clr_Fr N).2.2.2 j hj⟩
theorem SX_FrE (N : eg_H) (nm : Nat → Int64) (s : (Nat → Int64) × Int32) (Y : Nat → Int32) (h : ∀ j, 366 ≤ j → Y j = N.1 (110, 0) j) : FrE N (SX N nm s Y) := by
  refine ⟨fun k _ _ c _ _ => SX_f _ _ _ _ c, fun r h1 h2 _ _ _ _ _ _ => SX_o _ _ _ _ (fun q => h2 (by rw [q])) (fun q => h1 (by rw [q])), fun j hj => ?_⟩
  rw [SX_Y]
  exact h j hj
/-- the seconds so far, and nothing behind them -/
def yZ (N : eg_H) : Nat → Int32 := cpT (N.1 (111, 0)) (N.1 (110, 0)) 366
theorem yZ_j (N : eg_H) {j : Nat} (hj : j < 366) : yZ N j = N.1 (111, 0) j := cpT_lt hj
def scC (M N : eg_H) (p n : Nat) (M1 : eg_H) : Prop := ∃ n1 s1 Z1, M1 = TX M 0 p n1 s1 Z1 ∧ RY (cE M p) Z1 (secN (cE M p) n (yZ N))
def scM (M N : eg_H) (p n : Nat) (N1 : eg_H) : Prop := ∃ nm s, N1 = sW (SX (fX11_clears (t0 N)) nm s (secN (cE M p) n (yZ N))) (111, 0) (cpT (secN (cE M p) n (yZ N)) (N.1 (111, 0)) 366)
theorem JJ.yT {M N : eg_H} {C p : Nat} (h : JJ M N C p) : TI (cE M p) C (yZ N) ∧ RY (cE M p) (aT M 0) (yZ N) := by
  have hE := h.1.2.1.cW.2.2.2.2.1
  exact ⟨TI_Y hE h.1.2.2.1.2 (fun j hj => yZ_j N hj), RY_Y hE h.1.2.2.1.1 (h.q15 h.1.2.2.1.2) (fun j hj => yZ_j N hj)⟩
theorem JJ.sgo {M N : eg_H} {C p : Nat} (h : JJ M N C p) (hC : C < 1000000) (hC2 : 119 ≤ C) {n : Nat} (hn : (N.1 (111, 0) 0).toInt + n ≤ 3600) {κ : eg_K} {d : Nat} (hd : 6 ≤ d) : eg_S κ gC mtX7_go d [vR (7, 0), vI (nI n)] M (eQV κ gC (fun M1 => scC M N p n M1)) := by
  obtain ⟨ti, ry⟩ := h.yT
  have k := sX7_go (κ := κ) (d := d) (t := 0) (nm := M.2.1 (26, p)) (st := M.2.1 (27, p)) (Z := aT M 0) hd (by omega) h.1.2.1.cW h.1.1.2.2 hC hC2 ti.1 ry (n := n) (by rw [yZ_j N (by omega)]; exact hn)
  rw [TX_self] at k
  exact k
theorem JJ.sgm {M N : eg_H} {C p : Nat} (h : JJ M N C p) (hC : C < 1000000) (hC2 : 119 ≤ C) {n : Nat} (hn : (N.1 (111, 0) 0).toInt + n ≤ 3600) (n9 : n ≤ 3600) {κ : eg_K} {post : Int32 → eg_H → Prop} (hp : ∀ N1, scM M N p n N1 → post (secN (cE M p) n (yZ N) 0) N1) {M12 : eg_H} (e12 : M12 = fX11_lays (fX11_clears (t0 N)) (110, 0) (111, 0)) : eg_W κ gM mtX11_seconds 12 (eQI κ gM post) 58 [(0, vR (60, 0)), (1, vI (nI n)), (2, vI (0 : Int32))] [] M12 := by
  obtain ⟨ti, _⟩ := h.yT
  have qs := h.qs0 (FrN_f N (k := 2) (by omega) 0)
  obtain ⟨Q, hQ⟩ : ∃ Q, Q = fX11_clears (t0 N) := ⟨_, rfl⟩
  have i0 : (0 : Int32).toNatClampNeg = 0 := rfl
  have mq : QS M p Q (M.1 (40, 0)) := by rw [hQ]; exact qs
  have q111 : Q.1 (111, 0) = N.1 (111, 0) := by rw [hQ, clr_o _ (by decide) (by decide) (by decide), t0_ne N (by decide)]
  have q110 : Q.1 (110, 0) = N.1 (110, 0) := by rw [hQ, clr_o _ (by decide) (by decide) (by decide), t0_ne N (by decide)]
  have eq := mq.2.2.2.1
  have tiQ : TI (mE Q) C (yZ N) := TI_EQ eq ti
  have y0 : (yZ N 0).toInt + n ≤ 3600 := by rw [yZ_j N (by omega)]; exact hn
  have es : ∀ i, secN (cE M p) i (yZ N) = secN (mE Q) i (yZ N) := fun i => secN_EQ eq _ i
  have e0 : M12 = SX Q (Q.2.1 (127, 0)) (Q.2.1 (128, 0), Q.1 (60, 0) 68) (yZ N) := by
    rw [e12, ← hQ]
    unfold fX11_lays
    rw [q111, q110]
    show sW Q (110, 0) (yZ N) = _
    have := SX_self Q
    unfold SX at this ⊢
    conv => lhs; rw [← this]
    rw [sW_sW]
  rw [e0]
  suffices key : ∀ m i nm s, i + m = n → eg_W κ gM mtX11_seconds 12 (eQI κ gM post) 58 [(0, vR (60, 0)), (1, vI (nI n)), (2, vI (nI i))] [] (SX Q nm s (secN (mE Q) i (yZ N))) from key n 0 _ _ (by omega)
  intro m
  induction m with
  | zero =>
    intro i nm s hi
    have ei : i = n := by omega
    rw [ei]
    refine vX11_seconds_58 (by omega) _ _ _ ⟨fun _ => ⟨⟨by decide, rfl, rfl⟩, fun M3 e3 => ⟨nI_in' (n := 0) (by omega) (by omega), ?_⟩⟩, fun c => absurd ((nI_le' (by omega) (by omega)).mpr (Nat.le_refl n)) c⟩
    unfold fX11_lays at e3
    rw [SX_Y, SX_o _ _ _ _ (by decide) (by decide), q111] at e3
    have ea : M3.1 (111, 0) (0 : Int32).toNatClampNeg = secN (cE M p) n (yZ N) 0 := by
      rw [e3, sW_at, i0, cpT_lt (by omega), es]
    rw [ea]
    refine hp M3 ⟨nm, s, ?_⟩
    rw [e3, es, hQ]
  | succ m ih =>
    intro i nm s hi
    refine vX11_seconds_58 (by omega) _ _ _ ⟨fun c => absurd ((nI_le' (by omega) (by omega)).mp c) (by omega), fun _ => ?_⟩
    refine ⟨_, sX11_second (by omega) mq.2.2.2.2.1 mq.wE hC hC2 nm s _ (secN_I mq.wE hC hC2 tiQ.1 i (by omega)).1, fun M6 ⟨nm1, s1, e6⟩ x8 e8 => ?_⟩
    rw [e6, e8, nI_1, ← secN_s]
    exact ih (i + 1) nm1 s1 (by omega)
theorem JJ.sec {M N M1 N1 : eg_H} {C p : Nat} (h : JJ M N C p) (hC : C < 1000000) (hC2 : 119 ≤ C) {n : Nat} (hn : (N.1 (111, 0) 0).toInt + n ≤ 3600) (hu : n = 0 ∨ (M.1 (10, 0) 11 = 0 ∧ N.1 (60, 0) 69 = 0)) (hP : scC M N p n M1) (hQ : scM M N p n N1) : JJ M1 N1 C p := by
  obtain ⟨ti, _⟩ := h.yT
  have hW := h.1.2.1.cW
  have hE := hW.2.2.2.2.1
  have y0 : (yZ N 0).toInt + n ≤ 3600 := by rw [yZ_j N (by omega)]; exact hn
  have tn := ti.sec hE hC hC2 n y0
  have e7 : M.2.2 (7, 0) 0 = (5, p) := h.1.1.2.2
  obtain ⟨n1, s1, Z1, e1, r1⟩ := hP
  obtain ⟨nm, s, e2⟩ := hQ
  have es : M = sR M (7, 0) 0 (5, p) := by rw [← e7, sR_self]
  have e1' : M1 = TX (sR M (7, 0) 0 (5, p)) 0 p n1 s1 Z1 := by rw [← es]; exact e1
  have q110 : (fX11_clears (t0 N)).1 (110, 0) = N.1 (110, 0) := by rw [clr_o _ (by decide) (by decide) (by decide), t0_ne N (by decide)]
  have jn : ∀ j, 366 ≤ j → secN (cE M p) n (yZ N) j = N.1 (110, 0) j := fun j hj => by
    rw [secN_j hE hC hC2 ti.1 hj n y0]
    exact cpT_ge hj
  have FD : FrD M M1 := by rw [e1']; exact FrD_t M (by omega) _ _ _
  have FE : FrE N N1 := by
    rw [e2]
    exact (((FrE_f N (k := 2) (by omega) 0).tr (clr_FrE _)).tr (SX_FrE _ nm s _ (fun j hj => by rw [jn j hj, q110]))).tr (lay_FrE _ (by omega) _)
  have n111 : ∀ j, j < 366 → N1.1 (111, 0) j = secN (cE M p) n (yZ N) j := fun j hj => by rw [e2, sW_at, cpT_lt hj]
  have oN : ∀ k, k ≠ 60 → k ≠ 110 → k ≠ 111 → k ≠ 125 → k ≠ 126 → N1.1 (k, 0) = N.1 (k, 0) := fun k a b c d e => by
    rw [e2, sW_ne _ _ (kd_ne c), SX_o _ _ _ _ (kd_ne b) (kd_ne a), clr_o _ (kd_ne a) (kd_ne d) (kd_ne e), t0_ne N a]
  have f60 : ∀ k, k ≠ 2 → (k < 52 ∨ 63 < k) → k ≠ 68 → N1.1 (60, 0) k = N.1 (60, 0) k := fun k a b c => by
    rw [e2, sW_ne _ _ (by decide), SX_f _ _ _ _ c, (clr_Fr _).1 k a b c, t0_k N a]
  refine h.tab (D := C) FD FE ?_ ?_ ?_ ?_ (fun eE => ?_) (fun eE => ?_)
  · rw [e1]; exact e7
  · rw [e1]
    exact RY_Y hE (aT_TR hE (h.q15 tn) r1) (h.q15 tn) n111
  · exact TI_Y hE tn n111
  · intro k hk
    rw [oN 112 (by decide) (by decide) (by decide) (by decide) (by decide), n111 _ (by omega), secN_r hE hC hC2 ti.1 (by omega) n y0, yZ_j N (by omega)]
    exact h.1.2.2.2 k hk
  · refine h.2.1.cong (Nat.le_refl C) eE ?_ (fun r hr => ?_) ?_ (f60 80 (by decide) (by decide) (by decide)) (oN 142 (by decide) (by decide) (by decide) (by decide) (by decide))
    · rw [e1, TX_fr _ _ _ _ _ _ (nT_k (by omega))]
    · rw [e1, TX_fr _ _ _ _ _ _ (nT_t hr (by omega))]
    · rw [e1]; rfl
  · rcases hu with hu | ⟨u1, u2⟩
    · refine h.2.2.1.cong (Nat.le_refl C) eE ?_ (fun r hr => ?_) ?_ ?_ (f60 69 (by decide) (by decide) (by decide)) ?_ (oN 131 (by decide) (by decide) (by decide) (by decide) (by decide))
      · rw [e1, TX_fr _ _ _ _ _ _ (nT_k (by omega))]
      · rw [e1, TX_fr _ _ _ _ _ _ (nT_t hr (by omega))]
      · rw [e1]; rfl
      · rw [e1, TX_fr _ _ _ _ _ _ (nT_k (by omega))]
      · funext j
        by_cases c : j < 366
        · rw [n111 j c, hu, secN_0, yZ_j N c]
        · rw [e2, sW_at, cpT_ge (by omega)]
    · refine J3_0 ?_ ?_
      · rw [e1, TX_fr _ _ _ _ _ _ (nT_k (by omega))]; exact u1
      · rw [f60 69 (by decide) (by decide) (by decide)]; exact u2
theorem JJ.zu {M N : eg_H} {C p : Nat} (h : JJ M N C p) : JJ (sI M (10, 0) 11 0) (sI N (60, 0) 69 0) C p := by
  have oN : ∀ k, k ≠ 60 → (sI N (60, 0) 69 0).1 (k, 0) = N.1 (k, 0) := fun k a => sI_ne (kd_ne a)
  refine h.tab (D := C) (FrD_f M (by omega) 0) (FrE_f N (by omega) 0) h.1.1.2.2 ?_ ?_ ?_ (fun eE => ?_) (fun eE => ?_)
  · rw [sI_tf, oN 111 (by decide)]; exact h.1.2.2.1.1
  · rw [oN 111 (by decide)]; exact h.1.2.2.1.2
  · rw [oN 111 (by decide), oN 112 (by decide)]; exact h.1.2.2.2
  · refine h.2.1.cong (Nat.le_refl C) eE ?_ (fun r hr => sI_ne (fun q => by rw [q] at hr; exact nT_k (by omega) hr)) rfl ?_ (oN 142 (by decide))
    · rw [sI_upd, pk_un (by decide)]
    · rw [sI_60, if_neg (by decide)]
  · refine J3_0 ?_ ?_
    · rw [sI_upd]; exact pk_us
    · rw [sI_60, if_pos rfl]
theorem st_seconds {M N : eg_H} {C p : Nat} (h : JJ M N C p) (hC : C < 1000000) (hC2 : 119 ≤ C) (x : Int32) : StI mtX10_seconds mtX11_seconds [vI x] M N C := by
  have F0 : FrN N (t0 N) := FrN_f N (by omega) 0
  have ry := h.1.2.2.1.1
  have ti := h.1.2.2.1.2
  have e71 : M.1 (7, 0) 1 = N.1 (111, 0) 0 := ry.s
  have hy0 := ti.1.2.2.2.2
  have i0 : (0 : Int32).toNatClampNeg = 0 := rfl
  have i900 : (900 : Int32).toInt = 900 := by decide
  have i3600 : (3600 : Int32).toInt = 3600 := by decide
  have e111 : (t0 N).1 (111, 0) = N.1 (111, 0) := t0_ne N (by decide)
  by_cases zx : vp_in x 901
  · have zx' := t_in.mp zx
    obtain ⟨ex, hx⟩ := nI_of' zx (by omega)
    generalize x.toNatClampNeg = n at ex hx
    have ea : (N.1 (111, 0) 0 + x).toInt = (N.1 (111, 0) 0).toInt + x.toInt := t_add (by omega) (by omega)
    have xn : x.toInt = n := by rw [ex, t_nI (by omega)]
    have n1 : ¬ x < 0 := by rw [t_lt, t_0]; omega
    have n2 : ¬ (900 : Int32) < x := by rw [t_lt]; omega
    have m1 : fX11_isIn (t0 N) x 0 900 = 1 := by
      rcases isIn_n (t0 N) x 0 900 with w | w
      · rw [t_0, i900] at w; omega
      · exact w.1
    by_cases zs : (N.1 (111, 0) 0).toInt + n ≤ 3600
    · have c1 : N.1 (111, 0) 0 + x ≤ 3600 := by rw [t_le, ea]; omega
      by_cases z0 : n = 0
      · have x0 : x ≤ 0 := by rw [t_le, t_0]; omega
        refine ⟨secN (cE M p) n (yZ N) 0, scC M N p n, scM M N p n, fun κ => ?_, fun κ => ?_, fun M1 N1 hP hQ => ⟨p, (h.sec hC hC2 zs (Or.inl z0) hP hQ).mono (by omega)⟩⟩
        · refine eg_S.of rfl (Nat.le_of_ble_eq_true rfl) (vX10_seconds_0 (by omega) M _ ⟨fun q => absurd q n1, fun _ => ⟨fun q => absurd q n2, fun _ => ⟨fun _ => ⟨fun _ => ?_, fun q => absurd x0 q⟩, fun q => ?_⟩⟩⟩)
          · rw [ex]
            refine ⟨_, h.sgo hC hC2 zs (by omega), fun M5 q5 => ⟨?_, q5⟩⟩
            obtain ⟨n1, s1, Z1, e1, r1⟩ := q5
            rw [e1, T7_1]; exact r1.s
          · rw [e71] at q; exact absurd c1 q
        · refine eg_S.of rfl (Nat.le_of_ble_eq_true rfl) (vX11_seconds_0 (by omega) N _ (fun M1 e1 x3 e3 => ?_))
          have e1 : M1 = t0 N := e1
          rw [e1] at e3 ⊢
          refine ⟨fun q => absurd (q.symm.trans (e3.trans m1)) (by decide), fun _ => ⟨nI_in' (n := 0) (by omega) (by omega), ?_⟩⟩
          rw [e111, i0]
          refine ⟨fun _ => ⟨fun _ => ⟨(h.1.2.1.cong (fun _ _ => rfl) F0.T).hp, fun M9 e9 => ⟨⟨by decide, rfl, rfl⟩, fun M12 e12 => ?_⟩⟩, fun q => absurd x0 q⟩, fun q => absurd c1 q⟩
          rw [ex]
          exact h.sgm hC hC2 zs (by omega) (fun N1 q => ⟨rfl, q⟩) (by rw [e12, e9])
      · have x0 : ¬ x ≤ 0 := by rw [t_le, t_0]; omega
        have h' := h.zu
        have k111 : (sI N (60, 0) 69 0).1 (111, 0) = N.1 (111, 0) := sI_ne (by decide)
        have zs' : ((sI N (60, 0) 69 0).1 (111, 0) 0).toInt + n ≤ 3600 := by rw [k111]; exact zs
        have ecm : sI (t0 N) (60, 0) 69 0 = t0 (sI N (60, 0) 69 0) := sI_comm N (60, 0) (by decide) 0 0
        refine ⟨secN (cE (sI M (10, 0) 11 0) p) n (yZ (sI N (60, 0) 69 0)) 0, scC (sI M (10, 0) 11 0) (sI N (60, 0) 69 0) p n, scM (sI M (10, 0) 11 0) (sI N (60, 0) 69 0) p n, fun κ => ?_, fun κ => ?_, fun M1 N1 hP hQ => ⟨p, (h'.sec hC hC2 zs' (Or.inr ⟨?_, ?_⟩) hP hQ).mono (by omega)⟩⟩
        · refine eg_S.of rfl (Nat.le_of_ble_eq_true rfl) (vX10_seconds_0 (by omega) M _ ⟨fun q => absurd q n1, fun _ => ⟨fun q => absurd q n2, fun _ => ⟨fun _ => ⟨fun q => absurd q x0, fun _ M7 e7 => ?_⟩, fun q => ?_⟩⟩⟩)
          · rw [ex, e7]
            refine ⟨_, h'.sgo hC hC2 zs' (by omega), fun M5 q5 => ⟨?_, q5⟩⟩
            obtain ⟨n1, s1, Z1, e1, r1⟩ := q5
            rw [e1, T7_1]; exact r1.s
          · rw [e71] at q; exact absurd c1 q
        · refine eg_S.of rfl (Nat.le_of_ble_eq_true rfl) (vX11_seconds_0 (by omega) N _ (fun M1 e1 x3 e3 => ?_))
          have e1 : M1 = t0 N := e1
          rw [e1] at e3 ⊢
          refine ⟨fun q => absurd (q.symm.trans (e3.trans m1)) (by decide), fun _ => ⟨nI_in' (n := 0) (by omega) (by omega), ?_⟩⟩
          rw [e111, i0]
          refine ⟨fun _ => ⟨fun q => absurd q x0, fun _ M14 e14 => ?_⟩, fun q => absurd c1 q⟩
          rw [ecm] at e14
          rw [e14]
          refine ⟨(h'.1.2.1.cong (fun _ _ => rfl) (FrN_f (sI N (60, 0) 69 0) (k := 2) (by omega) 0).T).hp, fun M16 e16 => ⟨⟨by decide, rfl, rfl⟩, fun M19 e19 => ?_⟩⟩
          rw [ex]
          exact h'.sgm hC hC2 zs' (by omega) (fun N1 q => ⟨rfl, q⟩) (by rw [e19, e16])
        · rw [sI_upd]; exact pk_us
        · rw [sI_60, if_pos rfl]
    · have c1 : ¬ N.1 (111, 0) 0 + x ≤ 3600 := by rw [t_le, ea]; omega
      refine StI.q h (-1) (fun κ => ?_) (fun κ => ?_)
      · refine eg_S.of rfl (Nat.le_of_ble_eq_true rfl) (vX10_seconds_0 (by omega) M _ ⟨fun q => absurd q n1, fun _ => ⟨fun q => absurd q n2, fun _ => ⟨fun q => ?_, fun q => ⟨rfl, FrQ.rf p M⟩⟩⟩⟩)
        rw [e71] at q; exact absurd q c1
      · refine eg_S.of rfl (Nat.le_of_ble_eq_true rfl) (vX11_seconds_0 (by omega) N _ (fun M1 e1 x3 e3 => ?_))
        have e1 : M1 = t0 N := e1
        rw [e1] at e3 ⊢
        refine ⟨fun q => absurd (q.symm.trans (e3.trans m1)) (by decide), fun _ => ⟨nI_in' (n := 0) (by omega) (by omega), ?_⟩⟩
        rw [e111, i0]
        exact ⟨fun q => absurd q c1, fun _ => ⟨rfl, F0⟩⟩
  · refine StI.q h (-1) (fun κ => ?_) (fun κ => ?_)
    · refine eg_S.of rfl (Nat.le_of_ble_eq_true rfl) (vX10_seconds_0 (by omega) M _ ⟨fun q => ⟨rfl, FrQ.rf p M⟩, fun q1 => ⟨fun q => ⟨rfl, FrQ.rf p M⟩, fun q2 => ?_⟩⟩)
      rw [t_lt, t_0] at q1
      rw [t_lt] at q2
      exact absurd (t_in.mpr (by omega)) zx
    · refine eg_S.of rfl (Nat.le_of_ble_eq_true rfl) (vX11_seconds_0 (by omega) N _ (fun M1 e1 x3 e3 => ?_))
      have e1 : M1 = t0 N := e1
      rw [e1] at e3 ⊢
      refine ⟨fun q => ⟨rfl, F0⟩, fun q => ?_⟩
      rcases isIn_n (t0 N) x 0 900 with w | w
      · exact absurd (e3.trans w.1) q
      · rw [t_0, i900] at w
        exact absurd (t_in.mpr (by omega)) zx
