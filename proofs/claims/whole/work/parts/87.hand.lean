/-! DONE BY HAND -/
theorem nI_m3 (a : Nat) : nI a * 3 = nI (a * 3) := (Int32.ofNat_mul a 3).symm
/-- what is remembered, also when nothing is -/
theorem J3.all {M N : eg_H} {C p : Nat} (h : J3 M p N C) : ∃ (u : Nat) (Ys : Nat → Nat → Int32), u ≤ 20 ∧ M.1 (10, 0) 11 = nI u ∧ N.1 (60, 0) 69 = nI u ∧ (u = 0 → Ys 0 = N.1 (111, 0)) ∧ (∀ j, j < 366 → Ys u j = N.1 (111, 0) j) ∧ (0 < u → M.2.2 (7, 3) 0 = (5, p) ∧ RY (cE M p) (aT M 3) (Ys 0)) ∧ ∀ k, k < u → (∀ j, j < 366 → Ys k j = N.1 (131, 0) (366 * k + j)) ∧ TI (cE M p) C (Ys k) ∧ dOK (cE M p) (M.1 (51, 0) (3 * k)) (M.1 (51, 0) (3 * k + 1)) (M.1 (51, 0) (3 * k + 2)) (Ys k) ∧ ∀ j, j < 366 → Ys (k + 1) j = dF (cE M p) (M.1 (51, 0) (3 * k)) (M.1 (51, 0) (3 * k + 1)) (M.1 (51, 0) (3 * k + 2)) (Ys k) j := by
  obtain ⟨u, hu, u1, u2, u3⟩ := h
  by_cases c : u = 0
  · exact ⟨u, fun _ => N.1 (111, 0), hu, u1, u2, fun _ => rfl, fun _ _ => rfl, fun q => absurd q (by omega), fun k hk => absurd hk (by omega)⟩
  · obtain ⟨v1, Ys, v2, v3, v4⟩ := u3 (by omega)
    exact ⟨u, Ys, hu, u1, u2, fun q => absurd q c, v3, fun _ => ⟨v1, v2⟩, v4⟩
/-- as it was, but for what is remembered -/
def hnB (M : eg_H) (p : Nat) (M6 : eg_H) : Prop := FrD M M6 ∧ (∀ r, tOf r 2 → M6.1 r = M.1 r) ∧ M6.2.2 (7, 2) 0 = M.2.2 (7, 2) 0 ∧ M6.1 (10, 0) 8 = M.1 (10, 0) 8 ∧ M6.2.2 (7, 0) 0 = (5, p) ∧ M6.2.2 (7, 3) 0 = (5, p)
def hnC (M : eg_H) (p : Nat) (Y X : Nat → Int32) (k a b : Int32) (u e : Nat) (M1 : eg_H) : Prop := hnB M p M1 ∧ RY (cE M p) (aT M1 0) Y ∧ RY (cE M p) (aT M1 3) X ∧ M1.1 (10, 0) 11 = nI (u + 1) ∧ (∀ i, i < 3 * u → M1.1 (51, 0) i = M.1 (51, 0) (i + e)) ∧ M1.1 (51, 0) (3 * u) = k ∧ M1.1 (51, 0) (3 * u + 1) = a ∧ M1.1 (51, 0) (3 * u + 2) = b
theorem FrD.E {M M1 N : eg_H} {p : Nat} (pl : PL M p N) (h : FrD M M1) : cE M1 p = cE M p ∧ cW M1 p := by
  have eP : ∀ r, pOf r p → M1.1 r = M.1 r := fun r q => h.1 r (nT_p q) (nT_p q) (nT_p q) (by unfold pOf at q; omega) (by unfold pOf at q; omega)
  exact ⟨cE_cong pl.cW eP, (pl.cong eP (FrN.rf N).T).cW⟩
theorem FrD_tx (M : eg_H) {t p : Nat} (ht : t = 0 ∨ t = 2 ∨ t = 3) (hT : M.2.2 (7, t) 0 = (5, p)) (nm st : Nat → Int64) (Z : Nat → Int32) : FrD M (TX M t p nm st Z) := by
  have e : M = sR M (7, t) 0 (5, p) := by rw [← hT, sR_self]
  have := FrD_t M (t := t) (p := p) ht nm st Z
  rw [← e] at this
  exact this
theorem TX_ta (M : eg_H) {t s p : Nat} (hst : s ≠ t) (nm st : Nat → Int64) (Z : Nat → Int32) : aT (TX M t p nm st Z) s = aT M s := aT_cong (fun r hr => TX_fr _ _ _ _ _ _ (nT_t hr (fun e => hst e.symm)))
theorem hn_57 {M N M6 : eg_H} {C p u e : Nat} {X : Nat → Int32} {k a b : Int32} (pl : PL M p N) (hC : C < 1000000) (hu : u < 20) (hB : hnB M p M6) (ti : TI (cE M p) C (N.1 (111, 0))) (ry : RY (cE M p) (aT M6 0) (N.1 (111, 0))) (rX : RY (cE M p) (aT M6 3) X) (e11 : M6.1 (10, 0) 11 = nI u) (e51 : ∀ i, i < 3 * u → M6.1 (51, 0) i = M.1 (51, 0) (i + e)) (dk : dOK (cE M p) k a b (N.1 (111, 0))) {κ : eg_K} {d : Nat} (hd : 4 ≤ d) : eg_W κ gC mtX10_doByHand d (eQV κ gC (fun M1 => hnC M p (dF (cE M p) k a b (N.1 (111, 0))) X k a b u e M1)) 57 [(0, vR (10, 0)), (1, vI k), (2, vI a), (3, vI b)] [] M6 := by
  have hE := pl.cW.2.2.2.2.1
  refine vX10_doByHand_57 (by omega) _ _ _ _ (fun x1 e1 => ?_)
  rw [e11, nI_m3] at e1
  have n1 : x1 + 1 = nI (u * 3 + 1) := by rw [e1]; exact nI_add _ 1
  have n2 : x1 + 2 = nI (u * 3 + 2) := by rw [e1]; exact nI_add _ 2
  rw [n1, n2, e1, nI_t (by omega), nI_t (by omega), nI_t (by omega)]
  refine ⟨nI_in' (by omega) (by omega), fun M3 e3 => ⟨nI_in' (by omega) (by omega), fun M5 e5 => ⟨nI_in' (by omega) (by omega), fun M7 e7 M8 e8 => ?_⟩⟩⟩
  have k11 : M7.1 (10, 0) 11 = nI u := by rw [e7, sI_ne (by decide), e5, sI_ne (by decide), e3, sI_ne (by decide)]; exact e11
  rw [k11, nI_1] at e8
  have o8 : ∀ r, r ≠ (51, 0) → r ≠ (10, 0) → M8.1 r = M6.1 r := fun r h1 h2 => by rw [e8, sI_ne h2, e7, sI_ne h1, e5, sI_ne h1, e3, sI_ne h1]
  have r8 : M8.2.2 = M6.2.2 := by rw [e8, e7, e5, e3]; rfl
  have f8 : ∀ j, j ≠ 11 → M8.1 (10, 0) j = M6.1 (10, 0) j := fun j hj => by rw [e8, sI_upd, pk_un hj, e7, sI_ne (by decide), e5, sI_ne (by decide), e3, sI_ne (by decide)]
  have d8 : M8.1 (51, 0) = upd (upd (upd (M6.1 (51, 0)) (u * 3) k) (u * 3 + 1) a) (u * 3 + 2) b := by
    rw [e8, sI_ne (by decide), e7, sI_upd, e5, sI_upd, e3, sI_upd]
  have t8 : ∀ t r, tOf r t → M8.1 r = M6.1 r := fun t r hr => o8 r (fun q => by rw [q] at hr; exact nT_k (by omega) hr) (fun q => by rw [q] at hr; exact nT_k (by omega) hr)
  have FD6 : FrD M6 M8 := ⟨fun r _ _ _ h1 h2 => o8 r (fun q => h2 (by rw [q])) (fun q => h1 (by rw [q])), fun j _ hj => f8 j hj, fun r j _ => by rw [r8]⟩
  have FD8 : FrD M M8 := hB.1.tr FD6
  obtain ⟨eE, w8⟩ := FD8.E pl
  have a0 : aT M8 0 = aT M6 0 := aT_cong (t8 0)
  have a3 : aT M8 3 = aT M6 3 := aT_cong (t8 3)
  have h70 : M8.2.2 (7, 0) 0 = (5, p) := by rw [r8]; exact hB.2.2.2.2.1
  have pf := sX7_perform (κ := κ) (d := d - 1) (t := 0) (nm := M8.2.1 (26, p)) (st := M8.2.1 (27, p)) (Z := aT M8 0) (by omega) (by omega) w8 h70 (Y := N.1 (111, 0)) (C := C) (k := k) (a := a) (b := b) (by rw [eE]; exact ti) (by rw [eE, a0]; exact ry) (by rw [eE]; exact dk)
  rw [TX_self, eE] at pf
  refine ⟨_, pf, fun M9 ⟨Z1, e9, r9⟩ => ?_⟩
  have tn := TI_dF hE hC ti dk
  have FD9 : FrD M8 M9 := by rw [e9]; exact FrD_tx M8 (by omega) h70 _ _ _
  have o9 : ∀ r, ¬ tOf r 0 → M9.1 r = M8.1 r := fun r hr => by rw [e9, TX_fr _ _ _ _ _ _ hr]
  have r9' : M9.2.2 = M6.2.2 := by rw [e9, ← r8]; rfl
  have d9 : M9.1 (51, 0) = upd (upd (upd (M6.1 (51, 0)) (u * 3) k) (u * 3 + 1) a) (u * 3 + 2) b := by rw [o9 _ (nT_k (by omega))]; exact d8
  obtain ⟨b1, b2, b3, b4, b5, b6⟩ := hB
  refine ⟨⟨FD8.tr FD9, fun r hr => ?_, ?_, ?_, ?_, ?_⟩, ?_, ?_, ?_, fun i hi => ?_, ?_, ?_, ?_⟩
  · rw [o9 r (nT_t hr (by omega)), t8 2 r hr]; exact b2 r hr
  · rw [r9']; exact b3
  · rw [o9 _ (nT_k (by omega)), f8 8 (by omega)]; exact b4
  · rw [r9']; exact b5
  · rw [r9']; exact b6
  · rw [e9]; exact aT_TR hE (tn.1.q16 hE) r9
  · rw [e9, TX_ta _ (by omega), a3]; exact rX
  · rw [o9 _ (nT_k (by omega)), e8, sI_upd]; exact pk_us
  · rw [d9, pk_un (by omega), pk_un (by omega), pk_un (by omega)]; exact e51 i hi
  · rw [d9, pk_un (by omega), pk_un (by omega), Nat.mul_comm, pk_us]
  · rw [d9, pk_un (by omega), show 3 * u + 1 = u * 3 + 1 by omega, pk_us]
  · rw [d9, show 3 * u + 2 = u * 3 + 2 by omega, pk_us]
theorem cpy_51 (M : eg_H) : (sC M (51, 0) (51, 0) 3 0 57).2 = M.2 ∧ (∀ r, r ≠ (51, 0) → (sC M (51, 0) (51, 0) 3 0 57).1 r = M.1 r) ∧ ∀ i, i < 57 → (sC M (51, 0) (51, 0) 3 0 57).1 (51, 0) i = M.1 (51, 0) (i + 3) := by
  refine ⟨rfl, fun r hr => ?_, fun i hi => ?_⟩
  · show (if r = (51, 0) then _ else M.1 r) = _
    rw [if_neg hr]
  · show (if ((51, 0) : eg_R) = (51, 0) then va_cpy (M.1 (51, 0)) (M.1 (51, 0)) 3 0 57 else M.1 (51, 0)) i = _
    rw [if_pos rfl]
    unfold va_cpy
    rw [if_pos ⟨by omega, by omega⟩, show 3 + (i - 0) = i + 3 by omega]
/-- the class does it by hand -/
theorem JJ.hand {M N : eg_H} {C p : Nat} (h : JJ M N C p) (hC : C < 1000000) {k a b : Int32} (dk : dOK (cE M p) k a b (N.1 (111, 0))) {u : Nat} {Ys : Nat → Nat → Int32} (hu : u ≤ 20) (u1 : M.1 (10, 0) 11 = nI u) (u0 : u = 0 → Ys 0 = N.1 (111, 0)) (u4 : 0 < u → M.2.2 (7, 3) 0 = (5, p) ∧ RY (cE M p) (aT M 3) (Ys 0)) (u5 : ∀ k, k < u → (∀ j, j < 366 → Ys k j = N.1 (131, 0) (366 * k + j)) ∧ TI (cE M p) C (Ys k) ∧ dOK (cE M p) (M.1 (51, 0) (3 * k)) (M.1 (51, 0) (3 * k + 1)) (M.1 (51, 0) (3 * k + 2)) (Ys k) ∧ ∀ j, j < 366 → Ys (k + 1) j = dF (cE M p) (M.1 (51, 0) (3 * k)) (M.1 (51, 0) (3 * k + 1)) (M.1 (51, 0) (3 * k + 2)) (Ys k) j) {κ : eg_K} {d : Nat} (hd : 5 ≤ d) : eg_S κ gC mtX10_doByHand d [vR (10, 0), vI k, vI a, vI b] M (eQV κ gC (fun M1 => hnC M p (dF (cE M p) k a b (N.1 (111, 0))) (Ys (if u = 20 then 1 else 0)) k a b (if u = 20 then 19 else u) (if u = 20 then 3 else 0) M1)) := by
  have pl := h.1.2.1
  have hW := pl.cW
  have hE := hW.2.2.2.2.1
  have ry := h.1.2.2.1.1
  have ti := h.1.2.2.1.2
  have e7 : M.2.2 (7, 0) 0 = (5, p) := h.1.1.2.2
  have B0 : 0 < u → hnB M p M := fun q => ⟨⟨fun _ _ _ _ _ _ => rfl, fun _ _ _ => rfl, fun _ _ _ => rfl⟩, fun _ _ => rfl, rfl, rfl, e7, (u4 q).1⟩
  have i3 : (3 : Int32).toNatClampNeg = 3 := rfl
  have i0 : (0 : Int32).toNatClampNeg = 0 := rfl
  have i57 : (57 : Int32).toNatClampNeg = 57 := rfl
  refine eg_S.of rfl (Nat.le_of_ble_eq_true rfl) (vX10_doByHand_0 (by omega) M _ _ _ ⟨fun c => ?_, fun c => ?_⟩)
  · have up : 0 < u := Nat.pos_of_ne_zero (fun q => c (by rw [u1, q]; rfl))
    obtain ⟨e73, r3⟩ := u4 up
    refine vX10_doByHand_18 (by omega) M _ _ _ ⟨fun c2 => ?_, fun c2 => ?_⟩
    · rw [u1] at c2
      have u20 : u < 20 := (nI_lt' (b := 20) (by omega) (by omega)).mp c2
      rw [if_neg (by omega), if_neg (by omega), if_neg (by omega)]
      exact hn_57 pl hC u20 (B0 up) ti ry r3 u1 (fun i _ => rfl) dk (by omega)
    · rw [u1] at c2
      have u20 : u = 20 := by
        have : ¬ u < 20 := fun q => c2 ((nI_lt' (b := 20) (by omega) (by omega)).mpr q)
        omega
      rw [if_pos u20, if_pos u20, if_pos u20]
      obtain ⟨_, t0', d0, n0⟩ := u5 0 (by omega)
      rw [Nat.mul_zero, Nat.zero_add, Nat.zero_add] at d0
      rw [Nat.mul_zero, Nat.zero_add, Nat.zero_add] at n0
      have pa : eg_S κ gC mtX10_performAgain (d - 1) [vR (10, 0), vR (7, 3), vI (0 : Int32)] M (eQV κ gC (fun M1 => ∃ Z1, M1 = TX M 3 p (M.2.1 (26, p)) (M.2.1 (27, p)) Z1 ∧ RY (cE M p) Z1 (dF (cE M p) (M.1 (51, 0) 0) (M.1 (51, 0) 1) (M.1 (51, 0) 2) (Ys 0)))) := by
        refine eg_S.of rfl (Nat.le_of_ble_eq_true rfl) (vX10_performAgain_0 (by omega) M (by omega) _ (fun x1 e1 => ?_))
        have e1 : x1 = nI 0 := e1
        rw [e1]
        refine ⟨nI_in' (by omega) (by omega), nI_in' (n := 1) (by omega) (by omega), nI_in' (n := 2) (by omega) (by omega), ?_⟩
        have pf := sX7_perform (κ := κ) (d := d - 1 - 1) (t := 3) (nm := M.2.1 (26, p)) (st := M.2.1 (27, p)) (Z := aT M 3) (by omega) (by omega) hW e73 t0' r3 d0
        rw [TX_self] at pf
        exact ⟨_, pf, fun M5 q => q⟩
      refine ⟨_, pa, fun M2 ⟨Z1, e2, r2⟩ M4 e4 M5 e5 => ?_⟩
      rw [i3, i0, i57] at e4
      obtain ⟨y1, y2, y3⟩ := cpy_51 M2
      have o5 : ∀ r, r ≠ (51, 0) → r ≠ (10, 0) → M5.1 r = M2.1 r := fun r h1 h2 => by rw [e5, sI_ne h2, e4]; exact y2 r h1
      have r5 : M5.2.2 = M.2.2 := by
        have : M4.2 = M2.2 := by rw [e4]; exact y1
        have k : M5.2.2 = M4.2.2 := by rw [e5]; rfl
        rw [k, this, e2]
        rfl
      have f5 : ∀ j, j ≠ 11 → M5.1 (10, 0) j = M2.1 (10, 0) j := fun j hj => by rw [e5, sI_upd, pk_un hj, e4, y2 _ (by decide)]
      have t5 : ∀ t r, tOf r t → M5.1 r = M2.1 r := fun t r hr => o5 r (fun q => by rw [q] at hr; exact nT_k (by omega) hr) (fun q => by rw [q] at hr; exact nT_k (by omega) hr)
      have F2 : FrD M M2 := by rw [e2]; exact FrD_tx M (by omega) e73 _ _ _
      have F5 : FrD M2 M5 := ⟨fun r _ _ _ h1 h2 => o5 r (fun q => h2 (by rw [q])) (fun q => h1 (by rw [q])), fun j _ hj => f5 j hj, fun r j _ => by rw [r5, e2]; rfl⟩
      have o2 : ∀ r, ¬ tOf r 3 → M2.1 r = M.1 r := fun r hr => by rw [e2, TX_fr _ _ _ _ _ _ hr]
      refine hn_57 pl hC (by omega) ⟨F2.tr F5, fun r hr => ?_, by rw [r5], ?_, by rw [r5]; exact e7, by rw [r5]; exact e73⟩ ti ?_ ?_ ?_ (fun i hi => ?_) dk (by omega)
      · rw [t5 2 r hr, o2 r (nT_t hr (by omega))]
      · rw [f5 8 (by omega), o2 _ (nT_k (by omega))]
      · rw [aT_cong (t5 0), e2, TX_ta _ (by omega)]; exact ry
      · rw [aT_cong (t5 3), e2]
        have tn := TI_dF hE hC t0' d0
        exact RY_Y hE (aT_TR hE (tn.1.q16 hE) r2) (tn.1.q16 hE) n0
      · rw [e5, sI_upd]; exact pk_us
      · rw [e5, sI_ne (by decide), e4, y3 i (by omega), o2 _ (nT_k (by omega))]
  · have uz : u = 0 := (nI_eq' (b := 0) (by omega) (by omega)).mp (u1.symm.trans c)
    rw [if_neg (by omega), if_neg (by omega), if_neg (by omega)]
    refine ⟨_, sX7_copyFrom (by omega) (by omega) (by omega) (by omega) hW e7 (JJ.b01 hE ry), fun M2 ⟨Z1, e2, q2⟩ => ?_⟩
    have o2 : ∀ r, ¬ tOf r 3 → M2.1 r = M.1 r := fun r hr => by rw [e2, TX_fr _ _ _ _ _ _ hr]; rfl
    have r2 : ∀ r j, r ≠ (7, 3) → M2.2.2 r j = M.2.2 r j := fun r j hr => by
      rw [e2]
      show (if r = (7, 3) ∧ j = 0 then _ else _) = _
      rw [if_neg (fun c => hr c.1)]
    have u2 : M2.1 (10, 0) 11 = nI u := by rw [o2 _ (nT_k (by omega))]; exact u1
    refine vX10_doByHand_18 (by omega) M2 _ _ _ ⟨fun _ => ?_, fun c2 => ?_⟩
    · refine hn_57 pl hC (by omega) ⟨?_, fun r hr => o2 r (nT_t hr (by omega)), r2 _ _ (by decide), ?_, ?_, ?_⟩ ti ?_ ?_ u2 (fun i hi => absurd hi (by omega)) dk (by omega)
      · rw [e2]; exact FrD_t M (by omega) _ _ _
      · rw [o2 _ (nT_k (by omega))]
      · rw [r2 _ _ (by decide)]; exact e7
      · rw [e2]; exact sR_at M (7, 3) 0 (5, p)
      · rw [e2, TX_tf _ (by omega)]; exact ry
      · rw [u0 uz, e2]
        exact aT_TR hE (h.q15 ti) (tEq_R hE q2 (h.q15 ti) ry)
    · rw [u2, uz] at c2
      exact absurd (by decide) c2
/-- the model remembers, and does it -/
def hnM (M N : eg_H) (p : Nat) (k a b : Int32) (u e : Nat) (N1 : eg_H) : Prop := FrE N N1 ∧ N1.1 (60, 0) 80 = N.1 (60, 0) 80 ∧ N1.1 (142, 0) = N.1 (142, 0) ∧ (∀ j, j < 366 → N1.1 (111, 0) j = dF (cE M p) k a b (N.1 (111, 0)) j) ∧ (∀ i, i < 5 → N1.1 (112, 0) i = N1.1 (111, 0) (360 + i)) ∧ N1.1 (60, 0) 69 = nI (u + 1) ∧ (∀ i j, i < u → j < 366 → N1.1 (131, 0) (366 * i + j) = N.1 (131, 0) (366 * (i + e) + j)) ∧ ∀ j, j < 366 → N1.1 (131, 0) (366 * u + j) = N.1 (111, 0) j
theorem JJ.deed {M N M1 N1 : eg_H} {C p : Nat} (h : JJ M N C p) (hC : C < 1000000) {k a b : Int32} (dk : dOK (cE M p) k a b (N.1 (111, 0))) {u : Nat} {Ys : Nat → Nat → Int32} (hu : u ≤ 20) (u0 : u = 0 → Ys 0 = N.1 (111, 0)) (u3 : ∀ j, j < 366 → Ys u j = N.1 (111, 0) j) (u5 : ∀ k, k < u → (∀ j, j < 366 → Ys k j = N.1 (131, 0) (366 * k + j)) ∧ TI (cE M p) C (Ys k) ∧ dOK (cE M p) (M.1 (51, 0) (3 * k)) (M.1 (51, 0) (3 * k + 1)) (M.1 (51, 0) (3 * k + 2)) (Ys k) ∧ ∀ j, j < 366 → Ys (k + 1) j = dF (cE M p) (M.1 (51, 0) (3 * k)) (M.1 (51, 0) (3 * k + 1)) (M.1 (51, 0) (3 * k + 2)) (Ys k) j) (hP : hnC M p (dF (cE M p) k a b (N.1 (111, 0))) (Ys (if u = 20 then 1 else 0)) k a b (if u = 20 then 19 else u) (if u = 20 then 3 else 0) M1) (hQ : hnM M N p k a b (if u = 20 then 19 else u) (if u = 20 then 1 else 0) N1) : JJ M1 N1 (C + 60) p := by
  have pl := h.1.2.1
  have hE := pl.cW.2.2.2.2.1
  have ti := h.1.2.2.1.2
  have tn := TI_dF hE hC ti dk
  obtain ⟨⟨b1, b2, b3, b4, b5, b6⟩, p1, p2, p3, p4, p5, p6, p7⟩ := hP
  obtain ⟨q1, q2, q3, q4, q5, q6, q7, q8⟩ := hQ
  obtain ⟨w, e, hw, he, hwe⟩ : ∃ w e, w = (if u = 20 then 19 else u) ∧ e = (if u = 20 then 1 else 0) ∧ w + e = u := ⟨_, _, rfl, rfl, by split <;> omega⟩
  have h3 : (if u = 20 then 3 else 0) = 3 * e := by rw [he]; split <;> rfl
  rw [h3] at p4
  rw [← hw] at p3 p4 p5 p6 p7 q6 q7 q8
  rw [← he] at p2 q7
  have w19 : w ≤ 19 := by split at hw <;> omega
  refine h.tab (D := C + 60) b1 q1 b5 (RY_Y hE p1 (tn.1.q16 hE) q4) (TI_Y hE tn q4) q5 (fun eE => h.2.1.cong (by omega) eE b4 b2 b3 q2 q3) (fun eE => ?_)
  have dn : ∀ i, i < w → M1.1 (51, 0) (3 * i) = M.1 (51, 0) (3 * (i + e)) ∧ M1.1 (51, 0) (3 * i + 1) = M.1 (51, 0) (3 * (i + e) + 1) ∧ M1.1 (51, 0) (3 * i + 2) = M.1 (51, 0) (3 * (i + e) + 2) := fun i hi => by
    rw [p4 _ (by omega), p4 _ (by omega), p4 _ (by omega), show 3 * i + 3 * e = 3 * (i + e) by omega, show 3 * i + 1 + 3 * e = 3 * (i + e) + 1 by omega, show 3 * i + 2 + 3 * e = 3 * (i + e) + 2 by omega]
    exact ⟨rfl, rfl, rfl⟩
  refine ⟨w + 1, by omega, p3, q6, fun _ => ⟨b6, fun i => if i < w then Ys (i + e) else if i = w then N.1 (111, 0) else dF (cE M p) k a b (N.1 (111, 0)), ?_, fun j hj => ?_, fun i hi => ?_⟩⟩
  · rw [eE]
    by_cases c : 0 < w
    · dsimp only
      rw [if_pos c, Nat.zero_add]; exact p2
    · dsimp only
      rw [if_neg c, if_pos (by omega)]
      have uz : u = 0 := by split at hw <;> omega
      have ez : e = 0 := by omega
      rw [ez, u0 uz] at p2
      exact p2
  · dsimp only
    rw [if_neg (by omega), if_neg (by omega)]; exact (q4 j hj).symm
  · dsimp only
    rw [eE]
    by_cases c : i < w
    · obtain ⟨v1, v2, v3, v4⟩ := u5 (i + e) (by omega)
      obtain ⟨d1, d2, d3⟩ := dn i c
      rw [if_pos c, d1, d2, d3]
      refine ⟨fun j hj => by rw [q7 i j c hj]; exact v1 j hj, v2.mono (by omega), v3, fun j hj => ?_⟩
      by_cases c2 : i + 1 < w
      · rw [if_pos c2, show i + 1 + e = i + e + 1 by omega]; exact v4 j hj
      · rw [if_neg c2, if_pos (by omega), ← v4 j hj, show i + e + 1 = u by omega]
        exact (u3 j hj).symm
    · have hi' : i = w := by omega
      rw [if_neg c, if_pos hi', hi', p5, p6, p7]
      refine ⟨fun j hj => (q8 j hj).symm, ti.mono (by omega), dk, fun j hj => ?_⟩
      rw [if_neg (by omega), if_neg (by omega)]
theorem rem_v {N : eg_H} {u : Nat} (hu : u ≤ 20) (e : N.1 (60, 0) 69 = nI u) : gX11_remembers N ∧ (fX11_remembers N).1 (60, 0) 69 = nI ((if u = 20 then 19 else u) + 1) ∧ (∀ k, k ≠ 69 → (fX11_remembers N).1 (60, 0) k = N.1 (60, 0) k) ∧ (∀ r, r ≠ (60, 0) → r ≠ (131, 0) → (fX11_remembers N).1 r = N.1 r) ∧ (∀ i j, i < (if u = 20 then 19 else u) → j < 366 → (fX11_remembers N).1 (131, 0) (366 * i + j) = N.1 (131, 0) (366 * (i + (if u = 20 then 1 else 0)) + j)) ∧ ∀ j, j < 366 → (fX11_remembers N).1 (131, 0) (366 * (if u = 20 then 19 else u) + j) = N.1 (111, 0) j := by
  have en : rmN N = if u = 20 then 19 else u := by
    unfold rmN
    rw [e, nI_t (by omega)]
    have c' : nI u = 20 ↔ u = 20 := nI_eq' (b := 20) (by omega) (by omega)
    by_cases c : u = 20
    · rw [if_pos c, if_pos (c'.mpr c)]
    · rw [if_neg c, if_neg (fun q => c (c'.mp q))]
  have eu : ∀ j, j < 6954 → rmU N j = N.1 (131, 0) (j + 366 * (if u = 20 then 1 else 0)) := fun j hj => by
    unfold rmU
    rw [e]
    have c' : nI u = 20 ↔ u = 20 := nI_eq' (b := 20) (by omega) (by omega)
    by_cases c : u = 20
    · rw [if_pos c, if_pos (c'.mpr c), cpT_lt hj]
    · rw [if_neg c, if_neg (fun q => c (c'.mp q)), Nat.mul_zero, Nat.add_zero]
  have w19 : (if u = 20 then 19 else u) ≤ 19 := by split <;> omega
  have e131 : (fX11_remembers N).1 (131, 0) = putR (rmU N) (N.1 (111, 0)) (366 * (if u = 20 then 19 else u)) 366 := by
    unfold fX11_remembers
    rw [sI_ne (by decide), sW_at, en]
  refine ⟨by unfold gX11_remembers; rw [e]; exact nI_in' (by omega) (by omega), ?_, fun k hk => ?_, fun r h1 h2 => ?_, fun i j hi hj => ?_, fun j hj => ?_⟩
  · unfold fX11_remembers
    rw [sI_60, if_pos rfl, en]
  · unfold fX11_remembers
    rw [sI_60, if_neg hk, sW_ne _ _ (by decide)]
  · unfold fX11_remembers
    rw [sI_ne h1, sW_ne _ _ h2]
  · rw [e131, putR_out (by omega), eu _ (by omega), show ∀ x, 366 * i + j + 366 * x = 366 * (i + x) + j from fun x => by omega]
  · rw [e131, putR_in hj]
