/-! DEEDS THAT LEAVE THE TABLE: known, count, strike, feed -/
theorem JJ.gen {M M1 N N1 : eg_H} {C p : Nat} (h : JJ M N C p) (hM : ∀ r, r.1 ≠ 8 → r.1 ≠ 44 → r.1 ≠ 45 → r.1 ≠ 46 → r.1 ≠ 47 → r.1 ≠ 50 → r.1 ≠ 10 → M1.1 r = M.1 r) (h10 : ∀ k, k ≠ 1 → M1.1 (10, 0) k = M.1 (10, 0) k) (hr : M1.2.2 = M.2.2) (h60 : ∀ k, k ≠ 1 → k ≠ 2 → k ≠ 73 → k ≠ 74 → N1.1 (60, 0) k = N.1 (60, 0) k) (hN : ∀ r, r.1 ≠ 60 → r.1 ≠ 61 → r.1 ≠ 136 → r.1 ≠ 137 → r.1 ≠ 138 → r.1 ≠ 139 → N1.1 r = N.1 r) (j4 : cN M1 p = cN M p → J4 M1 p N1) (j5 : ∃ t, t ≤ 800 ∧ M1.1 (10, 0) 1 = nI t ∧ N1.1 (60, 0) 1 = nI t ∧ ∀ i, i < t → bR (M1.1 (50, 0) i) (N1.1 (61, 0) i)) : JJ M1 N1 C p := by
  obtain ⟨⟨⟨r1, r2, r3⟩, pl, ⟨ry, ti⟩, row⟩, ⟨i0, i1, i2⟩, ⟨u, hu, u1, u2, u3⟩, _, ⟨jk, _, f1, f2, f3⟩⟩ := h
  have hp := pl.p2
  have eP : ∀ r, pOf r p → M1.1 r = M.1 r := fun r q => by
    unfold pOf at q
    exact hM r (by omega) (by omega) (by omega) (by omega) (by omega) (by omega) (by omega)
  have eT : ∀ r t, tOf r t → M1.1 r = M.1 r := fun r t q => by
    unfold tOf at q
    exact hM r (by omega) (by omega) (by omega) (by omega) (by omega) (by omega) (by omega)
  have oM : ∀ k j, k = 51 ∨ k = 6 → M1.1 (k, j) = M.1 (k, j) := fun k j q => hM (k, j) (by show k ≠ _; omega) (by show k ≠ _; omega) (by show k ≠ _; omega) (by show k ≠ _; omega) (by show k ≠ _; omega) (by show k ≠ _; omega) (by show k ≠ _; omega)
  have oN : ∀ k, k ≠ 60 ∧ k ≠ 61 ∧ (k < 136 ∨ 139 < k) → N1.1 (k, 0) = N.1 (k, 0) := fun k q => hN (k, 0) (by show k ≠ _; omega) (by show k ≠ _; omega) (by show k ≠ _; omega) (by show k ≠ _; omega) (by show k ≠ _; omega) (by show k ≠ _; omega)
  have eE : cE M1 p = cE M p := cE_cong pl.cW eP
  have a0 : aT M1 0 = aT M 0 := aT_cong (fun r hr => eT r 0 hr)
  have a2 : aT M1 2 = aT M 2 := aT_cong (fun r hr => eT r 2 hr)
  have a3 : aT M1 3 = aT M 3 := aT_cong (fun r hr => eT r 3 hr)
  have ecN : cN M1 p = cN M p := by unfold cN; rw [eP (5, p) (pOf_k (by omega))]
  have sTT : sT N N1 := by
    refine ⟨fun k a b => h60 k (by omega) (by omega) (by omega) (by omega), fun k a b _ _ _ => oN k (by omega), fun g _ => ?_⟩
    rw [oN 91 (by omega), oN 92 (by omega), oN 93 (by omega)]
    exact ⟨rfl, rfl, fun _ _ => rfl⟩
  refine ⟨⟨⟨?_, ?_, ?_⟩, pl.cong eP sTT, ⟨?_, ?_⟩, ?_⟩, ⟨?_, ?_, ?_⟩, ⟨u, hu, ?_, ?_, ?_⟩, j4 ecN, ⟨fun j hj => by rw [oN 110 (by omega)]; exact jk j hj, j5, ?_, ?_, ?_⟩⟩
  · rw [hr]; exact r1
  · rw [hr]; exact r2
  · rw [hr]; exact r3
  · rw [eE, a0, oN 111 (by omega)]; exact ry
  · rw [eE, oN 111 (by omega)]; exact ti
  · rw [oN 111 (by omega), oN 112 (by omega)]; exact row
  · rw [h60 80 (by omega) (by omega) (by omega) (by omega)]; exact i0
  · rw [h60 80 (by omega) (by omega) (by omega) (by omega), h10 8 (by omega)]; exact i1
  · rw [h60 80 (by omega) (by omega) (by omega) (by omega), eE, a2, oN 142 (by omega), hr]; exact i2
  · rw [h10 11 (by omega)]; exact u1
  · rw [h60 69 (by omega) (by omega) (by omega) (by omega)]; exact u2
  · rw [eE, a3, oN 111 (by omega), oN 131 (by omega), hr, oM 51 0 (by omega)]; exact u3
  · rw [oM 6 0 (by omega), h60 4 (by omega) (by omega) (by omega) (by omega)]; exact f1
  · rw [oM 6 0 (by omega), h60 5 (by omega) (by omega) (by omega) (by omega)]; exact f2
  · rw [oN 64 (by omega)]; exact f3
theorem t0_ne (N : eg_H) {k : Nat} (hk : k ≠ 60) : (t0 N).1 (k, 0) = N.1 (k, 0) := t0_o N (kd_ne hk)
theorem st_known {M N : eg_H} {C p : Nat} (h : JJ M N C p) (x : Int32) : StI mtX10_known mtX11_known [vI x] M N C := by
  have F0 : FrN N (t0 N) := FrN_f N (by omega) 0
  obtain ⟨c, hc, c1, c2, c3, c4, c5⟩ := h.2.2.2.1
  have im1 : (-1 : Int32).toInt = -1 := by decide
  have ec : (nI c).toInt = c := t_nI (by omega)
  rcases isIn_n (t0 N) x (-1) (nI c) with z | z
  · refine StI.q h 0 (fun κ => ?_) (fun κ => ?_)
    · refine eg_S.of rfl (Nat.le_of_ble_eq_true rfl) (vX10_known_0 M _ ⟨fun _ => ⟨rfl, FrQ.rf p M⟩, fun q => ⟨fun q2 => ?_, fun _ => ⟨rfl, FrQ.rf p M⟩⟩⟩)
      rw [t_lt] at q
      rw [c1, t_le] at q2
      omega
    · refine eg_S.of rfl (Nat.le_of_ble_eq_true rfl) (vX11_known_0 (by omega) N _ ⟨fun q => ?_, fun _ => ⟨rfl, F0⟩⟩)
      have e : (sI N (60, 0) 2 (0 : Int32)).1 (60, 0) 73 = nI c := (t0_k N (by decide)).trans c2
      rw [e] at q
      exact absurd z.1 q
  · refine ⟨1, fun M1 => M1 = sI M (8, 0) 1 x, fun N1 => N1 = sI (t0 N) (60, 0) 74 x, fun κ => ?_, fun κ => ?_, fun M1 N1 hP hQ => ⟨p, ?_⟩⟩
    · refine eg_S.of rfl (Nat.le_of_ble_eq_true rfl) (vX10_known_0 M _ ⟨fun q => ?_, fun q => ⟨fun q2 => ⟨rfl, rfl⟩, fun q2 => ?_⟩⟩)
      · rw [t_lt] at q; omega
      · rw [c1, t_le] at q2; omega
    · refine eg_S.of rfl (Nat.le_of_ble_eq_true rfl) (vX11_known_0 (by omega) N _ ⟨fun q => ⟨rfl, rfl⟩, fun q => ?_⟩)
      have e : (sI N (60, 0) 2 (0 : Int32)).1 (60, 0) 73 = nI c := (t0_k N (by decide)).trans c2
      rw [e] at q
      exact absurd (z.1.symm.trans q) (by decide)
    · rw [hP, hQ]
      obtain ⟨t, ht, t1, t2, t3⟩ := h.2.2.2.2.2.1
      refine (h.mono (D := C + 60) (by omega)).gen (fun r h1 _ _ _ _ _ _ => sI_ne (fun q => h1 (by rw [q]))) (fun k _ => by rw [sI_ne (by decide)]) rfl (fun k _ h2 _ h3 => by rw [sI_60, if_neg h3, t0_k N h2]) (fun r h1 _ _ _ _ _ => by rw [sI_ne (fun q => h1 (by rw [q])), t0_o N (fun q => h1 (by rw [q]))]) (fun ecN => ?_) ⟨t, ht, ?_, ?_, ?_⟩
      · have n136 : ∀ k, k ≠ 60 → (sI (t0 N) (60, 0) 74 x).1 (k, 0) = N.1 (k, 0) := fun k hk => by rw [sI_ne (kd_ne hk), t0_ne N hk]
        refine ⟨c, hc, ?_, ?_, ?_, ?_, ?_⟩
        · rw [sI_i, if_neg (by omega)]; exact c1
        · rw [sI_60, if_neg (by decide), t0_k N (by decide)]; exact c2
        · rw [sI_60, if_pos rfl, sI_i, if_pos ⟨rfl, rfl⟩]
        · rw [sI_60, if_pos rfl]; omega
        · rw [n136 136 (by decide), n136 137 (by decide), n136 138 (by decide), n136 139 (by decide), ecN, sI_ne (by decide), sI_ne (by decide), sI_ne (by decide), sI_ne (by decide)]
          exact c5
      · rw [sI_ne (by decide)]; exact t1
      · rw [sI_60, if_neg (by decide), t0_k N (by decide)]; exact t2
      · rw [sI_ne (by decide), sI_ne (by decide), t0_ne N (by decide)]; exact t3
def adC (M : eg_H) (c : Nat) (a b x y : Int32) : eg_H := sI (sI (sI (sI (sI M (44, 0) c a) (45, 0) c b) (46, 0) c x) (47, 0) c y) (8, 0) 0 (nI (c + 1))
def adM (N : eg_H) (c : Nat) (a b x y : Int32) : eg_H := sI (sI (sI (sI (sI (t0 N) (136, 0) c a) (137, 0) c b) (138, 0) c x) (139, 0) c y) (60, 0) 73 (nI (c + 1))
theorem sX8_add {κ : eg_K} {d : Nat} (M : eg_H) {c : Nat} (e : M.1 (8, 0) 0 = nI c) (hc : c < 40) (a b x y : Int32) : eg_S κ gC mtX8_add d [vR (8, 0), vI a, vI b, vI x, vI y] M (eQI κ gC (fun r M1 => r = nI c ∧ M1 = adC M c a b x y)) := by
  have ec : (nI c).toNatClampNeg = c := nI_t (by omega)
  have i : vp_in (nI c) 40 := nI_in' hc (by omega)
  refine eg_S.of rfl (Nat.le_of_ble_eq_true rfl) (vX8_add_0 M _ _ _ _ ⟨fun _ => ?_, fun q => ?_⟩)
  · rw [e, ec]
    refine ⟨i, fun M3 e3 => ?_⟩
    have k3 : M3.1 (8, 0) 0 = nI c := by rw [e3, sI_ne (by decide)]; exact e
    rw [k3, ec]
    refine ⟨i, fun M5 e5 => ?_⟩
    have k5 : M5.1 (8, 0) 0 = nI c := by rw [e5, sI_ne (by decide)]; exact k3
    rw [k5, ec]
    refine ⟨i, fun M7 e7 => ?_⟩
    have k7 : M7.1 (8, 0) 0 = nI c := by rw [e7, sI_ne (by decide)]; exact k5
    rw [k7, ec]
    refine ⟨i, fun M9 e9 M10 e10 => ?_⟩
    have k9 : M9.1 (8, 0) 0 = nI c := by rw [e9, sI_ne (by decide)]; exact k7
    rw [k9, nI_1] at e10
    refine ⟨?_, ?_⟩
    · rw [e10, sI_i, if_pos ⟨rfl, rfl⟩, nI_p]
    · rw [e10, e9, e7, e5, e3]; rfl
  · rw [e] at q
    exact absurd ((nI_lt' (b := 40) (by omega) (by omega)).mpr hc) q
theorem sX8_add40 {κ : eg_K} {d : Nat} (M : eg_H) (e : M.1 (8, 0) 0 = nI 40) (a b x y : Int32) : eg_S κ gC mtX8_add d [vR (8, 0), vI a, vI b, vI x, vI y] M (eQI κ gC (fun r M1 => r = -1 ∧ M1 = M)) := by
  refine eg_S.of rfl (Nat.le_of_ble_eq_true rfl) (vX8_add_0 M _ _ _ _ ⟨fun q => ?_, fun q => ⟨rfl, rfl⟩⟩)
  rw [e] at q
  exact absurd q (by decide)
theorem adC_o (M : eg_H) (c : Nat) (a b x y : Int32) (r : eg_R) (h1 : r.1 ≠ 8) (h2 : r.1 ≠ 44) (h3 : r.1 ≠ 45) (h4 : r.1 ≠ 46) (h5 : r.1 ≠ 47) : (adC M c a b x y).1 r = M.1 r := by
  unfold adC
  rw [sI_ne (fun q => h1 (by rw [q])), sI_ne (fun q => h5 (by rw [q])), sI_ne (fun q => h4 (by rw [q])), sI_ne (fun q => h3 (by rw [q])), sI_ne (fun q => h2 (by rw [q]))]
theorem adC_v (M : eg_H) (c : Nat) (a b x y : Int32) (i : Nat) : (adC M c a b x y).1 (8, 0) 0 = nI (c + 1) ∧ (adC M c a b x y).1 (8, 0) 1 = M.1 (8, 0) 1 ∧ (adC M c a b x y).1 (44, 0) i = (if i = c then a else M.1 (44, 0) i) ∧ (adC M c a b x y).1 (45, 0) i = (if i = c then b else M.1 (45, 0) i) ∧ (adC M c a b x y).1 (46, 0) i = (if i = c then x else M.1 (46, 0) i) ∧ (adC M c a b x y).1 (47, 0) i = (if i = c then y else M.1 (47, 0) i) := by
  unfold adC
  refine ⟨?_, ?_, ?_, ?_, ?_, ?_⟩
  · rw [sI_upd]; exact pk_us
  · rw [sI_upd, pk_un (by decide), sI_ne (by decide), sI_ne (by decide), sI_ne (by decide), sI_ne (by decide)]
  · rw [sI_ne (by decide), sI_ne (by decide), sI_ne (by decide), sI_ne (by decide), sI_upd]; rfl
  · rw [sI_ne (by decide), sI_ne (by decide), sI_ne (by decide), sI_upd, sI_ne (by decide)]; rfl
  · rw [sI_ne (by decide), sI_ne (by decide), sI_upd, sI_ne (by decide), sI_ne (by decide)]; rfl
  · rw [sI_ne (by decide), sI_upd, sI_ne (by decide), sI_ne (by decide), sI_ne (by decide)]; rfl
theorem adM_v (N : eg_H) (c : Nat) (a b x y : Int32) (i : Nat) : (∀ k, k ≠ 2 → k ≠ 73 → (adM N c a b x y).1 (60, 0) k = N.1 (60, 0) k) ∧ (adM N c a b x y).1 (60, 0) 73 = nI (c + 1) ∧ (adM N c a b x y).1 (136, 0) i = (if i = c then a else N.1 (136, 0) i) ∧ (adM N c a b x y).1 (137, 0) i = (if i = c then b else N.1 (137, 0) i) ∧ (adM N c a b x y).1 (138, 0) i = (if i = c then x else N.1 (138, 0) i) ∧ (adM N c a b x y).1 (139, 0) i = (if i = c then y else N.1 (139, 0) i) := by
  unfold adM
  refine ⟨fun k h2 h73 => ?_, ?_, ?_, ?_, ?_, ?_⟩
  · rw [sI_60, if_neg h73, sI_ne (by decide), sI_ne (by decide), sI_ne (by decide), sI_ne (by decide), t0_k N h2]
  · rw [sI_60, if_pos rfl]
  · rw [sI_ne (by decide), sI_ne (by decide), sI_ne (by decide), sI_ne (by decide), sI_upd, t0_ne N (by decide)]; rfl
  · rw [sI_ne (by decide), sI_ne (by decide), sI_ne (by decide), sI_upd, sI_ne (by decide), t0_ne N (by decide)]; rfl
  · rw [sI_ne (by decide), sI_ne (by decide), sI_upd, sI_ne (by decide), sI_ne (by decide), t0_ne N (by decide)]; rfl
  · rw [sI_ne (by decide), sI_upd, sI_ne (by decide), sI_ne (by decide), sI_ne (by decide), t0_ne N (by decide)]; rfl
theorem adM_o (N : eg_H) (c : Nat) (a b x y : Int32) (r : eg_R) (h1 : r.1 ≠ 60) (h2 : r.1 ≠ 136) (h3 : r.1 ≠ 137) (h4 : r.1 ≠ 138) (h5 : r.1 ≠ 139) : (adM N c a b x y).1 r = N.1 r := by
  unfold adM
  rw [sI_ne (fun q => h1 (by rw [q])), sI_ne (fun q => h5 (by rw [q])), sI_ne (fun q => h4 (by rw [q])), sI_ne (fun q => h3 (by rw [q])), sI_ne (fun q => h2 (by rw [q])), t0_o N (fun q => h1 (by rw [q]))]
theorem JJ.add {M N : eg_H} {C p c : Nat} (h : JJ M N C p) (hc : c < 40) (e : M.1 (8, 0) 0 = nI c) (a b x y x' y' : Int32) (hn : (a = -1 ∧ vp_in b c) ∨ (vp_in a (cN M p) ∧ vp_in b 3600 ∧ x = x' ∧ y = y')) : JJ (adC M c a b x y) (adM N c a b x' y') C p := by
  obtain ⟨c', hc', c1, c2, c3, c4, c5⟩ := h.2.2.2.1
  have ecc : c' = c := (nI_eq' (by omega) (by omega)).mp (c1.symm.trans e)
  rw [ecc] at c4 c5
  obtain ⟨t, ht, t1, t2, t3⟩ := h.2.2.2.2.2.1
  refine h.gen (fun r h1 h2 h3 h4 h5 _ _ => adC_o M c a b x y r h1 h2 h3 h4 h5) (fun k _ => by rw [adC_o] <;> decide) rfl (fun k _ h2 h3 _ => (adM_v N c a b x' y' 0).1 k h2 h3) (fun r h1 _ h2 h3 h4 h5 => adM_o N c a b x' y' r h1 h2 h3 h4 h5) (fun ecN => ?_) ⟨t, ht, ?_, ?_, ?_⟩
  · refine ⟨c + 1, by omega, (adC_v M c a b x y 0).1, (adM_v N c a b x' y' 0).2.1, ?_, ?_, fun i hi => ?_⟩
    · rw [(adC_v M c a b x y 0).2.1, (adM_v N c a b x' y' 0).1 74 (by decide) (by decide)]; exact c3
    · rw [(adM_v N c a b x' y' 0).1 74 (by decide) (by decide)]; omega
    · obtain ⟨_, _, v1, v2, v3, v4⟩ := adC_v M c a b x y i
      obtain ⟨_, _, w1, w2, w3, w4⟩ := adM_v N c a b x' y' i
      rw [v1, v2, v3, v4, w1, w2, w3, w4, ecN]
      by_cases q : i = c
      · rw [if_pos q, if_pos q, if_pos q, if_pos q, if_pos q, if_pos q, if_pos q, if_pos q, q]
        exact ⟨rfl, rfl, hn⟩
      · rw [if_neg q, if_neg q, if_neg q, if_neg q, if_neg q, if_neg q, if_neg q, if_neg q]
        exact c5 i (by omega)
  · rw [adC_o _ _ _ _ _ _ _ (by decide) (by decide) (by decide) (by decide) (by decide)]; exact t1
  · rw [(adM_v N c a b x' y' 0).1 1 (by decide) (by decide)]; exact t2
  · rw [adC_o _ _ _ _ _ _ _ (by decide) (by decide) (by decide) (by decide) (by decide), adM_o _ _ _ _ _ _ _ (by decide) (by decide) (by decide) (by decide) (by decide)]; exact t3
theorem st_strike {M N : eg_H} {C p : Nat} (h : JJ M N C p) (x : Int32) : StI mtX10_strike mtX11_strike [vI x] M N C := by
  have F0 : FrN N (t0 N) := FrN_f N (by omega) 0
  obtain ⟨c, hc, c1, c2, c3, c4, c5⟩ := h.2.2.2.1
  have B : (t0 N).1 (60, 0) 73 = nI c := (t0_k N (by decide)).trans c2
  have ec : (nI c).toInt = c := t_nI (by omega)
  by_cases z : c < 40 ∧ vp_in x c
  · obtain ⟨z1, z2⟩ := z
    have z3 := t_in.mp z2
    refine ⟨nI c, fun M1 => M1 = adC M c (-1) x 0 0, fun N1 => N1 = adM N c (-1) x (N.1 (138, 0) c) (N.1 (139, 0) c), fun κ => ?_, fun κ => ?_, fun M1 N1 hP hQ => ⟨p, ?_⟩⟩
    · refine eg_S.of rfl (Nat.le_of_ble_eq_true rfl) (vX10_strike_0 (by omega) M _ ⟨fun q => ?_, fun q => ⟨fun q2 => ⟨_, sX8_add M c1 z1 _ _ _ _, fun x3 M4 e => e⟩, fun q2 => ?_⟩⟩)
      · rw [t_lt, t_0] at q; omega
      · rw [c1, t_lt] at q2; omega
    · refine eg_S.of rfl (Nat.le_of_ble_eq_true rfl) (vX11_strike_0 N _ (fun M1 e1 => ?_))
      have e1 : M1 = t0 N := e1
      rw [e1, B]
      have e40 : ¬ nI c = 40 := fun q => absurd ((nI_eq' (b := 40) (by omega) (by omega)).mp q) (by omega)
      refine ⟨fun q => absurd q e40, fun _ => ⟨fun q => ?_, fun _ => ⟨fun _ => ⟨nI_in' z1 (by omega), fun M6 e6 => ?_⟩, fun q => ?_⟩⟩⟩
      · rw [t_lt, t_0] at q; omega
      · have k6 : M6.1 (60, 0) 73 = nI c := by rw [e6, sI_ne (by decide)]; exact B
        rw [k6]
        refine ⟨nI_in' z1 (by omega), fun M8 e8 M9 e9 => ?_⟩
        have k8 : M8.1 (60, 0) 73 = nI c := by rw [e8, sI_ne (by decide)]; exact k6
        rw [k8, nI_1] at e9
        rw [nI_t (by omega)] at e6 e8
        refine ⟨by rw [e9, sI_60, if_pos rfl, nI_p], ?_⟩
        have f8 : M8 = sI (sI M8 (138, 0) c (N.1 (138, 0) c)) (139, 0) c (N.1 (139, 0) c) := by
          have a : M8.1 (138, 0) = N.1 (138, 0) := by rw [e8, e6, sI_ne (by decide), sI_ne (by decide), t0_ne N (by decide)]
          have b : M8.1 (139, 0) = N.1 (139, 0) := by rw [e8, e6, sI_ne (by decide), sI_ne (by decide), t0_ne N (by decide)]
          rw [← a, sI_self, ← b, sI_self]
        rw [e9, f8, e8, e6]
        rfl
      · rw [t_lt] at q; omega
    · rw [hP, hQ]
      exact (h.mono (D := C + 60) (by omega)).add z1 c1 _ _ _ _ _ _ (Or.inl ⟨rfl, z2⟩)
  · refine StI.q h (-1) (fun κ => ?_) (fun κ => ?_)
    · refine eg_S.of rfl (Nat.le_of_ble_eq_true rfl) (vX10_strike_0 (by omega) M _ ⟨fun q => ⟨rfl, FrQ.rf p M⟩, fun q => ⟨fun q2 => ?_, fun q2 => ⟨rfl, FrQ.rf p M⟩⟩⟩)
      rw [t_lt, t_0] at q
      rw [c1, t_lt, ec] at q2
      have c40 : c = 40 := by
        have : ¬ c < 40 := fun w => z ⟨w, t_in.mpr (by omega)⟩
        omega
      rw [c40] at c1
      refine ⟨_, sX8_add40 M c1 _ _ _ _, fun x3 M4 e => ⟨e.1, ?_⟩⟩
      rw [e.2]; exact FrQ.rf p M
    · refine eg_S.of rfl (Nat.le_of_ble_eq_true rfl) (vX11_strike_0 N _ (fun M1 e1 => ?_))
      have e1 : M1 = t0 N := e1
      rw [e1, B]
      refine ⟨fun _ => ⟨rfl, F0⟩, fun q0 => ⟨fun _ => ⟨rfl, F0⟩, fun q1 => ⟨fun q2 => ?_, fun _ => ⟨rfl, F0⟩⟩⟩⟩
      rw [t_lt, t_0] at q1
      rw [t_lt, ec] at q2
      have : c < 40 := by
        have : c ≠ 40 := fun w => q0 (by rw [w]; rfl)
        omega
      exact absurd ⟨this, t_in.mpr (by omega)⟩ z
theorem st_count {M N : eg_H} {C p : Nat} (h : JJ M N C p) (a b x y : Int32) : StI mtX10_count mtX11_count [vI a, vI b, vI x, vI y] M N C := by
  have F0 : FrN N (t0 N) := FrN_f N (by omega) 0
  have hp := h.hp
  have pl0 : PL M p (t0 N) := h.1.2.1.cong (fun _ _ => rfl) F0.T
  have n6 := (cN_e h.1.2.1.cW).2
  obtain ⟨c, hc, c1, c2, c3, c4, c5⟩ := h.2.2.2.1
  have B : (t0 N).1 (60, 0) 73 = nI c := (t0_k N (by decide)).trans c2
  have ec : (nI c).toInt = c := t_nI (by omega)
  have i99 : (99 : Int32).toInt = 99 := by decide
  have i3600 : (3600 : Int32).toInt = 3600 := by decide
  have i3599 : (3599 : Int32).toInt = 3599 := by decide
  have hb := hasPan_b pl0 a
  by_cases z : c < 40 ∧ ¬ fX5_hasPan M p a = 0 ∧ vp_in b 3600 ∧ 0 ≤ x.toInt ∧ x.toInt ≤ y.toInt ∧ y.toInt ≤ 99
  · obtain ⟨z1, z2, z3, z4, z5, z6⟩ := z
    have z3' := t_in.mp z3
    have ha : vp_in a (cN M p) ∧ ¬ dC M p a.toNatClampNeg 2 = 0 := by
      rcases hb.2 with w | w
      · exact absurd w.1 z2
      · exact w.2
    refine ⟨nI c, fun M1 => M1 = adC M c a b x y, fun N1 => N1 = adM N c a b x y, fun κ => ?_, fun κ => ?_, fun M1 N1 hP hQ => ⟨p, ?_⟩⟩
    · refine eg_S.of rfl (Nat.le_of_ble_eq_true rfl) (vX10_count_0 (by omega) M _ _ _ _ (fun x1 e1 => ⟨p, hp.2.1, hp.1.1, hb.1, fun x5 e5 => ⟨fun q => absurd (e5.symm.trans q) z2, fun _ => ⟨fun q => ?_, fun _ => ⟨fun q => ?_, fun _ => ⟨fun _ => ⟨_, sX8_add M c1 z1 _ _ _ _, fun x3 M4 e => e⟩, fun q => ?_⟩⟩⟩⟩⟩))
      · rw [t_lt, t_0] at q; omega
      · rw [t_le] at q; omega
      · rw [if_neg (by rw [t_lt, t_0]; omega), if_neg (by rw [t_lt]; omega), if_neg (by rw [t_lt]; omega)] at e1
        exact absurd (e1.symm.trans q) (by decide)
    · refine eg_S.of rfl (Nat.le_of_ble_eq_true rfl) (vX11_count_0 (by omega) N _ _ _ _ (fun M1 e1 => ?_))
      have e1 : M1 = t0 N := e1
      rw [e1, B]
      have e40 : ¬ nI c = 40 := fun q => absurd ((nI_eq' (b := 40) (by omega) (by omega)).mp q) (by omega)
      obtain ⟨ea, hs⟩ := nI_of' ha.1 (by omega)
      have gh : gX11_hasPan (t0 N) a := by rw [ea]; exact ghas_n _ _ 2 (by omega)
      have hh : fX11_hasPan (t0 N) a = 1 := by
        rw [ea]
        rcases hasPan_m pl0 hs with w | w
        · exact absurd w.2 ha.2
        · exact w.1
      have hst : fX11_isStation (t0 N) a = 1 := by
        rcases isStation_n (t0 N) a pl0.hn with w | w
        · rw [← pl0.n1] at w; exact absurd ha.1 w.2
        · exact w.1
      have j1 : fX11_isIn (t0 N) b 0 3599 = 1 := by
        rcases isIn_n (t0 N) b 0 3599 with w | w
        · rw [t_0, i3599] at w; omega
        · exact w.1
      have j2 : fX11_isIn (t0 N) x 0 99 = 1 := by
        rcases isIn_n (t0 N) x 0 99 with w | w
        · rw [t_0, i99] at w; omega
        · exact w.1
      have j3 : fX11_isIn (t0 N) y x 99 = 1 := by
        rcases isIn_n (t0 N) y x 99 with w | w
        · rw [i99] at w; omega
        · exact w.1
      refine ⟨fun q => absurd q e40, fun _ x4 e4 => ⟨fun q => absurd (q.symm.trans (e4.trans hst)) (by decide), fun _ => ⟨gh, fun x8 e8 => ⟨fun q => absurd (q.symm.trans (e8.trans hh)) (by decide), fun _ x11 e11 => ⟨fun q => absurd (q.symm.trans (e11.trans j1)) (by decide), fun _ x14 e14 => ⟨fun q => absurd (q.symm.trans (e14.trans j2)) (by decide), fun _ x17 e17 => ⟨fun _ => ⟨nI_in' z1 (by omega), fun M20 e20 => ?_⟩, fun q => absurd (q.symm.trans (e17.trans j3)) (by decide)⟩⟩⟩⟩⟩⟩⟩
      have k20 : M20.1 (60, 0) 73 = nI c := by rw [e20, sI_ne (by decide)]; exact B
      rw [k20]
      refine ⟨nI_in' z1 (by omega), fun M22 e22 => ?_⟩
      have k22 : M22.1 (60, 0) 73 = nI c := by rw [e22, sI_ne (by decide)]; exact k20
      rw [k22]
      refine ⟨nI_in' z1 (by omega), fun M24 e24 => ?_⟩
      have k24 : M24.1 (60, 0) 73 = nI c := by rw [e24, sI_ne (by decide)]; exact k22
      rw [k24]
      refine ⟨nI_in' z1 (by omega), fun M26 e26 M27 e27 => ?_⟩
      have k26 : M26.1 (60, 0) 73 = nI c := by rw [e26, sI_ne (by decide)]; exact k24
      rw [k26, nI_1] at e27
      rw [nI_t (by omega)] at e20 e22 e24 e26
      refine ⟨by rw [e27, sI_60, if_pos rfl, nI_p], ?_⟩
      rw [e27, e26, e24, e22, e20]
      rfl
    · rw [hP, hQ]
      exact (h.mono (D := C + 60) (by omega)).add z1 c1 _ _ _ _ _ _ (Or.inr ⟨ha.1, z3, rfl, rfl⟩)
  · refine StI.q h (-1) (fun κ => ?_) (fun κ => ?_)
    · refine eg_S.of rfl (Nat.le_of_ble_eq_true rfl) (vX10_count_0 (by omega) M _ _ _ _ (fun x1 e1 => ⟨p, hp.2.1, hp.1.1, hb.1, fun x5 e5 => ⟨fun _ => ⟨rfl, FrQ.rf p M⟩, fun q5 => ⟨fun _ => ⟨rfl, FrQ.rf p M⟩, fun q6 => ⟨fun _ => ⟨rfl, FrQ.rf p M⟩, fun q7 => ⟨fun q8 => ?_, fun _ => ⟨rfl, FrQ.rf p M⟩⟩⟩⟩⟩⟩))
      rw [t_lt, t_0] at q6
      rw [t_le, i3600] at q7
      have w : 0 ≤ x.toInt ∧ x.toInt ≤ y.toInt ∧ y.toInt ≤ 99 := by
        by_cases w1 : x < 0
        · rw [if_pos w1] at e1; exact absurd e1 q8
        · rw [if_neg w1] at e1
          by_cases w2 : y < x
          · rw [if_pos w2] at e1; exact absurd e1 q8
          · rw [if_neg w2] at e1
            by_cases w3 : (99 : Int32) < y
            · rw [if_pos w3] at e1; exact absurd e1 q8
            · rw [t_lt] at w1 w2 w3
              rw [t_0] at w1
              omega
      have c40 : c = 40 := by
        have : ¬ c < 40 := fun w0 => z ⟨w0, fun q => q5 (e5.trans q), t_in.mpr (by omega), w⟩
        omega
      rw [c40] at c1
      refine ⟨_, sX8_add40 M c1 _ _ _ _, fun x3 M4 e => ⟨e.1, ?_⟩⟩
      rw [e.2]; exact FrQ.rf p M
    · refine eg_S.of rfl (Nat.le_of_ble_eq_true rfl) (vX11_count_0 (by omega) N _ _ _ _ (fun M1 e1 => ?_))
      have e1 : M1 = t0 N := e1
      rw [e1, B]
      have no : eg_W κ gM mtX11_count 12 (eQI κ gM (fun r' N1 => r' = -1 ∧ FrN N N1)) 62 [] [] (t0 N) := vX11_count_62 _ ⟨rfl, F0⟩
      refine ⟨fun _ => no, fun q0 x4 e4 => ⟨fun _ => no, fun q4 => ?_⟩⟩
      rcases isStation_n (t0 N) a pl0.hn with w | w
      · exact absurd (e4.trans w.1) q4
      · have ha := w.2
        rw [← pl0.n1] at ha
        obtain ⟨ea, hs⟩ := nI_of' ha (by omega)
        have gh : gX11_hasPan (t0 N) a := by rw [ea]; exact ghas_n _ _ 2 (by omega)
        refine ⟨gh, fun x8 e8 => ⟨fun _ => no, fun q8 x11 e11 => ⟨fun _ => no, fun q11 x14 e14 => ⟨fun _ => no, fun q14 x17 e17 => ⟨fun q17 => ?_, fun _ => no⟩⟩⟩⟩⟩
        exfalso
        have l1 : c < 40 := by
          have : c ≠ 40 := fun w => q0 (by rw [w]; rfl)
          omega
        have l2 : ¬ fX5_hasPan M p a = 0 := by
          rcases hb.2 with v | v
          · rw [ea] at e8
            rcases hasPan_m pl0 hs with v2 | v2
            · exact absurd (e8.trans v2.1) q8
            · exact absurd ⟨ha, v2.2⟩ v.2
          · rw [v.1]; decide
        have l3 : vp_in b 3600 := by
          rcases isIn_n (t0 N) b 0 3599 with v | v
          · exact absurd (e11.trans v.1) q11
          · rw [t_0, i3599] at v
            exact t_in.mpr (by omega)
        have l4 : 0 ≤ x.toInt := by
          rcases isIn_n (t0 N) x 0 99 with v | v
          · exact absurd (e14.trans v.1) q14
          · rw [t_0] at v; exact v.2.1
        rcases isIn_n (t0 N) y x 99 with v | v
        · exact absurd (e17.trans v.1) q17
        · rw [i99] at v
          exact z ⟨l1, l2, l3, l4, v.2.1, v.2.2⟩
