/-! THE TABLE LAID ANEW: keep, back -/
theorem TI_Y {E : eg_E} (hE : wE E) {C : Nat} {Y Z : Nat → Int32} (h : TI E C Y) (e : ∀ j, j < 366 → Z j = Y j) : TI E C Z := by
  have hn := hE.1
  have hN := hE.2.1
  obtain ⟨⟨⟨q1, q2, q3⟩, ⟨r1, r2⟩, g, p, s⟩, o, k⟩ := h
  have hq := vp_lt q1
  refine ⟨⟨⟨?_, fun k hk => ?_, fun j k hj hk => ?_⟩, ⟨fun p hp => ?_, fun a b hab hb => ?_⟩, fun x hx => ?_, fun x hx => ?_, ?_⟩, ?_, ?_⟩
  · rw [e 1 (by omega)]; exact q1
  · rw [e 1 (by omega)] at hk
    have a := vp_lt (q2 k hk).1
    rw [e _ (by omega), e _ (by omega)]; exact q2 k hk
  · rw [e 1 (by omega)] at hk
    rw [e _ (by omega), e _ (by omega)]; exact q3 j k hj hk
  · rw [e _ (by omega)]; exact r1 p hp
  · rw [e _ (by omega), e _ (by omega)]; exact r2 a b hab hb
  · have := g x hx
    unfold gI gOK at this ⊢
    rw [e _ (by omega), e _ (by omega), e _ (by omega), e _ (by omega), e _ (by omega)]
    exact ⟨this.1, this.2.1, this.2.2.1, this.2.2.2.1, fun k hk => by dsimp only; rw [e _ (by omega)]; exact this.2.2.2.2 k hk⟩
  · have := p x hx
    unfold pI at this ⊢
    rw [e _ (by omega), e _ (by omega)]
    exact this
  · rw [e 0 (by omega)]; exact s
  · exact ⟨oI_hi o.1 hN (fun j h1 h2 => e j (by omega)), lI_hi o.2 hN (by omega) (fun j h1 h2 => e j (by omega))⟩
  · exact kz_of k (fun s hs => e _ (by omega)) (fun g hg => e _ (by omega)) (fun s hs _ => e _ (by omega))
theorem RY_Y {E : eg_E} (hE : wE E) {Z Y Y1 : Nat → Int32} (h : RY E Z Y) (hq : (Y 1).toNatClampNeg < 16) (e : ∀ j, j < 366 → Y1 j = Y j) : RY E Z Y1 := RY_of h hE hq (fun j hj _ => Or.inr ⟨rfl, e j hj⟩) (fun j hj _ => ⟨rfl, e j hj⟩)
theorem aT_TX {E : eg_E} (hE : wE E) (M : eg_H) (t p : Nat) (nm st : Nat → Int64) (Z : Nat → Int32) : tEq E (aT (TX M t p nm st Z) t) Z := by
  have hn := hE.1
  have hN := hE.2.1
  refine ⟨T7_1 M t p nm st Z, T7_6 M t p nm st Z, fun k hk => ?_, fun k hk => ?_, fun s f hs hf => ?_, fun g f hg hf => ?_⟩
  · rw [aT_q _ _ _ hk]; exact TX_rd (cX_43 t hk)
  · rw [aT_r]; exact TX_rd (cX_40 t hk)
  · rw [aT_p _ _ _ _ (by omega) (by omega)]; exact TX_rd (cX_4 t (by omega) hf)
  · rcases hf with hf | hf
    · have : ∃ k, gfX k = f + 1 := by
        have : f = 0 ∨ f = 1 ∨ f = 2 ∨ f = 3 ∨ f = 4 ∨ f = 5 ∨ f = 6 ∨ f = 7 ∨ f = 8 ∨ f = 9 ∨ f = 10 ∨ f = 11 := by omega
        rcases this with z | z | z | z | z | z | z | z | z | z | z | z <;> rw [z]
        · exact ⟨0, rfl⟩
        · exact ⟨1, rfl⟩
        · exact ⟨2, rfl⟩
        · exact ⟨4, rfl⟩
        · exact ⟨7, rfl⟩
        · exact ⟨8, rfl⟩
        · exact ⟨9, rfl⟩
        · exact ⟨10, rfl⟩
        · exact ⟨11, rfl⟩
        · exact ⟨12, rfl⟩
        · exact ⟨5, rfl⟩
        · exact ⟨6, rfl⟩
      obtain ⟨k, hk⟩ := this
      rw [aT_g _ _ _ k f (by omega) hk]
      exact TX_rd (cX_2 t (by omega) hk)
    · obtain ⟨k, rfl⟩ : ∃ k, f = 14 + k := ⟨f - 14, by omega⟩
      rw [show 20 + 20 * g + (14 + k) = 34 + 20 * g + k by omega, aT_w _ _ _ _ (by omega) (by omega)]
      rw [show 34 + 20 * g + k = 20 + 20 * g + 14 + k by omega]
      exact TX_rd (cX_22 t (by omega) (by omega))
theorem aT_TR {E : eg_E} (hE : wE E) {M : eg_H} {t p : Nat} {nm st : Nat → Int64} {Z Y : Nat → Int32} (hq : (Y 1).toNatClampNeg < 16) (h : RY E Z Y) : RY E (aT (TX M t p nm st Z) t) Y := tEq_R hE (aT_TX hE M t p nm st Z) hq h
theorem J2.cong {M M1 N N1 : eg_H} {C D p : Nat} (h : J2 M p N C) (hD : C ≤ D) (eE : cE M1 p = cE M p) (e8 : M1.1 (10, 0) 8 = M.1 (10, 0) 8) (et : ∀ r, tOf r 2 → M1.1 r = M.1 r) (er : M1.2.2 (7, 2) 0 = M.2.2 (7, 2) 0) (n80 : N1.1 (60, 0) 80 = N.1 (60, 0) 80) (n142 : N1.1 (142, 0) = N.1 (142, 0)) : J2 M1 p N1 D := by
  unfold J2 at *
  rw [n80, e8, eE, aT_cong et, er, n142]
  exact ⟨h.1, h.2.1, fun q => ⟨(h.2.2 q).1, (h.2.2 q).2.1, (h.2.2 q).2.2.mono hD⟩⟩
theorem J3_0 {M N : eg_H} {C p : Nat} (e1 : M.1 (10, 0) 11 = 0) (e2 : N.1 (60, 0) 69 = 0) : J3 M p N C := ⟨0, by omega, e1, e2, fun q => absurd q (by omega)⟩
theorem J3.cong {M M1 N N1 : eg_H} {C D p : Nat} (h : J3 M p N C) (hD : C ≤ D) (eE : cE M1 p = cE M p) (e11 : M1.1 (10, 0) 11 = M.1 (10, 0) 11) (et : ∀ r, tOf r 3 → M1.1 r = M.1 r) (er : M1.2.2 (7, 3) 0 = M.2.2 (7, 3) 0) (e51 : M1.1 (51, 0) = M.1 (51, 0)) (n69 : N1.1 (60, 0) 69 = N.1 (60, 0) 69) (n111 : N1.1 (111, 0) = N.1 (111, 0)) (n131 : N1.1 (131, 0) = N.1 (131, 0)) : J3 M1 p N1 D := by
  unfold J3 at *
  rw [e11, eE, aT_cong et, er, e51, n69, n111, n131]
  obtain ⟨u, hu, u1, u2, u3⟩ := h
  refine ⟨u, hu, u1, u2, fun q => ?_⟩
  obtain ⟨v1, Ys, v2, v3, v4⟩ := u3 q
  exact ⟨v1, Ys, v2, v3, fun k hk => ⟨(v4 k hk).1, (v4 k hk).2.1.mono hD, (v4 k hk).2.2.1, (v4 k hk).2.2.2⟩⟩
/-- what a deed leaves -/
def FrD (M M1 : eg_H) : Prop := (∀ r, ¬ tOf r 0 → ¬ tOf r 2 → ¬ tOf r 3 → r.1 ≠ 10 → r.1 ≠ 51 → M1.1 r = M.1 r) ∧ (∀ k, k ≠ 8 → k ≠ 11 → M1.1 (10, 0) k = M.1 (10, 0) k) ∧ ∀ r k, r.1 ≠ 7 → M1.2.2 r k = M.2.2 r k
def FrE (N N1 : eg_H) : Prop := (∀ k, k ≠ 2 → (k < 52 ∨ 63 < k) → k ≠ 68 → k ≠ 69 → k ≠ 80 → N1.1 (60, 0) k = N.1 (60, 0) k) ∧ (∀ r, r.1 ≠ 60 → r.1 ≠ 110 → r.1 ≠ 111 → r.1 ≠ 112 → r.1 ≠ 125 → r.1 ≠ 126 → r.1 ≠ 131 → r.1 ≠ 142 → N1.1 r = N.1 r) ∧ ∀ j, 366 ≤ j → N1.1 (110, 0) j = N.1 (110, 0) j
theorem JJ.tab {M M1 N N1 : eg_H} {C D p : Nat} (h : JJ M N C p) (hM : FrD M M1) (hN : FrE N N1) (r0 : M1.2.2 (7, 0) 0 = (5, p)) (ry : RY (cE M p) (aT M1 0) (N1.1 (111, 0))) (ti : TI (cE M p) D (N1.1 (111, 0))) (row : ∀ k, k < 5 → N1.1 (112, 0) k = N1.1 (111, 0) (360 + k)) (j2 : cE M1 p = cE M p → J2 M1 p N1 D) (j3 : cE M1 p = cE M p → J3 M1 p N1 D) : JJ M1 N1 D p := by
  obtain ⟨⟨⟨r1, r2, r3⟩, pl, _, _⟩, _, _, ⟨c, hc, c1, c2, c3, c4, c5⟩, ⟨jk, ⟨t, ht, t1, t2, t3⟩, f1, f2, f3⟩⟩ := h
  have hp := pl.p2
  have eP : ∀ r, pOf r p → M1.1 r = M.1 r := fun r q => hM.1 r (nT_p q) (nT_p q) (nT_p q) (by unfold pOf at q; omega) (by unfold pOf at q; omega)
  have eE : cE M1 p = cE M p := cE_cong pl.cW eP
  have ecN : cN M1 p = cN M p := by unfold cN; rw [eP (5, p) (pOf_k (by omega))]
  have oM : ∀ k j, k ≠ 7 ∧ k ≠ 43 ∧ k ≠ 40 ∧ k ≠ 4 ∧ k ≠ 2 ∧ k ≠ 22 ∧ k ≠ 10 ∧ k ≠ 51 → M1.1 (k, j) = M.1 (k, j) := fun k j q => hM.1 (k, j) (nT_k (by omega)) (nT_k (by omega)) (nT_k (by omega)) (by show k ≠ _; omega) (by show k ≠ _; omega)
  have oN : ∀ k, k ≠ 60 ∧ (k < 110 ∨ (112 < k ∧ k < 125) ∨ (126 < k ∧ k < 131) ∨ (131 < k ∧ k < 142)) → N1.1 (k, 0) = N.1 (k, 0) := fun k q => hN.2.1 (k, 0) (by show k ≠ _; omega) (by show k ≠ _; omega) (by show k ≠ _; omega) (by show k ≠ _; omega) (by show k ≠ _; omega) (by show k ≠ _; omega) (by show k ≠ _; omega) (by show k ≠ _; omega)
  have sTT : sT N N1 := by
    refine ⟨fun k a b => hN.1 k (by omega) (by omega) (by omega) (by omega) (by omega), fun k a b _ _ _ => oN k (by omega), fun g _ => ?_⟩
    rw [oN 91 (by omega), oN 92 (by omega), oN 93 (by omega)]
    exact ⟨rfl, rfl, fun _ _ => rfl⟩
  refine ⟨⟨⟨?_, ?_, r0⟩, pl.cong eP sTT, ⟨by rw [eE]; exact ry, by rw [eE]; exact ti⟩, row⟩, j2 eE, j3 eE, ⟨c, hc, ?_, ?_, ?_, ?_, ?_⟩, ⟨fun j hj => by rw [hN.2.2 j hj]; exact jk j hj, ⟨t, ht, ?_, ?_, ?_⟩, ?_, ?_, ?_⟩⟩
  · rw [hM.2.2 _ _ (by decide)]; exact r1
  · rw [hM.2.2 _ _ (by decide)]; exact r2
  · rw [oM 8 0 (by omega)]; exact c1
  · rw [hN.1 73 (by omega) (by omega) (by omega) (by omega) (by omega)]; exact c2
  · rw [oM 8 0 (by omega), hN.1 74 (by omega) (by omega) (by omega) (by omega) (by omega)]; exact c3
  · rw [hN.1 74 (by omega) (by omega) (by omega) (by omega) (by omega)]; exact c4
  · rw [oN 136 (by omega), oN 137 (by omega), oN 138 (by omega), oN 139 (by omega), ecN, oM 44 0 (by omega), oM 45 0 (by omega), oM 46 0 (by omega), oM 47 0 (by omega)]; exact c5
  · rw [hM.2.1 1 (by omega) (by omega)]; exact t1
  · rw [hN.1 1 (by omega) (by omega) (by omega) (by omega) (by omega)]; exact t2
  · rw [oM 50 0 (by omega), oN 61 (by omega)]; exact t3
  · rw [oM 6 0 (by omega), hN.1 4 (by omega) (by omega) (by omega) (by omega) (by omega)]; exact f1
  · rw [oM 6 0 (by omega), hN.1 5 (by omega) (by omega) (by omega) (by omega) (by omega)]; exact f2
  · rw [oN 64 (by omega)]; exact f3
theorem JJ.q15 {M N : eg_H} {C p : Nat} {Y : Nat → Int32} (h : JJ M N C p) (ti : TI (cE M p) C Y) : (Y 1).toNatClampNeg < 16 := by
  have a := vp_lt ti.1.1.1
  have b := h.1.2.1.cW.2.2.2.2.1.2.1
  omega
theorem lay_FrE (N : eg_H) {a : Nat} (ha : a = 111 ∨ a = 112 ∨ a = 142 ∨ a = 131) (f : Nat → Int32) : FrE N (sW N (a, 0) f) := by
  refine ⟨fun k _ _ _ _ _ => by rw [sW_ne _ _ (kd_ne (by omega))], fun r h1 h2 h3 h4 h5 h6 h7 h8 => sW_ne _ _ (fun q => ?_), fun j _ => by rw [sW_ne _ _ (kd_ne (by omega))]⟩
  rw [q] at h3 h4 h7 h8
  rcases ha with z | z | z | z
  · exact h3 z
  · exact h4 z
  · exact h8 z
  · exact h7 z
theorem FrE.tr {N N1 N2 : eg_H} (h : FrE N N1) (k : FrE N1 N2) : FrE N N2 := ⟨fun j a b c d e => (k.1 j a b c d e).trans (h.1 j a b c d e), fun r a b c d e f g i => (k.2.1 r a b c d e f g i).trans (h.2.1 r a b c d e f g i), fun j hj => (k.2.2 j hj).trans (h.2.2 j hj)⟩
theorem FrE_f (N : eg_H) {k : Nat} (hk : k = 2 ∨ (52 ≤ k ∧ k ≤ 63) ∨ k = 68 ∨ k = 69 ∨ k = 80) (x : Int32) : FrE N (sI N (60, 0) k x) := by
  refine ⟨fun j a b c d e => ?_, fun r h1 _ _ _ _ _ _ _ => sI_ne (fun q => h1 (by rw [q])), fun j _ => by rw [sI_ne (by decide)]⟩
  rw [sI_60, if_neg (by omega)]
theorem FrD.tr {M M1 M2 : eg_H} (h : FrD M M1) (k : FrD M1 M2) : FrD M M2 := ⟨fun r a b c d e => (k.1 r a b c d e).trans (h.1 r a b c d e), fun j a b => (k.2.1 j a b).trans (h.2.1 j a b), fun r j a => (k.2.2 r j a).trans (h.2.2 r j a)⟩
theorem FrD_f (M : eg_H) {k : Nat} (hk : k = 8 ∨ k = 11) (x : Int32) : FrD M (sI M (10, 0) k x) := by
  refine ⟨fun r _ _ _ h1 _ => sI_ne (fun q => h1 (by rw [q])), fun j a b => ?_, fun _ _ _ => rfl⟩
  rw [sI_upd, pk_un (by omega)]
theorem FrD_t (M : eg_H) {t p : Nat} (ht : t = 0 ∨ t = 2 ∨ t = 3) (nm st : Nat → Int64) (Z : Nat → Int32) : FrD M (TX (sR M (7, t) 0 (5, p)) t p nm st Z) := by
  refine ⟨fun r h0 h2 h3 _ _ => ?_, fun j _ _ => ?_, fun r k hr => ?_⟩
  · have : ¬ tOf r t := by rcases ht with z | z | z <;> rw [z] <;> assumption
    rw [TX_fr _ _ _ _ _ _ this]; rfl
  · rw [TX_fr _ _ _ _ _ _ (nT_k (by omega))]; rfl
  · show (if r = (7, t) ∧ k = 0 then _ else _) = _
    rw [if_neg (fun c => hr (by rw [c.1]))]
theorem sR_self (M : eg_H) (a : eg_R) (k : Nat) : sR M a k (M.2.2 a k) = M := by
  refine eg_ext (fun _ _ => rfl) (fun _ _ => rfl) (fun z j => ?_)
  show (if z = a ∧ j = k then M.2.2 a k else M.2.2 z j) = _
  by_cases c : z = a ∧ j = k
  · rw [if_pos c, c.1, c.2]
  · rw [if_neg c]
theorem JJ.b01 {M : eg_H} {p t : Nat} {Y : Nat → Int32} (hE : wE (cE M p)) (h : RY (cE M p) (aT M t) Y) : ∀ g, g < cP M p → M.1 (2, 15 * t + g) 5 = 0 ∨ M.1 (2, 15 * t + g) 5 = 1 := by
  intro g hg
  have hN := hE.2.1
  have hg' : g < eP (cE M p) := hg
  have := h.b hg'
  rwa [aT_g M t g 5 10 (by omega) rfl] at this
theorem TX_tf (M : eg_H) {t s p : Nat} (hst : s ≠ t) (nm st : Nat → Int64) (Z : Nat → Int32) : aT (TX (sR M (7, t) 0 (5, p)) t p nm st Z) s = aT M s := aT_cong (fun r hr => by rw [TX_fr _ _ _ _ _ _ (nT_t hr (fun e => hst e.symm))]; rfl)
theorem sI_tf (M : eg_H) (t k : Nat) (x : Int32) : aT (sI M (10, 0) k x) t = aT M t := aT_cong (fun r hr => sI_ne (fun q => by rw [q] at hr; exact nT_k (by omega) hr))
theorem st_keep {M N : eg_H} {C p : Nat} (h : JJ M N C p) : StI mtX10_keep mtX11_keep [] M N C := by
  have hW := h.1.2.1.cW
  have hE := hW.2.2.2.2.1
  have ry := h.1.2.2.1.1
  have ti := h.1.2.2.1.2
  have e7 : M.2.2 (7, 0) 0 = (5, p) := h.1.1.2.2
  have i0 : (0 : Int32).toNatClampNeg = 0 := rfl
  refine ⟨N.1 (111, 0) 0, fun M1 => ∃ Z1, tEq (cE M p) Z1 (aT M 0) ∧ M1 = sI (TX (sR M (7, 2) 0 (5, p)) 2 p (M.2.1 (26, p)) (M.2.1 (27, p)) Z1) (10, 0) 8 1, fun N1 => N1 = sW (sI (t0 N) (60, 0) 80 1) (142, 0) (cpT (N.1 (111, 0)) (N.1 (142, 0)) 366), fun κ => ?_, fun κ => ?_, fun M1 N1 hP hQ => ⟨p, ?_⟩⟩
  · refine eg_S.of rfl (Nat.le_of_ble_eq_true rfl) (vX10_keep_0 (by omega) M ⟨_, sX7_copyFrom (by omega) (by omega) (by omega) (by omega) hW e7 (JJ.b01 hE ry), fun M1 ⟨Z1, e1, q1⟩ M3 e3 => ⟨?_, Z1, q1, by rw [e3, e1]⟩⟩)
    rw [e3, e1, sI_ne (by decide), TX_fr _ _ _ _ _ _ (nT_t (t := 0) (Or.inl ⟨Or.inl rfl, rfl⟩) (by omega))]
    exact ry.s
  · refine eg_S.of rfl (Nat.le_of_ble_eq_true rfl) (vX11_keep_0 (by omega) N (fun M1 e1 M2 e2 => ⟨⟨by decide, rfl, rfl⟩, fun M4 e4 => ⟨nI_in' (n := 0) (by omega) (by omega), ?_, ?_⟩⟩))
    · rw [e4]
      unfold fX11_lays
      rw [i0, sW_ne _ _ (by decide), e2, sI_ne (by decide), e1, sI_ne (by decide)]
    · rw [e4, e2, e1]
      unfold fX11_lays
      rw [sI_ne (by decide), sI_ne (by decide), sI_ne (by decide), sI_ne (by decide)]
  · obtain ⟨Z1, q1, hP⟩ := hP
    have eN : ∀ k, k ≠ 60 → k ≠ 142 → N1.1 (k, 0) = N.1 (k, 0) := fun k a b => by rw [hQ, sW_ne _ _ (kd_ne b), sI_ne (kd_ne a), t0_ne N a]
    have FD : FrD M M1 := by rw [hP]; exact (FrD_t M (by omega) _ _ _).tr (FrD_f _ (by omega) _)
    have FE : FrE N N1 := by rw [hQ]; exact ((FrE_f N (k := 2) (by omega) 0).tr (FrE_f _ (k := 80) (by omega) 1)).tr (lay_FrE _ (by omega) _)
    have a0 : aT M1 0 = aT M 0 := by rw [hP, sI_tf, TX_tf _ (by omega)]
    have rr : ∀ r k, r ≠ (7, 2) → M1.2.2 r k = M.2.2 r k := fun r k hr => by
      rw [hP]
      show (if r = (7, 2) ∧ k = 0 then _ else _) = _
      rw [if_neg (fun c => hr c.1)]
    refine h.tab (D := C + 60) FD FE (by rw [rr _ _ (by decide)]; exact e7) (by rw [a0, eN 111 (by decide) (by decide)]; exact ry) (by rw [eN 111 (by decide) (by decide)]; exact ti.mono (by omega)) (by rw [eN 111 (by decide) (by decide), eN 112 (by decide) (by decide)]; exact h.1.2.2.2) (fun eE => ?_) (fun eE => ?_)
    · have n80 : N1.1 (60, 0) 80 = 1 := by rw [hQ, sW_ne _ _ (by decide), sI_60, if_pos rfl]
      have n142 : ∀ j, j < 366 → N1.1 (142, 0) j = N.1 (111, 0) j := fun j hj => by rw [hQ, sW_at, cpT_lt hj]
      have e8 : M1.1 (10, 0) 8 = 1 := by rw [hP, sI_upd]; exact pk_us
      refine ⟨Or.inr n80, by rw [e8, n80], fun _ => ⟨?_, ?_, ?_⟩⟩
      · rw [hP]; exact sR_at M (7, 2) 0 (5, p)
      · rw [eE, hP, sI_tf]
        exact RY_Y hE (aT_TR hE (h.q15 ti) (tEq_R hE q1 (h.q15 ti) ry)) (h.q15 ti) n142
      · rw [eE]
        exact TI_Y hE (ti.mono (by omega)) n142
    · refine h.2.2.1.cong (by omega) eE ?_ (fun r hr => ?_) (rr _ _ (by decide)) ?_ ?_ (eN 111 (by decide) (by decide)) (eN 131 (by decide) (by decide))
      · rw [hP, sI_upd, pk_un (by decide), TX_fr _ _ _ _ _ _ (nT_k (by omega))]; rfl
      · rw [hP, sI_ne (fun q => by rw [q] at hr; exact nT_k (by omega) hr), TX_fr _ _ _ _ _ _ (nT_t hr (by omega))]; rfl
      · rw [hP, sI_ne (by decide), TX_fr _ _ _ _ _ _ (nT_k (by omega))]; rfl
      · rw [hQ, sW_ne _ _ (by decide), sI_60, if_neg (by decide), t0_k N (by decide)]
theorem st_back {M N : eg_H} {C p : Nat} (h : JJ M N C p) : StI mtX10_back mtX11_back [] M N C := by
  have hW := h.1.2.1.cW
  have hE := hW.2.2.2.2.1
  have F0 : FrN N (t0 N) := FrN_f N (by omega) 0
  have i0 : (0 : Int32).toNatClampNeg = 0 := rfl
  have B80 : (t0 N).1 (60, 0) 80 = N.1 (60, 0) 80 := t0_k N (by decide)
  obtain ⟨z01, z8, z2⟩ := h.2.1
  by_cases z : N.1 (60, 0) 80 = 0
  · refine StI.q h (-1) (fun κ => ?_) (fun κ => ?_)
    · exact eg_S.of rfl (Nat.le_of_ble_eq_true rfl) (vX10_back_0 (by omega) M ⟨fun q => absurd (z8.trans z) q, fun _ => ⟨rfl, FrQ.rf p M⟩⟩)
    · refine eg_S.of rfl (Nat.le_of_ble_eq_true rfl) (vX11_back_0 (by omega) N (fun M1 e1 => ?_))
      have e1 : M1 = t0 N := e1
      rw [e1]
      exact ⟨fun q => absurd (B80.trans z) q, fun _ => ⟨rfl, F0⟩⟩
  · obtain ⟨e7, ry, ti⟩ := z2 z
    refine ⟨N.1 (142, 0) 0, fun M1 => ∃ Z1, tEq (cE M p) Z1 (aT M 2) ∧ M1 = sI (TX (sR M (7, 0) 0 (5, p)) 0 p (M.2.1 (26, p)) (M.2.1 (27, p)) Z1) (10, 0) 11 0, fun N1 => ∃ g f, (∀ j, j < 366 → f j = N.1 (142, 0) j) ∧ (∀ k, k < 5 → g k = f (360 + k)) ∧ N1 = sI (sW (sW (t0 N) (111, 0) f) (112, 0) g) (60, 0) 69 0, fun κ => ?_, fun κ => ?_, fun M1 N1 hP hQ => ⟨p, ?_⟩⟩
    · refine eg_S.of rfl (Nat.le_of_ble_eq_true rfl) (vX10_back_0 (by omega) M ⟨fun _ => ⟨_, sX7_copyFrom (by omega) (by omega) (by omega) (by omega) hW e7 (JJ.b01 hE ry), fun M1 ⟨Z1, e1, q1⟩ M3 e3 => ⟨?_, Z1, q1, by rw [e3, e1]⟩⟩, fun q => absurd (z8.symm.trans q) z⟩)
      rw [e3, e1, sI_ne (by decide), T7_1]
      exact q1.1.trans ry.s
    · refine eg_S.of rfl (Nat.le_of_ble_eq_true rfl) (vX11_back_0 (by omega) N (fun M1 e1 => ?_))
      have e1 : M1 = t0 N := e1
      rw [e1]
      refine ⟨fun _ => ⟨⟨by decide, rfl, rfl⟩, fun M4 e4 M6 e6 M8 e8 => ⟨nI_in' (n := 0) (by omega) (by omega), ?_, ?_⟩⟩, fun q => absurd (B80.symm.trans q) z⟩
      · rw [e8, sI_ne (by decide), e6]
        unfold fX11_layRow
        rw [sW_ne _ _ (by decide), e4]
        unfold fX11_lays
        rw [sW_at, i0, cpT_lt (by omega), t0_ne N (by decide)]
      · refine ⟨cpT (fun j => M4.1 (111, 0) (360 + j)) (M4.1 (112, 0)) 5, M4.1 (111, 0), fun j hj => ?_, fun k hk => cpT_lt hk, ?_⟩
        · rw [e4]
          unfold fX11_lays
          rw [sW_at, cpT_lt hj, t0_ne N (by decide)]
        · rw [e8, e6]
          have e4' : M4 = sW (t0 N) (111, 0) (M4.1 (111, 0)) := by
            rw [e4]
            unfold fX11_lays
            rw [sW_at]
          unfold fX11_layRow
          rw [← e4']
    · obtain ⟨Z1, q1, hP⟩ := hP
      obtain ⟨g, f, hf, hg, hQ⟩ := hQ
      have eN : ∀ k, k ≠ 60 → k ≠ 111 → k ≠ 112 → N1.1 (k, 0) = N.1 (k, 0) := fun k a b c => by rw [hQ, sI_ne (kd_ne a), sW_ne _ _ (kd_ne c), sW_ne _ _ (kd_ne b), t0_ne N a]
      have e111 : N1.1 (111, 0) = f := by rw [hQ, sI_ne (by decide), sW_ne _ _ (by decide), sW_at]
      have e112 : N1.1 (112, 0) = g := by rw [hQ, sI_ne (by decide), sW_at]
      have FD : FrD M M1 := by rw [hP]; exact (FrD_t M (by omega) _ _ _).tr (FrD_f _ (by omega) _)
      have FE : FrE N N1 := by rw [hQ]; exact (((FrE_f N (k := 2) (by omega) 0).tr (lay_FrE _ (by omega) _)).tr (lay_FrE _ (by omega) _)).tr (FrE_f _ (by omega) _)
      have rr : ∀ r k, r ≠ (7, 0) → M1.2.2 r k = M.2.2 r k := fun r k hr => by
        rw [hP]
        show (if r = (7, 0) ∧ k = 0 then _ else _) = _
        rw [if_neg (fun c => hr c.1)]
      refine h.tab (D := C + 60) FD FE ?_ ?_ ?_ ?_ (fun eE => ?_) (fun eE => ?_)
      · rw [hP]; exact sR_at M (7, 0) 0 (5, p)
      · rw [e111, hP, sI_tf]
        exact RY_Y hE (aT_TR hE (h.q15 ti) (tEq_R hE q1 (h.q15 ti) ry)) (h.q15 ti) hf
      · rw [e111]
        exact TI_Y hE (ti.mono (by omega)) hf
      · rw [e111, e112]; exact hg
      · refine h.2.1.cong (by omega) eE ?_ (fun r hr => ?_) (rr _ _ (by decide)) ?_ (eN 142 (by decide) (by decide) (by decide))
        · rw [hP, sI_upd, pk_un (by decide), TX_fr _ _ _ _ _ _ (nT_k (by omega))]; rfl
        · rw [hP, sI_ne (fun q => by rw [q] at hr; exact nT_k (by omega) hr), TX_fr _ _ _ _ _ _ (nT_t hr (by omega))]; rfl
        · rw [hQ, sI_60, if_neg (by decide), sW_ne _ _ (by decide), sW_ne _ _ (by decide), t0_k N (by decide)]
      · refine J3_0 ?_ ?_
        · rw [hP, sI_upd]; exact pk_us
        · rw [hQ, sI_60, if_pos rfl]
