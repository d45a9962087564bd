/-! THE CLASS'S SECONDS -/
section
variable {κ : eg_K} {d : Nat} {M : eg_H} {t p : Nat} {nm st : Nat → Int64} {Z : Nat → Int32}
theorem nC_of {Y : Nat → Int32} {C : Nat} (hY : yI (cE M p) C Y) (hR : RY (cE M p) Z Y) {most r : Int32} (h : clP M p Z most r) {c : Nat} (hr : r.toInt = c) (ho : ∀ s, s < eN (cE M p) → ¬ eD (cE M p) s 2 = 0 → ¬ (¬ eD (cE M p) s 4 < Y (320 + 8 * s) ∧ ¬ 0 ≤ Y (320 + 8 * s + 2) ∧ ¬ eO (cE M p) 2 ≤ Y 0)) : nC (cE M p) c Y := by
  obtain ⟨_, h2, h3⟩ := h
  refine ⟨fun s hs => ?_, fun g hg hst => ?_, ho, fun k hk => ?_⟩
  · have := h2 s hs
    rw [hR.p 2 hs (by omega), hR.s] at this
    rcases this with q | q
    · left; rw [q, t_m1]; omega
    · right; omega
  · have h4 := (h3 g hg).2
    rcases hR.G hg with q | q
    · rw [q.1] at h4
      rcases hst with e | e
      · have h5 := h4 (by rw [e]; decide)
        rw [if_pos e, ← q.2.2.2.2 e, hR.s] at h5
        omega
      · have h5 := h4 (by rw [e]; decide)
        rw [if_neg (by rw [e]; decide), q.2.2.2.1 e, hR.s] at h5
        omega
    · rw [q.2.1] at hst
      rcases hst with e | e <;> exact absurd e (by decide)
  · obtain ⟨hk1, hk2⟩ := hY.1.2.1 k hk
    have hg := vp_lt hk1
    have h4 := (h3 _ hg).1 (hR.l hg hk2).1
    rw [hR.g 3 hg (by omega)] at h4
    rcases h4 with q | q
    · exact Or.inl q
    · right; omega
theorem sX7_go (hd : 6 ≤ d) (ht : t < 4) (hW : cW M p) (hT : M.2.2 (7, t) 0 = (5, p)) {C : Nat} (hC : C < 1000000) (hC2 : 119 ≤ C) {Y : Nat → Int32} (hY : yI (cE M p) C Y) (hR : RY (cE M p) Z Y) {n : Nat} (h0 : (Y 0).toInt + n ≤ 3600) : eg_S κ gC mtX7_go d [vR (7, t), vI (nI n)] (TX M t p nm st Z) (eQV κ gC (fun M1 => ∃ n1 s1 Z1, M1 = TX M t p n1 s1 Z1 ∧ RY (cE M p) Z1 (secN (cE M p) n Y))) := by
  have hE := hW.2.2.2.2.1
  have y0 := hY.2.2.2.2
  have hn6 := hE.1
  have hN := hE.2.1
  refine eg_S.of rfl (Nat.le_of_ble_eq_true rfl) (vX7_go_0 _ ht _ (fun x1 e1 => ?_))
  rw [T7_1, hR.s] at e1
  have ex : x1.toInt = (Y 0).toInt + n := by rw [e1, t_add (by rw [t_nI (by omega)]; omega) (by rw [t_nI (by omega)]; omega), t_nI (by omega)]
  clear e1
  suffices key : ∀ (k i m : Nat) (nm st : Nat → Int64) (Z : Nat → Int32), k = n - i → i ≤ m → m ≤ n → RY (cE M p) Z (secN (cE M p) m Y) → eg_W κ gC mtX7_go d (eQV κ gC (fun M1 => ∃ n1 s1 Z1, M1 = TX M t p n1 s1 Z1 ∧ RY (cE M p) Z1 (secN (cE M p) n Y))) 9 [(0, vR (7, t)), (1, vI (nI n)), (2, vI x1), (3, vI (nI i))] [] (TX M t p nm st Z) by
    exact key _ 0 0 nm st Z rfl (Nat.le_refl _) (Nat.zero_le _) hR
  intro k
  induction k with
  | zero =>
    intro i m nm st Z hk him hmn hR
    have : m = n := by omega
    subst this
    refine vX7_go_9 (by omega) _ ht _ _ _ ⟨fun _ => ⟨nm, st, Z, rfl, hR⟩, fun c => absurd ((nI_le' (by omega) (by omega)).mpr (by omega)) c⟩
  | succ k ih =>
    intro i m nm st Z hk him hmn hR
    obtain ⟨hYm, hm0⟩ := secN_I hE hC hC2 hY m (by omega)
    refine vX7_go_9 (by omega) _ ht _ _ _ ⟨fun c => absurd ((nI_le' (by omega) (by omega)).mp c) (by omega), fun _ => ?_⟩
    rw [T7_1, hR.s]
    refine ⟨fun c => ?_, fun c => ?_⟩
    · rw [t_le, ex, hm0] at c
      have : m = n := by omega
      subst this
      exact ⟨nm, st, Z, rfl, hR⟩
    · rw [t_le, ex, hm0] at c
      have hmn' : m < n := by omega
      have hsec := secF_I hE hC hC2 hYm (by omega)
      have sec' : secN (cE M p) (m + 1) Y = secF (cE M p) (secN (cE M p) m Y) := rfl
      have ih2 := fun m' nm st Z h1 h2 h3 => ih (i + 1) m' nm st Z (by omega) h1 h2 h3
      have hadd := fun b => secN_add (cE M p) (m + 1) Y b
      rw [sec'] at hadd
      have aft := fun Y1 Y2 e1 e2 => after_CQ hE hC hC2 hYm (by omega) Y1 Y2 e1 e2
      have hq16 := hYm.q16 hE
      rw [← sec'] at hsec aft hadd
      have esec : secN (cE M p) (m + 1) Y = secF (cE M p) (secN (cE M p) m Y) := rfl
      generalize hY' : secN (cE M p) (m + 1) Y = Y' at *
      generalize hYY : secN (cE M p) m Y = Ym at *
      unfold secF at esec
      dsimp only at esec
      intro M3 e3
      rw [W7_7] at e3
      subst e3
      have I1 := fillA_I hE hC hYm (eN (cE M p)) (Nat.le_refl _)
      have I2 := admA_I hE I1 (eP (cE M p)) (Nat.le_refl _)
      refine ⟨_, sX7_fillPans (by omega) ht hW hT hC hYm (RY_calm hR hE hq16 1), fun M4 ⟨Z4, e4, r4, c4⟩ => ?_⟩
      subst e4
      rw [pk_us] at c4
      refine ⟨_, sX7_admitGuests (by omega) ht hW hT I1 r4, fun M6 ⟨Z6, e6, r6, c6⟩ => ?_⟩
      subst e6
      rw [c4] at c6
      have r6' : RY (cE M p) Z6 (itr (admF (cE M p)) (eP (cE M p)) (itr (fillF (cE M p)) (eN (cE M p)) Ym)) := r6
      clear r6
      generalize hA1 : itr (admF (cE M p)) (eP (cE M p)) (itr (fillF (cE M p)) (eN (cE M p)) Ym) = A1 at *
      refine ⟨_, sX7_walkAll (by omega) ht hW hT hC I2 r6', fun M8 ⟨n8, s8, Z8, e8, r8, c8⟩ => ?_⟩
      subst e8
      have I3 := (walkF_I hE hC (A1 1).toNatClampNeg 0 A1 I2).1
      have aft2 := aft A1 (walkF (cE M p) (A1 1).toNatClampNeg 0 A1) rfl rfl
      generalize hA2 : walkF (cE M p) (A1 1).toNatClampNeg 0 A1 = A2 at *
      refine ⟨_, sX7_takeOn ht hW I3 r8, fun M10 ⟨Z10, e10, r10, c10⟩ => ?_⟩
      subst e10
      have I4 := (tkoA_I hE I3 _ (Nat.le_refl _)).1
      refine ⟨_, sX7_orderPans ht hW hT hC2 I4 r10, fun M12 ⟨Z12, e12, r12, c12⟩ => ?_⟩
      subst e12
      intro M14 e14
      rw [T7_1, W7_1] at e14
      subst e14
      have I5 := pansA_I hE hC2 I4 (eN (cE M p)) (Nat.le_refl _)
      have r14 : RY (cE M p) (upd Z12 0 (Z12 0 + 1)) Y' := by
        rw [esec, r12.s]
        exact RY_u r12 hE (I5.q16 hE) (by unfold spj; omega) _
      rw [T7_7, pk_un (by omega), T7_1, pk_us]
      have hZ0 : Z12 0 + 1 = Y' 0 := by have := r14.s; rw [pk_us] at this; exact this
      rw [hZ0]
      refine ⟨fun _ x16 e16 => ?_, fun cc => ?_⟩
      · rw [e16, (nAl i).2.1]
        exact ih2 (m + 1) _ _ _ (by omega) (by omega) (by rw [hY', ← hZ0]; exact r14)
      · -- calm
        rw [c12] at cc
        obtain ⟨d1, d2⟩ := c10 cc
        obtain ⟨d3, d4⟩ := c8 d1
        obtain ⟨cq, ord⟩ := aft2 d4 d2
        have v0 : (Y' 0).toInt = (Y 0).toInt + (m + 1 : Nat) := by
          rw [hsec.2, t_add (by rw [t_1]; omega) (by rw [t_1]; omega), t_1, hm0]
          omega
        have hdue : ∀ s, s < cN M p → -1 ≤ ((upd Z12 0 (Z12 0 + 1)) (320 + 8 * s + 2)).toInt := by
          intro s hs
          rw [r14.p 2 (show s < eN (cE M p) from hs) (by omega)]
          rcases (hsec.1.2.2.2.1 s hs).2 with q | q
          · rw [q, t_m1]; omega
          · omega
        have z0 : 0 ≤ ((upd Z12 0 (Z12 0 + 1)) 0).toInt ∧ ((upd Z12 0 (Z12 0 + 1)) 0).toInt ≤ 3600 := by
          rw [r14.s, v0]; omega
        rw [← hZ0]
        refine ⟨_, sX7_calmSeconds (by omega) ht hW hT z0 hdue _, fun x17 M18 ⟨hcl, e18⟩ => ?_⟩
        subst e18
        refine ⟨_, sX7_repeatCalm ht hW hT hsec.1 r14 x17, fun M20 ⟨Z20, e20, r20⟩ x22 e22 => ?_⟩
        subst e20
        rw [e22, (nAl i).2.1]
        have hmost := hcl.1
        rw [hZ0, t_sub (by rw [ex, v0]; omega) (by rw [ex, v0]; omega), ex, v0] at hmost
        by_cases c17 : 0 < x17
        · rw [if_pos c17] at r20
          rw [t_lt, t_0] at c17
          have hx17 : vp_in x17 3601 := by rw [t_in]; omega
          obtain ⟨e17, h17⟩ := nI_of' hx17 (by omega)
          have hr : x17.toInt = (x17.toNatClampNeg : Int) := by
            have := congrArg Int32.toInt e17
            rw [t_nI (by omega)] at this
            exact this
          have hnC := nC_of hsec.1 r14 hcl hr ord
          generalize x17.toNatClampNeg = c at *
          have hrun := calm_run hE hC hC2 hsec.1 cq (n := c) (by omega) hnC c (Nat.le_refl _)
          rw [e17, ← hrun] at r20
          refine ih2 (m + 1 + c) _ _ _ (by omega) (by omega) ?_
          rw [hadd]
          exact r20
        · rw [if_neg c17] at r20
          exact ih2 (m + 1) _ _ _ (by omega) (by omega) (by rw [hY']; exact r20)
end
