/-! A CALL ON BOTH SIDES -/
def StI (mc mm : eg_M) (av : List eg_V) (M N : eg_H) (C : Nat) : Prop := ∃ (r : Int32) (P Q : eg_H → Prop), (∀ κ, eg_S κ gC mc 12 (vR (10, 0) :: av) M (eQI κ gC (fun r' M1 => r' = r ∧ P M1))) ∧ (∀ κ, eg_S κ gM mm 12 (vR (60, 0) :: av) N (eQI κ gM (fun r' N1 => r' = r ∧ Q N1))) ∧ ∀ M1 N1, P M1 → Q N1 → ∃ p', JJ M1 N1 (C + 60) p'
theorem JJ.mono {M N : eg_H} {C D p : Nat} (h : JJ M N C p) (hD : C ≤ D) : JJ M N D p := by
  obtain ⟨⟨a1, a2, ⟨a3, a4⟩, a5⟩, ⟨b1, b2, b3⟩, ⟨u, hu, u1, u2, u3⟩, h4, h5⟩ := h
  refine ⟨⟨a1, a2, ⟨a3, a4.mono hD⟩, a5⟩, ⟨b1, b2, fun q => ⟨(b3 q).1, (b3 q).2.1, (b3 q).2.2.mono hD⟩⟩, ⟨u, hu, u1, u2, fun q => ?_⟩, h4, h5⟩
  obtain ⟨v1, Ys, v2, v3, v4⟩ := u3 q
  exact ⟨v1, Ys, v2, v3, fun k hk => ⟨(v4 k hk).1, (v4 k hk).2.1.mono hD, (v4 k hk).2.2.1, (v4 k hk).2.2.2⟩⟩
theorem StI.q {mc mm : eg_M} {av : List eg_V} {M N : eg_H} {C p : Nat} (h : JJ M N C p) (r : Int32) (hc : ∀ κ, eg_S κ gC mc 12 (vR (10, 0) :: av) M (eQI κ gC (fun r' M1 => r' = r ∧ FrQ p M M1))) (hm : ∀ κ, eg_S κ gM mm 12 (vR (60, 0) :: av) N (eQI κ gM (fun r' N1 => r' = r ∧ FrN N N1))) : StI mc mm av M N C :=
  ⟨r, _, _, hc, hm, fun _ _ a b => ⟨p, (h.cong a b).mono (by omega)⟩⟩
/-- nothing thrown -/
abbrev t0 (N : eg_H) : eg_H := sI N (60, 0) 2 0
theorem FrN_f (N : eg_H) {k : Nat} (hk : k = 2 ∨ (52 ≤ k ∧ k ≤ 63) ∨ k = 68) (x : Int32) : FrN N (sI N (60, 0) k x) := by
  have e : ∀ r : eg_R, r ≠ (60, 0) → (sI N (60, 0) k x).1 r = N.1 r := fun r hr => sI_ne hr
  refine ⟨fun j h1 h2 h3 => by rw [sI_60, if_neg (by omega)], fun r h1 _ _ _ _ _ _ _ _ _ => e r (fun q => h1 (by rw [q])), fun g _ => ?_, fun j _ => by rw [e _ (by decide)]⟩
  rw [e _ (by decide), e _ (by decide), e _ (by decide)]
  exact ⟨rfl, rfl, fun _ _ => rfl⟩
theorem FrN_SX (N : eg_H) (nm : Nat → Int64) (s : (Nat → Int64) × Int32) (Y : Nat → Int32) (h : ∀ j, 366 ≤ j → Y j = N.1 (110, 0) j) : FrN N (SX N nm s Y) := by
  refine ⟨fun j h1 h2 h3 => SX_f _ _ _ _ h3, fun r h1 h2 _ _ _ _ _ _ _ _ => SX_o _ _ _ _ (fun q => h2 (by rw [q])) (fun q => h1 (by rw [q])), fun g _ => ?_, fun j hj => by rw [SX_Y]; exact h j hj⟩
  rw [SX_o _ _ _ _ (by decide) (by decide), SX_o _ _ _ _ (by decide) (by decide), SX_o _ _ _ _ (by decide) (by decide)]
  exact ⟨rfl, rfl, fun _ _ => rfl⟩
theorem QS.FrX {M : eg_H} {q : Nat} {Q : eg_H} {R : Nat → Int32} (h : QS M q Q R) {n : Nat} (hn : n ≤ 3600) (nm : Nat → Int64) (s : (Nat → Int64) × Int32) : FrN Q (SX Q nm s (rF Q n)) := FrN_SX _ _ _ _ (fun j hj => by rw [h.hi hn hj, h.2.2.2.2.2.2.2 j hj])
theorem QS.run0 {M : eg_H} {q : Nat} {Q : eg_H} {R : Nat → Int32} (h : QS M q Q R) {κ : eg_K} {d : Nat} (hd : 8 ≤ d) {n : Nat} (hn : n ≤ 3600) : eg_S κ gM mtX11_runs d [vR (60, 0), vI (nI n)] Q (eQV κ gM (fun M1 => ∃ nm1 s1, M1 = SX Q nm1 s1 (rF Q n))) := by
  have k := h.run (κ := κ) hd hn (Q.2.1 (127, 0)) (Q.2.1 (128, 0), Q.1 (60, 0) 68) (Q.1 (110, 0)) (fun j hj => h.2.2.2.2.2.2.2 j hj)
  rw [SX_self] at k
  exact k
theorem JJ.hp {M N : eg_H} {C p : Nat} (h : JJ M N C p) : (M.2.2 (10, 0) 3 = (5, p) ∧ M.2.2 (10, 0) 4 = (5, 1 - p)) ∧ p < 2 ∧ 1 - p < 2 ∧ 1 - p ≠ p := ⟨⟨h.1.1.1, h.1.1.2.1⟩, h.1.2.1.p2, by omega, by have := h.1.2.1.p2; omega⟩
theorem st_waited {M N : eg_H} {C p : Nat} (h : JJ M N C p) (x : Int32) : StI mtX10_waited mtX11_waited [vI x] M N C := by
  have F0 : FrN N (t0 N) := FrN_f N (by omega) 0
  have hq := h.qs0 F0
  have c2 := F0.tr (clr_Fr (t0 N))
  by_cases hx : vp_in x 3601
  · obtain ⟨ex, hn⟩ := nI_of' hx (by omega)
    generalize x.toNatClampNeg = n at ex hn
    subst ex
    refine StI.q h (sm (fun g => rF (fX11_clears (t0 N)) n (20 + 20 * g + 4)) (cP M p)) (fun κ => ?_) (fun κ => ?_)
    · refine eg_S.of rfl (Nat.le_of_ble_eq_true rfl) (vX10_waited_0 (by omega) M _ (fun x2 e2 => ?_))
      rcases isLength_n M (nI n) with q | q
      · exact absurd hx q.2
      · refine ⟨fun c => absurd (c.symm.trans (e2.trans q.1)) (by decide), fun _ => ⟨p, h.hp.2.1, h.hp.1.1, _, hq.waitedBy (by omega) (by omega), fun x5 M6 ⟨a, b⟩ => ⟨a, b.Fr p⟩⟩⟩
    · refine eg_S.of rfl (Nat.le_of_ble_eq_true rfl) (vX11_waited_0 (by omega) N _ (fun M1 e1 x3 e3 => ?_))
      subst e1
      rcases isTime_n (t0 N) (nI n) with q | q
      · exact absurd hx q.2
      · refine ⟨fun _ => ⟨(h.1.2.1.cong (fun _ _ => rfl) F0.T).hp, fun M6 e6 => ?_⟩, fun c => absurd (c.symm.trans (e3.trans q.1)) (by decide)⟩
        subst e6
        refine ⟨_, hq.run0 (by omega) (by omega), fun M8 ⟨nm, s, e8⟩ => ?_⟩
        subst e8
        obtain ⟨g1, g2⟩ := waitedOf_n hq.2.2.2.2.1 nm s (rF (fX11_clears (t0 N)) n)
        refine ⟨g1, fun x12 e12 => ⟨?_, c2.tr (hq.FrX (by omega) nm s)⟩⟩
        rw [e12, g2, show NM (fX11_clears (t0 N)) = cP M p from hq.2.2.2.1.2.1.symm]
  · refine StI.q h (-1) (fun κ => ?_) (fun κ => ?_)
    · refine eg_S.of rfl (Nat.le_of_ble_eq_true rfl) (vX10_waited_0 (by omega) M _ (fun x2 e2 => ?_))
      rcases isLength_n M x with q | q
      · exact ⟨fun _ => ⟨rfl, FrQ.rf p M⟩, fun c => absurd (e2.trans q.1) c⟩
      · exact absurd q.2 hx
    · refine eg_S.of rfl (Nat.le_of_ble_eq_true rfl) (vX11_waited_0 (by omega) N _ (fun M1 e1 x3 e3 => ?_))
      subst e1
      rcases isTime_n (t0 N) x with q | q
      · exact ⟨fun c => absurd (e3.trans q.1) c, fun _ => ⟨rfl, F0⟩⟩
      · exact absurd q.2 hx
