/-! QUESTIONS: worth, slow, plates, many -/
/-- a cleared model with one or two numbers set -/
theorem FrN_Q {N : eg_H} {k1 k2 : Nat} (h1 : 52 ≤ k1 ∧ k1 ≤ 63) (h2 : 52 ≤ k2 ∧ k2 ≤ 63) (x1 x2 : Int32) : FrN N (sI (sI (fX11_clears (t0 N)) (60, 0) k1 x1) (60, 0) k2 x2) := (((FrN_f N (by omega) 0).tr (clr_Fr _)).tr (FrN_f _ (by omega) _)).tr (FrN_f _ (by omega) _)
theorem FrN_Q1 {N : eg_H} {k1 : Nat} (h1 : 52 ≤ k1 ∧ k1 ≤ 63) (x1 : Int32) : FrN N (sI (fX11_clears (t0 N)) (60, 0) k1 x1) := ((FrN_f N (by omega) 0).tr (clr_Fr _)).tr (FrN_f _ (by omega) _)
theorem clrS_126 {N : eg_H} {k1 : Nat} (x1 : Int32) (j : Nat) : (sI (fX11_clears N) (60, 0) k1 x1).1 (126, 0) j = (fX11_clears N).1 (126, 0) j := by rw [sI_ne (by decide)]
theorem m1n {s : Nat} (hs : s < 1000) : ¬ nI s = -1 := nI_ne_m1 (by omega)
theorem clr_n (N : eg_H) : (fX11_clears N).1 (60, 0) 52 = -1 ∧ (fX11_clears N).1 (60, 0) 53 = -1 ∧ (fX11_clears N).1 (60, 0) 55 = -1 ∧ (fX11_clears N).1 (60, 0) 57 = -1 ∧ (fX11_clears N).1 (60, 0) 59 = 0 ∧ (fX11_clears N).1 (60, 0) 60 = N.1 (60, 0) 16 ∧ (fX11_clears N).1 (60, 0) 61 = 0 ∧ (fX11_clears N).1 (60, 0) 62 = -1 := by
  refine ⟨?_, ?_, ?_, ?_, ?_, ?_, ?_, ?_⟩ <;> (rw [clr_f]; rfl)
/-- a spare plan as the told one -/
theorem JJ.spE {M N : eg_H} {C p : Nat} (h : JJ M N C p) : ∃ M1, spX M p M1 exN := by
  have hp := h.hp.2
  have hW := h.1.2.1.cW
  have n6 := (cN_e hW).2
  have n16 := (cP_e hW).2
  refine ⟨((fun r => if r.1 = 1 then (if r.2 / 5 = 1 - p then M.1 (1, 5 * p + r.2 % 5) else M.1 r) else if r.1 = 0 ∨ r.1 = 20 then (if r.2 / 15 = 1 - p then M.1 (r.1, 15 * p + r.2 % 15) else M.1 r) else if (r.1 = 5 ∨ r.1 = 3 ∨ r.1 = 23 ∨ r.1 = 24 ∨ r.1 = 25 ∨ r.1 = 35) ∧ r.2 = 1 - p then M.1 (r.1, p) else M.1 r), M.2), ⟨fun r h1 _ _ _ _ => ?_, fun _ _ _ => rfl⟩, fun k _ _ => ?_, fun s k hs _ _ => ?_, fun g hg => ⟨fun k _ _ => ?_, fun k _ => ?_⟩, fun k _ _ => ?_, ?_, fun k _ => ?_, fun k _ => ?_, fun k _ => ?_⟩
  · unfold pOf at h1
    dsimp only
    by_cases c1 : r.1 = 1
    · rw [if_pos c1, if_neg (by omega)]
    · rw [if_neg c1]
      by_cases c2 : r.1 = 0 ∨ r.1 = 20
      · rw [if_pos c2, if_neg (by omega)]
      · rw [if_neg c2, if_neg (by omega)]
  · dsimp only; rw [if_neg (by decide), if_neg (by decide), if_pos ⟨by omega, rfl⟩]
  · dsimp only
    rw [if_pos rfl, if_pos (by omega), show (5 * (1 - p) + s) % 5 = s by omega]
  · dsimp only
    rw [if_neg (by decide), if_pos (Or.inl rfl), if_pos (by omega), show (15 * (1 - p) + g) % 15 = g by omega]
  · dsimp only
    rw [if_neg (by decide), if_pos (Or.inr rfl), if_pos (by omega), show (15 * (1 - p) + g) % 15 = g by omega]
  · dsimp only; rw [if_neg (by decide), if_neg (by decide), if_pos ⟨by omega, rfl⟩]
  · dsimp only; rw [if_neg (by decide), if_neg (by decide), if_pos ⟨by omega, rfl⟩]
  · dsimp only; rw [if_neg (by decide), if_neg (by decide), if_pos ⟨by omega, rfl⟩]
  · dsimp only; rw [if_neg (by decide), if_neg (by decide), if_pos ⟨by omega, rfl⟩]
  · dsimp only; rw [if_neg (by decide), if_neg (by decide), if_pos ⟨by omega, rfl⟩]
/-- the spare plan asked where nothing but dishes, pass differ -/
theorem gsp {M M' Q : eg_H} {p : Nat} (pl : PL M p Q) {ex : eg_R → Nat → Prop} (sx : spX M p M' ex) (h2 : ¬ ex (5, 1 - p) 2) (h0 : ∀ r k, ex r k → r.1 ≠ 0) (h52 : ∀ g, g < 15 → ¬ nI g = Q.1 (60, 0) 52) (h59 : Q.1 (60, 0) 59 = 0) (h61 : Q.1 (60, 0) 61 = 0) (h125 : ∀ g, g < 15 → Q.1 (125, 0) g = 0) : (vp_in (M'.1 (5, 1 - p) 2) 16 ∧ cP M' (1 - p) = NM Q) ∧ (∀ g, g < NM Q → pC M' (1 - p) g 0 = pM Q g 0 ∧ pC M' (1 - p) g 1 = pM Q g 1 ∧ ∀ k, k < 5 → pC M' (1 - p) g (k + 2) = pM Q g (k + 2)) ∧ (∀ g, g < NM Q → (1 ≤ (pM Q g 1).toInt ∧ (pM Q g 1).toInt ≤ 20) ∧ ∀ k, k < 5 → 0 ≤ (pM Q g (k + 2)).toInt ∧ (pM Q g (k + 2)).toInt ≤ 9) ∧ vp_in (fX11_everybody Q) 16 ∧ ∀ g, g < NM Q → ¬ coM Q g = -1 := by
  obtain ⟨⟨g1, g2⟩, g3, g4⟩ := pl.g0 h52 h59 h61 h125
  have b2 := sx.2.1 2 (by omega) h2
  have hP := pl.cW.2.2.1
  have eP : cP M' (1 - p) = cP M p := by unfold cP; rw [b2]
  refine ⟨⟨by rw [b2]; exact hP, by rw [eP, g2]⟩, fun g hg => ?_, fun g hg => ?_, g1, g4⟩
  · rw [g2] at hg
    obtain ⟨c1, c2⟩ := sx.2.2.2.1 g hg
    obtain ⟨d1, d2, d3⟩ := g3 g (by rw [g2]; exact hg)
    refine ⟨(c1 1 (by omega) (fun q => h0 _ _ q rfl)).trans d1, (c1 2 (by omega) (fun q => h0 _ _ q rfl)).trans d2, fun k hk => ?_⟩
    rw [← d3 k hk]
    show (if k < 5 then M'.1 (20, 15 * (1 - p) + g) k else 0) = (if k < 5 then M.1 (20, 15 * p + g) k else 0)
    rw [if_pos hk, if_pos hk, c2 k hk]
  · obtain ⟨d1, d2, d3⟩ := g3 g hg
    rw [g2] at hg
    have hg' : g < (Q.1 (60, 0) 13).toNatClampNeg := by rw [← pl.g1]; exact hg
    obtain ⟨_, b1, b2, b3⟩ := pl.g hg'
    refine ⟨?_, fun k hk => ?_⟩
    · rw [← d2]
      show 1 ≤ (M.1 (0, 15 * p + g) 2).toInt ∧ (M.1 (0, 15 * p + g) 2).toInt ≤ 20
      rw [b2.2]; exact b2.1
    · rw [← d3 k hk, show pC M p g (k + 2) = M.1 (20, 15 * p + g) k from if_pos hk, (b3 k hk).2]
      exact (b3 k hk).1
/-! worth -/
abbrev exW (p : Nat) : eg_R → Nat → Prop := fun r k => r = (5, 1 - p) ∧ k = 4
theorem qs_worth {M N M' : eg_H} {C p : Nat} (h : JJ M N C p) (x : Int32) (hx : x = 0 ∨ x = 1) (sx : spX M p M' (exW p)) (hv : M'.1 (5, 1 - p) 4 = x) : QS M' (1 - p) (sI (fX11_clears (t0 N)) (60, 0) 60 x) (M'.1 (40, 0)) := by
  have F := FrN_Q1 (N := N) (k1 := 60) (by omega) x
  have pl : PL M p (sI (fX11_clears (t0 N)) (60, 0) 60 x) := h.1.2.1.cong (fun _ _ => rfl) F.T
  obtain ⟨ck1, ck2⟩ := h.ck (FrN_f N (k := 2) (by omega) 0)
  have f : ∀ k, k ≠ 60 → (sI (fX11_clears (t0 N)) (60, 0) 60 x).1 (60, 0) k = (fX11_clears (t0 N)).1 (60, 0) k := fun k hk => by rw [sI_60, if_neg hk]
  have n6 := (cN_e pl.cW).2
  obtain ⟨g1, g2, g3, g4, g5⟩ := gsp pl sx (fun q => absurd q.2 (by decide)) (fun r k q => by rw [q.1]; show (5 : Nat) ≠ 0; decide) (fun g hg => by rw [f 52 (by omega), clr_f]; exact m1n (by omega)) (by rw [f 59 (by omega), clr_f]; rfl) (by rw [f 61 (by omega), clr_f]; rfl) (fun g hg => by rw [sI_ne (by decide)]; exact clr_125 _ hg)
  refine QS_sp h pl sx (fun r k q => Or.inl (by rw [q.1])) ⟨fun q => absurd q.2 (by decide), fun q => absurd q.2 (by decide), fun q => absurd q.2 (by decide)⟩ g1 (fun s hs => ⟨fun k _ _ _ q => kd_ne (by decide) q.1, ?_, ?_, ?_⟩) g2 g3 ?_ (sx.l pl (fun k q => kd_ne (by decide) q.1) (fun l hl => by rw [f 62 (by omega), clr_f]; exact m1n (by omega))) g4 (fun s hs c => ?_) (fun s hs c => ?_) g5 (fun k hk => by rw [sI_ne (by decide)]; exact ck1 k hk) (fun j hj => by rw [sI_ne (by decide)]; exact ck2 j hj)
  · rw [f 53 (by omega), (clr_n _).2.1, if_pos (m1n (by omega))]
    exact sx.2.2.1 s 2 hs (by omega) (fun q => kd_ne (by decide) q.1)
  · rw [f 57 (by omega), clr_f]
    have e := sx.2.2.1 s 3 hs (by omega) (fun q => kd_ne (by decide) q.1)
    by_cases c : dC M p s 2 = 0
    · rw [if_pos c]; exact e.trans c
    · rw [if_neg c]; exact e.trans (if_pos (m1n (by omega))).symm
  · rw [f 55 (by omega), (clr_n _).2.2.1, if_pos (m1n (by omega))]
    exact sx.2.2.1 s 5 hs (by omega) (fun q => kd_ne (by decide) q.1)
  · rw [hv, sI_60, if_pos rfl]
  · rw [f 57 (by omega), clr_f] at c; exact absurd c (m1n (by omega))
  · rw [f 55 (by omega), clr_f] at c; exact absurd c (m1n (by omega))
theorem wEv {M : eg_H} {q : Nat} {Q : eg_H} {R : Nat → Int32} (h : QS M q Q R) : cP M q = NM Q := h.2.2.2.1.2.1
theorem st_worth {M N : eg_H} {C p : Nat} (h : JJ M N C p) (x : Int32) : StI mtX10_worth mtX11_worth [vI x] M N C := by
  have F0 : FrN N (t0 N) := FrN_f N (by omega) 0
  have hp := h.hp
  by_cases hx : vp_in x 3601
  · obtain ⟨ex, hn⟩ := nI_of' hx (by omega)
    generalize x.toNatClampNeg = n at ex hn
    subst ex
    have hw := fun M' y hy sx hv => qs_worth (M' := M') h y hy sx hv
    generalize hQ : (fun y => sI (fX11_clears (t0 N)) (60, 0) 60 y) = Qf at *
    have eQ : ∀ y, sI (fX11_clears (t0 N)) (60, 0) 60 y = Qf y := fun y => congrFun hQ y
    simp only [eQ] at hw
    refine StI.q h (sm (fun g => rF (Qf 0) n (20 + 20 * g + 4)) (NM (Qf 0)) - sm (fun g => rF (Qf 1) n (20 + 20 * g + 4)) (NM (Qf 1))) (fun κ => ?_) (fun κ => ?_)
    · refine eg_S.of rfl (Nat.le_of_ble_eq_true rfl) (vX10_worth_0 (by omega) M _ (fun x2 e2 => ⟨fun _ => ⟨1 - p, hp.2.2.1, hp.1.2, p, hp.2.1, hp.1.1, _, h.copy (FrQ.rf p M) (by omega), fun M6 c6 => ?_⟩, fun c => ?_⟩))
      · have s6 := (h.sp (FrQ.rf p M) c6).w (ex2 := exW p) (fun _ _ q => q.elim)
        refine ⟨1 - p, hp.2.2.1, (s6.r hp.1).2, fun M9 e9 => ?_⟩
        have s9 : spX M p M9 (exW p) := by rw [e9]; exact s6.I (pOf_k (by omega)) (by dsimp only; decide) ⟨rfl, rfl⟩ _
        have v9 : M9.1 (5, 1 - p) 4 = 0 := by rw [e9, sI_i, if_pos ⟨rfl, rfl⟩]
        have q9 := hw M9 0 (Or.inl rfl) s9 v9
        refine ⟨_, q9.waitedBy (by omega) (by omega), fun x10 M11 ⟨a10, t11⟩ => ?_⟩
        have s11 := s9.t t11
        refine ⟨1 - p, hp.2.2.1, (s11.r hp.1).2, fun M14 e14 => ?_⟩
        have s14 : spX M p M14 (exW p) := by rw [e14]; exact s11.I (pOf_k (by omega)) (by dsimp only; decide) ⟨rfl, rfl⟩ _
        have v14 : M14.1 (5, 1 - p) 4 = 1 := by rw [e14, sI_i, if_pos ⟨rfl, rfl⟩]
        have q14 := hw M14 1 (Or.inr rfl) s14 v14
        refine ⟨_, q14.waitedBy (by omega) (by omega), fun x15 M16 ⟨a15, t16⟩ => ⟨?_, (s14.t t16).1⟩⟩
        rw [a10, a15, wEv q9, wEv q14]
      · rcases isLength_n M (nI n) with q | q
        · exact absurd hx q.2
        · exact absurd (c.symm.trans (e2.trans q.1)) (by decide)
    · refine eg_S.of rfl (Nat.le_of_ble_eq_true rfl) (vX11_worth_0 (by omega) N _ (fun M1 e1 x3 e3 => ?_))
      subst e1
      obtain ⟨Ms, ss⟩ := h.spE
      have ss := ss.w (ex2 := exW p) (fun _ _ q => q.elim)
      have q0 := hw _ 0 (Or.inl rfl) (ss.I (r := (5, 1 - p)) (k := 4) (pOf_k (by omega)) (by dsimp only; decide) ⟨rfl, rfl⟩ 0) (by rw [sI_i, if_pos ⟨rfl, rfl⟩])
      have q1 := hw _ 1 (Or.inr rfl) (ss.I (r := (5, 1 - p)) (k := 4) (pOf_k (by omega)) (by dsimp only; decide) ⟨rfl, rfl⟩ 1) (by rw [sI_i, if_pos ⟨rfl, rfl⟩])
      refine ⟨fun _ => ⟨(h.1.2.1.cong (fun _ _ => rfl) F0.T).hp, fun M6 e6 M8 e8 => ?_⟩, fun c => ?_⟩
      · rw [e6, eQ] at e8
        subst e8
        refine ⟨_, q0.run0 (by omega) (by omega), fun M9 ⟨nm, s, e9⟩ => ?_⟩
        subst e9
        obtain ⟨w1, w2⟩ := waitedOf_n q0.2.2.2.2.1 nm s (rF (Qf 0) n)
        refine ⟨w1, fun x13 e13 M14 e14 => ?_⟩
        have e15 : M14 = SX (Qf 1) nm s (rF (Qf 0) n) := by
          rw [e14, SX_sI _ _ _ _ (by decide), ← eQ, ← eQ]
          congr 1
          exact sI_sI _ _ _ _ _
        subst e15
        refine ⟨_, q1.run (by omega) (by omega) nm s _ (fun j hj => q0.hi (by omega) hj), fun M15 ⟨nm2, s2, e15⟩ => ?_⟩
        subst e15
        obtain ⟨v1, v2⟩ := waitedOf_n q1.2.2.2.2.1 nm2 s2 (rF (Qf 1) n)
        refine ⟨v1, fun x19 e19 => ⟨by rw [e13, e19, w2, v2], ?_⟩⟩
        have F1 := FrN_Q1 (N := N) (k1 := 60) (by omega) 1
        rw [eQ] at F1
        exact F1.tr (q1.FrX (by omega) nm2 s2)
      · rcases isTime_n (t0 N) (nI n) with q | q
        · exact absurd hx q.2
        · exact absurd (c.symm.trans (e3.trans q.1)) (by decide)
  · refine StI.q h (-2147483648) (fun κ => ?_) (fun κ => ?_)
    · refine eg_S.of rfl (Nat.le_of_ble_eq_true rfl) (vX10_worth_0 (by omega) M _ (fun x2 e2 => ?_))
      rcases isLength_n M x with q | q
      · exact ⟨fun c => absurd (e2.trans q.1) c, fun _ => ⟨rfl, FrQ.rf p M⟩⟩
      · exact absurd q.2 hx
    · refine eg_S.of rfl (Nat.le_of_ble_eq_true rfl) (vX11_worth_0 (by omega) N _ (fun M1 e1 x3 e3 => ?_))
      subst e1
      rcases isTime_n (t0 N) x with q | q
      · exact ⟨fun c => absurd (e3.trans q.1) c, fun _ => ⟨rfl, F0⟩⟩
      · exact absurd q.2 hx
