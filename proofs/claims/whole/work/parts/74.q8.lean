/-! QUESTIONS: plates, many -/
abbrev exZ : eg_R → Nat → Prop := fun r k => r.1 = 0 ∧ k = 2
theorem qs_plates {M N M' : eg_H} {C p z : Nat} (h : JJ M N C p) (hz : 1 ≤ z ∧ z ≤ 20) (sx : spX M p M' exZ) (hv : ∀ g, g < cP M p → M'.1 (0, 15 * (1 - p) + g) 2 = nI z) : QS M' (1 - p) (sI (fX11_clears (t0 N)) (60, 0) 59 (nI z)) (M'.1 (40, 0)) := by
  have F := FrN_Q1 (N := N) (k1 := 59) (by omega) (nI z)
  have pl : PL M p (sI (fX11_clears (t0 N)) (60, 0) 59 (nI z)) := h.1.2.1.cong (fun _ _ => rfl) F.T
  obtain ⟨ck1, ck2⟩ := h.ck (FrN_f N (k := 2) (by omega) 0)
  have f : ∀ k, k ≠ 59 → (sI (fX11_clears (t0 N)) (60, 0) 59 (nI z)).1 (60, 0) k = (fX11_clears (t0 N)).1 (60, 0) k := fun k hk => by rw [sI_60, if_neg hk]
  have f59 : (sI (fX11_clears (t0 N)) (60, 0) 59 (nI z)).1 (60, 0) 59 = nI z := by rw [sI_60, if_pos rfl]
  have r125 : ∀ b, b < 15 → (sI (fX11_clears (t0 N)) (60, 0) 59 (nI z)).1 (125, 0) b = 0 := fun b hb => by rw [sI_ne (by decide)]; exact clr_125 _ hb
  have r126 : ∀ k, k < cN M p → M.1 (40, 0) k = (sI (fX11_clears (t0 N)) (60, 0) 59 (nI z)).1 (126, 0) k := fun k hk => by rw [sI_ne (by decide)]; exact ck1 k hk
  have r110 : ∀ j, 366 ≤ j → (sI (fX11_clears (t0 N)) (60, 0) 59 (nI z)).1 (110, 0) j = 0 := fun j hj => by rw [sI_ne (by decide)]; exact ck2 j hj
  have cl := clr_n (t0 N)
  have n6 := (cN_e pl.cW).2
  have g9 := pl.gg.2
  have nz : ¬ nI z ≤ 0 := by rw [t_le, t_nI (by omega), t_0]; omega
  generalize sI (fX11_clears (t0 N)) (60, 0) 59 (nI z) = Q at *
  obtain ⟨g1, g2⟩ := pl.ev (by rw [f 61 (by omega)]; exact cl.2.2.2.2.2.2.1)
  have b2 := sx.2.1 2 (by omega) (fun q => absurd q.1 (show ¬ (5 : Nat) = 0 by decide))
  have eP : cP M' (1 - p) = cP M p := by unfold cP; rw [b2]
  refine QS_sp h pl sx (fun r k q => Or.inr (Or.inr (Or.inl q.1))) ⟨fun q => absurd q.2 (by decide), fun q => absurd q.2 (by decide), fun q => absurd q.2 (by decide)⟩ ⟨by rw [b2]; exact pl.cW.2.2.1, by rw [eP, g2, pl.g1]⟩ (fun s hs => sx.d n6 (fun r k q => by rw [q.1]; decide) (by rw [f 53 (by omega)]; exact cl.2.1) (by rw [f 57 (by omega)]; exact cl.2.2.2.1) (by rw [f 55 (by omega)]; exact cl.2.2.1) hs) (fun b hb => ?_) (fun b hb => ?_) ?_ (sx.l pl (fun k q => absurd q.1 (show ¬ (35 : Nat) = 0 by decide)) (fun l hl => by rw [f 62 (by omega), cl.2.2.2.2.2.2.2]; exact m1n (by omega))) g1 (fun s hs c => ?_) (fun s hs c => ?_) (fun b hb => ?_) r126 r110
  · rw [g2] at hb
    have hb' : b < cP M p := by rw [pl.g1]; exact hb
    obtain ⟨c1, c2⟩ := sx.2.2.2.1 b hb'
    refine ⟨?_, ?_, fun k hk => ?_⟩
    · show _ = (if nI b = Q.1 (60, 0) 52 then -1 else coM Q b)
      rw [f 52 (by omega), cl.1, if_neg (m1n (by omega)), (pl.co hb (r125 b (by omega))).1]
      exact c1 1 (by omega) (fun q => absurd q.2 (by decide))
    · rw [pl.c1 hb, f59, if_neg nz]
      exact hv b hb'
    · rw [pl.c2 hb k]
      show (if k < 5 then M'.1 (20, 15 * (1 - p) + b) k else 0) = (if k < 5 then M.1 (20, 15 * p + b) k else 0)
      rw [if_pos hk, if_pos hk, c2 k hk]
  · rw [g2] at hb
    rw [pl.c1 hb, f59, if_neg nz, t_nI (by omega)]
    exact ⟨by omega, (pl.sz hb).2⟩
  · rw [sx.2.1 4 (by omega) (fun q => absurd q.1 (show ¬ (5 : Nat) = 0 by decide)), pl.ep, f 60 (by omega), f 16 (by omega), cl.2.2.2.2.2.1]
    exact (clr_Fr (t0 N)).1 16 (by omega) (by omega) (by omega)
  · rw [f 57 (by omega), cl.2.2.2.1] at c; exact absurd c (m1n (by omega))
  · rw [f 55 (by omega), cl.2.2.1] at c; exact absurd c (m1n (by omega))
  · rw [g2] at hb
    exact (pl.co hb (r125 b (by omega))).2
/-- sums of the trial table -/
theorem trP.sum {M M1 : eg_H} {q : Nat} {Y : Nat → Int32} (h : trP M q Y M1) (hW : cW M q) : (gX7_takenInAll M1 1 ∧ fX7_takenInAll M1 1 = sm (fun s => Y (320 + 8 * s + 3)) (cN M q)) ∧ (gX7_leftInAll M1 1 ∧ fX7_leftInAll M1 1 = sm (fun g => Y (20 + 20 * g + 7)) (cP M q)) ∧ (gX7_cameAgain M1 1 ∧ fX7_cameAgain M1 1 = sm (fun g => if Y (20 + 20 * g + 9) ≤ 1 then 0 else Y (20 + 20 * g + 9) - 1) (cP M q)) := by
  have hp := h.p
  have h5 : M1.1 (5, q) = M.1 (5, q) := h.o (nT_k (by omega))
  have hP := cP_e hW
  have hN := cN_e hW
  refine ⟨⟨⟨by rw [hp]; exact hW.1, by rw [hp], by rw [hp, h5]; exact hW.2.1⟩, ?_⟩, ⟨⟨by rw [hp]; exact hW.1, by rw [hp], by rw [hp, h5]; exact hW.2.2.1⟩, ?_⟩, ⟨⟨by rw [hp]; exact hW.1, by rw [hp], by rw [hp, h5]; exact hW.2.2.1⟩, ?_⟩⟩
  · unfold fX7_takenInAll
    rw [hp, h5]
    exact sm_cong (fun s hs => h.s (k := 3) (by omega) hs (by have : s < cN M q := hs; omega))
  · unfold fX7_leftInAll
    rw [hp, h5]
    exact sm_cong (fun g hg => h.g (f := 7) rfl (by omega) hg (by have : g < cP M q := hg; omega))
  · unfold fX7_cameAgain
    rw [hp, h5]
    refine sm_cong (fun g hg => ?_)
    rw [h.g (f := 9) rfl (by omega) hg (by have : g < cP M q := hg; omega)]
theorem sumBy_n {Q : eg_H} (hm : mW Q) (nm : Nat → Int64) (s : (Nat → Int64) × Int32) (Y : Nat → Int32) {f : Nat} (hf : f < 20) : gX11_sumBy (SX Q nm s Y) (nI f) ∧ fX11_sumBy (SX Q nm s Y) (nI f) = sm (fun g => Y (20 + 20 * g + f)) (NM Q) := by
  refine ⟨⟨by rw [SX_ev]; exact hm.2.1, nI_in' hf (by omega)⟩, ?_⟩
  unfold fX11_sumBy
  rw [SX_ev, SX_Y, nI_t (by omega)]
  rfl
/-- what plates answer -/
def plA (Y : Nat → Int32) (P : Nat) (w : Int32) : Int32 := if w = 0 then sm (fun g => Y (20 + 20 * g + 5)) P else if w = 1 then sm (fun g => Y (20 + 20 * g + 7)) P else if w = 2 then sm (fun g => if Y (20 + 20 * g + 9) ≤ 1 then 0 else Y (20 + 20 * g + 9) - 1) P else sm (fun g => Y (20 + 20 * g + 4)) P
theorem isIn_n (M : eg_H) (x a b : Int32) : (fX11_isIn M x a b = 0 ∧ ¬ (a.toInt ≤ x.toInt ∧ x.toInt ≤ b.toInt)) ∨ (fX11_isIn M x a b = 1 ∧ (a.toInt ≤ x.toInt ∧ x.toInt ≤ b.toInt)) := by
  unfold fX11_isIn
  by_cases c1 : x < a
  · rw [if_pos c1]; rw [t_lt] at c1; exact Or.inl ⟨rfl, by omega⟩
  · rw [if_neg c1]
    rw [t_lt] at c1
    by_cases c2 : b < x
    · rw [if_pos c2]; rw [t_lt] at c2; exact Or.inl ⟨rfl, by omega⟩
    · rw [if_neg c2]; rw [t_lt] at c2; exact Or.inr ⟨rfl, by omega⟩
theorem st_plates {M N : eg_H} {C p : Nat} (h : JJ M N C p) (z x w : Int32) : StI mtX10_plates mtX11_plates [vI z, vI x, vI w] M N C := by
  have F0 : FrN N (t0 N) := FrN_f N (by omega) 0
  have hp := h.hp
  have pl0 : PL M p (t0 N) := h.1.2.1.cong (fun _ _ => rfl) F0.T
  have i20 : (20 : Int32).toInt = 20 := by decide
  have i3 : (3 : Int32).toInt = 3 := by decide
  by_cases hx : (1 ≤ z.toInt ∧ z.toInt ≤ 20) ∧ vp_in x 3601 ∧ 0 ≤ w.toInt ∧ w.toInt ≤ 3
  · obtain ⟨hz, hx, hw0, hw3⟩ := hx
    have hP := cP_e h.1.2.1.cW
    have hzi : vp_in z 21 := by rw [t_in]; omega
    obtain ⟨ez, hz21⟩ := nI_of' hzi (by omega)
    obtain ⟨ex, hn⟩ := nI_of' hx (by omega)
    generalize x.toNatClampNeg = n at ex hn
    generalize z.toNatClampNeg = zz at ez hz21
    subst ex ez
    rw [t_nI (by omega)] at hz
    have hw := fun M' sx hv => qs_plates (M' := M') (z := zz) h (by omega) sx hv
    have F1 := FrN_Q1 (N := N) (k1 := 59) (by omega) (nI zz)
    obtain ⟨Ms, ss⟩ := h.spE
    have ss := ss.w (ex2 := exZ) (fun _ _ q => q.elim)
    -- all sizes laid
    have lay : ∀ m, m ≤ cP M p → ∃ M', spX M p M' exZ ∧ ∀ g, g < m → M'.1 (0, 15 * (1 - p) + g) 2 = nI zz := by
      intro m
      induction m with
      | zero => exact fun _ => ⟨Ms, ss, fun g hg => absurd hg (Nat.not_lt_zero _)⟩
      | succ m ih =>
        intro hm
        obtain ⟨M', s', v'⟩ := ih (by omega)
        refine ⟨sI M' (0, 15 * (1 - p) + m) 2 (nI zz), s'.I (pOf_0 (by omega)) (by dsimp only; decide) ⟨rfl, rfl⟩ _, fun g hg => ?_⟩
        by_cases e : g = m
        · subst e; rw [sI_i, if_pos ⟨rfl, rfl⟩]
        · rw [sI_ne (pr_ne (by omega))]; exact v' g (by omega)
    obtain ⟨Mq, sq, vq⟩ := lay _ (Nat.le_refl _)
    have q1 := hw Mq sq vq
    have eN2 : NM (sI (fX11_clears (t0 N)) (60, 0) 59 (nI zz)) = cP M p := by rw [← wEv q1]; unfold cP; rw [sq.2.1 2 (by omega) (fun q => absurd q.1 (show ¬ (5 : Nat) = 0 by decide))]
    generalize hQ : sI (fX11_clears (t0 N)) (60, 0) 59 (nI zz) = Q at *
    have hk := (q1.T (n := n) (by omega)).2.2.1
    refine StI.q h (plA (rF Q n) (cP M p) w) (fun κ => ?_) (fun κ => ?_)
    · have key : ∀ i M', i ≤ cP M p → spX M p M' exZ → (∀ g, g < i → M'.1 (0, 15 * (1 - p) + g) 2 = nI zz) → eg_W κ gC mtX10_plates 12 (eQI κ gC (fun r' M1 => r' = plA (rF Q n) (cP M p) w ∧ FrQ p M M1)) 43 [(0, vR (10, 0)), (1, vI (nI zz)), (2, vI (nI n)), (3, vI w), (4, vI (nI i))] [] M' := by
        intro i
        suffices hs : ∀ k i, k = cP M p - i → ∀ M', i ≤ cP M p → spX M p M' exZ → (∀ g, g < i → M'.1 (0, 15 * (1 - p) + g) 2 = nI zz) → eg_W κ gC mtX10_plates 12 (eQI κ gC (fun r' M1 => r' = plA (rF Q n) (cP M p) w ∧ FrQ p M M1)) 43 [(0, vR (10, 0)), (1, vI (nI zz)), (2, vI (nI n)), (3, vI w), (4, vI (nI i))] [] M' by
          exact fun M' => hs _ i rfl M'
        intro k
        induction k with
        | zero =>
          intro i hk2 M' hi sx hv
          have ei : i = cP M p := by omega
          subst ei
          have e2 : M'.1 (5, 1 - p) 2 = nI (cP M p) := (sx.2.1 2 (by omega) (fun q => absurd q.1 (show ¬ (5 : Nat) = 0 by decide))).trans hP.1
          have q2 := hw M' sx hv
          have hW := q2.1
          have ecN : cN M' (1 - p) = eN (mE Q) := q2.2.2.2.1.1
          refine vX10_plates_43 (by omega) M' _ _ _ _ ⟨1 - p, hp.2.2.1, (sx.r hp.1).2, fun _ => ⟨_, q2.waitedBy (by omega) (by omega), fun x3 M4 ⟨a3, t4⟩ => ?_⟩, fun c => absurd (by rw [e2]; exact nI_le (Nat.le_refl _) (by omega)) c⟩
          obtain ⟨s1, s2, s3⟩ := t4.sum hW
          have fr := (sx.t t4).1
          have ePm : cP M' (1 - p) = cP M p := by rw [wEv q2, eN2]
          refine ⟨fun c0 c1 c2 => ⟨?_, fr⟩, fun c0 => ⟨s1.1, fun x8 e8 => ⟨?_, fr⟩⟩, fun c1 => ⟨s2.1, fun x8 e8 => ⟨?_, fr⟩⟩, fun c2 => ⟨s3.1, fun x8 e8 => ⟨?_, fr⟩⟩⟩
          · unfold plA; rw [if_neg c0, if_neg c1, if_neg c2, a3, ePm]
          · unfold plA
            rw [if_pos c0, e8, s1.2, ecN]
            have e3 : Prod.fst (Prod.snd (mE Q)) = cP M p := eN2
            have hk' : sm (fun s => rF Q n (320 + 8 * s + 3)) (Prod.fst (mE Q)) = sm (fun g => rF Q n (20 + 20 * g + 5)) (Prod.fst (Prod.snd (mE Q))) := hk
            rw [e3] at hk'
            exact hk'
          · unfold plA; rw [c1, if_neg (by decide), if_pos rfl, e8, s2.2, ePm]
          · unfold plA; rw [c2, if_neg (by decide), if_neg (by decide), if_pos rfl, e8, s3.2, ePm]
        | succ k ih =>
          intro i hk2 M' hi sx hv
          have e2 : M'.1 (5, 1 - p) 2 = nI (cP M p) := (sx.2.1 2 (by omega) (fun q => absurd q.1 (show ¬ (5 : Nat) = 0 by decide))).trans hP.1
          refine vX10_plates_43 (by omega) M' _ _ _ _ ⟨1 - p, hp.2.2.1, (sx.r hp.1).2, fun c => absurd (by rw [e2] at c; exact c) (nI_ge (by omega) (by omega)), fun _ => ⟨nI_in' (by omega) (by omega), fun M16 e16 x17 e17 => ?_⟩⟩
          rw [nI_t (by omega)] at e16
          rw [e17, nI_1, e16]
          refine ih (i + 1) (by omega) _ (by omega) (sx.I (pOf_0 (by omega)) (by dsimp only; decide) ⟨rfl, rfl⟩ _) (fun g hg => ?_)
          by_cases e : g = i
          · subst e; rw [sI_i, if_pos ⟨rfl, rfl⟩]
          · rw [sI_ne (pr_ne (by omega))]; exact hv g (by omega)
      refine eg_S.of rfl (Nat.le_of_ble_eq_true rfl) (vX10_plates_0 (by omega) M _ _ _ ⟨fun c => ?_, fun _ => ⟨fun c => ?_, fun _ x4 e4 => ⟨fun c => ?_, fun _ => ⟨fun c => ?_, fun _ => ⟨fun _ => ⟨1 - p, hp.2.2.1, hp.1.2, p, hp.2.1, hp.1.1, _, h.copy (FrQ.rf p M) (by omega), fun M10 c10 => key 0 M10 (by omega) ((h.sp (FrQ.rf p M) c10).w (fun _ _ q => q.elim)) (fun g hg => absurd hg (Nat.not_lt_zero _))⟩, fun c => ?_⟩⟩⟩⟩⟩)
      · rw [t_lt, t_nI (by omega), t_1] at c; omega
      · rw [t_lt, t_nI (by omega), i20] at c; omega
      · rcases isLength_n M (nI n) with q | q
        · exact absurd hx q.2
        · exact absurd (c.symm.trans (e4.trans q.1)) (by decide)
      · rw [t_lt, t_0] at c; omega
      · rw [t_le, i3] at c; omega
    · have i1 := isIn_n (t0 N) (nI zz) 1 20
      have i2 := isIn_n (t0 N) w 0 3
      rw [t_nI (by omega), t_1, i20] at i1
      rw [t_0, i3] at i2
      refine eg_S.of rfl (Nat.le_of_ble_eq_true rfl) (vX11_plates_0 (by omega) N _ _ _ (fun M1 e1 x3 e3 => ⟨fun c => ?_, fun _ x6 e6 => ⟨fun c => ?_, fun _ x9 e9 => ⟨fun _ => ?_, fun c => ?_⟩⟩⟩))
      · subst e1
        rcases i1 with q | q
        · omega
        · rw [e3, q.1] at c; exact absurd c (by decide)
      · subst e1
        rcases isTime_n (t0 N) (nI n) with q | q
        · exact absurd hx q.2
        · exact absurd (c.symm.trans (e6.trans q.1)) (by decide)
      · subst e1
        refine ⟨pl0.hp, fun M12 e12 M14 e14 => ?_⟩
        rw [e12, hQ] at e14
        rw [e14]
        refine ⟨_, q1.run0 (by omega) (by omega), fun M15 ⟨nm, s, e15⟩ => ?_⟩
        subst e15
        have fr := F1.tr (q1.FrX (n := n) (by omega) nm s)
        have hm := q1.2.2.2.2.1
        refine ⟨fun c0 => ⟨fun c1 => ⟨fun c3 => ?_, fun c3 => ?_⟩, fun c1 => ?_⟩, fun c0 => ?_⟩
        · have c2 : w = 2 := by
            rw [t_eq, show (2 : Int32).toInt = 2 by decide]
            have a0 : ¬ w.toInt = 0 := fun q => c0 (t_eq.mpr (by rw [q, t_0]))
            have a1 : ¬ w.toInt = 1 := fun q => c1 (t_eq.mpr (by rw [q, t_1]))
            have a3 : ¬ w.toInt = 3 := fun q => c3 (t_eq.mpr (by rw [q, i3]))
            omega
          have eA : plA (rF Q n) (cP M p) w = sm (fun g => if rF Q n (20 + 20 * g + 9) ≤ 1 then 0 else rF Q n (20 + 20 * g + 9) - 1) (cP M p) := by unfold plA; rw [c2, if_neg (by decide), if_neg (by decide), if_pos rfl]
          rw [eA]
          have e13 : (SX Q nm s (rF Q n)).1 (60, 0) 13 = nI (cP M p) := by
            rw [SX_f _ _ _ _ (by decide), ← hP.1, h.1.2.1.eg]
            exact F1.1 13 (by omega) (by omega) (by omega)
          refine eg_down (P := fun i => eg_W κ gM mtX11_plates 12 (eQI κ gM (fun r' N1 => r' = sm (fun g => if rF Q n (20 + 20 * g + 9) ≤ 1 then 0 else rF Q n (20 + 20 * g + 9) - 1) (cP M p) ∧ FrN N N1)) 86 [(0, vR (60, 0)), (4, vI (sm (fun g => if rF Q n (20 + 20 * g + 9) ≤ 1 then 0 else rF Q n (20 + 20 * g + 9) - 1) i)), (5, vI (nI i))] [] (SX Q nm s (rF Q n))) (cP M p) (fun i hi k => ?_) ?_
          · refine vX11_plates_86 (by omega) _ _ _ ?_
            rw [e13]
            simp (disch := omega) only [forall_eq, at_n, nAl, nI_t, vpi, SX_Y, nI_1]
            refine ⟨fun c => absurd c (nI_ge hi (by omega)), fun _ => ⟨by omega, fun c => ?_, fun c => ⟨by omega, ?_⟩⟩⟩
            · have : sm (fun g => if rF Q n (20 + 20 * g + 9) ≤ 1 then 0 else rF Q n (20 + 20 * g + 9) - 1) (i + 1) = sm (fun g => if rF Q n (20 + 20 * g + 9) ≤ 1 then 0 else rF Q n (20 + 20 * g + 9) - 1) i + (if rF Q n (20 + 20 * i + 9) ≤ 1 then 0 else rF Q n (20 + 20 * i + 9) - 1) := rfl
              rw [this, if_pos c] at k
              exact k
            · have : sm (fun g => if rF Q n (20 + 20 * g + 9) ≤ 1 then 0 else rF Q n (20 + 20 * g + 9) - 1) (i + 1) = sm (fun g => if rF Q n (20 + 20 * g + 9) ≤ 1 then 0 else rF Q n (20 + 20 * g + 9) - 1) i + (if rF Q n (20 + 20 * i + 9) ≤ 1 then 0 else rF Q n (20 + 20 * i + 9) - 1) := rfl
              rw [this, if_neg c] at k
              exact k
          · refine vX11_plates_86 (by omega) _ _ _ ?_
            rw [e13]
            exact ⟨fun _ => ⟨rfl, fr⟩, fun c => absurd (nI_le (Nat.le_refl _) (by omega)) c⟩
        · obtain ⟨v1, v2⟩ := waitedOf_n hm nm s (rF Q n)
          refine ⟨v1, fun x22 e22 => ⟨?_, fr⟩⟩
          unfold plA
          rw [c3, if_neg (by decide), if_neg (by decide), if_neg (by decide), e22, v2, eN2]
        · obtain ⟨v1, v2⟩ := sumBy_n hm nm s (rF Q n) (f := 7) (by omega)
          refine ⟨v1, fun x22 e22 => ⟨?_, fr⟩⟩
          unfold plA
          rw [c1, if_neg (by decide), if_pos rfl, e22, ← eN2]
          exact v2
        · obtain ⟨v1, v2⟩ := sumBy_n hm nm s (rF Q n) (f := 5) (by omega)
          refine ⟨v1, fun x22 e22 => ⟨?_, fr⟩⟩
          unfold plA
          rw [c0, if_pos rfl, e22, ← eN2]
          exact v2
      · subst e1
        rcases i2 with q | q
        · omega
        · rw [e9, q.1] at c; exact absurd c (by decide)
  · refine StI.q h (-1) (fun κ => ?_) (fun κ => ?_)
    · refine eg_S.of rfl (Nat.le_of_ble_eq_true rfl) (vX10_plates_0 (by omega) M _ _ _ ⟨fun c => ⟨rfl, FrQ.rf p M⟩, fun c1 => ⟨fun c => ⟨rfl, FrQ.rf p M⟩, fun c2 x4 e4 => ⟨fun c => ⟨rfl, FrQ.rf p M⟩, fun c3 => ⟨fun c => ⟨rfl, FrQ.rf p M⟩, fun c4 => ⟨fun c5 => ?_, fun c => ⟨rfl, FrQ.rf p M⟩⟩⟩⟩⟩⟩)
      exfalso
      rw [t_lt, t_1] at c1
      rw [t_lt, i20] at c2
      rw [t_lt, t_0] at c4
      rw [t_le, i3] at c5
      rcases isLength_n M x with q | q
      · exact c3 (e4.trans q.1)
      · exact hx ⟨by omega, q.2, by omega, by omega⟩
    · have i1 := isIn_n (t0 N) z 1 20
      have i2 := isIn_n (t0 N) w 0 3
      rw [t_1, i20] at i1
      rw [t_0, i3] at i2
      refine eg_S.of rfl (Nat.le_of_ble_eq_true rfl) (vX11_plates_0 (by omega) N _ _ _ (fun M1 e1 x3 e3 => ⟨fun c => ⟨rfl, by rw [e1]; exact F0⟩, fun c3 x6 e6 => ⟨fun c => ⟨rfl, by rw [e1]; exact F0⟩, fun c6 x9 e9 => ⟨fun c9 => ?_, fun c => ⟨rfl, by rw [e1]; exact F0⟩⟩⟩⟩))
      exfalso
      subst e1
      rcases i1 with q | q
      · exact c3 (e3.trans q.1)
      · rcases isTime_n (t0 N) x with q2 | q2
        · exact c6 (e6.trans q2.1)
        · rcases i2 with q3 | q3
          · exact c9 (e9.trans q3.1)
          · exact hx ⟨q.2, q2.2, q3.2⟩
