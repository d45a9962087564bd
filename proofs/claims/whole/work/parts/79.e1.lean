/-! EASY QUESTIONS: all, station -/
def alF (M : eg_H) (p : Nat) (x : Int32) : Int32 := if x = 0 then M.1 (5, p) 0 else if x = 1 then M.1 (5, p) 2 else if x = 2 then M.1 (5, p) 7 else if x = 3 then M.1 (3, p) 3 else if x = 4 then M.1 (7, 0) 1 else if x = 5 then M.1 (8, 0) 0 else if x = 6 then fX8_knownCounts M else if x = 7 then M.1 (10, 0) 11 else if x = 8 then M.1 (7, 0) 6 else if x = 9 then fX7_takenInAll M 0 else if x = 10 then fX7_leftInAll M 0 else if x = 11 then fX7_portionsInAll M 0 else if x = 12 then fX7_waitedByAll M 0 else -1
theorem alF_0 (M : eg_H) (p : Nat) : alF M p 0 = M.1 (5, p) 0 := by unfold alF; rw [if_pos rfl]
theorem alF_1 (M : eg_H) (p : Nat) : alF M p 1 = M.1 (5, p) 2 := by unfold alF; rw [if_neg (by decide), if_pos rfl]
theorem alF_2 (M : eg_H) (p : Nat) : alF M p 2 = M.1 (5, p) 7 := by unfold alF; rw [if_neg (by decide), if_neg (by decide), if_pos rfl]
theorem alF_3 (M : eg_H) (p : Nat) : alF M p 3 = M.1 (3, p) 3 := by unfold alF; rw [if_neg (by decide), if_neg (by decide), if_neg (by decide), if_pos rfl]
theorem alF_4 (M : eg_H) (p : Nat) : alF M p 4 = M.1 (7, 0) 1 := by unfold alF; rw [if_neg (by decide), if_neg (by decide), if_neg (by decide), if_neg (by decide), if_pos rfl]
theorem alF_5 (M : eg_H) (p : Nat) : alF M p 5 = M.1 (8, 0) 0 := by unfold alF; rw [if_neg (by decide), if_neg (by decide), if_neg (by decide), if_neg (by decide), if_neg (by decide), if_pos rfl]
theorem alF_6 (M : eg_H) (p : Nat) : alF M p 6 = fX8_knownCounts M := by unfold alF; rw [if_neg (by decide), if_neg (by decide), if_neg (by decide), if_neg (by decide), if_neg (by decide), if_neg (by decide), if_pos rfl]
theorem alF_7 (M : eg_H) (p : Nat) : alF M p 7 = M.1 (10, 0) 11 := by unfold alF; rw [if_neg (by decide), if_neg (by decide), if_neg (by decide), if_neg (by decide), if_neg (by decide), if_neg (by decide), if_neg (by decide), if_pos rfl]
theorem alF_8 (M : eg_H) (p : Nat) : alF M p 8 = M.1 (7, 0) 6 := by unfold alF; rw [if_neg (by decide), if_neg (by decide), if_neg (by decide), if_neg (by decide), if_neg (by decide), if_neg (by decide), if_neg (by decide), if_neg (by decide), if_pos rfl]
theorem alF_9 (M : eg_H) (p : Nat) : alF M p 9 = fX7_takenInAll M 0 := by unfold alF; rw [if_neg (by decide), if_neg (by decide), if_neg (by decide), if_neg (by decide), if_neg (by decide), if_neg (by decide), if_neg (by decide), if_neg (by decide), if_neg (by decide), if_pos rfl]
theorem alF_10 (M : eg_H) (p : Nat) : alF M p 10 = fX7_leftInAll M 0 := by unfold alF; rw [if_neg (by decide), if_neg (by decide), if_neg (by decide), if_neg (by decide), if_neg (by decide), if_neg (by decide), if_neg (by decide), if_neg (by decide), if_neg (by decide), if_neg (by decide), if_pos rfl]
theorem alF_11 (M : eg_H) (p : Nat) : alF M p 11 = fX7_portionsInAll M 0 := by unfold alF; rw [if_neg (by decide), if_neg (by decide), if_neg (by decide), if_neg (by decide), if_neg (by decide), if_neg (by decide), if_neg (by decide), if_neg (by decide), if_neg (by decide), if_neg (by decide), if_neg (by decide), if_pos rfl]
theorem alF_12 (M : eg_H) (p : Nat) : alF M p 12 = fX7_waitedByAll M 0 := by unfold alF; rw [if_neg (by decide), if_neg (by decide), if_neg (by decide), if_neg (by decide), if_neg (by decide), if_neg (by decide), if_neg (by decide), if_neg (by decide), if_neg (by decide), if_neg (by decide), if_neg (by decide), if_neg (by decide), if_pos rfl]
theorem alF_n {M : eg_H} {p : Nat} {x : Int32} (c0 : ¬ x = 0) (c1 : ¬ x = 1) (c2 : ¬ x = 2) (c3 : ¬ x = 3) (c4 : ¬ x = 4) (c5 : ¬ x = 5) (c6 : ¬ x = 6) (c7 : ¬ x = 7) (c8 : ¬ x = 8) (c9 : ¬ x = 9) (c10 : ¬ x = 10) (c11 : ¬ x = 11) (c12 : ¬ x = 12) : alF M p x = -1 := by unfold alF; rw [if_neg c0, if_neg c1, if_neg c2, if_neg c3, if_neg c4, if_neg c5, if_neg c6, if_neg c7, if_neg c8, if_neg c9, if_neg c10, if_neg c11, if_neg c12]
theorem all_e {M N : eg_H} {C p : Nat} (h : JJ M N C p) : fX7_takenInAll M 0 = fX11_truthSum (t0 N) 5 ∧ fX7_leftInAll M 0 = fX11_truthSum (t0 N) 7 ∧ fX7_waitedByAll M 0 = fX11_truthSum (t0 N) 4 ∧ fX7_portionsInAll M 0 = sm (fun s => N.1 (111, 0) (320 + 8 * s)) (cN M p) := by
  have ry := h.1.2.2.1.1
  have ti := h.1.2.2.1.2
  have e7 : M.2.2 (7, 0) 0 = (5, p) := h.1.1.2.2
  have pl := h.1.2.1
  have hW := pl.cW
  have n6 := (cN_e hW).2
  have p16 : cP M p < 16 := hW.2.2.2.2.1.2.1
  have q13 : ((t0 N).1 (60, 0) 13).toNatClampNeg = cP M p := by rw [t0_k N (by decide), pl.g1]
  unfold fX7_takenInAll fX7_leftInAll fX7_waitedByAll fX7_portionsInAll fX11_truthSum
  rw [e7, q13, t0_o N (by decide)]
  show sm _ (cN M p) = _ ∧ sm _ (cP M p) = _ ∧ sm _ (cP M p) = _ ∧ sm _ (cN M p) = _
  refine ⟨?_, ?_, ?_, ?_⟩
  · have k := ti.2.2.1
    unfold kS at k
    refine Eq.trans (sm_cong (fun s hs => ?_)) (k.trans (sm_cong (fun g hg => rfl)))
    have a : s < cN M p := hs
    rw [← ry.p 3 hs (by omega), aT_p _ _ _ _ (by omega) (by omega)]
  · refine sm_cong (fun g hg => ?_)
    show _ = N.1 (111, 0) (20 + 20 * g + 7)
    rw [← ry.g 7 hg (by omega), aT_g M 0 g 10 7 (by omega) rfl]
  · refine sm_cong (fun g hg => ?_)
    show _ = N.1 (111, 0) (20 + 20 * g + 4)
    rw [← ry.g 4 hg (by omega), aT_g M 0 g 7 4 (by omega) rfl]
  · refine sm_cong (fun s hs => ?_)
    rw [← ry.p0 hs]
    exact (aT_p M 0 s 0 (by omega) (by omega)).symm
theorem st_all {M N : eg_H} {C p : Nat} (h : JJ M N C p) (x : Int32) : StI mtX10_all mtX11_all [vI x] M N C := by
  have F0 : FrN N (t0 N) := FrN_f N (by omega) 0
  have hp := h.hp
  have pl0 : PL M p (t0 N) := h.1.2.1.cong (fun _ _ => rfl) F0.T
  have ry := h.1.2.2.1.1
  have ti := h.1.2.2.1.2
  have e7 : M.2.2 (7, 0) 0 = (5, p) := h.1.1.2.2
  have hW := h.1.2.1.cW
  have en := cN_e hW
  have n6 := en.2
  obtain ⟨a9, a10, a12, a11⟩ := all_e h
  have i0 : (0 : Int32).toNatClampNeg = 0 := rfl
  have i1 : (1 : Int32).toNatClampNeg = 1 := rfl
  have e111 : (t0 N).1 (111, 0) = N.1 (111, 0) := t0_o N (by decide)
  obtain ⟨u, hu, u1, u2, _⟩ := h.2.2.1
  obtain ⟨c, hc, c1, c2, c3, c4, _⟩ := h.2.2.2.1
  have g0 : gTb M 0 0 6 := by
    unfold gTb
    rw [e7]
    exact ⟨hp.2.1, rfl, hW.2.1⟩
  have g2 : gTb M 0 2 16 := by
    unfold gTb
    rw [e7]
    exact ⟨hp.2.1, rfl, hW.2.2.1⟩
  have gt : ∀ f : Nat, f < 20 → gX11_truthSum (t0 N) (nI f) := fun f hf => ⟨by have := pl0.hg; rw [t_in] at this ⊢; omega, nI_in' hf (by omega)⟩
  have kn : fX8_knownCounts M = fX11_knownMany (t0 N) := by
    unfold fX8_knownCounts fX11_knownMany
    rw [t0_k N (by decide), t0_k N (by decide), c3, c1, c2]
    by_cases c : N.1 (60, 0) 74 = -1
    · rw [if_neg (fun q => q c), if_neg (by rw [c]; decide)]
    · rw [if_pos c, if_pos (by rw [t_le, t_0]; rw [t_eq, t_m1] at c; omega)]
  refine StI.q h (alF M p x) (fun κ => ?_) (fun κ => ?_)
  · refine eg_S.of rfl (Nat.le_of_ble_eq_true rfl) (vX10_all_0 (by omega) M _ ⟨fun c0 c1 c2 c3 c4 c5 c6 c7 c8 c9 c10 c11 c12 => ⟨(alF_n c0 c1 c2 c3 c4 c5 c6 c7 c8 c9 c10 c11 c12).symm, FrQ.rf p M⟩, ?_⟩)
    refine ⟨fun e => ⟨p, hp.2.1, hp.1.1, by rw [e, alF_0], FrQ.rf p M⟩, fun e => ⟨p, hp.2.1, hp.1.1, by rw [e, alF_1], FrQ.rf p M⟩, fun e => ⟨p, hp.2.1, hp.1.1, by rw [e, alF_2], FrQ.rf p M⟩, fun e => ⟨p, hp.2.1, hp.1.1, by rw [e, alF_3], FrQ.rf p M⟩, fun e => ⟨by rw [e, alF_4], FrQ.rf p M⟩, fun e => ⟨by rw [e, alF_5], FrQ.rf p M⟩, fun e y ey => ⟨by rw [e, alF_6, ey], FrQ.rf p M⟩, fun e => ⟨by rw [e, alF_7], FrQ.rf p M⟩, fun e => ⟨by rw [e, alF_8], FrQ.rf p M⟩, fun e => ⟨g0, fun y ey => ⟨by rw [e, alF_9, ey], FrQ.rf p M⟩⟩, fun e => ⟨g2, fun y ey => ⟨by rw [e, alF_10, ey], FrQ.rf p M⟩⟩, fun e => ⟨g0, fun y ey => ⟨by rw [e, alF_11, ey], FrQ.rf p M⟩⟩, fun e => ⟨g2, fun y ey => ⟨by rw [e, alF_12, ey], FrQ.rf p M⟩⟩⟩
  · refine eg_S.of rfl (Nat.le_of_ble_eq_true rfl) (vX11_all_0 (by omega) N _ (fun M1 e1 => ?_))
    have e1 : M1 = t0 N := e1
    rw [e1]
    refine ⟨fun c0 c1 c2 c3 c4 c5 c6 c7 c8 c9 c10 c11 c12 => ⟨(alF_n c0 c1 c2 c3 c4 c5 c6 c7 c8 c9 c10 c11 c12).symm, F0⟩, fun e => ⟨by rw [e, alF_0, pl0.en], F0⟩, fun e => ⟨by rw [e, alF_1, pl0.eg], F0⟩, fun e => ⟨by rw [e, alF_2, pl0.em], F0⟩, fun e => ⟨by rw [e, alF_3, pl0.ek], F0⟩, fun e => ⟨nI_in' (n := 0) (by omega) (by omega), ?_, F0⟩, fun e => ⟨by rw [e, alF_5, t0_k N (by decide), c1, c2], F0⟩, fun e y ey => ⟨by rw [e, alF_6, ey, kn], F0⟩, fun e => ⟨by rw [e, alF_7, t0_k N (by decide), u1, u2], F0⟩, fun e => ⟨nI_in' (n := 1) (by omega) (by omega), ?_, F0⟩, fun e => ⟨gt 5 (by omega), fun y ey => ⟨by rw [e, alF_9, ey, a9], F0⟩⟩, fun e => ⟨gt 7 (by omega), fun y ey => ⟨by rw [e, alF_10, ey, a10], F0⟩⟩, fun e => ?_, fun e => ⟨gt 4 (by omega), fun y ey => ⟨by rw [e, alF_12, ey, a12], F0⟩⟩⟩
    · rw [e, alF_4, e111, i0]; exact ry.s.symm
    · rw [e, alF_8, e111, i1]; exact ry.q.symm
    · rw [e, alF_11, a11]
      have B12 : (t0 N).1 (60, 0) 12 = nI (cN M p) := by rw [← pl0.en]; exact en.1
      suffices key : ∀ m i, i + m = cN M p → eg_W κ gM mtX11_all 12 (eQI κ gM (fun r' N1 => r' = sm (fun s => N.1 (111, 0) (320 + 8 * s)) (cN M p) ∧ FrN N N1)) 140 [(0, vR (60, 0)), (2, vI (sm (fun s => N.1 (111, 0) (320 + 8 * s)) i)), (3, vI (nI i))] [] (t0 N) from key (cN M p) 0 (by omega)
      intro m
      induction m with
      | zero =>
        intro i hi
        refine vX11_all_140 (by omega) _ _ _ ⟨fun _ => ⟨by rw [show i = cN M p by omega], F0⟩, fun c => ?_⟩
        rw [B12] at c
        exact absurd ((nI_le' (by omega) (by omega)).mpr (by omega)) c
      | succ m ih =>
        intro i hi
        have ih' := ih (i + 1) (by omega)
        have es : sm (fun s => N.1 (111, 0) (320 + 8 * s)) (i + 1) = sm (fun s => N.1 (111, 0) (320 + 8 * s)) i + N.1 (111, 0) (320 + 8 * i) := rfl
        refine vX11_all_140 (by omega) _ _ _ ⟨fun c => ?_, fun _ => ⟨ghas_n _ i 2 (by omega), fun x4 e4 => ⟨fun z x6 e6 x7 e7 => ?_, fun z x9 e9 => ?_⟩⟩⟩
        · rw [B12] at c
          exact absurd ((nI_le' (by omega) (by omega)).mp c) (by omega)
        · rw [e6, e7, nI_1]
          rcases hasPan_m pl0 (s := i) (by omega) with q | q
          · have := ti.2.2.2 i (show i < cN M p by omega) (by rw [eD_c (by omega)]; exact q.2)
            rw [es, this] at ih'
            exact ih'
          · exact absurd (q.1.symm.trans (e4.symm.trans z)) (by decide)
        · rw [e9, pan_n]
          refine ⟨nI_in' (by omega) (by omega), fun x11 e11 x12 e12 => ?_⟩
          rw [nI_t (by omega), e111] at e11
          rw [e11, e12, nI_1, ← es]
          exact ih'

def stF (M : eg_H) (p : Nat) (x y : Int32) : Int32 := if y = 0 then M.1 (1, 5 * p + x.toNatClampNeg) 1 else if y = 1 then M.1 (1, 5 * p + x.toNatClampNeg) 2 else if y = 2 then (if fX5_hasPan M p x = 0 then (-1 : Int32) else M.1 (4, 5 * 0 + x.toNatClampNeg) 0) else if y = 3 then M.1 (4, 5 * 0 + x.toNatClampNeg) 1 else if y = 4 then M.1 (4, 5 * 0 + x.toNatClampNeg) 2 else if y = 5 then M.1 (4, 5 * 0 + x.toNatClampNeg) 3 else if y = 6 then M.1 (4, 5 * 0 + x.toNatClampNeg) 4 else if y = 7 then M.1 (4, 5 * 0 + x.toNatClampNeg) 5 else if y = 8 then M.1 (4, 5 * 0 + x.toNatClampNeg) 6 else if y = 9 then fX7_placeOf M 0 x else -1
theorem stF_0 (M : eg_H) (p : Nat) (x : Int32) : stF M p x 0 = M.1 (1, 5 * p + x.toNatClampNeg) 1 := by unfold stF; rw [if_pos rfl]
theorem stF_1 (M : eg_H) (p : Nat) (x : Int32) : stF M p x 1 = M.1 (1, 5 * p + x.toNatClampNeg) 2 := by unfold stF; rw [if_neg (by decide), if_pos rfl]
theorem stF_2 (M : eg_H) (p : Nat) (x : Int32) : stF M p x 2 = (if fX5_hasPan M p x = 0 then (-1 : Int32) else M.1 (4, 5 * 0 + x.toNatClampNeg) 0) := by unfold stF; rw [if_neg (by decide), if_neg (by decide), if_pos rfl]
theorem stF_3 (M : eg_H) (p : Nat) (x : Int32) : stF M p x 3 = M.1 (4, 5 * 0 + x.toNatClampNeg) 1 := by unfold stF; rw [if_neg (by decide), if_neg (by decide), if_neg (by decide), if_pos rfl]
theorem stF_4 (M : eg_H) (p : Nat) (x : Int32) : stF M p x 4 = M.1 (4, 5 * 0 + x.toNatClampNeg) 2 := by unfold stF; rw [if_neg (by decide), if_neg (by decide), if_neg (by decide), if_neg (by decide), if_pos rfl]
theorem stF_5 (M : eg_H) (p : Nat) (x : Int32) : stF M p x 5 = M.1 (4, 5 * 0 + x.toNatClampNeg) 3 := by unfold stF; rw [if_neg (by decide), if_neg (by decide), if_neg (by decide), if_neg (by decide), if_neg (by decide), if_pos rfl]
theorem stF_6 (M : eg_H) (p : Nat) (x : Int32) : stF M p x 6 = M.1 (4, 5 * 0 + x.toNatClampNeg) 4 := by unfold stF; rw [if_neg (by decide), if_neg (by decide), if_neg (by decide), if_neg (by decide), if_neg (by decide), if_neg (by decide), if_pos rfl]
theorem stF_7 (M : eg_H) (p : Nat) (x : Int32) : stF M p x 7 = M.1 (4, 5 * 0 + x.toNatClampNeg) 5 := by unfold stF; rw [if_neg (by decide), if_neg (by decide), if_neg (by decide), if_neg (by decide), if_neg (by decide), if_neg (by decide), if_neg (by decide), if_pos rfl]
theorem stF_8 (M : eg_H) (p : Nat) (x : Int32) : stF M p x 8 = M.1 (4, 5 * 0 + x.toNatClampNeg) 6 := by unfold stF; rw [if_neg (by decide), if_neg (by decide), if_neg (by decide), if_neg (by decide), if_neg (by decide), if_neg (by decide), if_neg (by decide), if_neg (by decide), if_pos rfl]
theorem stF_9 (M : eg_H) (p : Nat) (x : Int32) : stF M p x 9 = fX7_placeOf M 0 x := by unfold stF; rw [if_neg (by decide), if_neg (by decide), if_neg (by decide), if_neg (by decide), if_neg (by decide), if_neg (by decide), if_neg (by decide), if_neg (by decide), if_neg (by decide), if_pos rfl]
theorem stF_n {M : eg_H} {p : Nat} {x y : Int32} (c0 : ¬ y = 0) (c1 : ¬ y = 1) (c2 : ¬ y = 2) (c3 : ¬ y = 3) (c4 : ¬ y = 4) (c5 : ¬ y = 5) (c6 : ¬ y = 6) (c7 : ¬ y = 7) (c8 : ¬ y = 8) (c9 : ¬ y = 9) : stF M p x y = -1 := by unfold stF; rw [if_neg c0, if_neg c1, if_neg c2, if_neg c3, if_neg c4, if_neg c5, if_neg c6, if_neg c7, if_neg c8, if_neg c9]
theorem stF_k (M : eg_H) (p : Nat) (x : Int32) {k : Nat} (h : 3 ≤ k ∧ k < 9) : stF M p x (nI k) = M.1 (4, 5 * 0 + x.toNatClampNeg) (k - 2) := by
  have : k = 3 ∨ k = 4 ∨ k = 5 ∨ k = 6 ∨ k = 7 ∨ k = 8 := by omega
  rcases this with z | z | z | z | z | z <;> rw [z]
  · exact stF_3 M p x
  · exact stF_4 M p x
  · exact stF_5 M p x
  · exact stF_6 M p x
  · exact stF_7 M p x
  · exact stF_8 M p x
theorem place_e {M N : eg_H} {C p js st : Nat} (h : JJ M N C p) (hjs : js < cN M p) (ej : M.1 (40, 0) js = nI st) : fX7_placeOf M 0 (nI st) = nI js := by
  have e7 : M.2.2 (7, 0) 0 = (5, p) := h.1.1.2.2
  have n6 := (cN_e h.1.2.1.cW).2
  have o := h.oR
  unfold fX7_placeOf
  rw [e7]
  show fst1 _ 0 (cN M p) = _
  by_cases c : fst1 (fun k => decide (M.1 (40, 0) k = nI st)) 0 (cN M p) < 0
  · have := fst1_m1 (cN M p) 0 (by omega) c js (by omega) (by omega)
    exact absurd ej (of_decide_eq_false this)
  · obtain ⟨q, e, _, hq, tq⟩ := fst1_r _ (cN M p) 0 c
    rw [e]
    have tq := of_decide_eq_true tq
    by_cases c1 : q < js
    · exact absurd (tq.trans ej.symm) (o.2 q js c1 hjs)
    · by_cases c2 : js < q
      · exact absurd (ej.trans tq.symm) (o.2 js q c2 (show q < cN M p by omega))
      · rw [show q = js by omega]
theorem st_station {M N : eg_H} {C p : Nat} (h : JJ M N C p) (x y : Int32) : StI mtX10_station mtX11_station [vI x, vI y] M N C := by
  have F0 : FrN N (t0 N) := FrN_f N (by omega) 0
  have hp := h.hp
  have pl0 : PL M p (t0 N) := h.1.2.1.cong (fun _ _ => rfl) F0.T
  have ry := h.1.2.2.1.1
  have e7 : M.2.2 (7, 0) 0 = (5, p) := h.1.1.2.2
  have hW := h.1.2.1.cW
  have en := cN_e hW
  have n6 := en.2
  have e111 : (t0 N).1 (111, 0) = N.1 (111, 0) := t0_o N (by decide)
  have g0 : gTb M 0 0 6 := by
    unfold gTb
    rw [e7]
    exact ⟨hp.2.1, rfl, hW.2.1⟩
  rcases isStation_n (t0 N) x pl0.hn with z | z
  · refine StI.q h (-1) (fun κ => ?_) (fun κ => ?_)
    · refine eg_S.of rfl (Nat.le_of_ble_eq_true rfl) (vX10_station_0 (by omega) M _ _ ⟨p, hp.2.1, hp.1.1, fun x3 e3 => ?_⟩)
      rw [hasStation_n pl0, z.1] at e3
      exact ⟨fun c => absurd e3 c, fun _ => ⟨rfl, FrQ.rf p M⟩⟩
    · refine eg_S.of rfl (Nat.le_of_ble_eq_true rfl) (vX11_station_0 (by omega) N _ _ (fun M1 e1 x3 e3 => ?_))
      rw [e1] at e3 ⊢
      exact ⟨fun _ => ⟨rfl, F0⟩, fun c => absurd (e3.trans z.1) c⟩
  · have hx := z.2
    rw [← pl0.n1] at hx
    have hx5 : vp_in x 5 := by rw [t_in] at hx ⊢; omega
    refine StI.q h (stF M p x y) (fun κ => ?_) (fun κ => ?_)
    · refine eg_S.of rfl (Nat.le_of_ble_eq_true rfl) (vX10_station_0 (by omega) M _ _ ⟨p, hp.2.1, hp.1.1, fun x3 e3 => ?_⟩)
      rw [hasStation_n pl0, z.1] at e3
      refine ⟨fun _ => ⟨hx5, fun c0 c1 c2 c3 c4 c5 c6 c7 c8 c9 => ⟨(stF_n c0 c1 c2 c3 c4 c5 c6 c7 c8 c9).symm, FrQ.rf p M⟩, fun e => ⟨by rw [e, stF_0], FrQ.rf p M⟩, fun e => ⟨by rw [e, stF_1], FrQ.rf p M⟩, fun e => ⟨(hasPan_b pl0 x).1, fun x8 e8 x9 e9 => ⟨by rw [e, stF_2, e9, e8], FrQ.rf p M⟩⟩, fun e => ⟨by rw [e, stF_3], FrQ.rf p M⟩, fun e => ⟨by rw [e, stF_4], FrQ.rf p M⟩, fun e => ⟨by rw [e, stF_5], FrQ.rf p M⟩, fun e => ⟨by rw [e, stF_6], FrQ.rf p M⟩, fun e => ⟨by rw [e, stF_7], FrQ.rf p M⟩, fun e => ⟨by rw [e, stF_8], FrQ.rf p M⟩, fun e => ⟨g0, fun x13 e13 => ⟨by rw [e, stF_9, e13], FrQ.rf p M⟩⟩⟩, fun c => ?_⟩
      exact absurd (e3.symm.trans c) (by decide)
    · obtain ⟨ex, hs⟩ := nI_of' hx (by omega)
      generalize x.toNatClampNeg = s at ex hs
      have hs' : s < ((t0 N).1 (60, 0) 12).toNatClampNeg := by rw [← pl0.n1]; exact hs
      have ps := pl0.s hs'
      rw [ex] at z ⊢
      have et : (nI s).toNatClampNeg = s := nI_t (by omega)
      refine eg_S.of rfl (Nat.le_of_ble_eq_true rfl) (vX11_station_0 (by omega) N _ _ (fun M1 e1 x3 e3 => ?_))
      have e1 : M1 = t0 N := e1
      rw [e1] at e3 ⊢
      refine ⟨fun c => absurd ((c.symm.trans e3).trans z.1) (by decide), fun _ x6 e6 => ?_⟩
      rcases isIn_n (t0 N) y 0 9 with w | w
      · rw [w.1] at e6
        refine ⟨fun c => absurd e6 c, fun _ => ⟨(stF_n (fun q => ?_) (fun q => ?_) (fun q => ?_) (fun q => ?_) (fun q => ?_) (fun q => ?_) (fun q => ?_) (fun q => ?_) (fun q => ?_) (fun q => ?_)).symm, F0⟩⟩ <;> exact w.2 (by rw [q]; decide)
      · have hk : ∃ k, k < 10 ∧ y = nI k := by
          have hy : vp_in y 10 := by
            have := w.2
            rw [t_0, show (9 : Int32).toInt = 9 by decide] at this
            rw [t_in]; omega
          exact ⟨_, (nI_of' hy (by omega)).2, (nI_of' hy (by omega)).1⟩
        obtain ⟨k, hk, ey⟩ := hk
        rw [ey]
        refine ⟨fun _ => ⟨fun c2 => ⟨fun c3 => ⟨fun c9 => ?_, fun c9 x12 e12 => ?_⟩, fun c3 => ⟨ghas_n _ s 2 (by omega), fun x16 e16 => ⟨fun c => ?_, fun c x19 e19 => ?_⟩⟩⟩, fun c2 => ?_⟩, fun c => absurd ((c.symm.trans e6).trans w.1) (by decide)⟩
        · -- the place
          have k9 : k = 9 := by
            have := (nI_le' (a := 9) (by omega) (by omega)).mp c9
            omega
          rw [k9]
          obtain ⟨js, hjs, ej⟩ := row_ix hW.2.2.2.2.1 h.oR hs
          have hjs' : js < cN M p := hjs
          rw [show nI 9 = 9 from rfl, stF_9, place_e h hjs' ej]
          suffices key : ∀ m i, i + m = js → eg_W κ gM mtX11_station 12 (eQI κ gM (fun r' N1 => r' = nI js ∧ FrN N N1)) 86 [(0, vR (60, 0)), (1, vI (nI s)), (3, vI (nI i))] [] (t0 N) from key js 0 (by omega)
          intro m
          have e360 : ∀ i, (360 : Int32) + nI i = nI (360 + i) := fun i => nI_add 360 i
          induction m with
          | zero =>
            intro i hi
            refine vX11_station_86 _ _ _ ?_
            rw [e360]
            refine ⟨nI_in' (by omega) (by omega), fun _ => ⟨by rw [show i = js by omega], F0⟩, fun c => ?_⟩
            rw [nI_t (by omega), e111, show i = js by omega, ← h.row hjs'] at c
            exact absurd ej c
          | succ m ih =>
            intro i hi
            refine vX11_station_86 _ _ _ ?_
            rw [e360]
            refine ⟨nI_in' (by omega) (by omega), fun c => ?_, fun _ x3 e3 => ?_⟩
            · rw [nI_t (by omega), e111, ← h.row (show i < cN M p by omega), ← ej] at c
              exact absurd c (h.oR.2 i js (by omega) hjs)
            · rw [e3, nI_1]
              exact ih (i + 1) (by omega)
        · have a1 : ¬ 9 ≤ k := fun q => c9 ((nI_le' (a := 9) (by omega) (by omega)).mpr q)
          have a2 := (nI_le' (a := 2) (by omega) (by omega)).mp c2
          have a3 : k ≠ 2 := fun q => c3 (by rw [q]; rfl)
          have e : fX11_pan (t0 N) (nI s) + nI k - 2 = nI (320 + 8 * s + (k - 2)) := by
            rw [pan_n, nI_add]
            obtain ⟨j, rfl⟩ : ∃ j, k = j + 2 := ⟨k - 2, by omega⟩
            rw [show 320 + 8 * s + (j + 2) = 320 + 8 * s + j + 1 + 1 by omega, show j + 2 - 2 = j by omega]
            have t : ∀ z : Int32, z - 2 = z - 1 - 1 := fun z => by rw [Int32.sub_sub]; rfl
            rw [t, nI_p, nI_p]
          rw [e12, e]
          refine ⟨nI_in' (by omega) (by omega), ?_, F0⟩
          rw [nI_t (by omega), e111, stF_k _ _ _ (by omega), et, ← ry.p (k - 2) hs (by omega), aT_p _ _ _ _ (by omega) (by omega)]
        · have hz : fX5_hasPan M p (nI s) = 0 := by
            rcases hasPan_m pl0 hs with q | q
            · rcases (hasPan_b pl0 (nI s)).2 with q2 | q2
              · exact q2.1
              · exact absurd q.2 (by rw [et] at q2; exact q2.2.2)
            · exact absurd (q.1.symm.trans (e16.symm.trans c)) (by decide)
          refine ⟨?_, F0⟩
          rw [c3, stF_2, if_pos hz]
        · have hz : ¬ fX5_hasPan M p (nI s) = 0 := by
            rcases hasPan_m pl0 hs with q | q
            · exact absurd (e16.trans q.1) c
            · rcases (hasPan_b pl0 (nI s)).2 with q2 | q2
              · exact absurd ⟨nI_in' hs (by omega), by rw [et]; exact q.2⟩ q2.2
              · rw [q2.1]; decide
          rw [e19, pan_n]
          refine ⟨nI_in' (by omega) (by omega), ?_, F0⟩
          rw [nI_t (by omega), c3, stF_2, if_neg hz, e111, et, ← ry.p0 hs]
          exact (aT_p M 0 s 0 (by omega) (by omega))
        · have a2 : k < 2 := Nat.lt_of_not_le (fun q => c2 ((nI_le' (a := 2) (by omega) (by omega)).mpr q))
          have k01 : k = 0 ∨ k = 1 := by omega
          rcases k01 with q | q
          · rw [q]
            refine ⟨ghas_n _ s 0 (by omega), fun x23 e23 => ⟨?_, F0⟩⟩
            rw [e23, has_n _ s 0 (by omega) (by omega), show nI 0 = 0 from rfl, stF_0, et, ps.2.1.2]; rfl
          · rw [q]
            refine ⟨ghas_n _ s 1 (by omega), fun x23 e23 => ⟨?_, F0⟩⟩
            rw [e23, has_n _ s 1 (by omega) (by omega), show nI 1 = 1 from rfl, stF_1, et, ps.2.2.1.2]
