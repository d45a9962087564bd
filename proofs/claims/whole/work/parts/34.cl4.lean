section
variable {κ : eg_K} {d : Nat} {M : eg_H} {t p : Nat} {nm st : Nat → Int64} {Z : Nat → Int32}
theorem sX7_takersAt (ht : t < 4) (hq : qW Z) (l1 : Int32) : eg_S κ gC mtX7_takersAt d [vR (7, t), vI l1] (TX M t p nm st Z) (eQI κ gC (fun r M1 => r = sm (tkF Z l1) (Z 1).toNatClampNeg ∧ M1 = TX M t p nm st Z)) := by
  obtain ⟨h1, h2⟩ := hq
  obtain ⟨e, hlt⟩ := nI_of' h1 (by omega)
  generalize (Z 1).toNatClampNeg = q at e hlt h2 ⊢
  refine eg_S.of rfl (Nat.le_of_ble_eq_true rfl) (vX7_takersAt_0 _ ht _ ?_)
  refine eg_down (P := fun i => eg_W κ gC mtX7_takersAt d (eQI κ gC (fun r M1 => r = sm (tkF Z l1) q ∧ M1 = TX M t p nm st Z)) 4 [(0, vR (7, t)), (1, vI l1), (2, vI (sm (tkF Z l1) i)), (3, vI (nI i))] [] (TX M t p nm st Z)) q (fun i hi k => ?_) ?_
  · have hk := h2 i hi
    obtain ⟨e4, hlt4⟩ := nI_of' hk (by omega)
    refine vX7_takersAt_4 _ ht _ _ _ ?_
    rw [T7_6, e, nI_t (by omega), T43 _ _ _ _ _ _ (by omega)]
    refine ⟨fun c => absurd c (nI_ge hi (by omega)), fun _ => ⟨nI_in' (by omega) (by omega), hk, ?_⟩⟩
    have kk : ∀ z, z = tkF Z l1 i → eg_W κ gC mtX7_takersAt d (eQI κ gC (fun r M1 => r = sm (tkF Z l1) q ∧ M1 = TX M t p nm st Z)) 4 [(0, vR (7, t)), (1, vI l1), (2, vI (sm (tkF Z l1) i + z)), (3, vI (nI (i + 1)))] [] (TX M t p nm st Z) := by
      intro z hz
      subst hz
      exact k
    have ev : tkF Z l1 i = if 0 < Z (23 + 20 * (Z (2 + i)).toNatClampNeg) ∧ Z (21 + 20 * (Z (2 + i)).toNatClampNeg) = l1 then 1 else 0 := rfl
    generalize (Z (2 + i)).toNatClampNeg = g at e4 hlt4 ev
    have e0 : ∀ z, tkF Z l1 i = 0 → z = nI i + 1 → eg_W κ gC mtX7_takersAt d (eQI κ gC (fun r M1 => r = sm (tkF Z l1) q ∧ M1 = TX M t p nm st Z)) 4 [(0, vR (7, t)), (1, vI l1), (2, vI (sm (tkF Z l1) i)), (3, vI z)] [] (TX M t p nm st Z) := by
      intro z hz hz2
      have := kk 0 hz.symm
      rw [Int32.add_zero] at this
      rw [hz2, (nAl i).2.1]
      exact this
    rw [T2_4 _ _ _ _ _ _ hlt4, T2_1 _ _ _ _ _ _ hlt4, show 20 + 20 * g + 3 = 23 + 20 * g by omega, show 20 + 20 * g + 1 = 21 + 20 * g by omega]
    refine ⟨fun c x5 e5 => e0 _ (ev.trans (if_neg (fun h => absurd h.1 (Int32.not_lt.mpr c)))) e5, fun c => ⟨fun c2 x7 e7 => e0 _ (ev.trans (if_neg (fun h => c2 h.2))) e7, fun c2 x8 e8 x9 e9 => ?_⟩⟩
    rw [e8, e9, (nAl i).2.1]
    exact kk 1 (ev.trans (if_pos ⟨Int32.not_le.mp c, c2⟩)).symm
  · refine vX7_takersAt_4 _ ht _ _ _ ?_
    rw [T7_6, e]
    exact ⟨fun _ => ⟨rfl, rfl⟩, fun c => absurd (nI_le (Nat.le_refl q) (by omega)) c⟩
/-- the place of the next, the number of stations for the end -/
def cnx (Y : Nat → Int32) (n g : Nat) : Int32 := if nxF Y n g < 0 then nI n else nxF Y n g
theorem sX7_nextPlace (ht : t < 4) (hW : cW M p) (hT : M.2.2 (7, t) 0 = (5, p)) {C : Nat} {Y : Nat → Int32} (hY : yI (cE M p) C Y) (hR : RY (cE M p) Z Y) {g : Nat} (hg : g < cP M p) (h1 : Y (20 + 20 * g) = 1) : eg_S κ gC mtX7_nextPlace d [vR (7, t), vR (2, 15 * t + g)] (TX M t p nm st Z) (eQI κ gC (fun r M1 => r = cnx Y (cN M p) g ∧ M1 = TX M t p nm st Z)) := by
  obtain ⟨eN', hn⟩ := cN_e hW
  have hN := (cP_e hW).2
  have hp2 := hW.1
  have hl := hR.l (show g < eP (cE M p) from hg) h1
  have hgI := hY.2.2.1 g hg
  unfold gI at hgI
  obtain ⟨i1, i2, i3, i4, i5⟩ := hgI
  have i2 := i2 h1
  have hrm : Z (20 + 20 * g + 2) = Y (20 + 20 * g + 2) := hR.g 2 hg (by omega)
  have hps : Z (20 + 20 * g + 1) = Y (20 + 20 * g + 1) := hR.g 1 hg (by omega)
  refine eg_S.of rfl (Nat.le_of_ble_eq_true rfl) (vX7_nextPlace_0 _ ht (by omega) ?_)
  rw [T2_2 _ _ _ _ _ _ (by omega), T2_5 _ _ _ _ _ _ (by omega), T2_1 _ _ _ _ _ _ (by omega), hrm, hps, hl.2.2]
  have c22 : 22 + 20 * g = 20 + 20 * g + 2 := by omega
  have c30 : 30 + 20 * g = 20 + 20 * g + 10 := by omega
  have c21 : 21 + 20 * g = 20 + 20 * g + 1 := by omega
  refine ⟨fun c x2 e2 => ?_, fun c => ⟨p, hp2, hT, ?_, rfl⟩⟩
  · have es : x2 = nxS Y g := by
      rw [e2]
      unfold nxS
      rw [c30, c21]
      rcases i2 with q | q
      · rw [q, if_pos rfl, if_neg (by decide)]
      · rw [q.1, if_neg (by decide), if_pos rfl]
    have hs : vp_in (nxS Y g) (cN M p + 1) := by
      unfold nxS
      rw [c30, c21, t_in]
      have hn1 : (eN (cE M p) : Int) = (cN M p : Int) := rfl
      rcases i2 with q | q
      · rw [q, if_neg (by decide), t_add (by rw [t_1]; omega) (by rw [t_1]; omega), t_1]
        omega
      · rw [q.1, if_pos rfl]
        omega
    obtain ⟨ex, hx⟩ := nI_of' hs (by omega)
    have hnz : ¬ Y (22 + 20 * g) = 0 := by
      rw [c22]
      intro q
      rw [q] at c
      exact absurd c (by decide)
    have hcn : cnx Y (cN M p) g = if fst1 (fun p => decide (0 < Y (34 + 20 * g + (Y (360 + p)).toNatClampNeg))) (nxS Y g).toNatClampNeg (cN M p - (nxS Y g).toNatClampNeg) < 0 then nI (cN M p) else fst1 (fun p => decide (0 < Y (34 + 20 * g + (Y (360 + p)).toNatClampNeg))) (nxS Y g).toNatClampNeg (cN M p - (nxS Y g).toNatClampNeg) := by
      unfold cnx nxF
      rw [if_neg hnz]
    rw [hcn, es, ex, nI_t (by omega)]
    generalize (nxS Y g).toNatClampNeg = a at hx ⊢
    have step : ∀ k i, k = cN M p - i → i ≤ cN M p → (fun v : Int32 => ∀ w, w = (if v < 0 then nI (cN M p) else v) → eg_W κ gC mtX7_nextPlace d (eQI κ gC (fun r M1 => r = w ∧ M1 = TX M t p nm st Z)) 36 [(0, vR (7, t)), (1, vR (2, 15 * t + g)), (2, vI (nI i))] [] (TX M t p nm st Z)) (fst1 (fun p => decide (0 < Y (34 + 20 * g + (Y (360 + p)).toNatClampNeg))) i k) := by
      intro k
      induction k with
      | zero =>
        intro i hi hi2 w hw
        have : i = cN M p := by omega
        subst this
        refine vX7_nextPlace_36 _ ht (by omega) _ ⟨p, hp2, hT, fun _ => ⟨?_, rfl⟩, fun c3 => absurd (by rw [T5, eN']; exact Int32.le_refl _) c3⟩
        rw [hw]
        exact (if_pos (by show (-1 : Int32) < 0; decide)).symm
      | succ k ih =>
        intro i hi hi2 w hw
        have hrow := hY.2.1.1 i (show i < eN (cE M p) by show i < cN M p; omega)
        have hrow' : vp_in (Y (360 + i)) 5 := fun q => hrow (q.imp_right (fun r => by have : eN (cE M p) < 6 := hn; omega))
        have hrl := vp_lt hrow'
        have hzr : Z (360 + i) = Y (360 + i) := hR.r (show i < eN (cE M p) by show i < cN M p; omega)
        refine vX7_nextPlace_36 _ ht (by omega) _ ⟨p, hp2, hT, fun c3 => ?_, fun _ => ?_⟩
        · rw [T5, eN'] at c3
          exact absurd ((nI_le' (by omega) (by omega)).mp c3) (by omega)
        · rw [nI_t (by omega), T40 _ _ _ _ _ _ (by omega), hzr, T22 _ _ _ _ _ _ (by omega) hrl, hR.w (show g < eP (cE M p) from hg) hrl]
          have i6 : 0 ≤ (Y (20 + 20 * g + 14 + (Y (360 + i)).toNatClampNeg)).toInt ∧ (Y (20 + 20 * g + 14 + (Y (360 + i)).toNatClampNeg)).toInt ≤ 9 := i5 _ hrl
          have c34 : 34 + 20 * g + (Y (360 + i)).toNatClampNeg = 20 + 20 * g + 14 + (Y (360 + i)).toNatClampNeg := by omega
          refine ⟨nI_in' (by omega) (by omega), hrow', fun c4 => ⟨?_, rfl⟩, fun c4 x6 e6 => ?_⟩
          · have hd2 : decide (0 < Y (34 + 20 * g + (Y (360 + i)).toNatClampNeg)) = true := by
              apply decide_eq_true
              rw [c34, t_lt, t_0]
              rw [t_eq, t_0] at c4
              omega
            rw [hw]
            have ef : fst1 (fun p => decide (0 < Y (34 + 20 * g + (Y (360 + p)).toNatClampNeg))) i (k + 1) = nI i := if_pos hd2
            rw [ef, if_neg (nI_pos (by omega))]
          · have hd2 : ¬ decide (0 < Y (34 + 20 * g + (Y (360 + i)).toNatClampNeg)) = true := by
              rw [c34, c4]
              decide
            have ef : fst1 (fun p => decide (0 < Y (34 + 20 * g + (Y (360 + p)).toNatClampNeg))) i (k + 1) = fst1 (fun p => decide (0 < Y (34 + 20 * g + (Y (360 + p)).toNatClampNeg))) (i + 1) k := if_neg hd2
            rw [ef] at hw
            rw [e6, (nAl i).2.1]
            exact ih (i + 1) (by omega) (by omega) w hw
    exact step _ a rfl (by omega) _ rfl
  · have hz : Y (22 + 20 * g) = 0 := by
      rw [c22, t_eq, t_0]
      rw [t_lt, t_0] at c
      omega
    rw [T5, eN']
    unfold cnx nxF
    rw [if_pos hz, if_pos (by decide)]
end
