theorem qI.nq {E : eg_E} {Y : Nat → Int32} (hE : wE E) (h : qI E Y) {i : Nat} (hi : i < (Y 1).toNatClampNeg) : ¬ inQ Y i (Y (2 + i)).toNatClampNeg := by
  have hN := hE.2.1
  intro ⟨k, hk, e⟩
  apply h.2.2 k i hk hi
  rw [(nI_of' (h.2.1 k (by omega)).1 (by omega)).1, (nI_of' (h.2.1 i hi).1 (by omega)).1, e]
/-- one more block of a calm second -/
theorem CF_Ur {E : eg_E} {Y : Nat → Int32} (hE : wE E) (h : qI E Y) {i : Nat} (hi : i < (Y 1).toNatClampNeg) (n : Int32) : CF (Ur n) Y (i + 1) = if Y (20 + 20 * (Y (2 + i)).toNatClampNeg + 3) ≤ 0 then upd (CF (Ur n) Y i) (20 + 20 * (Y (2 + i)).toNatClampNeg + 4) (Y (20 + 20 * (Y (2 + i)).toNatClampNeg + 4) + n) else upd (CF (Ur n) Y i) (20 + 20 * (Y (2 + i)).toNatClampNeg + 3) (Y (20 + 20 * (Y (2 + i)).toNatClampNeg + 3) - n) := by
  have hN := hE.2.1
  have hq := h.nq hE hi
  have hg := vp_lt (h.2.1 i hi).1
  generalize eg : (Y (2 + i)).toNatClampNeg = g at hq hg ⊢
  by_cases c : Y (20 + 20 * g + 3) ≤ 0
  · rw [if_pos c]
    refine (CF_s (g := g) ?_ (by omega) hq _ (fun f hf => ?_) (fun j hj => pk_un (by omega))).symm
    · exact eg
    · by_cases c4 : f = 4
      · subst c4
        rw [pk_us]
        unfold Ur
        rw [if_pos rfl, if_pos c]
      · rw [pk_un (by omega), CF_out hf hq]
        unfold Ur
        rw [if_neg c4]
        by_cases c3 : f = 3
        · rw [if_pos c3, if_pos c, c3]
        · rw [if_neg c3]
  · rw [if_neg c]
    refine (CF_s (g := g) ?_ (by omega) hq _ (fun f hf => ?_) (fun j hj => pk_un (by omega))).symm
    · exact eg
    · by_cases c3 : f = 3
      · subst c3
        rw [pk_us]
        unfold Ur
        rw [if_neg (by decide), if_pos rfl, if_neg c]
      · rw [pk_un (by omega), CF_out hf hq]
        unfold Ur
        by_cases c4 : f = 4
        · rw [if_pos c4, if_neg c, c4]
        · rw [if_neg c4, if_neg c3]
section
variable {κ : eg_K} {d : Nat} {M : eg_H} {t p : Nat} {nm st : Nat → Int64} {Z : Nat → Int32}
theorem sX7_repeatCalm (ht : t < 4) (hW : cW M p) (hT : M.2.2 (7, t) 0 = (5, p)) {C : Nat} {Y : Nat → Int32} (hY : yI (cE M p) C Y) (hR : RY (cE M p) Z Y) (n : Int32) : eg_S κ gC mtX7_repeatCalm d [vR (7, t), vI n] (TX M t p nm st Z) (eQV κ gC (fun M1 => ∃ Z1, M1 = TX M t p nm st Z1 ∧ RY (cE M p) Z1 (if 0 < n then repF (cE M p) n Y else Y))) := by
  have hE := hW.2.2.2.2.1
  obtain ⟨en, hn⟩ := cN_e hW
  have hp2 := hW.1
  have hq := hY.q16 hE
  have qe := hY.qe hE
  have hPP : eP (cE M p) < 16 := hE.2.1
  refine eg_S.of rfl (Nat.le_of_ble_eq_true rfl) (vX7_repeatCalm_0 _ ht _ ⟨fun c M2 e2 => ?_, fun c => ⟨Z, rfl, by rw [if_neg c]; exact hR⟩⟩)
  rw [if_pos c]
  rw [T7_1, W7_1, hR.s] at e2
  subst e2
  -- the pans
  have k75 : ∀ Z1, RY (cE M p) Z1 (upd (CF (Ur n) Y (Y 1).toNatClampNeg) 0 (Y 0 + n)) → eg_W κ gC mtX7_repeatCalm d (eQV κ gC (fun M1 => ∃ Z1, M1 = TX M t p nm st Z1 ∧ RY (cE M p) Z1 (repF (cE M p) n Y))) 75 [(0, vR (7, t)), (1, vI n), (2, vI (0 : Int32))] [] (TX M t p nm st Z1) := by
    intro Z1 r1
    unfold repF
    have y1 : (upd (CF (Ur n) Y (Y 1).toNatClampNeg) 0 (Y 0 + n)) 1 = Y 1 := by rw [pk_un (by omega), CF_o (by omega)]
    generalize upd (CF (Ur n) Y (Y 1).toNatClampNeg) 0 (Y 0 + n) = A at *
    refine eg_down (P := fun i => ∀ Z1, RY (cE M p) Z1 (PF (cE M p) n i A) → eg_W κ gC mtX7_repeatCalm d (eQV κ gC (fun M1 => ∃ Z1, M1 = TX M t p nm st Z1 ∧ RY (cE M p) Z1 (PF (cE M p) n (cN M p) A))) 75 [(0, vR (7, t)), (1, vI n), (2, vI (nI i))] [] (TX M t p nm st Z1)) (cN M p) (fun i hi k Z1 r1 => ?_) (fun Z1 r1 => ?_) Z1 (by rw [PF_0]; exact r1)
    · rw [PF_s] at k
      have hi' : i < eN (cE M p) := hi
      have p1 : PF (cE M p) n i A 1 = Y 1 := by rw [PF_o (Or.inl (by omega)), y1]
      have ed2 : eD (cE M p) i 2 = M.1 (1, 5 * p + i) 3 := eD_c hi 2
      have hd2 := (hE.2.2.1 i hi').2.1
      have a0 := r1.p0 hi'
      have a1 := r1.p 1 hi' (by omega)
      have a5 := r1.p 5 hi' (by omega)
      have hqq : (PF (cE M p) n i A 1).toNatClampNeg < 16 := by rw [p1]; exact hq
      generalize PF (cE M p) n i A = B at *
      refine vX7_repeatCalm_75 _ ht _ _ ⟨p, hp2, hT, fun c2 => ?_, fun c2 => ?_⟩
      · rw [T5, en] at c2
        exact absurd c2 (nI_ge hi (by omega))
      · rw [nI_t (by omega), T1, ← ed2, (nAl i).2.1]
        refine ⟨nI_in' (by omega) (by omega), fun c3 x5 e5 => ?_, fun c3 M6 e6 x7 e7 M8 e8 x9 e9 => ?_⟩
        · rw [if_pos (by rw [t_eq, t_0]; rw [t_le, t_0] at c3; omega)] at k
          rw [e5]
          exact k Z1 r1
        · rw [if_neg (fun q => c3 (by rw [q]; exact Int32.le_refl _))] at k
          rw [T4_1 _ _ _ _ _ _ (by omega), W4_1 _ _ _ _ _ _ (by omega), a1] at e6
          subst e6
          rw [T4_0 _ _ _ _ _ _ (by omega), pk_un (by omega), a0] at e7
          rw [T4_5 _ _ _ _ _ _ (by omega), W4_5 _ _ _ _ _ _ (by omega), pk_un (by omega), a5] at e8
          rw [e8, e9]
          have e10 : x7 = if B (320 + 8 * i) = 0 then n else 0 := by
            rw [e7]
            by_cases q : B (320 + 8 * i) = 0
            · rw [if_pos q, if_neg (fun r => r q)]
            · rw [if_neg q, if_pos q]
          rw [e10]
          exact k _ (RY_u (RY_u r1 hE hqq (by unfold spj; omega) _) hE (by rw [pk_un (by omega)]; exact hqq) (by unfold spj; omega) _)
    · refine vX7_repeatCalm_75 _ ht _ _ ⟨p, hp2, hT, fun _ => ⟨Z1, rfl, r1⟩, fun c => ?_⟩
      rw [T5, en] at c
      exact absurd (Int32.le_refl _) c
  refine eg_down (P := fun i => ∀ Z1, RY (cE M p) Z1 (upd (CF (Ur n) Y i) 0 (Y 0 + n)) → eg_W κ gC mtX7_repeatCalm d (eQV κ gC (fun M1 => ∃ Z1, M1 = TX M t p nm st Z1 ∧ RY (cE M p) Z1 (repF (cE M p) n Y))) 17 [(0, vR (7, t)), (1, vI n), (2, vI (nI i))] [] (TX M t p nm st Z1)) (Y 1).toNatClampNeg (fun i hi k Z1 r1 => ?_) (fun Z1 r1 => ?_) _ (by rw [CF_0]; exact RY_u hR hE hq (by unfold spj; omega) _)
  · rw [CF_Ur hE hY.1 hi] at k
    have y1 : (upd (CF (Ur n) Y i) 0 (Y 0 + n)) 1 = Y 1 := by rw [pk_un (by omega), CF_o (by omega)]
    have yk : (upd (CF (Ur n) Y i) 0 (Y 0 + n)) (2 + i) = Y (2 + i) := by rw [pk_un (by omega), CF_o (by omega)]
    obtain ⟨eg, hg⟩ := nI_of' (hY.1.2.1 i hi).1 (by omega)
    have hnq := hY.1.nq hE hi
    have ezk : Z1 (2 + i) = nI (Y (2 + i)).toNatClampNeg := by rw [r1.k (by rw [y1]; exact hi), yk]; exact eg
    generalize (Y (2 + i)).toNatClampNeg = g at *
    have y3 : (upd (CF (Ur n) Y i) 0 (Y 0 + n)) (20 + 20 * g + 3) = Y (20 + 20 * g + 3) := by rw [pk_un (by omega), CF_out (by omega) hnq]
    have y4 : (upd (CF (Ur n) Y i) 0 (Y 0 + n)) (20 + 20 * g + 4) = Y (20 + 20 * g + 4) := by rw [pk_un (by omega), CF_out (by omega) hnq]
    have a3 := r1.g 3 hg (by omega)
    have a4 := r1.g 4 hg (by omega)
    rw [y3] at a3
    rw [y4] at a4
    have hqq : ((upd (CF (Ur n) Y i) 0 (Y 0 + n)) 1).toNatClampNeg < 16 := by rw [y1]; exact hq
    refine vX7_repeatCalm_17 _ ht _ _ ?_
    rw [T7_6, r1.q, y1, nI_t (show i < 2147483648 by omega), T43 _ _ _ _ _ _ (by omega), ezk, nI_t (by omega), T2_4 _ _ _ _ _ _ (by omega), T2_7 _ _ _ _ _ _ (by omega), a3, a4, W2_4 _ _ _ _ _ _ (by omega), W2_7 _ _ _ _ _ _ (by omega), (nAl i).2.1]
    refine ⟨fun c2 => ?_, fun _ => ⟨nI_in' (by omega) (by omega), nI_in' (by omega) (by omega), fun c2 M5 e5 x6 e6 => ?_, fun c2 M7 e7 x8 e8 => ?_⟩⟩
    · rw [qe] at c2
      exact absurd c2 (nI_ge hi (by omega))
    · rw [if_pos c2, ← upd_comm _ _ _ (show 0 ≠ 20 + 20 * g + 4 by omega)] at k
      rw [e5, e6]
      exact k _ (RY_u r1 hE hqq (by unfold spj; omega) _)
    · rw [if_neg c2, ← upd_comm _ _ _ (show 0 ≠ 20 + 20 * g + 3 by omega)] at k
      rw [e7, e8]
      exact k _ (RY_u r1 hE hqq (by unfold spj; omega) _)
  · have y1 : (upd (CF (Ur n) Y (Y 1).toNatClampNeg) 0 (Y 0 + n)) 1 = Y 1 := by rw [pk_un (by omega), CF_o (by omega)]
    refine vX7_repeatCalm_17 _ ht _ _ ⟨fun _ => k75 Z1 r1, fun c2 => ?_⟩
    rw [T7_6, r1.q, y1, ← qe] at c2
    exact absurd (Int32.le_refl _) c2
end
