/-! A QUESTION'S RUN on both sides: the class by plan q of M, the model by Q -/
def QS (M : eg_H) (q : Nat) (Q : eg_H) (R : Nat → Int32) : Prop := cW M q ∧ wE2 (cE M q) ∧ oR (cE M q) R ∧ EQ (cE M q) (mE Q) ∧ mW Q ∧ (∀ g, g < NM Q → ¬ coM Q g = -1) ∧ (∀ k, k < cN M q → R k = Q.1 (126, 0) k) ∧ ∀ j, 366 ≤ j → Q.1 (110, 0) j = 0
/-- the array behind n seconds -/
def rF (Q : eg_H) (n : Nat) : Nat → Int32 := secN (mE Q) n (begM Q)
section
variable {M : eg_H} {q : Nat} {Q : eg_H} {R : Nat → Int32}
theorem QS.wE (h : QS M q Q R) : wE (mE Q) := wE_EQ h.2.2.2.1 h.1.2.2.2.2.1
theorem QS.oQ (h : QS M q Q R) : oR (mE Q) (Q.1 (126, 0)) := by
  have h1 := oR_EQ h.2.2.2.1 h.2.2.1
  have e : eN (mE Q) = cN M q := h.2.2.2.1.1.symm
  have h2 := h.2.2.2.2.2.2.1
  refine ⟨fun k hk => ?_, fun a b hab hb => ?_⟩
  · rw [← h2 k (by rw [← e]; exact hk)]; exact h1.1 k hk
  · rw [← h2 a (by rw [← e]; omega), ← h2 b (by rw [← e]; exact hb)]; exact h1.2 a b hab hb
theorem QS.bgQ (h : QS M q Q R) : bgY (mE Q) (Q.1 (126, 0)) (begM Q) := begM_bg (nM_le h.2.2.2.2.1).2 (NM_le h.2.2.2.2.1).2 h.2.2.2.2.2.1
theorem QS.bgC (h : QS M q Q R) : bgY (cE M q) R (begM Q) := by
  have b := bgY_EQ h.2.2.2.1.symm h.bgQ
  refine ⟨b.1, b.2.1, fun k hk => ?_, b.2.2.2⟩
  rw [b.2.2.1 k hk]
  exact (h.2.2.2.2.2.2.1 k hk).symm
theorem QS.T0 (h : QS M q Q R) : TI (mE Q) 119 (begM Q) := bg_T h.wE (wE2_EQ h.2.2.2.1 h.2.1) h.oQ (by omega) h.bgQ
theorem QS.y0 (h : QS M q Q R) : (begM Q 0).toInt = 0 := by rw [h.bgQ.1]; decide
theorem QS.T (h : QS M q Q R) {n : Nat} (hn : n ≤ 3600) : TI (mE Q) 119 (rF Q n) := h.T0.sec h.wE (by omega) (by omega) n (by rw [h.y0]; omega)
theorem QS.hi (h : QS M q Q R) {n : Nat} (hn : n ≤ 3600) {j : Nat} (hj : 366 ≤ j) : rF Q n j = 0 := by
  unfold rF
  rw [secN_j h.wE (C := 119) (by omega) (by omega) h.T0.1 hj n (by rw [h.y0]; omega), begM_hi _ (nM_le h.2.2.2.2.1).2 (NM_le h.2.2.2.2.1).2 hj]
  exact h.2.2.2.2.2.2.2 j hj
theorem QS.run (h : QS M q Q R) {κ : eg_K} {d : Nat} (hd : 8 ≤ d) {n : Nat} (hn : n ≤ 3600) (nm : Nat → Int64) (s : (Nat → Int64) × Int32) (Y : Nat → Int32) (hY : ∀ j, 366 ≤ j → Y j = 0) : eg_S κ gM mtX11_runs d [vR (60, 0), vI (nI n)] (SX Q nm s Y) (eQV κ gM (fun M1 => ∃ nm1 s1, M1 = SX Q nm1 s1 (rF Q n))) := by
  obtain ⟨w, e2, o, eq, mw, co, r, jk⟩ := h
  have h : QS M q Q R := ⟨w, e2, o, eq, mw, co, r, jk⟩
  have eE : mE (SX Q nm s Y) = mE Q := mE_SX _ _ _ _
  have eB : begM (SX Q nm s Y) = begM Q := begM_SX _ _ _ _ (fun j hj => by rw [hY j hj, jk j hj])
  have e126 : (SX Q nm s Y).1 (126, 0) = Q.1 (126, 0) := SX_o _ _ _ _ (by decide) (by decide)
  have eN2 : NM (SX Q nm s Y) = NM Q := by unfold NM; rw [SX_ev]
  have en : nM (SX Q nm s Y) = nM Q := by unfold nM; rw [SX_f _ _ _ _ (by decide)]
  have eco : ∀ g, coM (SX Q nm s Y) g = coM Q g := fun g => by
    unfold coM
    rw [SX_o _ _ _ _ (r := (91, 0)) (by decide) (by decide), SX_o _ _ _ _ (r := (125, 0)) (by decide) (by decide)]
  have mw' : mW (SX Q nm s Y) := by
    refine ⟨by rw [SX_f _ _ _ _ (by decide)]; exact mw.1, by rw [SX_ev]; exact mw.2.1, fun t ht => ?_, fun l hl => lwW_SX (mw.2.2.2 l hl) _ _ _⟩
    have ed : dM (SX Q nm s Y) t 2 = dM Q t 2 := by
      unfold dM
      rw [SX_o _ _ _ _ (by decide) (by decide), SX_f _ _ _ _ (by decide), SX_f _ _ _ _ (by decide), SX_f _ _ _ _ (by decide), SX_f _ _ _ _ (by decide), SX_f _ _ _ _ (by decide), SX_f _ _ _ _ (by decide)]
    rw [ed, SX_o _ _ _ _ (by decide) (by decide)]
    exact mw.2.2.1 t (by rw [← en]; exact ht)
  have k := sX11_runs (κ := κ) (d := d) hd mw' (by rw [eE]; exact h.wE) (by rw [eE]; exact wE2_EQ eq e2) (by rw [eE, e126]; exact h.oQ) (fun g hg => by rw [eco]; exact co g (by rw [← eN2]; exact hg)) hn
  rw [eE, eB] at k
  refine k.mono ?_
  unfold eQV
  congr 1
  funext M1
  apply propext
  constructor
  · rintro ⟨nm1, s1, e⟩
    exact ⟨nm1, s1, by rw [e, SX_SX]; rfl⟩
  · rintro ⟨nm1, s1, e⟩
    exact ⟨nm1, s1, by rw [e, SX_SX]; rfl⟩
end
theorem sR_at (M : eg_H) (a : eg_R) (k : Nat) (r : eg_R) : (sR M a k r).2.2 a k = r := if_pos ⟨rfl, rfl⟩
/-- the class's trial behind a run by plan q -/
def trP (M : eg_H) (q : Nat) (Y : Nat → Int32) (M1 : eg_H) : Prop := ∃ nm st Z, M1 = TX (sR M (7, 1) 0 (5, q)) 1 q nm st Z ∧ RY (cE M q) Z Y
section
variable {M M1 : eg_H} {q : Nat} {Q : eg_H} {R : Nat → Int32} {Y : Nat → Int32}
theorem trP.o (h : trP M q Y M1) {r : eg_R} (hr : ¬ tOf r 1) : M1.1 r = M.1 r := by
  obtain ⟨nm, st, Z, e, _⟩ := h
  rw [e, TX_fr _ _ _ _ _ _ hr]
  rfl
theorem trP.r (h : trP M q Y M1) {r : eg_R} (k : Nat) (hr : r ≠ (7, 1)) : M1.2.2 r k = M.2.2 r k := by
  obtain ⟨nm, st, Z, e, _⟩ := h
  rw [e]
  show (if r = (7, 1) ∧ k = 0 then _ else _) = _
  rw [if_neg (fun c => hr c.1)]
theorem trP.p (h : trP M q Y M1) : M1.2.2 (7, 1) 0 = (5, q) := by
  obtain ⟨nm, st, Z, e, _⟩ := h
  rw [e]
  exact sR_at M (7, 1) 0 (5, q)
theorem trP.Fr (h : trP M q Y M1) (p : Nat) : FrQ p M M1 := ⟨fun r _ ht _ _ _ => h.o ht, fun r k hr => h.r k hr⟩
theorem trP.g (h : trP M q Y M1) {g k f : Nat} (hk : gfX k = f + 1) (hf : 1 ≤ f ∧ f ≤ 9) (hg : g < cP M q) (h15 : g < 15) : M1.1 (2, 15 * 1 + g) k = Y (20 + 20 * g + f) := by
  obtain ⟨nm, st, Z, e, hR⟩ := h
  rw [e, TX_rd (cX_2 1 h15 hk)]
  exact hR.g f hg (Or.inl hf)
theorem trP.s (h : trP M q Y M1) {s k : Nat} (hk : k < 7) (hs : s < cN M q) (h5 : s < 5) : M1.1 (4, 5 * 1 + s) k = Y (320 + 8 * s + k) := by
  obtain ⟨nm, st, Z, e, hR⟩ := h
  rw [e, TX_rd (cX_4 1 h5 hk)]
  exact hR.p k hs hk
theorem trP.t (h : trP M q Y M1) : M1.1 (7, 1) 1 = Y 0 := by
  obtain ⟨nm, st, Z, e, hR⟩ := h
  rw [e, T7_1]
  exact hR.s
theorem trP.wt (h : trP M q Y M1) (hW : cW M q) : gX7_waitedByAll M1 1 ∧ fX7_waitedByAll M1 1 = sm (fun g => Y (20 + 20 * g + 4)) (cP M q) := by
  have hp := h.p
  have h5 : M1.1 (5, q) = M.1 (5, q) := h.o (nT_k (by omega))
  have hP := cP_e hW
  refine ⟨⟨by rw [hp]; exact hW.1, by rw [hp], by rw [hp, h5]; exact hW.2.2.1⟩, ?_⟩
  unfold fX7_waitedByAll
  rw [hp, h5]
  exact sm_cong (fun g hg => h.g (f := 4) rfl (by omega) hg (by have : g < cP M q := hg; omega))
/-- the second half: the seconds -/
theorem QS.go (h : QS M q Q R) {κ : eg_K} {d : Nat} (hd : 6 ≤ d) {n : Nat} (hn : n ≤ 3600) {nm st : Nat → Int64} {Z : Nat → Int32} (hZ : bgZ (cE M q) R Z) : eg_S κ gC mtX7_go d [vR (7, 1), vI (nI n)] (TX (sR M (7, 1) 0 (5, q)) 1 q nm st Z) (eQV κ gC (fun M1 => trP M q (rF Q n) M1)) := by
  have hW := h.1
  have hT : (sR M (7, 1) 0 (5, q)).2.2 (7, 1) 0 = (5, q) := sR_at M (7, 1) 0 (5, q)
  have hE := hW.2.2.2.2.1
  have I0 := bg_I (C := 119) hE h.2.1 h.2.2.1 (by omega) h.bgC
  have k := sX7_go (κ := κ) (d := d) (M := sR M (7, 1) 0 (5, q)) (t := 1) (p := q) (nm := nm) (st := st) (Z := Z) hd (by omega) hW hT (C := 119) (by omega) (by omega) (Y := begM Q) I0 (bg_R hE hZ h.bgC) (n := n) (by rw [h.y0]; omega)
  refine k.mono ?_
  unfold eQV
  congr 1
  funext M1
  apply propext
  have e : secN (cE (sR M (7, 1) 0 (5, q)) q) n (begM Q) = rF Q n := secN_EQ h.2.2.2.1 _ n
  rw [e]
  exact Iff.rfl
theorem QS.waitedBy (h : QS M q Q (M.1 (40, 0))) {κ : eg_K} {d : Nat} (hd : 7 ≤ d) {n : Nat} (hn : n ≤ 3600) : eg_S κ gC mtX10_waitedBy d [vR (10, 0), vR (5, q), vI (nI n)] M (eQI κ gC (fun r M1 => r = sm (fun g => rF Q n (20 + 20 * g + 4)) (cP M q) ∧ trP M q (rF Q n) M1)) := by
  have hW := h.1
  refine eg_S.of rfl (Nat.le_of_ble_eq_true rfl) (vX10_waitedBy_0 (by omega) M hW.1 _ ⟨_, sX7_begin (d := d - 1) (by omega) (t := 1) (by omega) hW (anC_40 (j := 0) (by decide)) (by omega) (fun k _ => cXo_40 (t0 := 1) (t1 := 0) (by decide) k), fun M1 ⟨Z1, e1, b1⟩ => ?_⟩)
  rw [e1]
  refine ⟨_, h.go (by omega) hn b1, fun M3 t3 => ?_⟩
  obtain ⟨g3, w3⟩ := t3.wt hW
  exact ⟨g3, fun x7 e7 => ⟨by rw [e7, w3], t3⟩⟩
end
/-- how the model sums -/
theorem waitedOf_n {Q : eg_H} (hm : mW Q) (nm : Nat → Int64) (s : (Nat → Int64) × Int32) (Y : Nat → Int32) : gX11_waitedOf (SX Q nm s Y) (-1) ∧ fX11_waitedOf (SX Q nm s Y) (-1) = sm (fun g => Y (20 + 20 * g + 4)) (NM Q) := by
  have hN := (NM_le hm).2
  refine ⟨by unfold gX11_waitedOf; rw [SX_ev]; exact hm.2.1, ?_⟩
  unfold fX11_waitedOf
  rw [SX_ev, SX_Y]
  refine sm_cong (fun g hg => ?_)
  have hg' : g < NM Q := hg
  rw [if_neg (nI_ne_m1 (by omega)), show 24 + 20 * g = 20 + 20 * g + 4 by omega]
