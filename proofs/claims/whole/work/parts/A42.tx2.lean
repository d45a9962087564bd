/-! THE TOLD TEXT BEGINS: what both sides hold then -/
theorem PL.qs {M A : eg_H} {q : Nat} {R : Nat → Int32} (pl0 : PL M q A) (hR : oR (cE M q) R) (ck1 : ∀ k, k < cN M q → R k = (fX11_clears A).1 (126, 0) k) (ck2 : ∀ j, 366 ≤ j → (fX11_clears A).1 (110, 0) j = 0) : QS M q (fX11_clears A) R ∧ gX11_begins (fX11_clears A) := by
  have pl : PL M q (fX11_clears A) := pl0.cong (fun _ _ => rfl) (clr_Fr A).T
  have f := fun k => clr_f A k
  have m1 : ∀ s, s < 15 → ¬ nI s = -1 := fun s hs => nI_ne_m1 (by omega)
  have n6 := (cN_e pl.cW).2
  obtain ⟨⟨g1, g2⟩, g3, g4⟩ := pl.g0 (fun g hg => by rw [f]; exact m1 g hg) (by rw [f]; rfl) (by rw [f]; rfl) (fun g hg => clr_125 _ hg)
  refine ⟨?_, pl.hn, g1⟩
  refine QS_of pl pl.cW pl.wE2 hR rfl g2.symm (fun s hs => ⟨rfl, ?_, ?_, rfl, ?_, rfl⟩) g3 ⟨?_, rfl, rfl⟩ (fun l hl => pl.lw hl (by rw [f]; exact m1 l (by omega))) g1 (fun s hs c => ?_) g4 ck1 ck2
  · rw [f 53]; exact (if_pos (m1 s (by omega))).symm
  · rw [f 57]
    by_cases c : dC M q s 2 = 0
    · rw [if_pos c, c]
    · rw [if_neg c]; exact (if_pos (m1 s (by omega))).symm
  · rw [f 55]; exact (if_pos (m1 s (by omega))).symm
  · have := pl.ep
    rw [f 60, f 16] at *
    exact this
  · rw [f 57] at c
    exact absurd c (m1 s (by omega))
theorem oR_n {E : eg_E} {R : Nat → Int32} (h : eN E < 6) (hR : ∀ k, k < 5 → R k = nI k) : oR E R := by
  refine ⟨fun k hk => ?_, fun a b hab hb e => ?_⟩
  · rw [hR k (by omega)]; exact nI_in' hk (by omega)
  · rw [hR a (by omega), hR b (by omega)] at e
    have := (nI_eq' (by omega) (by omega)).mp e
    omega
/-- the class's heap behind the swap -/
def swH (M : eg_H) (p q : Nat) : eg_H := sW (sR (sR M (10, 0) 3 (5, q)) (10, 0) 4 (5, p)) (52, 0) (cpT nI (M.1 (52, 0)) 5)
theorem swH_o (M : eg_H) (p q : Nat) {r : eg_R} (h : r ≠ (52, 0)) : (swH M p q).1 r = M.1 r := sW_ne _ _ h
theorem swH_5 (M : eg_H) (p q : Nat) {k : Nat} (h : k < 5) : (swH M p q).1 (52, 0) k = nI k := by
  unfold swH
  rw [sW_at, cpT_lt h]
def PCE (M : eg_H) (p q : Nat) (X : eg_H) : Prop := ∃ Z1, X = sI (sI (fX8_clear (TX (sR (swH M p q) (7, 0) 0 (5, q)) 0 q ((swH M p q).2.1 (26, q)) ((swH M p q).2.1 (27, q)) Z1)) (10, 0) 8 0) (10, 0) 11 0 ∧ bgZ (cE (swH M p q) q) ((swH M p q).1 (52, 0)) Z1
def PME (N : eg_H) (Y : eg_H) : Prop := ∃ A, AK N A ∧ Y = fX11_lays (fX11_begins (fX11_clears A)) (111, 0) (110, 0)
theorem pln {r : eg_R} {q : Nat} (h : pOf r q) : r ≠ (52, 0) ∧ r ≠ (8, 0) ∧ r ≠ (10, 0) := by
  refine ⟨fun e => ?_, fun e => ?_, fun e => ?_⟩
  all_goals
    rw [e] at h
    unfold pOf at h
    dsimp only at h
    omega
theorem tln {r : eg_R} {t : Nat} (h : tOf r t) : r ≠ (8, 0) ∧ r ≠ (10, 0) := by
  refine ⟨fun e => ?_, fun e => ?_⟩
  all_goals
    rw [e] at h
    unfold tOf at h
    dsimp only at h
    omega
theorem PCE.o {M X : eg_H} {p q : Nat} {r : eg_R} {Z1 : Nat → Int32} (e : X = sI (sI (fX8_clear (TX (sR (swH M p q) (7, 0) 0 (5, q)) 0 q ((swH M p q).2.1 (26, q)) ((swH M p q).2.1 (27, q)) Z1)) (10, 0) 8 0) (10, 0) 11 0) (h1 : r ≠ (8, 0)) (h2 : r ≠ (10, 0)) (h3 : r ≠ (52, 0)) (h4 : ¬ tOf r 0) : X.1 r = M.1 r := by
  unfold fX8_clear at e
  rw [e, sI_ne h2, sI_ne h2, sI_ne h1, sI_ne h1, TX_fr _ _ _ _ _ _ h4]
  exact swH_o M p q h3
theorem T_J {p q n : Nat} {M N X Y : eg_H} {C : Nat} (hq : q = 1 - p) (hp : p < 2) (h : RD q n n M N) (h1 : M.1 (10, 0) 1 = 0 ∧ N.1 (60, 0) 1 = 0) (h110 : ∀ j, 366 ≤ j → N.1 (110, 0) j = 0) (hX : PCE M p q X) (hY : PME N Y) : JJ X Y (C + 60) q := by
  obtain ⟨Z1, eX, bz⟩ := hX
  obtain ⟨A, ak, eY⟩ := hY
  obtain ⟨a1, a2, a3, a4, a5, a6⟩ := ak
  have pl := h.2.2.1
  have plA : PL M q A := pl.congH (fun _ _ => rfl) a1 a2
  have pls : PL (swH M p q) q A := plA.cong (fun r hr => swH_o M p q (pln hr).1) (sT.rf A)
  have eE : cE (swH M p q) q = cE M q := cE_cong plA.cW (fun r hr => swH_o M p q (pln hr).1)
  have n6 : eN (cE (swH M p q) q) < 6 := (cN_e pls.cW).2
  have hR : oR (cE (swH M p q) q) ((swH M p q).1 (52, 0)) := oR_n n6 (fun k hk => swH_5 M p q hk)
  have c110 : ∀ j, 366 ≤ j → (fX11_clears A).1 (110, 0) j = 0 := fun j hj => by
    rw [clr_o _ (by decide) (by decide) (by decide), a6 110 (by omega)]; exact h110 j hj
  obtain ⟨qs, _⟩ := pls.qs hR (fun k hk => by
    have k5 : k < 5 := by have := (cN_e pls.cW).2; omega
    rw [swH_5 M p q k5, clr_126 _ k5, a5 k k5]) c110
  have hE : wE (cE (swH M p q) q) := pls.wE
  have bC := qs.bgC
  have ti : TI (cE (swH M p q) q) (C + 60) (begM (fX11_clears A)) := bg_T hE pls.wE2 hR (by omega) bC
  have ry : RY (cE (swH M p q) q) Z1 (begM (fX11_clears A)) := bg_R hE bz bC
  have hq16 := ti.1.q16 hE
  have eXo : ∀ {r : eg_R}, r ≠ (8, 0) → r ≠ (10, 0) → r ≠ (52, 0) → ¬ tOf r 0 → X.1 r = M.1 r := fun x1 x2 x3 x4 => PCE.o eX x1 x2 x3 x4
  have eP : ∀ r, pOf r q → X.1 r = M.1 r := fun r hr => eXo (pln hr).2.1 (pln hr).2.2 (pln hr).1 (nT_p hr)
  have eEX : cE X q = cE (swH M p q) q := (cE_cong plA.cW eP).trans eE.symm
  have aX : RY (cE (swH M p q) q) (aT X 0) (begM (fX11_clears A)) := by
    have : aT X 0 = aT (TX (sR (swH M p q) (7, 0) 0 (5, q)) 0 q ((swH M p q).2.1 (26, q)) ((swH M p q).2.1 (27, q)) Z1) 0 := by
      refine aT_cong (fun r hr => ?_)
      obtain ⟨t1, t2⟩ := tln hr
      unfold fX8_clear at eX
      rw [eX, sI_ne t2, sI_ne t2, sI_ne t1, sI_ne t1]
    rw [this]
    exact aT_TR hE hq16 ry
  have eYo : ∀ {r : eg_R}, r ≠ (110, 0) → r ≠ (111, 0) → Y.1 r = (fX11_clears A).1 r := fun {r} x1 x2 => by
    rw [eY]
    unfold fX11_lays fX11_begins
    rw [sW_ne _ _ x2, sW_ne _ _ x1]
  have eYf : ∀ k, k < 52 ∨ 62 < k → Y.1 (60, 0) k = A.1 (60, 0) k := fun k hk => by
    rw [eYo (by decide) (by decide), clr_f, if_neg (by omega), if_neg (by omega), if_neg (by omega), if_neg (by omega), if_neg (by omega), if_neg (by omega), if_neg (by omega), if_neg (by omega)]
  have y111 : ∀ j, j < 366 → Y.1 (111, 0) j = begM (fX11_clears A) j := fun j hj => by
    rw [eY]
    unfold fX11_lays
    rw [sW_at, cpT_lt hj]
    unfold fX11_begins
    rw [sW_at]
  have plX : PL X q Y := plA.cong eP ((clr_Fr A).T.tr ⟨fun k x1 x2 => by rw [eYo (by decide) (by decide)], fun k x1 x2 _ _ _ => eYo (kd_ne (by omega)) (kd_ne (by omega)), fun g _ => ⟨by rw [eYo (by decide) (by decide)], by rw [eYo (by decide) (by decide)], fun k _ => by rw [eYo (by decide) (by decide)]⟩⟩)
  have x10 : ∀ k, X.1 (10, 0) k = if k = 11 then 0 else if k = 8 then 0 else M.1 (10, 0) k := fun k => by
    unfold fX8_clear at eX
    rw [eX, sI_rr, sI_rr, sI_ne (by decide), sI_ne (by decide), TX_fr _ _ _ _ _ _ (nT_k (by omega))]
    show (if k = 11 then (0 : Int32) else if k = 8 then 0 else (swH M p q).1 (10, 0) k) = _
    rw [swH_o M p q (by decide)]
  have x8 : ∀ k, X.1 (8, 0) k = if k = 1 then -1 else if k = 0 then 0 else M.1 (8, 0) k := fun k => by
    unfold fX8_clear at eX
    rw [eX, sI_ne (by decide), sI_ne (by decide), sI_rr, sI_rr, TX_fr _ _ _ _ _ _ (nT_k (by omega))]
    show (if k = 1 then (-1 : Int32) else if k = 0 then 0 else (swH M p q).1 (8, 0) k) = _
    rw [swH_o M p q (by decide)]
  have x6 : X.1 (6, 0) = M.1 (6, 0) := eXo (by decide) (by decide) (by decide) (nT_k (by omega))
  obtain ⟨_, tA, _, _, _, _, f1, f2, f3, f4, _⟩ := h
  refine ⟨⟨⟨?_, ?_, ?_⟩, plX, ⟨?_, ?_⟩, fun k hk => ?_⟩, ⟨Or.inl ?_, ?_, fun z => absurd ?_ z⟩, ⟨0, by omega, ?_, ?_, fun z => absurd z (by omega)⟩, ⟨0, by omega, ?_, ?_, ?_, ⟨?_, ?_⟩, fun i hi => absurd hi (by omega)⟩, fun j hj => ?_, ⟨0, by omega, ?_, ?_, fun i hi => absurd hi (by omega)⟩, ?_, ?_, fun i hi => ?_⟩
  · rw [eX]; rfl
  · rw [eX, show (1 : Nat) - q = p by omega]; rfl
  · rw [eX]; rfl
  · rw [eEX]; exact RY_Y hE aX hq16 y111
  · rw [eEX]; exact TI_Y hE ti y111
  · rw [eYo (by decide) (by decide), clr_o _ (by decide) (by decide) (by decide), y111 _ (by omega)]
    unfold begM
    rw [putR_in hk, clr_126 _ hk]
  · rw [eYf _ (by omega)]; exact a4.2.2.2
  · rw [x10, if_neg (by decide), if_pos rfl, eYf _ (by omega)]; exact a4.2.2.2.symm
  · rw [eYf _ (by omega)]; exact a4.2.2.2
  · rw [x10, if_pos rfl]; rfl
  · rw [eYf _ (by omega)]; exact a4.2.2.1
  · rw [x8, if_neg (by decide), if_pos rfl]; rfl
  · rw [eYf _ (by omega)]; exact a4.1
  · rw [x8, if_pos rfl, eYf _ (by omega)]; exact a4.2.1.symm
  · rw [eYf _ (by omega), a4.2.1]; decide
  · rw [eYf _ (by omega), a4.2.1]; decide
  · have : Y.1 (110, 0) = begM (fX11_clears A) := by
      rw [eY]
      unfold fX11_lays
      rw [sW_ne _ _ (by decide)]
      unfold fX11_begins
      rw [sW_at]
    rw [this, begM_hi _ (nM_le qs.2.2.2.2.1).2 (NM_le qs.2.2.2.2.1).2 hj]
    exact c110 j hj
  · rw [x10, if_neg (by decide), if_neg (by decide)]; exact h1.1
  · rw [eYf _ (by omega), a3 1 (by omega)]; exact h1.2
  · rw [x6, eYf _ (by omega), a3 4 (by omega), f1, f3]
  · rw [x6, eYf _ (by omega), a3 5 (by omega), f2, f4]
  · rw [eYo (by decide) (by decide), clr_o _ (by decide) (by decide) (by decide), a6 64 (by omega)]
    exact tA.2.2.1 i hi
theorem T_E {p q n i : Nat} {M N : eg_H} {R : Int32 → eg_H → eg_H → Prop} (hq : q = 1 - p) (hp : p < 2) (h : RD q n n M N) (e3 : M.2.2 (10, 0) 3 = (5, p)) (e4 : M.2.2 (10, 0) 4 = (5, q)) (h110 : ∀ j, 366 ≤ j → N.1 (110, 0) j = 0) (h4 : M.1 (6, 0) 4 = nI i) (fin : ∀ X Y, PCE M p q X → PME N Y → R (nI i) X Y) : PX 12 9 (fun κ d post => eg_W κ gC mtX10_text d (eQI κ gC post) 72 [(0, vR (10, 0))] [] M) (fun κ d post => eCV κ gM mtX11_keepText d [vR (60, 0)] N (fun Z => post (nI i) Z)) R := by
  have pl := h.2.2.1
  have pls : PL (swH M p q) q (kp N) := pl.cong (fun r hr => swH_o M p q (pln hr).1) (sT.rf _)
  obtain ⟨_, tA, _, _, _, _, f1, f2, f3, f4, f6⟩ := h
  refine ⟨nI i, PCE M p q, PME N, fun κ d hd => ?_, fun κ d hd => ⟨fun Z => PME N Z, KT_0 (by omega) ?_ f6 (fun A ak => ⟨?_, A, ak, rfl⟩), fun Z hZ => ⟨rfl, hZ⟩⟩, fin⟩
  · refine vX10_text_72 (by omega) M ⟨fun _ => ⟨p, hp, e3, q, by omega, e4, fun M4 e4' M5 e5 M6 e6 => ?_⟩, fun z => absurd f1 z⟩
    have e6' : M6 = swH M p q := by
      rw [e6, e5, e4']
      rfl
    rw [e6']
    refine ⟨q, by omega, rfl, _, sX7_begin (by omega) (t := 0) (by omega) pls.cW (anC_52 (j := 0) (by decide)) (by omega) (fun k _ => cX_no (nT_k (by omega)) k), fun M9 ⟨Z1, e9, b9⟩ M11 e11 M13 e13 M14 e14 => ?_⟩
    have eX : M14 = sI (sI (fX8_clear (TX (sR (swH M p q) (7, 0) 0 (5, q)) 0 q ((swH M p q).2.1 (26, q)) ((swH M p q).2.1 (27, q)) Z1)) (10, 0) 8 0) (10, 0) 11 0 := by rw [e14, e13, e11, e9]
    refine ⟨?_, Z1, eX, b9⟩
    rw [PCE.o eX (by decide) (by decide) (by decide) (nT_k (by omega))]
    exact h4
  · have := pl.hp
    rw [kp_60 _ (by omega)] at this
    exact this
  · obtain ⟨a1, a2, a3, a4, a5, a6⟩ := ak
    have plA : PL M q A := pl.congH (fun _ _ => rfl) a1 a2
    have n6 := (cN_e plA.cW).2
    refine (plA.qs (R := fun k => nI k) (oR_n n6 (fun k _ => rfl)) (fun k hk => ?_) (fun j hj => ?_)).2
    · rw [clr_126 _ (by omega), a5 k (by omega)]
    · rw [clr_o _ (by decide) (by decide) (by decide), a6 110 (by omega)]; exact h110 j hj
