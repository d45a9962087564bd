/-! COPYING PLANS AND TABLES -/
theorem cp0_a (M : eg_H) {a b : Nat} (h : a ≠ b) : (∀ k, k < 3 → (fX0_copyFrom M a b).1 (0, a) k = M.1 (0, b) k) ∧ (∀ k, k < 5 → (fX0_copyFrom M a b).1 (20, a) k = M.1 (20, b) k) ∧ (∀ r, r ≠ (0, a) → r ≠ (20, a) → (fX0_copyFrom M a b).1 r = M.1 r) ∧ (fX0_copyFrom M a b).2 = M.2 := by
  have c0 : (0 : Int32).toNatClampNeg = 0 := by decide
  have c5 : (5 : Int32).toNatClampNeg = 5 := by decide
  have hn : ((0, b) : eg_R) ≠ (0, a) := pr_ne h
  unfold fX0_copyFrom
  rw [c0, c5, sC_cp, sI_ne hn, sI_ne hn]
  refine ⟨fun k hk => ?_, fun k hk => ?_, fun r h1 h2 => ?_, rfl⟩
  · rw [sW_ne _ _ (kd_ne (by decide))]
    rcases (by omega : k = 0 ∨ k = 1 ∨ k = 2) with rfl | rfl | rfl <;> simp [sI_i, sI_ne hn]
  · rw [sW_at, cpT_lt hk, sI_ne (kd_ne (by decide)), sI_ne (kd_ne (by decide)), sI_ne (kd_ne (by decide))]
  · rw [sW_ne _ _ h2, sI_ne h1, sI_ne h1, sI_ne h1]
theorem cp3_o (M : eg_H) {a b : Nat} {r : eg_R} (h : r.1 ≠ 3 ∧ r.1 ≠ 23 ∧ r.1 ≠ 24 ∧ r.1 ≠ 25) : (fX3_copyFrom M a b).1 r = M.1 r := by
  obtain ⟨k, j⟩ := r
  unfold fX3_copyFrom
  rw [sI_ne (kd_ne h.1), sI_ne (kd_ne h.1), sW_ne _ _ (kd_ne h.2.2.2), sW_ne _ _ (kd_ne h.2.2.1), sW_ne _ _ (kd_ne h.2.1)]
theorem sX5_copyFrom {κ : eg_K} {d : Nat} (hd : 2 ≤ d) (M : eg_H) {a b : Nat} (ha : a < 2) (hb : b < 2) (hab : a ≠ b) (hN : vp_in (M.1 (5, b) 0) 6) (hP : vp_in (M.1 (5, b) 2) 16) (h4 : M.1 (5, b) 4 = 0 ∨ M.1 (5, b) 4 = 1) : eg_S κ gC mtX5_copyFrom d [vR (5, a), vR (5, b)] M (eQV κ gC (fun M1 => FrP a M M1 ∧ PEq M1 a M b)) := by
  obtain ⟨en, hn⟩ := nI_of' hN (by omega)
  obtain ⟨eP, hp⟩ := nI_of' hP (by omega)
  have c0 : (0 : Int32).toNatClampNeg = 0 := by decide
  have c4 : (4 : Int32).toNatClampNeg = 4 := by decide
  have c3 : (3 : Int32).toNatClampNeg = 3 := by decide
  have B5 : ¬ pOf (5, b) a := nOf_k hab (by omega)
  have k89 : ∀ X, FrP a M X → X.1 (5, a) 0 = M.1 (5, b) 0 → X.1 (5, a) 2 = M.1 (5, b) 2 → (∀ s k, s < cN M b → k < 7 → X.1 (1, 5 * a + s) k = M.1 (1, 5 * b + s) k) → (∀ g, g < cP M b → (∀ k, k < 3 → X.1 (0, 15 * a + g) k = M.1 (0, 15 * b + g) k) ∧ ∀ k, k < 5 → X.1 (20, 15 * a + g) k = M.1 (20, 15 * b + g) k) → eg_W κ gC mtX5_copyFrom d (eQV κ gC (fun M1 => FrP a M M1 ∧ PEq M1 a M b)) 89 [(0, vR (5, a)), (1, vR (5, b))] [] X := by
    intro X F h0 h2 hs hg
    refine vX5_copyFrom_89 hd X ha hb ⟨by rw [F.1 _ B5]; exact h4, fun M1 e1 M3 e3 M4 e4 M5 e5 M6 e6 M7 e7 M8 e8 M9 e9 => ⟨hab, fun M11 e11 => ?_⟩⟩
    rw [F.1 _ B5] at e1
    have F1 : FrP a M M1 := by rw [e1]; exact F.I (pOf_k (by omega)) _ _
    rw [F1.1 _ B5] at e3
    have F3 : FrP a M M3 := by rw [e3]; exact F1.I (pOf_k (by omega)) _ _
    rw [F3.1 _ B5] at e4
    have F4 : FrP a M M4 := by rw [e4]; exact F3.I (pOf_k (by omega)) _ _
    rw [F4.1 _ B5] at e5
    have F5 : FrP a M M5 := by rw [e5]; exact F4.I (pOf_k (by omega)) _ _
    rw [c0, c4, sC_cp] at e6
    have F6 : FrP a M M6 := by rw [e6]; exact F5.W (pOf_k (by omega)) _
    rw [c0, c4, sC_cp] at e7
    have F7 : FrP a M M7 := by rw [e7]; exact F6.W (pOf_k (by omega)) _
    rw [c0, c4, sC_cp] at e8
    have F8 : FrP a M M8 := by rw [e8]; exact F7.W (pOf_k (by omega)) _
    rw [c0, c3, sC_cp, F8.1 _ (nOf_k hab (by omega))] at e9
    have F9 : FrP a M M9 := by rw [e9]; exact F8.W (pOf_k (by omega)) _
    have F11 : FrP a M M11 := by
      rw [e11]
      unfold fX3_copyFrom
      exact ((((F9.W (pOf_k (by omega)) _).W (pOf_k (by omega)) _).W (pOf_k (by omega)) _).I (pOf_k (by omega)) _ _).I (pOf_k (by omega)) _ _
    have r0 : ∀ r : eg_R, r.1 ≠ 3 ∧ r.1 ≠ 23 ∧ r.1 ≠ 24 ∧ r.1 ≠ 25 → r.1 ≠ 32 ∧ r.1 ≠ 33 ∧ r.1 ≠ 34 ∧ r.1 ≠ 35 → M11.1 r = M5.1 r := by
      intro r h1 h2
      rw [e11, cp3_o _ h1, e9, sW_ne _ _ (fun e => h2.2.2.2 (congrArg Prod.fst e)), e8, sW_ne _ _ (fun e => h2.2.2.1 (congrArg Prod.fst e)), e7, sW_ne _ _ (fun e => h2.2.1 (congrArg Prod.fst e)), e6, sW_ne _ _ (fun e => h2.1 (congrArg Prod.fst e))]
    have r1 : ∀ r : eg_R, r.1 ≠ 5 → M5.1 r = X.1 r := by
      intro r h1
      have hne : r ≠ (5, a) := fun e => h1 (congrArg Prod.fst e)
      rw [e5, sI_ne hne, e4, sI_ne hne, e3, sI_ne hne, e1, sI_ne hne]
    have r5 := r0 (5, a) (by dsimp only; decide) (by dsimp only; decide)
    refine ⟨F11, ⟨?_, ?_, ?_, ?_, ?_⟩, fun s k h1 h2 => ?_, fun g h1 => ⟨fun k h2 => ?_, fun k h2 => ?_⟩, fun k hk => ?_, ?_, fun k hk => ?_, fun k hk => ?_, fun k hk => ?_⟩
    · rw [r5, e5, e4, e3, e1]; simp [sI_i]; exact h0
    · rw [r5, e5, e4, e3, e1]; simp [sI_i]; exact h2
    · rw [r5, e5, e4, e3, e1]; simp [sI_i]
    · rw [r5, e5, e4, e3, e1]; simp [sI_i]
    · rw [r5, e5, e4, e3, e1]; simp [sI_i]
    · rw [r0 (1, 5 * a + s) (by dsimp only; decide) (by dsimp only; decide), r1 _ (by show (1 : Nat) ≠ 5; decide)]; exact hs s k h1 h2
    · rw [r0 (0, 15 * a + g) (by dsimp only; decide) (by dsimp only; decide), r1 _ (by show (0 : Nat) ≠ 5; decide)]; exact (hg g h1).1 k h2
    · rw [r0 (20, 15 * a + g) (by dsimp only; decide) (by dsimp only; decide), r1 _ (by show (20 : Nat) ≠ 5; decide)]; exact (hg g h1).2 k h2
    · rw [e11, cp3_o _ (by dsimp only; decide), e9, sW_at, cpT_lt hk]
    · rw [e11]; unfold fX3_copyFrom; rw [F9.1 (3, b) (nOf_k hab (by omega))]; simp [sI_i]
    · rw [e11]; unfold fX3_copyFrom
      rw [sI_ne (kd_ne (by decide)), sI_ne (kd_ne (by decide)), sW_ne _ _ (kd_ne (by decide)), sW_ne _ _ (kd_ne (by decide)), sW_at, cpT_lt hk, F9.1 (23, b) (nOf_k hab (by omega))]
    · rw [e11]; unfold fX3_copyFrom
      rw [sI_ne (kd_ne (by decide)), sI_ne (kd_ne (by decide)), sW_ne _ _ (kd_ne (by decide)), sW_at, cpT_lt hk, F9.1 (24, b) (nOf_k hab (by omega))]
    · rw [e11]; unfold fX3_copyFrom
      rw [sI_ne (kd_ne (by decide)), sI_ne (kd_ne (by decide)), sW_at, cpT_lt hk, F9.1 (25, b) (nOf_k hab (by omega))]
  have k54 : ∀ X, FrP a M X → X.1 (5, a) 0 = M.1 (5, b) 0 → X.1 (5, a) 2 = M.1 (5, b) 2 → (∀ s k, s < cN M b → k < 7 → X.1 (1, 5 * a + s) k = M.1 (1, 5 * b + s) k) → eg_W κ gC mtX5_copyFrom d (eQV κ gC (fun M1 => FrP a M M1 ∧ PEq M1 a M b)) 54 [(0, vR (5, a)), (1, vR (5, b)), (2, vI (0 : Int32))] [] X := by
    intro X F h0 h2 hs
    refine eg_down (P := fun i => ∀ X, FrP a M X → X.1 (5, a) 0 = M.1 (5, b) 0 → X.1 (5, a) 2 = M.1 (5, b) 2 → (∀ s k, s < cN M b → k < 7 → X.1 (1, 5 * a + s) k = M.1 (1, 5 * b + s) k) → (∀ g, g < i → (∀ k, k < 3 → X.1 (0, 15 * a + g) k = M.1 (0, 15 * b + g) k) ∧ ∀ k, k < 5 → X.1 (20, 15 * a + g) k = M.1 (20, 15 * b + g) k) → eg_W κ gC mtX5_copyFrom d (eQV κ gC (fun M1 => FrP a M M1 ∧ PEq M1 a M b)) 54 [(0, vR (5, a)), (1, vR (5, b)), (2, vI (nI i))] [] X) (cP M b) (fun i hi k X F h0 h2 hs hg => ?_) (fun X F h0 h2 hs hg => ?_) X F h0 h2 hs (fun g hg => absurd hg (Nat.not_lt_zero _))
    · have hi2 : i < (M.1 (5, b) 2).toNatClampNeg := hi
      refine vX5_copyFrom_54 hd X ha hb _ ⟨fun c => ?_, fun _ => ⟨fun c => absurd (show nI 15 ≤ nI i from c) (nI_ge (by omega) (by decide)), fun _ => ⟨nI_in' (by omega) (by omega), fun M4 e4 x6 e6 => ?_⟩⟩⟩
      · rw [h2, eP] at c
        exact absurd c (nI_ge hi2 (by omega))
      · rw [nI_t (by omega)] at e4
        rw [e6, nI_1]
        have hne : 15 * a + i ≠ 15 * b + i := by omega
        obtain ⟨q1, q2, q3, q4⟩ := cp0_a X hne
        rw [← e4] at q1 q2 q3 q4
        have F4 : FrP a M M4 := ⟨fun r hr => (q3 r (fun e => hr (by rw [e]; exact pOf_0 (by omega))) (fun e => hr (by rw [e]; exact pOf_20 (by omega)))).trans (F.1 r hr), q4.trans F.2⟩
        have f5 := q3 (5, a) (kd_ne (by decide)) (kd_ne (by decide))
        refine k M4 F4 (by rw [f5]; exact h0) (by rw [f5]; exact h2) (fun s k h1 h2 => ?_) (fun g hg2 => ?_)
        · rw [q3 _ (kd_ne (by decide)) (kd_ne (by decide))]; exact hs s k h1 h2
        · by_cases e : g = i
          · subst e
            rw [F.1 _ (nOf_0 hab (by omega))] at q1
            rw [F.1 _ (nOf_20 hab (by omega))] at q2
            exact ⟨q1, q2⟩
          · have g1 : ((0, 15 * a + g) : eg_R) ≠ (0, 15 * a + i) := pr_ne (by omega)
            have g2 : ((20, 15 * a + g) : eg_R) ≠ (20, 15 * a + i) := pr_ne (by omega)
            rw [q3 _ g1 (kd_ne (by decide)), q3 _ (kd_ne (by decide)) g2]
            exact hg g (by omega)
    · refine vX5_copyFrom_54 hd X ha hb _ ⟨fun _ => k89 X F h0 h2 hs hg, fun c => ?_⟩
      rw [h2, eP] at c
      exact absurd (nI_le (Nat.le_refl _) (by omega)) c
  refine eg_S.of rfl (Nat.le_of_ble_eq_true rfl) (vX5_copyFrom_0 M ha hb (fun M1 e1 => ?_))
  have F1 : FrP a M M1 := by rw [e1]; exact (FrP.rf a M).I (pOf_k (by omega)) _ _
  have h1 : M1.1 (5, a) 0 = M.1 (5, b) 0 := by rw [e1]; simp [sI_i]
  refine eg_down (P := fun i => ∀ X, FrP a M X → X.1 (5, a) 0 = M.1 (5, b) 0 → (∀ s k, s < i → k < 7 → X.1 (1, 5 * a + s) k = M.1 (1, 5 * b + s) k) → eg_W κ gC mtX5_copyFrom d (eQV κ gC (fun M1 => FrP a M M1 ∧ PEq M1 a M b)) 10 [(0, vR (5, a)), (1, vR (5, b)), (2, vI (nI i))] [] X) (cN M b) (fun i hi k X F h0 hs => ?_) (fun X F h0 hs => ?_) M1 F1 h1 (fun g _ hg => absurd hg (Nat.not_lt_zero _))
  · have hi2 : i < (M.1 (5, b) 0).toNatClampNeg := hi
    refine vX5_copyFrom_10 (by omega) X ha hb _ ⟨fun c => ?_, fun _ => ⟨fun c => absurd (show nI 5 ≤ nI i from c) (nI_ge (by omega) (by decide)), fun _ => ⟨nI_in' (by omega) (by omega), ?_⟩⟩⟩
    · rw [h0, en] at c
      exact absurd c (nI_ge hi2 (by omega))
    · rw [nI_t (by omega)]
      refine ⟨show 5 * a + i ≠ 5 * b + i by omega, fun M7 e7 x9 e9 => ?_⟩
      rw [e9, nI_1]
      unfold fX1_copyFrom at e7
      rw [F.1 (1, 5 * b + i) (nOf_1 hab (by omega))] at e7
      have f5 : M7.1 (5, a) = X.1 (5, a) := by rw [e7, sW_ne _ _ (kd_ne (by decide))]
      refine k M7 (by rw [e7]; exact F.W (pOf_1 (by omega)) _) (by rw [f5]; exact h0) (fun s j h3 h4 => ?_)
      by_cases e : s = i
      · subst e
        rw [e7, sW_at, cpT_lt h4]
      · rw [e7, sW_ne _ _ (pr_ne (by omega))]
        exact hs s j (by omega) h4
  · refine vX5_copyFrom_10 (by omega) X ha hb _ ⟨fun _ M2 e2 => ?_, fun c => ?_⟩
    · rw [F.1 _ B5] at e2
      refine k54 M2 (by rw [e2]; exact F.I (pOf_k (by omega)) _ _) ?_ ?_ (fun s j h3 h4 => ?_)
      · rw [e2]; simp [sI_i]; exact h0
      · rw [e2]; simp [sI_i]
      · rw [e2, sI_ne (kd_ne (by decide))]; exact hs s j h3 h4
    · rw [h0, en] at c
      exact absurd (nI_le (Nat.le_refl _) (by omega)) c
/-! tables -/
def tEq (E : eg_E) (Z Z' : Nat → Int32) : Prop := Z 0 = Z' 0 ∧ Z 1 = Z' 1 ∧ (∀ k, k < 15 → Z (2 + k) = Z' (2 + k)) ∧ (∀ k, k < 5 → Z (360 + k) = Z' (360 + k)) ∧ (∀ s f, s < eN E → f < 7 → Z (320 + 8 * s + f) = Z' (320 + 8 * s + f)) ∧ ∀ g f, g < eP E → (f ≤ 11 ∨ 14 ≤ f ∧ f < 19) → Z (20 + 20 * g + f) = Z' (20 + 20 * g + f)
theorem tEq_R {E : eg_E} {Z Z' Y : Nat → Int32} (hE : wE E) (h : tEq E Z Z') (hq : (Y 1).toNatClampNeg < 16) (hR : RY E Z' Y) : RY E Z Y := by
  have hn := hE.1
  obtain ⟨a0, a1, a2, a3, a4, a5⟩ := h
  refine ⟨a0.trans hR.s, a1.trans hR.q, fun k hk => (a2 k (by omega)).trans (hR.k hk), fun q hq2 => (a3 q (by omega)).trans (hR.r hq2), fun s f hs hf => (a4 s f hs hf).trans (hR.p f hs hf), fun g f hg hf => (a5 g f hg (by omega)).trans (hR.g f hg hf), fun g hg => ?_⟩
  have b0 := a5 g 0 hg (by omega)
  rw [Nat.add_zero] at b0
  unfold RG
  rw [b0, a5 g 10 hg (by omega), a5 g 11 hg (by omega)]
  exact ⟨hR.G hg, hR.b hg⟩
theorem aT_p (M : eg_H) (t s f : Nat) (hs : s < 5) (hf : f < 8) : aT M t (320 + 8 * s + f) = M.1 (4, 5 * t + s) f := by
  unfold aT
  rw [if_neg (by omega), if_neg (by omega), if_neg (by omega), if_neg (by omega), if_neg (by omega), if_pos (by omega), show (320 + 8 * s + f - 320) % 8 = f by omega, show (320 + 8 * s + f - 320) / 8 = s by omega]
theorem aT_q (M : eg_H) (t k : Nat) (hk : k < 15) : aT M t (2 + k) = M.1 (43, t) k := by
  unfold aT
  rw [if_neg (by omega), if_neg (by omega), if_pos (by omega), show 2 + k - 2 = k by omega]
theorem aT_r (M : eg_H) (t k : Nat) : aT M t (360 + k) = M.1 (40, t) k := by
  unfold aT
  rw [if_neg (by omega), if_neg (by omega), if_neg (by omega), if_neg (by omega), if_pos (by omega), show 360 + k - 360 = k by omega]
theorem cXo_7 {t0 t1 : Nat} (h : t0 ≠ t1) (k : Nat) : cX t0 (7, t1) k = 0 := by
  have h' := Ne.symm h
  simp [cX, h']
theorem cXo_43 {t0 t1 : Nat} (h : t0 ≠ t1) (k : Nat) : cX t0 (43, t1) k = 0 := by
  have h' := Ne.symm h
  simp [cX, h']
theorem cXo_40 {t0 t1 : Nat} (h : t0 ≠ t1) (k : Nat) : cX t0 (40, t1) k = 0 := by
  have h' := Ne.symm h
  simp [cX, h']
theorem cXo_4 {t0 t1 : Nat} (h : t0 ≠ t1) {s : Nat} (hs : s < 5) (k : Nat) : cX t0 (4, 5 * t1 + s) k = 0 := by
  have : (5 * t1 + s) / 5 = t1 := by omega
  have h' := Ne.symm h
  simp [cX, this, h']
theorem cXo_2 {t0 t1 : Nat} (h : t0 ≠ t1) {g : Nat} (hg : g < 15) (k : Nat) : cX t0 (2, 15 * t1 + g) k = 0 := by
  have : (15 * t1 + g) / 15 = t1 := by omega
  have h' := Ne.symm h
  simp [cX, this, h']
theorem cXo_22 {t0 t1 : Nat} (h : t0 ≠ t1) {g : Nat} (hg : g < 15) (k : Nat) : cX t0 (22, 15 * t1 + g) k = 0 := by
  have : (15 * t1 + g) / 15 = t1 := by omega
  have h' := Ne.symm h
  simp [cX, this, h']
def pcZ (Z F : Nat → Int32) (s : Nat) : Nat → Int32 := upd (upd (upd (upd (upd (upd (upd Z (320 + 8 * s) (F 0)) (320 + 8 * s + 1) (F 1)) (320 + 8 * s + 2) (F 2)) (320 + 8 * s + 3) (F 3)) (320 + 8 * s + 4) (F 4)) (320 + 8 * s + 5) (F 5)) (320 + 8 * s + 6) (F 6)
theorem pcZ_in (Z F : Nat → Int32) (s : Nat) {f : Nat} (hf : f < 7) : pcZ Z F s (320 + 8 * s + f) = F f := by
  unfold pcZ
  rcases (by omega : f = 0 ∨ f = 1 ∨ f = 2 ∨ f = 3 ∨ f = 4 ∨ f = 5 ∨ f = 6) with rfl | rfl | rfl | rfl | rfl | rfl | rfl <;> simp (disch := omega) only [pk_un, pk_us, Nat.add_zero]
theorem pcZ_out (Z F : Nat → Int32) (s : Nat) {j : Nat} (hj : j < 320 + 8 * s ∨ 328 + 8 * s ≤ j) : pcZ Z F s j = Z j := by
  unfold pcZ
  simp (disch := omega) only [pk_un]
def gcZ (Z F W : Nat → Int32) (g : Nat) : Nat → Int32 := upd (upd (upd (upd (upd (upd (upd (upd (upd (rwZ (upd (upd (upd Z (20 + 20 * g) (F 0)) (20 + 20 * g + 1) (F 1)) (20 + 20 * g + 2) (F 2)) W (20 + 20 * g + 14) 5) (20 + 20 * g + 3) (F 4)) (20 + 20 * g + 10) (F 5)) (20 + 20 * g + 11) (F 6)) (20 + 20 * g + 4) (F 7)) (20 + 20 * g + 5) (F 8)) (20 + 20 * g + 6) (F 9)) (20 + 20 * g + 7) (F 10)) (20 + 20 * g + 8) (F 11)) (20 + 20 * g + 9) (F 12)
theorem gcZ_in (Z F W : Nat → Int32) (g : Nat) {k f : Nat} (hf : gfX k = f + 1) : gcZ Z F W g (20 + 20 * g + f) = F k := by
  have h1 := gfX_lt k
  have e : ∀ j, gfX j = f + 1 → k = j := fun j hj => gfX_inj (by rw [hf, hj]) (by omega)
  unfold gcZ
  rcases (by omega : f = 0 ∨ f = 1 ∨ f = 2 ∨ f = 3 ∨ f = 4 ∨ f = 5 ∨ f = 6 ∨ f = 7 ∨ f = 8 ∨ f = 9 ∨ f = 10 ∨ f = 11) with rfl | rfl | rfl | rfl | rfl | rfl | rfl | rfl | rfl | rfl | rfl | rfl
  · rw [e 0 rfl]; simp (disch := omega) only [pk_un, pk_us, rwZ_out, Nat.add_zero]
  · rw [e 1 rfl]; simp (disch := omega) only [pk_un, pk_us, rwZ_out]
  · rw [e 2 rfl]; simp (disch := omega) only [pk_un, pk_us, rwZ_out]
  · rw [e 4 rfl]; simp (disch := omega) only [pk_un, pk_us, rwZ_out]
  · rw [e 7 rfl]; simp (disch := omega) only [pk_un, pk_us, rwZ_out]
  · rw [e 8 rfl]; simp (disch := omega) only [pk_un, pk_us, rwZ_out]
  · rw [e 9 rfl]; simp (disch := omega) only [pk_un, pk_us, rwZ_out]
  · rw [e 10 rfl]; simp (disch := omega) only [pk_un, pk_us, rwZ_out]
  · rw [e 11 rfl]; simp (disch := omega) only [pk_un, pk_us, rwZ_out]
  · rw [e 12 rfl]; simp (disch := omega) only [pk_un, pk_us, rwZ_out]
  · rw [e 5 rfl]; simp (disch := omega) only [pk_un, pk_us, rwZ_out]
  · rw [e 6 rfl]; simp (disch := omega) only [pk_un, pk_us, rwZ_out]
theorem gcZ_w (Z F W : Nat → Int32) (g : Nat) {k : Nat} (hk : k < 5) : gcZ Z F W g (20 + 20 * g + 14 + k) = W k := by
  unfold gcZ
  simp (disch := omega) only [pk_un, rwZ_in]
theorem gcZ_out (Z F W : Nat → Int32) (g : Nat) {j : Nat} (hj : j < 20 + 20 * g ∨ 40 + 20 * g ≤ j) : gcZ Z F W g j = Z j := by
  unfold gcZ
  simp (disch := omega) only [pk_un, rwZ_out]
section
variable {κ : eg_K} {d : Nat} {M : eg_H} {t0 t1 p : Nat} {nm st : Nat → Int64} {Z : Nat → Int32}
theorem sX4_cpTX (ht0 : t0 < 4) (ht1 : t1 < 4) (hne : t0 ≠ t1) {s : Nat} (hs : s < 5) : eg_S κ gC mtX4_copyFrom d [vR (4, 5 * t0 + s), vR (4, 5 * t1 + s)] (TX M t0 p nm st Z) (eQV κ gC (fun M1 => M1 = TX M t0 p nm st (pcZ Z (M.1 (4, 5 * t1 + s)) s))) := by
  have rd : ∀ Z k, (TX M t0 p nm st Z).1 (4, 5 * t1 + s) k = M.1 (4, 5 * t1 + s) k := fun Z k => TX_o (cXo_4 hne hs k)
  refine eg_S.of rfl (Nat.le_of_ble_eq_true rfl) (vX4_copyFrom_0 _ (by omega) (by omega) ?_)
  intro M1 e1 M2 e2 M3 e3 M4 e4 M5 e5 M6 e6 M7 e7
  rw [rd, W4_0 _ _ _ _ _ _ hs] at e1
  rw [e1, rd, W4_1 _ _ _ _ _ _ hs] at e2
  rw [e2, rd, W4_2 _ _ _ _ _ _ hs] at e3
  rw [e3, rd, W4_3 _ _ _ _ _ _ hs] at e4
  rw [e4, rd, W4_4 _ _ _ _ _ _ hs] at e5
  rw [e5, rd, W4_5 _ _ _ _ _ _ hs] at e6
  rw [e6, rd, W4_6 _ _ _ _ _ _ hs] at e7
  exact e7
theorem sX2_cpTX (hd : 1 ≤ d) (ht0 : t0 < 4) (ht1 : t1 < 4) (hne : t0 ≠ t1) {g : Nat} (hg : g < 15) (hb : M.1 (2, 15 * t1 + g) 5 = 0 ∨ M.1 (2, 15 * t1 + g) 5 = 1) : eg_S κ gC mtX2_copyFrom d [vR (2, 15 * t0 + g), vR (2, 15 * t1 + g)] (TX M t0 p nm st Z) (eQV κ gC (fun M1 => M1 = TX M t0 p nm st (gcZ Z (M.1 (2, 15 * t1 + g)) (M.1 (22, 15 * t1 + g)) g))) := by
  have c0 : (0 : Int32).toNatClampNeg = 0 := by decide
  have c5 : (5 : Int32).toNatClampNeg = 5 := by decide
  have rd : ∀ Z k, (TX M t0 p nm st Z).1 (2, 15 * t1 + g) k = M.1 (2, 15 * t1 + g) k := fun Z k => TX_o (cXo_2 hne hg k)
  have rw22 : ∀ Z, (TX M t0 p nm st Z).1 (22, 15 * t1 + g) = M.1 (22, 15 * t1 + g) := fun Z => funext (fun k => TX_o (cXo_22 hne hg k))
  refine eg_S.of rfl (Nat.le_of_ble_eq_true rfl) (vX2_copyFrom_0 hd _ (by omega) (by omega) ?_)
  intro M1 e1 M2 e2 M3 e3 M4 e4 M5 e5
  rw [rd, W2_0 _ _ _ _ _ _ hg] at e1
  rw [e1, rd, W2_1 _ _ _ _ _ _ hg] at e2
  rw [e2, rd, W2_2 _ _ _ _ _ _ hg] at e3
  rw [e3, c0, c5, cp_22 _ _ _ _ _ _ _ hg, rw22] at e4
  rw [e4, rd, W2_4 _ _ _ _ _ _ hg] at e5
  rw [e5, rd]
  refine ⟨hb, fun M6 e6 M8 e8 M9 e9 M10 e10 M11 e11 M12 e12 M13 e13 M14 e14 => ?_⟩
  rw [W2_5 _ _ _ _ _ _ hg] at e6
  rw [e6, rd, W2_6 _ _ _ _ _ _ hg] at e8
  rw [e8, rd, W2_7 _ _ _ _ _ _ hg] at e9
  rw [e9, rd, W2_8 _ _ _ _ _ _ hg] at e10
  rw [e10, rd, W2_9 _ _ _ _ _ _ hg] at e11
  rw [e11, rd, W2_10 _ _ _ _ _ _ hg] at e12
  rw [e12, rd, W2_11 _ _ _ _ _ _ hg] at e13
  rw [e13, rd, W2_12 _ _ _ _ _ _ hg] at e14
  exact e14
theorem sX7_copyFrom (hd : 2 ≤ d) (ht0 : t0 < 4) (ht1 : t1 < 4) (hne : t0 ≠ t1) (hW : cW M p) (hT : M.2.2 (7, t1) 0 = (5, p)) (hb : ∀ g, g < cP M p → M.1 (2, 15 * t1 + g) 5 = 0 ∨ M.1 (2, 15 * t1 + g) 5 = 1) : eg_S κ gC mtX7_copyFrom d [vR (7, t0), vR (7, t1)] M (eQV κ gC (fun M1 => ∃ Z1, M1 = TX (sR M (7, t0) 0 (5, p)) t0 p (M.2.1 (26, p)) (M.2.1 (27, p)) Z1 ∧ tEq (cE M p) Z1 (aT M t1))) := by
  obtain ⟨en, hn⟩ := cN_e hW
  obtain ⟨eP', hP⟩ := cP_e hW
  have hp2 := hW.1
  have c0 : (0 : Int32).toNatClampNeg = 0 := by decide
  have c5 : (5 : Int32).toNatClampNeg = 5 := by decide
  have c15 : (15 : Int32).toNatClampNeg = 15 := by decide
  have hT0 : (sR M (7, t0) 0 (5, p)).2.2 (7, t0) 0 = (5, p) := by
    show (if ((7, t0) : eg_R) = (7, t0) ∧ (0 : Nat) = 0 then ((5, p) : eg_R) else _) = _
    rw [if_pos ⟨rfl, rfl⟩]
  have eM := TX_self M t0 p
  have r7 : ∀ nm st Z k, (TX (sR M (7, t0) 0 (5, p)) t0 p nm st Z).1 (7, t1) k = M.1 (7, t1) k := fun nm st Z k => TX_o (cXo_7 hne k)
  have r40 : ∀ nm st Z, (TX (sR M (7, t0) 0 (5, p)) t0 p nm st Z).1 (40, t1) = M.1 (40, t1) := fun nm st Z => funext (fun k => TX_o (cXo_40 hne k))
  have r43 : ∀ nm st Z, (TX (sR M (7, t0) 0 (5, p)) t0 p nm st Z).1 (43, t1) = M.1 (43, t1) := fun nm st Z => funext (fun k => TX_o (cXo_43 hne k))
  refine eg_S.of rfl (Nat.le_of_ble_eq_true rfl) (vX7_copyFrom_0 (by omega) M ht0 ht1 ⟨p, hp2, hT, fun M2 e2 M3 e3 M4 e4 M5 e5 M6 e6 => ?_⟩)
  rw [← eM, TX_sR] at e2
  rw [e2, r7, W7_1] at e3
  rw [e3, r7, W7_6] at e4
  rw [e4, c0, c5, cp_40, r40] at e5
  rw [e5, c0, c15, cp_43, r43] at e6
  rw [e6]
  generalize M.2.1 (26, p) = nm at *
  generalize M.2.1 (27, p) = st at *
  have lo : ∀ Z, tEq (0, 0, eD (cE M p), eC (cE M p), eO (cE M p), eL (cE M p)) (rwZ (rwZ (upd (upd Z 0 (M.1 (7, t1) 1)) 1 (M.1 (7, t1) 6)) (M.1 (40, t1)) 360 5) (M.1 (43, t1)) 2 15) (aT M t1) := by
    intro Z
    refine ⟨?_, ?_, fun k hk => ?_, fun k hk => ?_, fun s f hs => absurd hs (Nat.not_lt_zero _), fun g f hg => absurd hg (Nat.not_lt_zero _)⟩
    · simp (disch := omega) only [rwZ_out, pk_un, pk_us]; rfl
    · simp (disch := omega) only [rwZ_out, pk_us]; rfl
    · rw [rwZ_in hk, aT_q _ _ _ hk]
    · rw [rwZ_out (by omega), rwZ_in hk, aT_r]
  have lo' := lo (aT M t0)
  generalize rwZ (rwZ (upd (upd (aT M t0) 0 (M.1 (7, t1) 1)) 1 (M.1 (7, t1) 6)) (M.1 (40, t1)) 360 5) (M.1 (43, t1)) 2 15 = Z0 at *
  clear lo e2 e3 e4 e5 e6
  have hcell : ∀ (a : eg_R) (k : Nat), (sR M (7, t0) 0 (5, p)).1 a k = M.1 a k := fun _ _ => rfl
  have k89 : ∀ Z1, tEq (cN M p, 0, eD (cE M p), eC (cE M p), eO (cE M p), eL (cE M p)) Z1 (aT M t1) → eg_W κ gC mtX7_copyFrom d (eQV κ gC (fun M1 => ∃ Z1, M1 = TX (sR M (7, t0) 0 (5, p)) t0 p nm st Z1 ∧ tEq (cE M p) Z1 (aT M t1))) 89 [(0, vR (7, t0)), (1, vR (7, t1)), (2, vI (0 : Int32))] [] (TX (sR M (7, t0) 0 (5, p)) t0 p nm st Z1) := by
    intro Z1 hZ
    refine eg_down (P := fun i => ∀ Z1 : Nat → Int32, tEq (cN M p, i, eD (cE M p), eC (cE M p), eO (cE M p), eL (cE M p)) Z1 (aT M t1) → eg_W κ gC mtX7_copyFrom d (eQV κ gC (fun M1 => ∃ Z1, M1 = TX (sR M (7, t0) 0 (5, p)) t0 p nm st Z1 ∧ tEq (cE M p) Z1 (aT M t1))) 89 [(0, vR (7, t0)), (1, vR (7, t1)), (2, vI (nI i))] [] (TX (sR M (7, t0) 0 (5, p)) t0 p nm st Z1)) (cP M p) (fun i hi k Z1 hZ => ?_) (fun Z1 hZ => ?_) Z1 hZ
    · refine vX7_copyFrom_89 (by omega) _ ht0 ht1 _ ⟨p, hp2, hT0, fun c => ?_, fun c => ⟨nI_in' (by omega) (by omega), ?_⟩⟩
      · rw [T5, hcell, eP'] at c
        exact absurd c (nI_ge hi (by omega))
      · rw [nI_t (by omega)]
        refine ⟨_, sX2_cpTX (M := sR M (7, t0) 0 (5, p)) (by omega) ht0 ht1 hne (by omega) (hb i hi), fun M4 e4 x6 e6 => ?_⟩
        rw [e6, nI_1, e4]
        obtain ⟨a0, a1, a2, a3, a4, a5⟩ := hZ
        refine k _ ⟨?_, ?_, fun k hk => ?_, fun k hk => ?_, fun s f hs hf => ?_, fun g f hg hf => ?_⟩
        · rw [gcZ_out _ _ _ _ (by omega)]; exact a0
        · rw [gcZ_out _ _ _ _ (by omega)]; exact a1
        · rw [gcZ_out _ _ _ _ (by omega)]; exact a2 k hk
        · rw [gcZ_out _ _ _ _ (by omega)]; exact a3 k hk
        · rw [gcZ_out _ _ _ _ (by omega)]; exact a4 s f hs hf
        · have hg' : g < i + 1 := hg
          by_cases e : g = i
          · subst e
            rcases hf with hf | hf
            · have key : ∀ k, gfX k = f + 1 → gcZ Z1 ((sR M (7, t0) 0 (5, p)).1 (2, 15 * t1 + g)) ((sR M (7, t0) 0 (5, p)).1 (22, 15 * t1 + g)) g (20 + 20 * g + f) = aT M t1 (20 + 20 * g + f) := by
                intro k hk
                rw [gcZ_in _ _ _ _ hk, aT_g M t1 g k f (by omega) hk]
                rfl
              rcases (by omega : f = 0 ∨ f = 1 ∨ f = 2 ∨ f = 3 ∨ f = 4 ∨ f = 5 ∨ f = 6 ∨ f = 7 ∨ f = 8 ∨ f = 9 ∨ f = 10 ∨ f = 11) with rfl | rfl | rfl | rfl | rfl | rfl | rfl | rfl | rfl | rfl | rfl | rfl
              · exact key 0 rfl
              · exact key 1 rfl
              · exact key 2 rfl
              · exact key 4 rfl
              · exact key 7 rfl
              · exact key 8 rfl
              · exact key 9 rfl
              · exact key 10 rfl
              · exact key 11 rfl
              · exact key 12 rfl
              · exact key 5 rfl
              · exact key 6 rfl
            · obtain ⟨k, hk, rfl⟩ : ∃ k, k < 5 ∧ f = 14 + k := ⟨f - 14, by omega, by omega⟩
              rw [← Nat.add_assoc, gcZ_w _ _ _ _ hk, show 20 + 20 * g + 14 + k = 34 + 20 * g + k by omega, aT_w M t1 g k (by omega) hk]
              rfl
          · rw [gcZ_out _ _ _ _ (by omega)]; exact a5 g f (show g < i by omega) hf
    · refine vX7_copyFrom_89 (by omega) _ ht0 ht1 _ ⟨p, hp2, hT0, fun _ => ⟨Z1, rfl, hZ⟩, fun c => ?_⟩
      rw [T5, hcell, eP'] at c
      exact absurd (Int32.le_refl _) c
  refine eg_down (P := fun i => ∀ Z1 : Nat → Int32, tEq (i, 0, eD (cE M p), eC (cE M p), eO (cE M p), eL (cE M p)) Z1 (aT M t1) → eg_W κ gC mtX7_copyFrom d (eQV κ gC (fun M1 => ∃ Z1, M1 = TX (sR M (7, t0) 0 (5, p)) t0 p nm st Z1 ∧ tEq (cE M p) Z1 (aT M t1))) 55 [(0, vR (7, t0)), (1, vR (7, t1)), (2, vI (nI i))] [] (TX (sR M (7, t0) 0 (5, p)) t0 p nm st Z1)) (cN M p) (fun i hi k Z1 hZ => ?_) (fun Z1 hZ => ?_) Z0 lo'
  · refine vX7_copyFrom_55 (by omega) _ ht0 ht1 _ ⟨p, hp2, hT0, fun c => ?_, fun c => ⟨nI_in' (by omega) (by omega), ?_⟩⟩
    · rw [T5, hcell, en] at c
      exact absurd c (nI_ge hi (by omega))
    · rw [nI_t (by omega)]
      refine ⟨_, sX4_cpTX (M := sR M (7, t0) 0 (5, p)) ht0 ht1 hne (by omega), fun M4 e4 x6 e6 => ?_⟩
      rw [e6, nI_1, e4]
      obtain ⟨a0, a1, a2, a3, a4, a5⟩ := hZ
      refine k _ ⟨?_, ?_, fun k hk => ?_, fun k hk => ?_, fun s f hs hf => ?_, fun g f hg => absurd hg (Nat.not_lt_zero _)⟩
      · rw [pcZ_out _ _ _ (by omega)]; exact a0
      · rw [pcZ_out _ _ _ (by omega)]; exact a1
      · rw [pcZ_out _ _ _ (by omega)]; exact a2 k hk
      · rw [pcZ_out _ _ _ (by omega)]; exact a3 k hk
      · have hs' : s < i + 1 := hs
        by_cases e : s = i
        · subst e
          rw [pcZ_in _ _ _ hf, aT_p M t1 s f (by omega) (by omega)]
          rfl
        · rw [pcZ_out _ _ _ (by omega)]; exact a4 s f (show s < i by omega) hf
  · refine vX7_copyFrom_55 (by omega) _ ht0 ht1 _ ⟨p, hp2, hT0, fun _ => k89 Z1 hZ, fun c => ?_⟩
    rw [T5, hcell, en] at c
    exact absurd (Int32.le_refl _) c
end
