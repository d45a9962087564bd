/-! COPYING -/
theorem cp_s {M : eg_H} {r b : eg_R} (h : b ≠ r) (i : Nat) : sI (sW M r (cpT (M.1 b) (M.1 r) i)) r i ((sW M r (cpT (M.1 b) (M.1 r) i)).1 b i) = sW M r (cpT (M.1 b) (M.1 r) (i + 1)) := by
  rw [sW_ne _ _ h, sI_sW, cpT_s]
theorem cp_0 (M : eg_H) (r b : eg_R) : sW M r (cpT (M.1 b) (M.1 r) 0) = M := by rw [cpT_0, sW_self]
theorem sC_cp (M : eg_H) (a b : eg_R) (n : Nat) : sC M a b 0 0 n = sW M b (cpT (M.1 a) (M.1 b) n) := by
  refine eg_ext (fun z j => ?_) (fun _ _ => rfl) (fun _ _ => rfl)
  show (if z = b then va_cpy (M.1 a) (M.1 b) 0 0 n else M.1 z) j = (if z = b then cpT (M.1 a) (M.1 b) n else M.1 z) j
  by_cases c : z = b
  · rw [if_pos c, if_pos c]
    by_cases h : j < n
    · rw [pk_cpy_in (by omega) (by omega), cpT_lt h, show 0 + (j - 0) = j by omega]
    · rw [pk_cpy_out (by omega), cpT_ge (by omega)]
  · rw [if_neg c, if_neg c]
def fX1_copyFrom (M : eg_H) (a b : Nat) : eg_H := sW M (1, a) (cpT (M.1 (1, b)) (M.1 (1, a)) 7)
def gX1_copyFrom (M : eg_H) (a b : Nat) : Prop := a ≠ b
theorem pr_ne {k a b : Nat} (h : a ≠ b) : ((k, b) : eg_R) ≠ (k, a) := fun e => h (congrArg Prod.snd e).symm
theorem sX1_copyFrom {κ : eg_K} {d : Nat} (hd : 0 ≤ d) (M : eg_H) (l0 l1 : Nat) (hl0 : l0 < 10) (hl1 : l1 < 10) (hg : gX1_copyFrom M l0 l1) : eg_S κ gC mtX1_copyFrom d [vR (1, l0), vR (1, l1)] M (eQV κ gC (fun M1 => M1 = fX1_copyFrom M l0 l1)) := by
  have hne : ((1, l1) : eg_R) ≠ (1, l0) := pr_ne hg
  refine eg_S.of rfl (Nat.le_of_ble_eq_true rfl) (vX1_copyFrom_0 M hl0 hl1 ?_)
  intro M1 e1 M2 e2 M3 e3 M4 e4 M5 e5 M6 e6 M7 e7
  have e0 := cp_s (M := M) hne 0
  rw [cp_0] at e0
  rw [e0] at e1
  rw [e1, cp_s hne] at e2
  rw [e2, cp_s hne] at e3
  rw [e3, cp_s hne] at e4
  rw [e4, cp_s hne] at e5
  rw [e5, cp_s hne] at e6
  rw [e6, cp_s hne] at e7
  exact e7
def fX3_copyFrom (M : eg_H) (a b : Nat) : eg_H := sI (sI (sW (sW (sW M (23, a) (cpT (M.1 (23, b)) (M.1 (23, a)) 64)) (24, a) (cpT (M.1 (24, b)) (M.1 (24, a)) 7)) (25, a) (cpT (M.1 (25, b)) (M.1 (25, a)) 7)) (3, a) 3 (M.1 (3, b) 3)) (3, a) 4 (M.1 (3, b) 4)
def gX3_copyFrom (M : eg_H) (a b : Nat) : Prop := a ≠ b
theorem kd_ne {k j a b : Nat} (h : k ≠ j) : ((k, a) : eg_R) ≠ (j, b) := fun e => h (congrArg Prod.fst e)
theorem sX3_copyFrom {κ : eg_K} {d : Nat} (hd : 1 ≤ d) (M : eg_H) (l0 l1 : Nat) (hl0 : l0 < 2) (hl1 : l1 < 2) (hg : gX3_copyFrom M l0 l1) : eg_S κ gC mtX3_copyFrom d [vR (3, l0), vR (3, l1)] M (eQV κ gC (fun M1 => M1 = fX3_copyFrom M l0 l1)) := by
  have c0 : (0 : Int32).toNatClampNeg = 0 := by decide
  have c7 : (7 : Int32).toNatClampNeg = 7 := by decide
  have c64 : (64 : Int32).toNatClampNeg = 64 := by decide
  refine eg_S.of rfl (Nat.le_of_ble_eq_true rfl) (vX3_copyFrom_0 hd M hl0 hl1 ?_)
  rw [c0, c7, c64]
  intro M1 e1 M2 e2 M3 e3 M4 e4 M5 e5
  rw [sC_cp] at e1
  rw [e1, sC_cp, sW_ne _ _ (kd_ne (by decide)), sW_ne _ _ (kd_ne (by decide))] at e2
  rw [e2, sC_cp, sW_ne _ _ (kd_ne (by decide)), sW_ne _ _ (kd_ne (by decide)), sW_ne _ _ (kd_ne (by decide)), sW_ne _ _ (kd_ne (by decide))] at e3
  rw [e3, sW_ne _ _ (kd_ne (by decide)), sW_ne _ _ (kd_ne (by decide)), sW_ne _ _ (kd_ne (by decide))] at e4
  have h34 : M4.1 (3, l1) 4 = M.1 (3, l1) 4 := by
    rw [e4, sI_ne (pr_ne hg), sW_ne _ _ (kd_ne (by decide)), sW_ne _ _ (kd_ne (by decide)), sW_ne _ _ (kd_ne (by decide))]
  rw [h34, e4] at e5
  exact e5
/-! the plan's cells -/
def pOf (r : eg_R) (a : Nat) : Prop := ((r.1 = 5 ∨ r.1 = 3 ∨ r.1 = 23 ∨ r.1 = 24 ∨ r.1 = 25 ∨ r.1 = 32 ∨ r.1 = 33 ∨ r.1 = 34 ∨ r.1 = 35) ∧ r.2 = a) ∨ (r.1 = 1 ∧ r.2 / 5 = a) ∨ ((r.1 = 0 ∨ r.1 = 20) ∧ r.2 / 15 = a)
/-- nothing but plan a has changed -/
def FrP (a : Nat) (M M1 : eg_H) : Prop := (∀ r, ¬ pOf r a → M1.1 r = M.1 r) ∧ M1.2 = M.2
theorem FrP.rf (a : Nat) (M : eg_H) : FrP a M M := ⟨fun _ _ => rfl, rfl⟩
theorem FrP.tr {a : Nat} {M M1 M2 : eg_H} (h : FrP a M M1) (k : FrP a M1 M2) : FrP a M M2 := ⟨fun r hr => (k.1 r hr).trans (h.1 r hr), k.2.trans h.2⟩
theorem FrP.I {a : Nat} {M M1 : eg_H} (h : FrP a M M1) {r : eg_R} (hr : pOf r a) (k : Nat) (x : Int32) : FrP a M (sI M1 r k x) := ⟨fun z hz => (sI_ne (z := z) (r := r) (fun e => hz (by rw [e]; exact hr))).trans (h.1 z hz), h.2⟩
theorem FrP.W {a : Nat} {M M1 : eg_H} (h : FrP a M M1) {r : eg_R} (hr : pOf r a) (f : Nat → Int32) : FrP a M (sW M1 r f) := ⟨fun z hz => (sW_ne (z := z) (r := r) _ _ (fun e => hz (by rw [e]; exact hr))).trans (h.1 z hz), h.2⟩
theorem pOf_k {k a : Nat} (h : k = 5 ∨ k = 3 ∨ k = 23 ∨ k = 24 ∨ k = 25 ∨ k = 32 ∨ k = 33 ∨ k = 34 ∨ k = 35) : pOf (k, a) a := Or.inl ⟨h, rfl⟩
theorem pOf_1 {a s : Nat} (h : s < 5) : pOf (1, 5 * a + s) a := Or.inr (Or.inl ⟨rfl, by show (5 * a + s) / 5 = a; omega⟩)
theorem pOf_0 {a g : Nat} (h : g < 15) : pOf (0, 15 * a + g) a := Or.inr (Or.inr ⟨Or.inl rfl, by show (15 * a + g) / 15 = a; omega⟩)
theorem pOf_20 {a g : Nat} (h : g < 15) : pOf (20, 15 * a + g) a := Or.inr (Or.inr ⟨Or.inr rfl, by show (15 * a + g) / 15 = a; omega⟩)
theorem nOf_k {k a b : Nat} (hab : a ≠ b) (h : k ≠ 1 ∧ k ≠ 0 ∧ k ≠ 20) : ¬ pOf (k, b) a := by
  unfold pOf
  dsimp only
  omega
theorem nOf_1 {a b s : Nat} (hab : a ≠ b) (h : s < 5) : ¬ pOf (1, 5 * b + s) a := by
  unfold pOf
  dsimp only
  omega
theorem nOf_0 {a b g : Nat} (hab : a ≠ b) (h : g < 15) : ¬ pOf (0, 15 * b + g) a := by
  unfold pOf
  dsimp only
  omega
theorem nOf_20 {a b g : Nat} (hab : a ≠ b) (h : g < 15) : ¬ pOf (20, 15 * b + g) a := by
  unfold pOf
  dsimp only
  omega
theorem nOf_o {k a j : Nat} (h : k ≠ 1 ∧ k ≠ 0 ∧ k ≠ 20 ∧ k ≠ 5 ∧ k ≠ 3 ∧ k ≠ 23 ∧ k ≠ 24 ∧ k ≠ 25 ∧ k ≠ 32 ∧ k ≠ 33 ∧ k ≠ 34 ∧ k ≠ 35) : ¬ pOf (k, j) a := by
  unfold pOf
  dsimp only
  omega
/-- plan a of M1 is plan b of M -/
def PEq (M1 : eg_H) (a : Nat) (M : eg_H) (b : Nat) : Prop :=
  (M1.1 (5, a) 0 = M.1 (5, b) 0 ∧ M1.1 (5, a) 2 = M.1 (5, b) 2 ∧ M1.1 (5, a) 4 = M.1 (5, b) 4 ∧ M1.1 (5, a) 5 = M.1 (5, b) 5 ∧ M1.1 (5, a) 6 = M.1 (5, b) 6) ∧ (∀ s k, s < cN M b → k < 7 → M1.1 (1, 5 * a + s) k = M.1 (1, 5 * b + s) k) ∧ (∀ g, g < cP M b → (∀ k, k < 3 → M1.1 (0, 15 * a + g) k = M.1 (0, 15 * b + g) k) ∧ ∀ k, k < 5 → M1.1 (20, 15 * a + g) k = M.1 (20, 15 * b + g) k) ∧ (∀ k, k < 3 → M1.1 (35, a) k = M.1 (35, b) k) ∧ M1.1 (3, a) 4 = M.1 (3, b) 4 ∧ (∀ k, k < 64 → M1.1 (23, a) k = M.1 (23, b) k) ∧ (∀ k, k < 7 → M1.1 (24, a) k = M.1 (24, b) k) ∧ ∀ k, k < 7 → M1.1 (25, a) k = M.1 (25, b) k
theorem evL_kn {kn kn1 : Nat → Int32} {nm : Nat → Int64} {B : Nat} (h : ∀ j, j < B → kn j = kn1 j) : ∀ (n i : Nat) (l : List Int64), i + n ≤ B → evL kn nm n i l = evL kn1 nm n i l
  | 0, _, _, _ => rfl
  | n + 1, i, l, hb => by
    have e := h i (by omega)
    have ih := fun l => evL_kn (nm := nm) h n (i + 1) l (by omega)
    by_cases c1 : 64 ≤ l.length
    · rw [evL_full c1, evL_full c1]
    · by_cases c2 : kn i < 10000
      · rw [evL_num c1 c2, evL_num c1 (by rw [← e]; exact c2), ih, e]
      · have d2 : ¬ kn1 i < 10000 := by rw [← e]; exact c2
        by_cases c3 : 16 ≤ kn i - 10000 ∧ kn i - 10000 ≤ 23
        · rw [evL_nam c1 c2 c3, evL_nam c1 d2 (by rw [← e]; exact c3), ih, e]
        · have d3 : ¬ (16 ≤ kn1 i - 10000 ∧ kn1 i - 10000 ≤ 23) := by rw [← e]; exact c3
          by_cases c4 : kn i - 10000 = 15
          · have d4 : kn1 i - 10000 = 15 := by rw [← e]; exact c4
            rcases l with _ | ⟨x, l⟩
            · rw [evL_skip (by decide) c2 c3 (fun q => absurd q.2 (by decide)), evL_skip (by decide) d2 d3 (fun q => absurd q.2 (by decide)), ih]
            · rw [evL_not c1 c2 c3 c4, evL_not c1 d2 d3 d4, ih]
          · have d4 : ¬ kn1 i - 10000 = 15 := by rw [← e]; exact c4
            rcases l with _ | ⟨b, _ | ⟨a, l⟩⟩
            · rw [evL_skip (by decide) c2 c3 (fun q => c4 q.1), evL_skip (by decide) d2 d3 (fun q => d4 q.1), ih]
            · rw [evL_skip (by show 1 ≤ 1; decide) c2 c3 (fun q => c4 q.1), evL_skip (by show 1 ≤ 1; decide) d2 d3 (fun q => d4 q.1), ih]
            · rw [evL_bin c1 c2 c3 c4, evL_bin c1 d2 d3 d4, ih, e]
theorem PEq.E {M1 M : eg_H} {a b : Nat} (h : PEq M1 a M b) (hW : cW M b) : cE M1 a = cE M b := by
  obtain ⟨⟨h0, h2, h4, h5, h6⟩, hd, hc, h35, h34, h23, h24, h25⟩ := h
  obtain ⟨_, hN, hP, hg, _, _⟩ := hW
  have eN' : cN M1 a = cN M b := by unfold cN; rw [h0]
  have eP' : cP M1 a = cP M b := by unfold cP; rw [h2]
  have eL' : ∀ l, l < 3 → lC M1 a l = lC M b l := by
    intro l hl
    have ev : ∀ nm, valC M1 a nm (M1.1 (35, a) l) = valC M b nm (M.1 (35, b) l) := by
      intro nm
      rw [h35 l hl]
      have gv := hg l hl
      generalize M.1 (35, b) l = w at gv ⊢
      unfold valC
      rw [h34]
      by_cases c : w < 0 ∨ ¬ w < M.1 (3, b) 4
      · rw [if_pos c, if_pos c]
      · rw [if_neg c, if_neg c]
        obtain ⟨g1, g2, g3⟩ := gv (fun q => c (Or.inl q)) (Classical.byContradiction (fun q => c (Or.inr q)))
        have w7 := vp_lt g1
        have v2 := vp_lt g2
        have v3 := vp_lt g3
        rw [h24 _ w7, h25 _ w7]
        by_cases z : (M.1 (24, b) w.toNatClampNeg).toNatClampNeg ≤ (M.1 (25, b) w.toNatClampNeg).toNatClampNeg
        · exact evL_kn h23 _ _ _ (by omega)
        · exact evL_kn h23 _ _ _ (by omega)
    funext nm
    unfold lC
    rw [ev nm]
  unfold cE
  rw [eN', eP']
  have e3 : (fun s f => if s < cN M b then dC M1 a s f else 0) = (fun s f => if s < cN M b then dC M b s f else 0) := by
    funext s f
    by_cases c : s < cN M b
    · rw [if_pos c, if_pos c]
      unfold dC
      split <;> first | exact hd s _ c (by omega) | rfl
    · rw [if_neg c, if_neg c]
  have e4 : (fun g f => if g < cP M b then pC M1 a g f else 0) = (fun g f => if g < cP M b then pC M b g f else 0) := by
    funext g f
    by_cases c : g < cP M b
    · rw [if_pos c, if_pos c]
      unfold pC
      split
      · exact (hc g c).1 1 (by omega)
      · exact (hc g c).1 2 (by omega)
      · rename_i k
        by_cases c2 : k < 5
        · rw [if_pos c2, if_pos c2]; exact (hc g c).2 k c2
        · rw [if_neg c2, if_neg c2]
    · rw [if_neg c, if_neg c]
  have e5 : oC M1 a = oC M b := by
    funext f
    unfold oC
    split <;> first | exact h4 | exact h5 | exact h6 | rfl
  have e6 : (fun l => if l < 3 then lC M1 a l else fun _ => none) = (fun l => if l < 3 then lC M b l else fun _ => none) := by
    funext l
    by_cases c : l < 3
    · rw [if_pos c, if_pos c, eL' l c]
    · rw [if_neg c, if_neg c]
  rw [e3, e4, e5, e6]
theorem PEq.W {M1 M : eg_H} {a b : Nat} (h : PEq M1 a M b) (ha : a < 2) (hW : cW M b) : cW M1 a := by
  have e := h.E hW
  obtain ⟨⟨h0, h2, h4, h5, h6⟩, hd, hc, h35, h34, h23, h24, h25⟩ := h
  obtain ⟨w1, hN, hP, hg, hE, h5⟩ := hW
  refine ⟨ha, by rw [h0]; exact hN, by rw [h2]; exact hP, fun l hl => ?_, by rw [e]; exact hE, fun s hs => ?_⟩
  · unfold gvC
    rw [h35 l hl, h34]
    intro a1 a2
    obtain ⟨g1, g2, g3⟩ := hg l hl a1 a2
    rw [h24 _ (vp_lt g1), h25 _ (vp_lt g1)]
    exact ⟨g1, g2, g3⟩
  · rw [e]
    refine h5 s ?_
    have : cN M1 a = cN M b := by unfold cN; rw [h0]
    rwa [← this]
