/-! THE MODEL'S PLAN -/
def KS (kn pt ot : Nat → Int32) (a b : Nat) : Prop := ∀ i, a ≤ i → i < b → kn i = 0 ∨ (kn i = 1 ∧ vp_in (pt i) 8) ∨ (¬ kn i = 1 ∧ (vp_in (pt i) 64 ∧ a ≤ (pt i).toNatClampNeg ∧ (pt i).toNatClampNeg < i) ∧ (vp_in (ot i) 64 ∧ a ≤ (ot i).toNatClampNeg ∧ (ot i).toNatClampNeg < i)) ∨ (kn i = 2 ∧ (vp_in (pt i) 64 ∧ a ≤ (pt i).toNatClampNeg ∧ (pt i).toNatClampNeg < i))
theorem KS.w {kn pt ot : Nat → Int32} {a b : Nat} (h : KS kn pt ot a b) (i : Nat) (h1 : a ≤ i) (h2 : i < b) : knW kn pt ot i := by
  rcases h i h1 h2 with q | q | q | q
  · exact Or.inl q
  · exact Or.inr (Or.inl q)
  · exact Or.inr (Or.inr (Or.inl ⟨q.1, q.2.1.1, q.2.2.1⟩))
  · exact Or.inr (Or.inr (Or.inr ⟨q.1, q.2.1⟩))
theorem smV_cong {kn pt ot : Nat → Int32} {a b : Nat} (h : KS kn pt ot a b) {nm nm' v v' : Nat → Int64} (hn : ∀ j, j < 8 → nm j = nm' j) : ∀ n, a + n ≤ b → (smV kn pt ot nm v a n).2 = (smV kn pt ot nm' v' a n).2 ∧ ∀ i, a ≤ i → i < a + n → (smV kn pt ot nm v a n).1 i = (smV kn pt ot nm' v' a n).1 i := by
  intro n
  induction n with
  | zero => intro _; exact ⟨rfl, fun i h1 h2 => by omega⟩
  | succ n ih =>
    intro hb
    obtain ⟨i1, i2⟩ := ih (by omega)
    have ev : valP kn pt ot nm (smV kn pt ot nm v a n).1 (smV kn pt ot nm v a n).2 (a + n) = valP kn pt ot nm' (smV kn pt ot nm' v' a n).1 (smV kn pt ot nm' v' a n).2 (a + n) := by
      unfold valP
      rw [i1]
      rcases h (a + n) (by omega) (by omega) with q | q | q | q
      · rw [if_pos q, if_pos q]
      · by_cases q0 : kn (a + n) = 0
        · rw [if_pos q0, if_pos q0]
        · rw [if_neg q0, if_neg q0, if_pos q.1, if_pos q.1, hn _ (vp_lt q.2)]
      · by_cases q0 : kn (a + n) = 0
        · rw [if_pos q0, if_pos q0]
        · rw [if_neg q0, if_neg q0, if_neg q.1, if_neg q.1, i2 _ q.2.1.2.1 q.2.1.2.2, i2 _ q.2.2.2.1 q.2.2.2.2]
      · by_cases q0 : kn (a + n) = 0
        · rw [if_pos q0, if_pos q0]
        · have q1 : ¬ kn (a + n) = 1 := by rw [q.1]; decide
          rw [if_neg q0, if_neg q0, if_neg q1, if_neg q1, i2 _ q.2.2.1 q.2.2.2]
          unfold opP
          rw [if_pos q.1, if_pos q.1]
    show (stV kn pt ot nm (a + n) (smV kn pt ot nm v a n)).2 = (stV kn pt ot nm' (a + n) (smV kn pt ot nm' v' a n)).2 ∧ ∀ i, a ≤ i → i < a + (n + 1) → (stV kn pt ot nm (a + n) (smV kn pt ot nm v a n)).1 i = (stV kn pt ot nm' (a + n) (smV kn pt ot nm' v' a n)).1 i
    unfold stV
    rw [ev]
    refine ⟨rfl, fun i h1 h2 => ?_⟩
    show vp_updL _ _ _ i = vp_updL _ _ _ i
    unfold vp_updL
    by_cases hi : i = a + n
    · rw [if_pos hi, if_pos hi]
    · rw [if_neg hi, if_neg hi]
      exact i2 i h1 (by omega)
def lwK (M : eg_H) (l : Nat) : Int32 := if ¬ nI l = M.1 (60, 0) 62 then nI l else M.1 (60, 0) 63
def lwN (M : eg_H) (l : Nat) : Prop := ¬ nI l = M.1 (60, 0) 62 ∧ M.1 (98, 0) l = 0
/-- a law's value by names: none if it isn't told, or an error -/
def lwM (M : eg_H) (l : Nat) (nm : Nat → Int64) : Option Int64 :=
  if ¬ nI l = M.1 (60, 0) 62 ∧ M.1 (98, 0) l = 0 then none else
    let k := (lwK M l).toNatClampNeg
    let a := (M.1 (96, 0) k).toNatClampNeg
    let b := (M.1 (97, 0) k).toNatClampNeg
    let s := smV (M.1 (99, 0)) (M.1 (100, 0)) (M.1 (101, 0)) nm nm0 a (b - a)
    if s.2 = 0 then some (s.1 (b - 1)) else none
def lwW (M : eg_H) (l : Nat) : Prop := l < 3 ∧ ((¬ nI l = M.1 (60, 0) 62 ∧ M.1 (98, 0) l = 0) ∨ (vp_in (lwK M l) 14 ∧ vp_in (M.1 (96, 0) (lwK M l).toNatClampNeg) 64 ∧ vp_in (M.1 (97, 0) (lwK M l).toNatClampNeg) 65 ∧ (M.1 (96, 0) (lwK M l).toNatClampNeg).toNatClampNeg < (M.1 (97, 0) (lwK M l).toNatClampNeg).toNatClampNeg ∧ KS (M.1 (99, 0)) (M.1 (100, 0)) (M.1 (101, 0)) (M.1 (96, 0) (lwK M l).toNatClampNeg).toNatClampNeg (M.1 (97, 0) (lwK M l).toNatClampNeg).toNatClampNeg))
theorem lwM_cong {M : eg_H} {l : Nat} (h : lwW M l) {nm nm' : Nat → Int64} (hn : ∀ j, j < 8 → nm j = nm' j) : lwM M l nm = lwM M l nm' := by
  unfold lwM
  rcases h.2 with q | ⟨-, h2, h3, h4, h5⟩
  · rw [if_pos q, if_pos q]
  · by_cases q : ¬ nI l = M.1 (60, 0) 62 ∧ M.1 (98, 0) l = 0
    · rw [if_pos q, if_pos q]
    · rw [if_neg q, if_neg q]
      have c := smV_cong h5 (v := nm0) (v' := nm0) hn _ (show _ + ((M.1 (97, 0) (lwK M l).toNatClampNeg).toNatClampNeg - (M.1 (96, 0) (lwK M l).toNatClampNeg).toNatClampNeg) ≤ _ by omega)
      dsimp only
      rw [c.1, c.2 _ (by omega) (by omega)]
theorem sX11_lawOf {κ : eg_K} {d : Nat} (hd : 3 ≤ d) (M : eg_H) (l : Nat) (w : Int64) (h : lwW M l) : eg_S κ gM mtX11_lawOf d [vR (60, 0), vI (nI l), vL w] M (eQL κ gM (fun r M1 => r = (lwM M l (M.2.1 (127, 0))).getD w ∧ ∃ s, M1 = sVE M s)) := by
  have hl := h.1
  have k19 : (¬ (¬ nI l = M.1 (60, 0) 62 ∧ M.1 (98, 0) l = 0)) → eg_W κ gM mtX11_lawOf d (eQL κ gM (fun r M1 => r = (lwM M l (M.2.1 (127, 0))).getD w ∧ ∃ s, M1 = sVE M s)) 19 [(0, vR (60, 0)), (1, vI (nI l)), (2, vL w)] [] M := by
    intro q
    rcases h.2 with q2 | ⟨h1, h2, h3, h4, h5⟩
    · exact absurd q2 q
    · refine vX11_lawOf_19 hd M _ _ (fun x1 e1 => ?_)
      have e2 : x1 = lwK M l := e1
      subst e2
      refine ⟨⟨h1, h2, h3, h4, fun i i1 i2 => h5.w i i1 i2⟩, fun x4 M3 e3 x5 e5 => ?_⟩
      obtain ⟨e6, e7⟩ := Prod.mk.inj e3
      refine ⟨?_, _, e7⟩
      have c := smV_cong h5 (nm := M.2.1 (127, 0)) (nm' := M.2.1 (127, 0)) (v := M.2.1 (128, 0)) (v' := nm0) (fun _ _ => rfl) _ (show _ + ((M.1 (97, 0) (lwK M l).toNatClampNeg).toNatClampNeg - (M.1 (96, 0) (lwK M l).toNatClampNeg).toNatClampNeg) ≤ _ by omega)
      rw [e5, e7, e6]
      simp only [sVE_o]
      unfold lwM
      rw [if_neg q]
      dsimp only
      have c1 : (smM M (M.1 (96, 0) (lwK M l).toNatClampNeg).toNatClampNeg ((M.1 (97, 0) (lwK M l).toNatClampNeg).toNatClampNeg - (M.1 (96, 0) (lwK M l).toNatClampNeg).toNatClampNeg)).2 = _ := c.1
      have c2 : (smM M (M.1 (96, 0) (lwK M l).toNatClampNeg).toNatClampNeg ((M.1 (97, 0) (lwK M l).toNatClampNeg).toNatClampNeg - (M.1 (96, 0) (lwK M l).toNatClampNeg).toNatClampNeg)).1 ((M.1 (97, 0) (lwK M l).toNatClampNeg).toNatClampNeg - 1) = _ := c.2 _ (by omega) (by omega)
      rw [c1, c2]
      by_cases hz : (smV (M.1 (99, 0)) (M.1 (100, 0)) (M.1 (101, 0)) (M.2.1 (127, 0)) nm0 (M.1 (96, 0) (lwK M l).toNatClampNeg).toNatClampNeg ((M.1 (97, 0) (lwK M l).toNatClampNeg).toNatClampNeg - (M.1 (96, 0) (lwK M l).toNatClampNeg).toNatClampNeg)).2 = 0
      · rw [if_pos hz, if_pos hz, if_pos hz]; rfl
      · rw [if_neg hz, if_neg hz]; rfl
  refine eg_S.of rfl (Nat.le_of_ble_eq_true rfl) (vX11_lawOf_0 (M := M) (l1 := nI l) (l2 := w) ⟨fun c => k19 (fun q => q.1 c), fun c => ⟨nI_in' (by omega) (by omega), fun c2 => k19 (fun q => ?_), fun c2 => ?_⟩⟩)
  · rw [nI_t (by omega)] at c2
    exact c2 q.2
  · rw [nI_t (by omega)] at c2
    refine ⟨?_, (M.2.1 (128, 0), M.1 (60, 0) 68), ?_⟩
    · unfold lwM
      rw [if_pos ⟨c, c2⟩]; rfl
    · show M = sI (sU M (128, 0) (M.2.1 (128, 0))) (60, 0) 68 (M.1 (60, 0) 68)
      rw [sU_self, sI_self]
