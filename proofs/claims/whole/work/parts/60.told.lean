/-! THE TOLD TEXT ON BOTH SIDES: the class's plan p, the model's first halves -/
def plS (M : eg_H) (p : Nat) (N : eg_H) (s : Nat) : Prop :=
  M.1 (1, 5 * p + s) 0 = N.1 (88, 0) s ∧ ((1 ≤ (N.1 (89, 0) (6 * s)).toInt ∧ (N.1 (89, 0) (6 * s)).toInt ≤ 240) ∧ M.1 (1, 5 * p + s) 1 = N.1 (89, 0) (6 * s)) ∧ ((1 ≤ (N.1 (89, 0) (6 * s + 1)).toInt ∧ (N.1 (89, 0) (6 * s + 1)).toInt ≤ 4) ∧ M.1 (1, 5 * p + s) 2 = N.1 (89, 0) (6 * s + 1)) ∧ ((N.1 (89, 0) (6 * s + 2) = -1 ∨ (1 ≤ (N.1 (89, 0) (6 * s + 2)).toInt ∧ (N.1 (89, 0) (6 * s + 2)).toInt ≤ 60)) ∧ M.1 (1, 5 * p + s) 3 = if N.1 (89, 0) (6 * s + 2) < 0 then 0 else N.1 (89, 0) (6 * s + 2)) ∧ ((0 ≤ (N.1 (89, 0) (6 * s + 3)).toInt ∧ (N.1 (89, 0) (6 * s + 3)).toInt ≤ 900) ∧ M.1 (1, 5 * p + s) 4 = N.1 (89, 0) (6 * s + 3)) ∧ ((0 ≤ (N.1 (89, 0) (6 * s + 4)).toInt ∧ (N.1 (89, 0) (6 * s + 4)).toInt ≤ 59) ∧ M.1 (1, 5 * p + s) 5 = N.1 (89, 0) (6 * s + 4)) ∧ M.1 (1, 5 * p + s) 6 = if N.1 (89, 0) (6 * s + 5) ≤ 0 then 0 else N.1 (89, 0) (6 * s + 5)
def plG (M : eg_H) (p : Nat) (N : eg_H) (g : Nat) : Prop :=
  M.1 (0, 15 * p + g) 0 = N.1 (90, 0) g ∧ ((0 ≤ (N.1 (91, 0) g).toInt ∧ (N.1 (91, 0) g).toInt ≤ 3599) ∧ M.1 (0, 15 * p + g) 1 = N.1 (91, 0) g) ∧ ((1 ≤ (N.1 (92, 0) g).toInt ∧ (N.1 (92, 0) g).toInt ≤ 20) ∧ M.1 (0, 15 * p + g) 2 = N.1 (92, 0) g) ∧ ∀ k, k < 5 → (0 ≤ (N.1 (93, 0) (5 * g + k)).toInt ∧ (N.1 (93, 0) (5 * g + k)).toInt ≤ 9) ∧ M.1 (20, 15 * p + g) k = N.1 (93, 0) (5 * g + k)
def plM (M : eg_H) (p : Nat) (N : eg_H) (y : Nat) : Prop := M.1 (32, p) y = N.1 (94, 0) y ∧ vp_in (N.1 (95, 0) y) 3 ∧ M.1 (33, p) y = N.1 (95, 0) y ∧ LR M p (M.1 (34, p) y) N (3 + y)
def plL (M : eg_H) (p : Nat) (N : eg_H) (l : Nat) : Prop := (M.1 (35, p) l = -1 ∧ N.1 (98, 0) l = 0) ∨ (¬ N.1 (98, 0) l = 0 ∧ LR M p (M.1 (35, p) l) N l)
def PL (M : eg_H) (p : Nat) (N : eg_H) : Prop :=
  p < 2 ∧ (vp_in (N.1 (60, 0) 12) 6 ∧ M.1 (5, p) 0 = N.1 (60, 0) 12) ∧ (vp_in (N.1 (60, 0) 13) 10 ∧ M.1 (5, p) 2 = N.1 (60, 0) 13) ∧ (vp_in (N.1 (60, 0) 14) 5 ∧ M.1 (5, p) 7 = N.1 (60, 0) 14) ∧ M.1 (3, p) 3 = N.1 (60, 0) 15 ∧ ((N.1 (60, 0) 16 = 0 ∨ N.1 (60, 0) 16 = 1) ∧ M.1 (5, p) 4 = N.1 (60, 0) 16) ∧ ((0 ≤ (N.1 (60, 0) 17).toInt ∧ (N.1 (60, 0) 17).toInt ≤ 1800) ∧ M.1 (5, p) 5 = N.1 (60, 0) 17) ∧ ((0 ≤ (N.1 (60, 0) 18).toInt ∧ (N.1 (60, 0) 18).toInt ≤ 3600) ∧ M.1 (5, p) 6 = N.1 (60, 0) 18) ∧ (∀ s, s < (N.1 (60, 0) 12).toNatClampNeg → plS M p N s) ∧ (∀ g, g < (N.1 (60, 0) 13).toNatClampNeg → plG M p N g) ∧ (∀ y, y < (N.1 (60, 0) 14).toNatClampNeg → plM M p N y) ∧ ∀ l, l < 3 → plL M p N l
section
variable {M N : eg_H} {p : Nat}
theorem PL.p2 (h : PL M p N) : p < 2 := h.1
theorem PL.hn (h : PL M p N) : vp_in (N.1 (60, 0) 12) 6 := h.2.1.1
theorem PL.en (h : PL M p N) : M.1 (5, p) 0 = N.1 (60, 0) 12 := h.2.1.2
theorem PL.hg (h : PL M p N) : vp_in (N.1 (60, 0) 13) 10 := h.2.2.1.1
theorem PL.eg (h : PL M p N) : M.1 (5, p) 2 = N.1 (60, 0) 13 := h.2.2.1.2
theorem PL.hm (h : PL M p N) : vp_in (N.1 (60, 0) 14) 5 := h.2.2.2.1.1
theorem PL.em (h : PL M p N) : M.1 (5, p) 7 = N.1 (60, 0) 14 := h.2.2.2.1.2
theorem PL.ek (h : PL M p N) : M.1 (3, p) 3 = N.1 (60, 0) 15 := h.2.2.2.2.1
theorem PL.hp (h : PL M p N) : N.1 (60, 0) 16 = 0 ∨ N.1 (60, 0) 16 = 1 := h.2.2.2.2.2.1.1
theorem PL.ep (h : PL M p N) : M.1 (5, p) 4 = N.1 (60, 0) 16 := h.2.2.2.2.2.1.2
theorem PL.ha (h : PL M p N) : 0 ≤ (N.1 (60, 0) 17).toInt ∧ (N.1 (60, 0) 17).toInt ≤ 1800 := h.2.2.2.2.2.2.1.1
theorem PL.ea (h : PL M p N) : M.1 (5, p) 5 = N.1 (60, 0) 17 := h.2.2.2.2.2.2.1.2
theorem PL.hc (h : PL M p N) : 0 ≤ (N.1 (60, 0) 18).toInt ∧ (N.1 (60, 0) 18).toInt ≤ 3600 := h.2.2.2.2.2.2.2.1.1
theorem PL.ec (h : PL M p N) : M.1 (5, p) 6 = N.1 (60, 0) 18 := h.2.2.2.2.2.2.2.1.2
theorem PL.s (h : PL M p N) {s : Nat} (hs : s < (N.1 (60, 0) 12).toNatClampNeg) : plS M p N s := h.2.2.2.2.2.2.2.2.1 s hs
theorem PL.g (h : PL M p N) {g : Nat} (hg : g < (N.1 (60, 0) 13).toNatClampNeg) : plG M p N g := h.2.2.2.2.2.2.2.2.2.1 g hg
theorem PL.m (h : PL M p N) {y : Nat} (hy : y < (N.1 (60, 0) 14).toNatClampNeg) : plM M p N y := h.2.2.2.2.2.2.2.2.2.2.1 y hy
theorem PL.l (h : PL M p N) {l : Nat} (hl : l < 3) : plL M p N l := h.2.2.2.2.2.2.2.2.2.2.2 l hl
theorem PL.n1 (h : PL M p N) : cN M p = (N.1 (60, 0) 12).toNatClampNeg := by
  have := h.en
  unfold cN
  rw [this]
theorem PL.g1 (h : PL M p N) : cP M p = (N.1 (60, 0) 13).toNatClampNeg := by
  have := h.eg
  unfold cP
  rw [this]
end
/-- the model's told text is the same -/
def sT (N N1 : eg_H) : Prop := (∀ k, 12 ≤ k → k ≤ 18 → N1.1 (60, 0) k = N.1 (60, 0) k) ∧ (∀ k, 88 ≤ k → k ≤ 101 → k ≠ 91 → k ≠ 92 → k ≠ 93 → N1.1 (k, 0) = N.1 (k, 0)) ∧ (∀ g, g < (N.1 (60, 0) 13).toNatClampNeg → N1.1 (91, 0) g = N.1 (91, 0) g ∧ N1.1 (92, 0) g = N.1 (92, 0) g ∧ ∀ k, k < 5 → N1.1 (93, 0) (5 * g + k) = N.1 (93, 0) (5 * g + k))
theorem sT.rf (N : eg_H) : sT N N := ⟨fun _ _ _ => rfl, fun _ _ _ _ _ _ => rfl, fun _ _ => ⟨rfl, rfl, fun _ _ => rfl⟩⟩
theorem sT.tr {N N1 N2 : eg_H} (h : sT N N1) (k : sT N1 N2) : sT N N2 := by
  refine ⟨fun j a b => (k.1 j a b).trans (h.1 j a b), fun j a b c d e => (k.2.1 j a b c d e).trans (h.2.1 j a b c d e), fun g hg => ?_⟩
  have a := k.2.2 g (by rw [h.1 13 (by omega) (by omega)]; exact hg)
  have b := h.2.2 g hg
  exact ⟨a.1.trans b.1, a.2.1.trans b.2.1, fun j hj => (a.2.2 j hj).trans (b.2.2 j hj)⟩
theorem LR.cong {M M1 N N1 : eg_H} {p k : Nat} {w : Int32} (h : LR M p w N k) (h1 : ∀ r, pOf r p → M1.1 r = M.1 r) (h2 : sT N N1) : LR M1 p w N1 k := by
  obtain ⟨u, a, b, e1, hu, hw, hab, hb, e3, e4, e5, e6, hs⟩ := h
  refine ⟨u, a, b, e1, hu, ?_, hab, hb, ?_, ?_, ?_, ?_, ?_⟩
  · rw [h1 _ (pOf_k (by omega))]; exact hw
  · rw [h1 _ (pOf_k (by omega))]; exact e3
  · rw [h1 _ (pOf_k (by omega))]; exact e4
  · rw [h2.2.1 96 (by omega) (by omega) (by omega) (by omega) (by omega)]; exact e5
  · rw [h2.2.1 97 (by omega) (by omega) (by omega) (by omega) (by omega)]; exact e6
  · rw [h1 _ (pOf_k (by omega)), h2.2.1 99 (by omega) (by omega) (by omega) (by omega) (by omega), h2.2.1 100 (by omega) (by omega) (by omega) (by omega) (by omega), h2.2.1 101 (by omega) (by omega) (by omega) (by omega) (by omega)]; exact hs
theorem PL.cong {M M1 N N1 : eg_H} {p : Nat} (h : PL M p N) (h1 : ∀ r, pOf r p → M1.1 r = M.1 r) (h2 : sT N N1) : PL M1 p N1 := by
  have a5 := h1 (5, p) (pOf_k (by omega))
  have f := fun k a b => h2.1 k a b
  have r88 := h2.2.1 88 (by omega) (by omega) (by omega) (by omega) (by omega)
  have r89 := h2.2.1 89 (by omega) (by omega) (by omega) (by omega) (by omega)
  have r90 := h2.2.1 90 (by omega) (by omega) (by omega) (by omega) (by omega)
  have r94 := h2.2.1 94 (by omega) (by omega) (by omega) (by omega) (by omega)
  have r95 := h2.2.1 95 (by omega) (by omega) (by omega) (by omega) (by omega)
  have r98 := h2.2.1 98 (by omega) (by omega) (by omega) (by omega) (by omega)
  have n5 := (nI_of' h.hn (by omega)).2
  have n9 := (nI_of' h.hg (by omega)).2
  unfold PL
  rw [a5, h1 (3, p) (pOf_k (by omega)), f 12 (by omega) (by omega), f 13 (by omega) (by omega), f 14 (by omega) (by omega), f 15 (by omega) (by omega), f 16 (by omega) (by omega), f 17 (by omega) (by omega), f 18 (by omega) (by omega)]
  refine ⟨h.p2, ⟨h.hn, h.en⟩, ⟨h.hg, h.eg⟩, ⟨h.hm, h.em⟩, h.ek, ⟨h.hp, h.ep⟩, ⟨h.ha, h.ea⟩, ⟨h.hc, h.ec⟩, fun s hs => ?_, fun g hg => ?_, fun y hy => ?_, fun l hl => ?_⟩
  · unfold plS
    rw [h1 _ (pOf_1 (by omega)), r88, r89]
    exact h.s hs
  · unfold plG
    obtain ⟨q1, q2, q3⟩ := h2.2.2 g hg
    rw [h1 _ (pOf_0 (by omega)), h1 _ (pOf_20 (by omega)), r90, q1, q2]
    obtain ⟨b1, b2, b3, b4⟩ := h.g hg
    refine ⟨b1, b2, b3, fun k hk => ?_⟩
    rw [q3 k hk]
    exact b4 k hk
  · unfold plM
    rw [h1 _ (pOf_k (by omega)), h1 _ (pOf_k (by omega)), h1 _ (pOf_k (by omega)), r94, r95]
    obtain ⟨b1, b2, b3, b4⟩ := h.m hy
    exact ⟨b1, b2, b3, b4.cong h1 h2⟩
  · unfold plL
    rw [h1 _ (pOf_k (by omega)), r98]
    rcases h.l hl with q | q
    · exact Or.inl q
    · exact Or.inr ⟨q.1, q.2.cong h1 h2⟩
theorem LR.gv {M N : eg_H} {p k : Nat} {w : Int32} (h : LR M p w N k) : gvC M p w := by
  obtain ⟨u, a, b, e1, hu, hw, hab, hb, e3, e4, _, _, _⟩ := h
  intro _ _
  subst e1
  rw [nI_t (by omega), e3, e4]
  exact ⟨nI_in' (by omega) (by omega), nI_in' (by omega) (by omega), nI_in' (by omega) (by omega)⟩
theorem m1_gv (M : eg_H) (p : Nat) : gvC M p (-1) := fun h => absurd (by decide) h
theorem pn0 {x : Int32} (h : x = -1 ∨ (1 ≤ x.toInt ∧ x.toInt ≤ 60)) : (0 ≤ (if x < 0 then 0 else x).toInt ∧ (if x < 0 then 0 else x).toInt ≤ 60) ∧ ((if x < 0 then 0 else x) = 0 ↔ x < 0) := by
  by_cases c : x < 0
  · rw [if_pos c]
    exact ⟨by rw [t_0]; omega, fun _ => c, fun _ => rfl⟩
  · rw [if_neg c]
    rcases h with h | h
    · rw [h] at c; exact absurd (by decide) c
    · refine ⟨by omega, fun e => ?_, fun q => absurd q c⟩
      rw [e, t_0] at h
      omega
section
variable {M N : eg_H} {p : Nat}
theorem PL.nn (h : PL M p N) : N.1 (60, 0) 12 = nI (N.1 (60, 0) 12).toNatClampNeg ∧ (N.1 (60, 0) 12).toNatClampNeg < 6 := nI_of' h.hn (by omega)
theorem PL.gg (h : PL M p N) : N.1 (60, 0) 13 = nI (N.1 (60, 0) 13).toNatClampNeg ∧ (N.1 (60, 0) 13).toNatClampNeg < 10 := nI_of' h.hg (by omega)
theorem PL.wE (h : PL M p N) : wE (cE M p) := by
  have e1 : eN (cE M p) = (N.1 (60, 0) 12).toNatClampNeg := h.n1
  have e2 : eP (cE M p) = (N.1 (60, 0) 13).toNatClampNeg := h.g1
  have o1 : eO (cE M p) 1 = N.1 (60, 0) 17 := h.ea
  have o2 : eO (cE M p) 2 = N.1 (60, 0) 18 := h.ec
  refine ⟨by rw [e1]; exact h.nn.2, by rw [e2]; have := h.gg.2; omega, fun s hs => ?_, fun g hg => ?_, by rw [o1]; exact h.ha, by rw [o2]; exact h.hc⟩
  · have hs' : s < cN M p := hs
    rw [e1] at hs
    obtain ⟨b0, b1, b2, b3, b4, b5, b6⟩ := h.s hs
    rw [eD_c hs', eD_c hs', eD_c hs', eD_c hs']
    refine ⟨?_, ?_, ?_, ?_⟩
    · show 1 ≤ (M.1 (1, 5 * p + s) 1).toInt ∧ (M.1 (1, 5 * p + s) 1).toInt ≤ 240; rw [b1.2]; exact b1.1
    · show 0 ≤ (M.1 (1, 5 * p + s) 3).toInt ∧ (M.1 (1, 5 * p + s) 3).toInt ≤ 60; rw [b3.2]; exact (pn0 b3.1).1
    · show 0 ≤ (M.1 (1, 5 * p + s) 4).toInt ∧ (M.1 (1, 5 * p + s) 4).toInt ≤ 900; rw [b4.2]; exact b4.1
    · show 0 ≤ (M.1 (1, 5 * p + s) 5).toInt ∧ (M.1 (1, 5 * p + s) 5).toInt ≤ 59; rw [b5.2]; exact b5.1
  · have hg' : g < cP M p := hg
    rw [e2] at hg
    obtain ⟨b0, b1, b2, b3⟩ := h.g hg
    rw [eC_c hg']
    show 1 ≤ (M.1 (0, 15 * p + g) 2).toInt ∧ (M.1 (0, 15 * p + g) 2).toInt ≤ 20
    rw [b2.2]; exact b2.1
theorem PL.wE2 (h : PL M p N) : wE2 (cE M p) := by
  intro g hg k hk
  have hg' : g < cP M p := hg
  rw [h.g1] at hg'
  have := ((h.g hg').2.2.2 k hk)
  rw [eC_c hg, show pC M p g (2 + k) = M.1 (20, 15 * p + g) k from by rw [Nat.add_comm]; exact if_pos hk, this.2]
  exact this.1
theorem PL.cW (h : PL M p N) : cW M p := by
  refine ⟨h.p2, by rw [h.en]; exact h.hn, ?_, fun l hl => ?_, h.wE, fun s hs => ?_⟩
  · rw [h.eg, h.gg.1]
    have := h.gg.2
    exact nI_in' (by omega) (by omega)
  · rcases h.l hl with q | q
    · rw [q.1]; exact m1_gv M p
    · exact q.2.gv
  · have hs' := hs
    rw [h.n1] at hs'
    have := (h.s hs').2.2.2.2.2.2
    rw [eD_c hs, show dC M p s 5 = M.1 (1, 5 * p + s) 6 from rfl, this]
    by_cases c : N.1 (89, 0) (6 * s + 5) ≤ 0
    · rw [if_pos c]; decide
    · rw [if_neg c]
      rw [t_le, t_0] at c
      omega
/-! the model's numbers of a run, by the told text and what is asked -/
theorem PL.d0 (h : PL M p N) {s : Nat} (hs : s < (N.1 (60, 0) 12).toNatClampNeg) : dM N s 0 = dC M p s 0 := (h.s hs).2.1.2.symm
theorem PL.d1 (h : PL M p N) {s : Nat} (hs : s < (N.1 (60, 0) 12).toNatClampNeg) : dM N s 1 = if ¬ nI s = N.1 (60, 0) 53 then dC M p s 1 else N.1 (60, 0) 54 := by
  have := (h.s hs).2.2.1.2
  show (if ¬ nI s = N.1 (60, 0) 53 then N.1 (89, 0) (6 * s + 1) else N.1 (60, 0) 54) = _
  rw [← this]
  rfl
theorem PL.d2 (h : PL M p N) {s : Nat} (hs : s < (N.1 (60, 0) 12).toNatClampNeg) : dM N s 2 = if dC M p s 2 = 0 then 0 else if ¬ nI s = N.1 (60, 0) 57 then dC M p s 2 else N.1 (60, 0) 58 := by
  have b := (h.s hs).2.2.2.1
  have e : dC M p s 2 = if N.1 (89, 0) (6 * s + 2) < 0 then 0 else N.1 (89, 0) (6 * s + 2) := b.2
  show (if N.1 (89, 0) (6 * s + 2) < 0 then 0 else if ¬ nI s = N.1 (60, 0) 57 then N.1 (89, 0) (6 * s + 2) else N.1 (60, 0) 58) = _
  by_cases c : N.1 (89, 0) (6 * s + 2) < 0
  · rw [if_pos c, e, if_pos ((pn0 b.1).2.mpr c)]
  · rw [if_neg c, e, if_neg (fun q => c ((pn0 b.1).2.mp q)), if_neg c]
theorem PL.d3 (h : PL M p N) {s : Nat} (hs : s < (N.1 (60, 0) 12).toNatClampNeg) : dM N s 3 = dC M p s 3 := (h.s hs).2.2.2.2.1.2.symm
theorem PL.d4 (h : PL M p N) {s : Nat} (hs : s < (N.1 (60, 0) 12).toNatClampNeg) : dM N s 4 = if ¬ nI s = N.1 (60, 0) 55 then dC M p s 4 else N.1 (60, 0) 56 := by
  have := (h.s hs).2.2.2.2.2.1.2
  show (if ¬ nI s = N.1 (60, 0) 55 then N.1 (89, 0) (6 * s + 4) else N.1 (60, 0) 56) = _
  rw [← this]
  rfl
theorem PL.d5 (h : PL M p N) {s : Nat} (hs : s < (N.1 (60, 0) 12).toNatClampNeg) : dM N s 5 = dC M p s 5 := (h.s hs).2.2.2.2.2.2.symm
theorem PL.c0 (h : PL M p N) {g : Nat} (hg : g < (N.1 (60, 0) 13).toNatClampNeg) : coM N g = if 3599 < pC M p g 0 + N.1 (125, 0) g then 3599 else pC M p g 0 + N.1 (125, 0) g := by
  have := (h.g hg).2.1.2
  unfold coM
  rw [← this]
  rfl
theorem PL.c1 (h : PL M p N) {g : Nat} (hg : g < (N.1 (60, 0) 13).toNatClampNeg) : pM N g 1 = if N.1 (60, 0) 59 ≤ 0 then pC M p g 1 else N.1 (60, 0) 59 := by
  have := (h.g hg).2.2.1.2
  have g9 := h.gg.2
  show fX11_sizeOf N (nI g) = _
  unfold fX11_sizeOf
  rw [nI_t (by omega), ← this]
  rfl
theorem PL.c2 (h : PL M p N) {g : Nat} (hg : g < (N.1 (60, 0) 13).toNatClampNeg) (k : Nat) : pM N g (k + 2) = pC M p g (k + 2) := by
  show (if k < 5 then N.1 (93, 0) (5 * g + k) else 0) = (if k < 5 then M.1 (20, 15 * p + g) k else 0)
  by_cases c : k < 5
  · rw [if_pos c, if_pos c, ((h.g hg).2.2.2 k c).2]
  · rw [if_neg c, if_neg c]
/-- a law that isn't asked otherwise -/
theorem PL.lw (h : PL M p N) {l : Nat} (hl : l < 3) (ha : ¬ nI l = N.1 (60, 0) 62) : lwW N l ∧ ∀ nm, iN nm → lC M p l nm = lwM N l nm := by
  have ek : lwK N l = nI l := if_pos ha
  rcases h.l hl with q | q
  · refine ⟨⟨hl, Or.inl ⟨ha, q.2⟩⟩, fun nm _ => ?_⟩
    have r : lwM N l nm = none := by unfold lwM; rw [if_pos ⟨ha, q.2⟩]
    rw [r]
    unfold lC
    rw [q.1, if_pos]
    unfold valC
    rw [if_pos (Or.inl (by decide))]
  · have q2 := q.2
    refine ⟨⟨hl, Or.inr ?_⟩, fun nm hnm => ?_⟩
    · rw [ek, nI_t (by omega)]
      obtain ⟨u, a, b, e1, hu, hw, hab, hb, e3, e4, e5, e6, hs⟩ := q2
      rw [e5, e6, nI_t (by omega), nI_t (by omega)]
      have := skF_KS (by omega) hs
      rw [show a + (b - a) = b by omega] at this
      exact ⟨nI_in' (by omega) (by omega), nI_in' (by omega) (by omega), nI_in' (by omega) (by omega), hab, this⟩
    · have := q2.val hnm
      have r : lwM N l nm = (if (smV (N.1 (99, 0)) (N.1 (100, 0)) (N.1 (101, 0)) nm nm0 (N.1 (96, 0) l).toNatClampNeg ((N.1 (97, 0) l).toNatClampNeg - (N.1 (96, 0) l).toNatClampNeg)).2 = 0 then some ((smV (N.1 (99, 0)) (N.1 (100, 0)) (N.1 (101, 0)) nm nm0 (N.1 (96, 0) l).toNatClampNeg ((N.1 (97, 0) l).toNatClampNeg - (N.1 (96, 0) l).toNatClampNeg)).1 ((N.1 (97, 0) l).toNatClampNeg - 1)) else none) := by
        unfold lwM
        rw [if_neg (fun z => q.1 z.2), ek, nI_t (by omega)]
      rw [r]
      exact this
/-- a law in whose place another is asked -/
theorem LR.lw {w : Int32} {k l : Nat} (h : LR M p w N k) (hk : k < 14) (hl : l < 3) (ha : nI l = N.1 (60, 0) 62) (hs : N.1 (60, 0) 63 = nI k) : lwW N l ∧ ∀ nm, iN nm → (if valC M p nm w = mnL then none else some (valC M p nm w)) = lwM N l nm := by
  have ek : lwK N l = nI k := (if_neg (fun q => q ha)).trans hs
  refine ⟨⟨hl, Or.inr ?_⟩, fun nm hnm => ?_⟩
  · rw [ek, nI_t (by omega)]
    obtain ⟨u, a, b, e1, hu, hw, hab, hb, e3, e4, e5, e6, hs⟩ := h
    rw [e5, e6, nI_t (by omega), nI_t (by omega)]
    have := skF_KS (by omega) hs
    rw [show a + (b - a) = b by omega] at this
    exact ⟨nI_in' (by omega) (by omega), nI_in' (by omega) (by omega), nI_in' (by omega) (by omega), hab, this⟩
  · have := h.val hnm
    have r : lwM N l nm = (if (smV (N.1 (99, 0)) (N.1 (100, 0)) (N.1 (101, 0)) nm nm0 (N.1 (96, 0) k).toNatClampNeg ((N.1 (97, 0) k).toNatClampNeg - (N.1 (96, 0) k).toNatClampNeg)).2 = 0 then some ((smV (N.1 (99, 0)) (N.1 (100, 0)) (N.1 (101, 0)) nm nm0 (N.1 (96, 0) k).toNatClampNeg ((N.1 (97, 0) k).toNatClampNeg - (N.1 (96, 0) k).toNatClampNeg)).1 ((N.1 (97, 0) k).toNatClampNeg - 1)) else none) := by
      unfold lwM
      rw [if_neg (fun z => z.1 ha), ek, nI_t (by omega)]
    rw [r]
    exact this
end
theorem EQ_mk {M N : eg_H} {q : Nat} (h1 : cN M q = nM N) (h2 : cP M q = NM N) (h3 : ∀ s, s < nM N → ∀ f, f < 6 → dC M q s f = dM N s f) (h4 : ∀ g, g < NM N → ∀ f, f < 7 → pC M q g f = pM N g f) (h5 : ∀ f, f < 3 → oC M q f = oM N f) (h6 : ∀ l, l < 3 → ∀ nm, iN nm → lC M q l nm = lwM N l nm) : EQ (cE M q) (mE N) := by
  refine ⟨h1, h2, ?_, ?_, ?_, fun l nm hl hn => ?_⟩
  · funext s f
    show (if s < cN M q then dC M q s f else 0) = (if s < nM N then dM N s f else 0)
    rw [h1]
    by_cases c : s < nM N
    · rw [if_pos c, if_pos c]
      by_cases hf : f < 6
      · exact h3 s c f hf
      · obtain ⟨k, rfl⟩ : ∃ k, f = k + 6 := ⟨f - 6, by omega⟩
        rfl
    · rw [if_neg c, if_neg c]
  · funext g f
    show (if g < cP M q then pC M q g f else 0) = (if g < NM N then pM N g f else 0)
    rw [h2]
    by_cases c : g < NM N
    · rw [if_pos c, if_pos c]
      by_cases hf : f < 7
      · exact h4 g c f hf
      · obtain ⟨k, rfl⟩ : ∃ k, f = (k + 5) + 2 := ⟨f - 7, by omega⟩
        show (if k + 5 < 5 then M.1 (20, 15 * q + g) (k + 5) else 0) = (if k + 5 < 5 then N.1 (93, 0) (5 * g + (k + 5)) else 0)
        rw [if_neg (by omega), if_neg (by omega)]
    · rw [if_neg c, if_neg c]
  · funext f
    show oC M q f = oM N f
    by_cases hf : f < 3
    · exact h5 f hf
    · obtain ⟨k, rfl⟩ : ∃ k, f = k + 3 := ⟨f - 3, by omega⟩
      rfl
  · show (if l < 3 then lC M q l else fun _ => none) nm = (if l < 3 then lwM N l else fun _ => none) nm
    rw [if_pos hl, if_pos hl]
    exact h6 l hl nm hn
