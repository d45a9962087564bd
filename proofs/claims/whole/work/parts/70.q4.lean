/-! THE SPARE PLAN: the told one but for ex -/
def spX (M : eg_H) (p : Nat) (M1 : eg_H) (ex : eg_R → Nat → Prop) : Prop :=
  FrQ p M M1 ∧ (∀ k, (k = 0 ∨ k = 2 ∨ k = 4 ∨ k = 5 ∨ k = 6) → ¬ ex (5, 1 - p) k → M1.1 (5, 1 - p) k = M.1 (5, p) k) ∧ (∀ s k, s < cN M p → k < 7 → ¬ ex (1, 5 * (1 - p) + s) k → M1.1 (1, 5 * (1 - p) + s) k = M.1 (1, 5 * p + s) k) ∧ (∀ g, g < cP M p → (∀ k, k < 3 → ¬ ex (0, 15 * (1 - p) + g) k → M1.1 (0, 15 * (1 - p) + g) k = M.1 (0, 15 * p + g) k) ∧ ∀ k, k < 5 → M1.1 (20, 15 * (1 - p) + g) k = M.1 (20, 15 * p + g) k) ∧ (∀ k, k < 3 → ¬ ex (35, 1 - p) k → M1.1 (35, 1 - p) k = M.1 (35, p) k) ∧ M1.1 (3, 1 - p) 4 = M.1 (3, p) 4 ∧ (∀ k, k < 64 → M1.1 (23, 1 - p) k = M.1 (23, p) k) ∧ (∀ k, k < 7 → M1.1 (24, 1 - p) k = M.1 (24, p) k) ∧ ∀ k, k < 7 → M1.1 (25, 1 - p) k = M.1 (25, p) k
abbrev exN : eg_R → Nat → Prop := fun _ _ => False
theorem FrP.Q {p : Nat} {M M1 : eg_H} (h : FrP (1 - p) M M1) : FrQ p M M1 := ⟨fun r hr _ _ _ _ => h.1 r hr, fun r k _ => by rw [h.2]⟩
theorem FrQ_I {p : Nat} {M M1 : eg_H} (h : FrQ p M M1) {r : eg_R} (hr : pOf r (1 - p)) (k : Nat) (x : Int32) : FrQ p M (sI M1 r k x) := ⟨fun z a b c d e => (sI_ne (fun q => a (by rw [q]; exact hr))).trans (h.1 z a b c d e), fun z j hz => h.2 z j hz⟩
theorem spX.I {M M1 : eg_H} {p : Nat} {ex : eg_R → Nat → Prop} (h : spX M p M1 ex) {r : eg_R} {k : Nat} (hr : pOf r (1 - p)) (h20 : r.1 ≠ 20 ∧ r.1 ≠ 3 ∧ r.1 ≠ 23 ∧ r.1 ≠ 24 ∧ r.1 ≠ 25) (he : ex r k) (x : Int32) : spX M p (sI M1 r k x) ex := by
  obtain ⟨a1, a2, a3, a4, a5, a6, a7, a8, a9⟩ := h
  have o : ∀ z j, ¬ ex z j → (sI M1 r k x).1 z j = M1.1 z j := fun z j hz => by
    rw [sI_i, if_neg]
    rintro ⟨c1, c2⟩
    rw [c1, c2] at hz
    exact hz he
  have o2 : ∀ a b : Nat, a ≠ r.1 → (sI M1 r k x).1 (a, b) = M1.1 (a, b) := fun a b hab => sI_ne (fun q => hab (by rw [← q]))
  refine ⟨FrQ_I a1 hr k x, fun j h1 h2 => by rw [o _ _ h2]; exact a2 j h1 h2, fun s j h1 h2 h3 => by rw [o _ _ h3]; exact a3 s j h1 h2 h3, fun g hg => ⟨fun j h1 h2 => by rw [o _ _ h2]; exact (a4 g hg).1 j h1 h2, fun j h1 => by rw [o2 _ _ (fun q => h20.1 q.symm)]; exact (a4 g hg).2 j h1⟩, fun j h1 h2 => by rw [o _ _ h2]; exact a5 j h1 h2, by rw [o2 _ _ (fun q => h20.2.1 q.symm)]; exact a6, fun j h1 => by rw [o2 _ _ (fun q => h20.2.2.1 q.symm)]; exact a7 j h1, fun j h1 => by rw [o2 _ _ (fun q => h20.2.2.2.1 q.symm)]; exact a8 j h1, fun j h1 => by rw [o2 _ _ (fun q => h20.2.2.2.2 q.symm)]; exact a9 j h1⟩
theorem spX.w {M M1 : eg_H} {p : Nat} {ex ex2 : eg_R → Nat → Prop} (h : spX M p M1 ex) (he : ∀ r k, ex r k → ex2 r k) : spX M p M1 ex2 := by
  obtain ⟨a1, a2, a3, a4, a5, a6, a7, a8, a9⟩ := h
  exact ⟨a1, fun j h1 h2 => a2 j h1 (fun q => h2 (he _ _ q)), fun s j h1 h2 h3 => a3 s j h1 h2 (fun q => h3 (he _ _ q)), fun g hg => ⟨fun j h1 h2 => (a4 g hg).1 j h1 (fun q => h2 (he _ _ q)), (a4 g hg).2⟩, fun j h1 h2 => a5 j h1 (fun q => h2 (he _ _ q)), a6, a7, a8, a9⟩
/-- behind another run -/
theorem spX.t {M M1 M2 : eg_H} {p q : Nat} {ex : eg_R → Nat → Prop} {Y : Nat → Int32} (h : spX M p M1 ex) (t : trP M1 q Y M2) : spX M p M2 ex := by
  obtain ⟨a1, a2, a3, a4, a5, a6, a7, a8, a9⟩ := h
  have o : ∀ a b : Nat, a ≠ 7 ∧ a ≠ 43 ∧ a ≠ 40 ∧ a ≠ 4 ∧ a ≠ 2 ∧ a ≠ 22 → M2.1 (a, b) = M1.1 (a, b) := fun a b hab => t.o (nT_k hab)
  refine ⟨a1.tr (t.Fr p), fun j h1 h2 => by rw [o _ _ (by omega)]; exact a2 j h1 h2, fun s j h1 h2 h3 => by rw [o _ _ (by omega)]; exact a3 s j h1 h2 h3, fun g hg => ⟨fun j h1 h2 => by rw [o _ _ (by omega)]; exact (a4 g hg).1 j h1 h2, fun j h1 => by rw [o _ _ (by omega)]; exact (a4 g hg).2 j h1⟩, fun j h1 h2 => by rw [o _ _ (by omega)]; exact a5 j h1 h2, by rw [o _ _ (by omega)]; exact a6, fun j h1 => by rw [o _ _ (by omega)]; exact a7 j h1, fun j h1 => by rw [o _ _ (by omega)]; exact a8 j h1, fun j h1 => by rw [o _ _ (by omega)]; exact a9 j h1⟩
theorem JJ.copy {M N M9 : eg_H} {C p : Nat} (h : JJ M N C p) (F : FrQ p M M9) {κ : eg_K} {d : Nat} (hd : 2 ≤ d) : eg_S κ gC mtX5_copyFrom d [vR (5, 1 - p), vR (5, p)] M9 (eQV κ gC (fun M1 => FrP (1 - p) M9 M1 ∧ PEq M1 (1 - p) M9 p)) := by
  have hp := h.hp.2
  have pl := h.1.2.1
  have hW := pl.cW
  have e5 := F.P hp.1 (pOf_k (k := 5) (by omega))
  exact sX5_copyFrom (κ := κ) hd M9 hp.2.1 hp.1 hp.2.2 (by rw [e5]; exact hW.2.1) (by rw [e5]; exact hW.2.2.1) (by rw [e5, pl.ep]; exact pl.hp)
theorem JJ.sp {M N M9 M1 : eg_H} {C p : Nat} (h : JJ M N C p) (F : FrQ p M M9) (k : FrP (1 - p) M9 M1 ∧ PEq M1 (1 - p) M9 p) : spX M p M1 exN := by
  obtain ⟨k1, k2⟩ := k
  have hp := h.hp.2
  have hW := h.1.2.1.cW
  have n6 := (cN_e hW).2
  have n16 := (cP_e hW).2
  have e := fun r hr => F.P hp.1 (r := r) hr
  have e5 := e _ (pOf_k (k := 5) (by omega))
  have en : cN M9 p = cN M p := by unfold cN; rw [e5]
  have eP : cP M9 p = cP M p := by unfold cP; rw [e5]
  obtain ⟨⟨h0, h2, h4, h5, h6⟩, hd, hc, h35, h34, h23, h24, h25⟩ := k2
  rw [e5] at h0 h2 h4 h5 h6
  rw [en] at hd
  rw [eP] at hc
  refine ⟨F.tr k1.Q, fun k hk _ => ?_, fun s k hs hk _ => ?_, fun g hg => ⟨fun k hk _ => ?_, fun k hk => ?_⟩, fun k hk _ => ?_, ?_, fun k hk => ?_, fun k hk => ?_, fun k hk => ?_⟩
  · rcases hk with rfl | rfl | rfl | rfl | rfl
    · exact h0
    · exact h2
    · exact h4
    · exact h5
    · exact h6
  · rw [hd s k hs hk, e _ (pOf_1 (by omega))]
  · rw [(hc g hg).1 k hk, e _ (pOf_0 (by omega))]
  · rw [(hc g hg).2 k hk, e _ (pOf_20 (by omega))]
  · rw [h35 k hk, e _ (pOf_k (by omega))]
  · rw [h34, e _ (pOf_k (by omega))]
  · rw [h23 k hk, e _ (pOf_k (by omega))]
  · rw [h24 k hk, e _ (pOf_k (by omega))]
  · rw [h25 k hk, e _ (pOf_k (by omega))]
theorem spX.r {M M1 : eg_H} {p : Nat} {ex : eg_R → Nat → Prop} (h : spX M p M1 ex) (h1 : M.2.2 (10, 0) 3 = (5, p) ∧ M.2.2 (10, 0) 4 = (5, 1 - p)) : M1.2.2 (10, 0) 3 = (5, p) ∧ M1.2.2 (10, 0) 4 = (5, 1 - p) := ⟨by rw [h.1.2 _ _ (by decide)]; exact h1.1, by rw [h.1.2 _ _ (by decide)]; exact h1.2⟩
theorem valC_eq {M M1 : eg_H} {a b : Nat} (h34 : M1.1 (3, a) 4 = M.1 (3, b) 4) (h23 : ∀ k, k < 64 → M1.1 (23, a) k = M.1 (23, b) k) (h24 : ∀ k, k < 7 → M1.1 (24, a) k = M.1 (24, b) k) (h25 : ∀ k, k < 7 → M1.1 (25, a) k = M.1 (25, b) k) {w : Int32} (gv : gvC M b w) : gvC M1 a w ∧ ∀ nm, valC M1 a nm w = valC M b nm w := by
  refine ⟨fun a1 a2 => ?_, fun nm => ?_⟩
  · rw [h34] at a2
    obtain ⟨g1, g2, g3⟩ := gv a1 a2
    rw [h24 _ (vp_lt g1), h25 _ (vp_lt g1)]
    exact ⟨g1, g2, g3⟩
  · unfold valC
    rw [h34]
    by_cases c : w < 0 ∨ ¬ w < M.1 (3, b) 4
    · rw [if_pos c, if_pos c]
    · rw [if_neg c, if_neg c]
      obtain ⟨g1, g2, g3⟩ := gv (fun q => c (Or.inl q)) (Classical.byContradiction (fun q => c (Or.inr q)))
      have w7 := vp_lt g1
      have v2 := vp_lt g2
      have v3 := vp_lt g3
      rw [h24 _ w7, h25 _ w7]
      exact evL_kn h23 _ _ _ (by omega)
/-- a question by the spare plan -/
theorem QS_sp {M N M' : eg_H} {C p : Nat} (h : JJ M N C p) {Q : eg_H} (pl : PL M p Q) {ex : eg_R → Nat → Prop} (sx : spX M p M' ex) (hex : ∀ r k, ex r k → r.1 = 5 ∨ r.1 = 1 ∨ r.1 = 0 ∨ r.1 = 35) (hex0 : ¬ ex (5, 1 - p) 0 ∧ ¬ ex (5, 1 - p) 5 ∧ ¬ ex (5, 1 - p) 6)
    (hP : vp_in (M'.1 (5, 1 - p) 2) 16 ∧ cP M' (1 - p) = NM Q)
    (hd : ∀ s, s < cN M p → (∀ k, k ≠ 2 → k ≠ 3 → k ≠ 5 → ¬ ex (1, 5 * (1 - p) + s) k) ∧ dC M' (1 - p) s 1 = (if ¬ nI s = Q.1 (60, 0) 53 then dC M p s 1 else Q.1 (60, 0) 54) ∧ dC M' (1 - p) s 2 = (if dC M p s 2 = 0 then 0 else if ¬ nI s = Q.1 (60, 0) 57 then dC M p s 2 else Q.1 (60, 0) 58) ∧ dC M' (1 - p) s 4 = (if ¬ nI s = Q.1 (60, 0) 55 then dC M p s 4 else Q.1 (60, 0) 56))
    (hc : ∀ g, g < NM Q → pC M' (1 - p) g 0 = pM Q g 0 ∧ pC M' (1 - p) g 1 = pM Q g 1 ∧ ∀ k, k < 5 → pC M' (1 - p) g (k + 2) = pM Q g (k + 2))
    (hb : ∀ g, g < NM Q → (1 ≤ (pM Q g 1).toInt ∧ (pM Q g 1).toInt ≤ 20) ∧ ∀ k, k < 5 → 0 ≤ (pM Q g (k + 2)).toInt ∧ (pM Q g (k + 2)).toInt ≤ 9)
    (h4 : M'.1 (5, 1 - p) 4 = Q.1 (60, 0) 60)
    (hl : (∀ l, l < 3 → gvC M' (1 - p) (M'.1 (35, 1 - p) l)) ∧ ∀ l, l < 3 → lwW Q l ∧ ∀ nm, iN nm → lC M' (1 - p) l nm = lwM Q l nm)
    (hev : vp_in (fX11_everybody Q) 16) (h58 : ∀ s, s < 5 → nI s = Q.1 (60, 0) 57 → 1 ≤ (Q.1 (60, 0) 58).toInt ∧ (Q.1 (60, 0) 58).toInt ≤ 60) (h56 : ∀ s, s < 5 → nI s = Q.1 (60, 0) 55 → 0 ≤ (Q.1 (60, 0) 56).toInt ∧ (Q.1 (60, 0) 56).toInt ≤ 59) (hco : ∀ g, g < NM Q → ¬ coM Q g = -1) (hRk : ∀ k, k < cN M p → M.1 (40, 0) k = Q.1 (126, 0) k) (hjk : ∀ j, 366 ≤ j → Q.1 (110, 0) j = 0) : QS M' (1 - p) Q (M'.1 (40, 0)) := by
  have hp := h.hp.2
  have hW := pl.cW
  have n6 := (cN_e hW).2
  have e40 : M'.1 (40, 0) = M.1 (40, 0) := sx.1.T (t := 0) (by omega) (Or.inl ⟨Or.inr (Or.inr rfl), rfl⟩)
  obtain ⟨a1, a2, a3, a4, a5, a6, a7, a8, a9⟩ := sx
  have b0 := a2 0 (by omega) hex0.1
  have b5 := a2 5 (by omega) hex0.2.1
  have b6 := a2 6 (by omega) hex0.2.2
  have en : cN M' (1 - p) = cN M p := by unfold cN; rw [b0]
  have dd : ∀ s, s < cN M p → dC M' (1 - p) s 0 = dC M p s 0 ∧ dC M' (1 - p) s 3 = dC M p s 3 ∧ dC M' (1 - p) s 5 = dC M p s 5 := fun s hs => ⟨a3 s 1 hs (by omega) ((hd s hs).1 1 (by omega) (by omega) (by omega)), a3 s 4 hs (by omega) ((hd s hs).1 4 (by omega) (by omega) (by omega)), a3 s 6 hs (by omega) ((hd s hs).1 6 (by omega) (by omega) (by omega))⟩
  have hE0 := hW.2.2.2.2.1
  have hwE : wE (cE M' (1 - p)) := by
    refine ⟨by show cN M' (1 - p) < 6; omega, ?_, fun s hs => ?_, fun g hg => ?_, ?_, ?_⟩
    · show cP M' (1 - p) < 16
      exact vp_lt hP.1
    · have hs1 : s < cN M' (1 - p) := hs
      have hs2 : s < cN M p := by omega
      have w := hE0.2.2.1 s hs2
      rw [eD_c hs2, eD_c hs2, eD_c hs2, eD_c hs2] at w
      obtain ⟨_, d1, d2, d4⟩ := hd s hs2
      obtain ⟨d0, d3, d5⟩ := dd s hs2
      rw [eD_c hs1, eD_c hs1, eD_c hs1, eD_c hs1, d0, d2, d3, d4]
      refine ⟨w.1, ?_, w.2.2.1, ?_⟩
      · by_cases c : dC M p s 2 = 0
        · rw [if_pos c, t_0]; omega
        · rw [if_neg c]
          by_cases c2 : nI s = Q.1 (60, 0) 57
          · rw [if_neg (fun z => z c2)]; have := h58 s (by omega) c2; omega
          · rw [if_pos c2]; exact w.2.1
      · by_cases c2 : nI s = Q.1 (60, 0) 55
        · rw [if_neg (fun z => z c2)]; exact h56 s (by omega) c2
        · rw [if_pos c2]; exact w.2.2.2
    · have hg1 : g < cP M' (1 - p) := hg
      rw [eC_c hg1, (hc g (by omega)).2.1]
      exact (hb g (by omega)).1
    · show 0 ≤ (M'.1 (5, 1 - p) 5).toInt ∧ (M'.1 (5, 1 - p) 5).toInt ≤ 1800
      rw [b5]; exact hE0.2.2.2.2.1
    · show 0 ≤ (M'.1 (5, 1 - p) 6).toInt ∧ (M'.1 (5, 1 - p) 6).toInt ≤ 3600
      rw [b6]; exact hE0.2.2.2.2.2
  have hcW : cW M' (1 - p) := by
    refine ⟨hp.2.1, by rw [b0]; exact hW.2.1, hP.1, hl.1, hwE, fun s hs => ?_⟩
    have hs2 : s < cN M p := by omega
    rw [eD_c hs, (dd s hs2).2.2, ← eD_c hs2]
    exact hW.2.2.2.2.2 s hs2
  refine QS_of pl hcW (fun g hg k hk => ?_) ?_ en hP.2 (fun s hs => ?_) hc ⟨h4, b5, b6⟩ hl.2 hev (fun s hs c => ?_) hco (fun k hk => by rw [e40]; exact hRk k hk) hjk
  · have hg1 : g < cP M' (1 - p) := hg
    rw [eC_c hg1, Nat.add_comm, (hc g (by omega)).2.2 k hk]
    exact (hb g (by omega)).2 k hk
  · have o := h.oR
    rw [e40]
    refine ⟨fun k hk => ?_, fun x y hxy hy => ?_⟩
    · have hk1 : k < cN M' (1 - p) := hk
      show vp_in (M.1 (40, 0) k) (cN M' (1 - p))
      rw [en]; exact o.1 k (show k < cN M p by omega)
    · have hy1 : y < cN M' (1 - p) := hy
      exact o.2 x y hxy (show y < cN M p by omega)
  · obtain ⟨_, d1, d2, d4⟩ := hd s hs
    obtain ⟨d0, d3, d5⟩ := dd s hs
    exact ⟨d0, d1, d2, d3, d4, d5⟩
  · have := h58 s hs c
    intro z
    rw [z, t_0] at this
    omega
/-- laws as told -/
theorem spX.l {M M' : eg_H} {p : Nat} {ex : eg_R → Nat → Prop} (sx : spX M p M' ex) {Q : eg_H} (pl : PL M p Q) (h35 : ∀ k, ¬ ex (35, 1 - p) k) (h62 : ∀ l, l < 3 → ¬ nI l = Q.1 (60, 0) 62) : (∀ l, l < 3 → gvC M' (1 - p) (M'.1 (35, 1 - p) l)) ∧ ∀ l, l < 3 → lwW Q l ∧ ∀ nm, iN nm → lC M' (1 - p) l nm = lwM Q l nm := by
  obtain ⟨a1, a2, a3, a4, a5, a6, a7, a8, a9⟩ := sx
  have gv := pl.cW.2.2.2.1
  refine ⟨fun l hl => ?_, fun l hl => ?_⟩
  · rw [a5 l hl (h35 l)]
    exact (valC_eq a6 a7 a8 a9 (gv l hl)).1
  · obtain ⟨w1, w2⟩ := pl.lw hl (h62 l hl)
    refine ⟨w1, fun nm hn => ?_⟩
    rw [← w2 nm hn]
    unfold lC
    rw [a5 l hl (h35 l), (valC_eq a6 a7 a8 a9 (gv l hl)).2 nm]
