/-! THE LINE OF A GUEST -/
theorem PW.ce {dc dm ec : Nat} {mc : eg_M} {ac : List eg_V} {M M1 : eg_H} {r : Int32} {U : Int32 → eg_H → pwK} {Km : pwK} {R : Int32 → eg_H → eg_H → Prop} (h : ∀ κ d, ec ≤ d → eg_S κ gC mc d ac M (eQI κ gC (fun x X => x = r ∧ X = M1))) (hc : ec < dc) (k : PW dc dm (U r M1) Km R) : PW dc dm (fun κ d post => eCI κ gC mc d ac M (fun x Z => U x Z κ d post)) Km R :=
  PW.c (fun κ d hd post z => ⟨_, h κ (d - 1) (by omega), fun x Z hZ => by rw [hZ.1, hZ.2]; exact z⟩) k
theorem kp_90 (N : eg_H) (k : Nat) : (kp N).1 (90, 0) k = N.1 (90, 0) (k + 9) := kp_r N (by decide) k
theorem kp_91 (N : eg_H) (k : Nat) : (kp N).1 (91, 0) k = N.1 (91, 0) (k + 15) := kp_r N (by decide) k
theorem kp_92 (N : eg_H) (k : Nat) : (kp N).1 (92, 0) k = N.1 (92, 0) (k + 15) := kp_r N (by decide) k
theorem kp_93 (N : eg_H) (k : Nat) : (kp N).1 (93, 0) k = N.1 (93, 0) (k + 75) := kp_r N (by decide) k
def GQ (q g : Nat) (M N P Q : eg_H) : Prop := (∀ r, r ≠ (0, 15 * q + g) → r ≠ (20, 15 * q + g) → P.1 r = M.1 r) ∧ P.2 = M.2 ∧ (∀ r, r.1 < 90 ∨ 93 < r.1 → Q.1 r = N.1 r) ∧ Q.2 = N.2 ∧ (∀ k, k ≠ 9 + g → Q.1 (90, 0) k = N.1 (90, 0) k) ∧ (∀ k, k ≠ 15 + g → Q.1 (91, 0) k = N.1 (91, 0) k ∧ Q.1 (92, 0) k = N.1 (92, 0) k) ∧ ∀ k, k < 75 + 5 * g → Q.1 (93, 0) k = N.1 (93, 0) k
theorem GQ.rf (q g : Nat) (M N : eg_H) : GQ q g M N M N := ⟨fun _ _ _ => rfl, rfl, fun _ _ => rfl, rfl, fun _ _ => rfl, fun _ _ => ⟨rfl, rfl⟩, fun _ _ => rfl⟩
theorem GQ.wC {q g : Nat} {M N P Q : eg_H} (h : GQ q g M N P Q) (g9 : g < 9) : wC q M P := ⟨fun r hr _ _ _ => h.1 r (fun e => hr (by rw [e]; exact pOf_0 (by omega))) (fun e => hr (by rw [e]; exact pOf_20 (by omega))), by rw [h.2.1]⟩
theorem GQ.wM {q g : Nat} {M N P Q : eg_H} (h : GQ q g M N P Q) : wM N Q := by
  obtain ⟨_, _, hQ, hQ2, h90, h91, h93⟩ := h
  have o : ∀ k, k < 90 ∨ 93 < k → Q.1 (k, 0) = N.1 (k, 0) := fun k a => hQ (k, 0) a
  refine ⟨fun r a b => hQ r (by omega), fun k _ => by rw [o 60 (by omega)], ⟨fun k _ => by rw [o 88 (by omega)], fun k _ => by rw [o 89 (by omega)], fun k hk => ⟨h90 k (by omega), h91 k (by omega)⟩, fun k hk => h93 k (by omega), fun k _ => ?_, fun k _ => ?_, fun k _ => ?_, fun k _ => ?_⟩, hQ2⟩
  · rw [o 94 (by omega), o 95 (by omega)]; exact ⟨rfl, rfl⟩
  · rw [o 96 (by omega), o 97 (by omega)]; exact ⟨rfl, rfl⟩
  · rw [o 98 (by omega)]
  · rw [o 99 (by omega), o 100 (by omega), o 101 (by omega)]; exact ⟨rfl, rfl, rfl⟩
theorem GQ.fl {q n a g : Nat} {M N P Q A B M1 N1 : eg_H} (h : GQ q g M N P Q) (g9 : g < 9) (fc : fC P A) (fm : fM Q B) (z : ∀ q, FL q A B M1 N1) : LN q n a M N 0 M1 N1 := Or.inr ⟨rfl, (z q).pre ((h.wC g9).tr fc.w) (h.wM.tr fm.w)⟩
theorem GQ.c0 {q g : Nat} {M N P Q : eg_H} (h : GQ q g M N P Q) (k : Nat) (x : Int32) : GQ q g M N (sI P (0, 15 * q + g) k x) Q := ⟨fun r a b => by rw [sI_ne a]; exact h.1 r a b, h.2⟩
theorem GQ.c2 {q g : Nat} {M N P Q : eg_H} (h : GQ q g M N P Q) (k : Nat) (x : Int32) : GQ q g M N (sI P (20, 15 * q + g) k x) Q := ⟨fun r a b => by rw [sI_ne b]; exact h.1 r a b, h.2⟩
theorem GQ.m0 {q g : Nat} {M N P Q : eg_H} (h : GQ q g M N P Q) (x : Int32) : GQ q g M N P (sI Q (90, 0) (9 + g) x) := by
  obtain ⟨a, b, hQ, hQ2, h90, h91, h93⟩ := h
  exact ⟨a, b, fun r z => by rw [sI_ne (fun e => by rw [e] at z; dsimp only at z; omega)]; exact hQ r z, hQ2, fun k hk => by rw [sI_rr, if_neg hk]; exact h90 k hk, fun k hk => by rw [sI_ne (by decide), sI_ne (by decide)]; exact h91 k hk, fun k hk => by rw [sI_ne (by decide)]; exact h93 k hk⟩
theorem GQ.m1 {q g : Nat} {M N P Q : eg_H} (h : GQ q g M N P Q) (x : Int32) : GQ q g M N P (sI Q (91, 0) (15 + g) x) := by
  obtain ⟨a, b, hQ, hQ2, h90, h91, h93⟩ := h
  exact ⟨a, b, fun r z => by rw [sI_ne (fun e => by rw [e] at z; dsimp only at z; omega)]; exact hQ r z, hQ2, fun k hk => by rw [sI_ne (by decide)]; exact h90 k hk, fun k hk => by rw [sI_rr, if_neg hk, sI_ne (by decide)]; exact h91 k hk, fun k hk => by rw [sI_ne (by decide)]; exact h93 k hk⟩
theorem GQ.m2 {q g : Nat} {M N P Q : eg_H} (h : GQ q g M N P Q) (x : Int32) : GQ q g M N P (sI Q (92, 0) (15 + g) x) := by
  obtain ⟨a, b, hQ, hQ2, h90, h91, h93⟩ := h
  exact ⟨a, b, fun r z => by rw [sI_ne (fun e => by rw [e] at z; dsimp only at z; omega)]; exact hQ r z, hQ2, fun k hk => by rw [sI_ne (by decide)]; exact h90 k hk, fun k hk => by rw [sI_rr, if_neg hk, sI_ne (by decide)]; exact h91 k hk, fun k hk => by rw [sI_ne (by decide)]; exact h93 k hk⟩
theorem GQ.m3 {q g : Nat} {M N P Q : eg_H} (h : GQ q g M N P Q) {j : Nat} (hj : 75 + 5 * g ≤ j) (x : Int32) : GQ q g M N P (sI Q (93, 0) j x) := by
  obtain ⟨a, b, hQ, hQ2, h90, h91, h93⟩ := h
  exact ⟨a, b, fun r z => by rw [sI_ne (fun e => by rw [e] at z; dsimp only at z; omega)]; exact hQ r z, hQ2, fun k hk => by rw [sI_ne (by decide)]; exact h90 k hk, fun k hk => by rw [sI_ne (by decide), sI_ne (by decide)]; exact h91 k hk, fun k hk => by rw [sI_rr, if_neg (by omega)]; exact h93 k hk⟩
theorem GT3 {q n a a2 g : Nat} {M N M2 N2 P Q : eg_H} (h : RD q n a M N) (hs : N.1 (60, 0) 20 = nI g) (g9 : g < 9) (ha : a < a2) (ht : tA M2 N2 n a2) (fc : fC P M2) (fm : fM Q N2) (sq : GQ q g M N P Q) (pl : plG P q (kp Q) g) : LN q n a M N 1 (sI M2 (5, q) 2 (M2.1 (5, q) 2 + 1)) (sI N2 (60, 0) 20 (N2.1 (60, 0) 20 + 1)) := by
  have oQ : ∀ k, k < 90 ∨ 93 < k → Q.1 (k, 0) = N.1 (k, 0) := fun k a => sq.2.2.1 (k, 0) a
  have h5 : M2.1 (5, q) = M.1 (5, q) := (fc.1 _ (kd_ne (by omega)) (kd_ne (by omega))).trans (sq.1 _ (kd_ne (by omega)) (kd_ne (by omega)))
  have e5 : M.1 (5, q) 2 = nI g := by rw [h.2.2.1.eg, kp_60 N (by omega)]; exact hs
  have e19 : N2.1 (60, 0) 20 = nI g := by rw [fm.2.1 20 (by omega), oQ 60 (by omega)]; exact hs
  have inc : nI g + 1 = nI (g + 1) := (nAl g).2.1
  rw [h5, e5, e19, inc]
  have rN : ∀ k, k ≠ 60 → (sI N2 (60, 0) 20 (nI (g + 1))).1 (k, 0) = Q.1 (k, 0) := fun k hk => (sI_ne (kd_ne hk)).trans (fm.1 _ (kd_ne hk))
  have fN : ∀ k, 11 < k ∨ k < 7 → k ≠ 20 → (sI N2 (60, 0) 20 (nI (g + 1))).1 (60, 0) k = N.1 (60, 0) k := fun k hk h19 => by rw [sI_60, if_neg h19, fm.2.1 k (by omega), oQ 60 (by omega)]
  have rM : ∀ r, r ≠ (5, q) → r ≠ (9, 0) → r ≠ (6, 0) → (sI M2 (5, q) 2 (nI (g + 1))).1 r = P.1 r := fun r a b c => (sI_ne a).trans (fc.1 r b c)
  have m6 : ∀ k, k ≠ 6 → k ≠ 7 → (sI M2 (5, q) 2 (nI (g + 1))).1 (6, 0) k = M.1 (6, 0) k := fun k a b => by rw [sI_ne (kd_ne (by omega)), fc.2.1 k a b, sq.1 _ (kd_ne (by omega)) (kd_ne (by omega))]
  have wc : wC q M (sI M2 (5, q) 2 (nI (g + 1))) := (sq.wC g9).tr (fc.w.tr (wC.s (Or.inl (pOf_k (by omega)))))
  have wm : wM N (sI N2 (60, 0) 20 (nI (g + 1))) := sq.wM.tr (fm.w.tr (wM.s6 (by omega)))
  refine Or.inl ⟨rfl, ⟨a2, ha, ?_⟩, wc, wm, m6 4 (by omega) (by omega)⟩
  refine h.mk (fun k hk => m6 k (by omega) (by omega)) (fun k hk => ?_) (by rw [wc.2]) (fun k hk => fN k (by omega) (by omega)) ?_ (ht.cong (sI_ne (kd_ne (by omega))) (sI_ne (kd_ne (by omega))) (fun k _ _ => by rw [sI_60, if_neg (by omega)]) (sI_ne (by decide)) (sI_ne (by decide))) ?_ ?_
  · rw [rM _ (kd_ne (by omega)) (kd_ne (by omega)) (kd_ne (by omega)), sq.1 _ (kd_ne (by omega)) (kd_ne (by omega))]
  · rw [rN 98 (by omega), oQ 98 (by omega)]
  · refine h.2.2.1.addG (g0 := g) ?_ g9 ?_ (fun k x y z => ?_) (fun k hk => ?_) ?_ (fun r hr a b c => ?_) (fun k x y z => kp_row (show k ≠ 60 by omega) ?_) (fun k hk => ⟨?_, ?_, ?_⟩) (fun k hk => ?_) ?_
    · rw [kp_60 N (by omega)]; exact hs
    · rw [kp_60 _ (by omega), sI_60, if_pos (by omega)]
    · rw [kp_60 _ (by omega), kp_60 _ (by omega), fN _ (by omega) (by omega)]
    · rw [sI_rr, if_neg hk, h5]
    · rw [sI_rr, if_pos rfl]
    · obtain ⟨u1, u2, _⟩ := pOf_n hr
      rw [rM r a (fun z => u2 (by rw [z])) (fun z => u1 (by rw [z]))]
      exact sq.1 r b c
    · rw [rN k (by omega)]
      exact oQ k (by omega)
    · rw [kp_90, kp_90, rN 90 (by omega)]
      exact sq.2.2.2.2.1 _ (by omega)
    · rw [kp_91, kp_91, rN 91 (by omega)]
      exact (sq.2.2.2.2.2.1 _ (by omega)).1
    · rw [kp_92, kp_92, rN 92 (by omega)]
      exact (sq.2.2.2.2.2.1 _ (by omega)).2
    · rw [kp_93, kp_93, rN 93 (by omega)]
      exact sq.2.2.2.2.2.2 _ (by omega)
    · refine pl.cong (rM _ (kd_ne (by omega)) (kd_ne (by omega)) (kd_ne (by omega))) (rM _ (kd_ne (by omega)) (kd_ne (by omega)) (kd_ne (by omega))) ?_ ?_ ?_ (fun j _ => ?_)
      · rw [kp_90, kp_90, rN 90 (by omega)]
      · rw [kp_91, kp_91, rN 91 (by omega)]
      · rw [kp_92, kp_92, rN 92 (by omega)]
      · rw [kp_93, kp_93, rN 93 (by omega)]
  · rw [m6 5 (by omega) (by omega), fN 26 (by omega) (by omega)]
    exact h.2.2.2.1
/-- how many stations are wanted -/
def cn1 (x : Int32) : Nat := if x ≤ 0 then 0 else 1
def cn5 (f : Nat → Int32) : Nat := cn1 (f 0) + cn1 (f 1) + cn1 (f 2) + cn1 (f 3) + cn1 (f 4)
theorem cn1_le (x : Int32) : cn1 x ≤ 1 := by
  unfold cn1
  by_cases c : x ≤ 0
  · rw [if_pos c]; omega
  · rw [if_neg c]; omega
theorem cn5_le (f : Nat → Int32) : cn5 f ≤ 5 := by
  unfold cn5
  have := cn1_le (f 0)
  have := cn1_le (f 1)
  have := cn1_le (f 2)
  have := cn1_le (f 3)
  have := cn1_le (f 4)
  omega
theorem cn5_up {P : eg_H} {r : eg_R} {j : Nat} {v : Int32} (hj : j < 5) (h0 : P.1 r j ≤ 0) (hv : ¬ v ≤ 0) : cn5 ((sI P r j v).1 r) = cn5 (P.1 r) + 1 := by
  have e1 : cn1 v = 1 := by unfold cn1; rw [if_neg hv]
  have e0 : cn1 (P.1 r j) = 0 := by unfold cn1; rw [if_pos h0]
  unfold cn5
  rw [sI_rr, sI_rr, sI_rr, sI_rr, sI_rr]
  have hj2 : j = 0 ∨ j = 1 ∨ j = 2 ∨ j = 3 ∨ j = 4 := by omega
  rcases hj2 with z | z | z | z | z
  · rw [z] at e0 ⊢
    rw [if_pos rfl, if_neg (by omega), if_neg (by omega), if_neg (by omega), if_neg (by omega), e1, e0]
    omega
  · rw [z] at e0 ⊢
    rw [if_neg (by omega), if_pos rfl, if_neg (by omega), if_neg (by omega), if_neg (by omega), e1, e0]
    omega
  · rw [z] at e0 ⊢
    rw [if_neg (by omega), if_neg (by omega), if_pos rfl, if_neg (by omega), if_neg (by omega), e1, e0]
    omega
  · rw [z] at e0 ⊢
    rw [if_neg (by omega), if_neg (by omega), if_neg (by omega), if_pos rfl, if_neg (by omega), e1, e0]
    omega
  · rw [z] at e0 ⊢
    rw [if_neg (by omega), if_neg (by omega), if_neg (by omega), if_neg (by omega), if_pos rfl, e1, e0]
