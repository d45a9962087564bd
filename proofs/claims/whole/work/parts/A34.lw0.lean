/-! THE LINES law AND may: what they share -/
theorem PW.cn1 {dc dm : Nat} {mc mm : eg_M} {ac am : List eg_V} {ec em : Nat} {M N : eg_H} {Q : Int32 → eg_H → eg_H → Prop} {U V : Int32 → eg_H → pwK} {R : Int32 → eg_H → eg_H → Prop} (h : PI mc mm ac am ec em M N Q) (hc : ec < dc) (hm : em + 1 < dm) (k : ∀ r M1 N1, Q r M1 N1 → PW dc dm (U r M1) (V r N1) R) : PW dc dm (fun κ d post => eCI κ gC mc d ac M (fun x Z => U x Z κ d post)) (fun κ d post => eCI κ gM mm (d - 1) am N (fun x Z => V x Z κ d post)) R := by
  obtain ⟨r, M1, N1, a, b, c⟩ := h
  exact PW.c (fun κ d hd post z => ⟨_, a κ (d - 1) (by omega), fun x Z hZ => by rw [hZ.1, hZ.2]; exact z⟩) (PW.m (fun κ d hd post z => ⟨_, b κ (d - 1 - 1) (by omega), fun x Z hZ => by rw [hZ.1, hZ.2]; exact z⟩) (k r M1 N1 c))
theorem PL.ext {M M1 K K1 : eg_H} {q : Nat} (h : PL M q K) (h5 : ∀ k, k = 0 ∨ k = 2 ∨ k = 4 ∨ k = 5 ∨ k = 6 → M1.1 (5, q) k = M.1 (5, q) k) (hM : ∀ r, r.1 = 0 ∨ r.1 = 1 ∨ r.1 = 20 → M1.1 r = M.1 r) (f : ∀ k, k = 12 ∨ k = 13 ∨ k = 16 ∨ k = 17 ∨ k = 18 → K1.1 (60, 0) k = K.1 (60, 0) k) (hK : ∀ k, 88 ≤ k → k ≤ 93 → K1.1 (k, 0) = K.1 (k, 0)) (hm : vp_in (K1.1 (60, 0) 14) 5 ∧ M1.1 (5, q) 7 = K1.1 (60, 0) 14) (e15 : M1.1 (3, q) 3 = K1.1 (60, 0) 15) (lm : ∀ y, y < (K1.1 (60, 0) 14).toNatClampNeg → plM M1 q K1 y) (ll : ∀ l, l < 3 → plL M1 q K1 l) : PL M1 q K1 := by
  refine ⟨h.p2, ⟨?_, ?_⟩, ⟨?_, ?_⟩, hm, e15, ⟨?_, ?_⟩, ⟨?_, ?_⟩, ⟨?_, ?_⟩, fun t ht => ?_, fun g hg => ?_, lm, ll⟩
  · rw [f 12 (by omega)]; exact h.hn
  · rw [f 12 (by omega), h5 0 (by omega)]; exact h.en
  · rw [f 13 (by omega)]; exact h.hg
  · rw [f 13 (by omega), h5 2 (by omega)]; exact h.eg
  · rw [f 16 (by omega)]; exact h.hp
  · rw [f 16 (by omega), h5 4 (by omega)]; exact h.ep
  · rw [f 17 (by omega)]; exact h.ha
  · rw [f 17 (by omega), h5 5 (by omega)]; exact h.ea
  · rw [f 18 (by omega)]; exact h.hc
  · rw [f 18 (by omega), h5 6 (by omega)]; exact h.ec
  · rw [f 12 (by omega)] at ht
    refine (h.s ht).cong (hM _ (by dsimp only; omega)) ?_ (fun j _ => ?_)
    · rw [hK 88 (by omega) (by omega)]
    · rw [hK 89 (by omega) (by omega)]
  · rw [f 13 (by omega)] at hg
    refine (h.g hg).cong (hM _ (by dsimp only; omega)) (hM _ (by dsimp only; omega)) ?_ ?_ ?_ (fun j _ => ?_)
    · rw [hK 90 (by omega) (by omega)]
    · rw [hK 91 (by omega) (by omega)]
    · rw [hK 92 (by omega) (by omega)]
    · rw [hK 93 (by omega) (by omega)]
theorem prm_k : ∀ t, t < 24 → ((10 ≤ t ∧ t ≤ 12) ∧ prm t = t) ∨ (¬ (10 ≤ t ∧ t ≤ 12) ∧ ¬ (10 ≤ prm t ∧ prm t ≤ 12)) := by decide +kernel
/-- which law is named: class and model alike -/
theorem LK {M N : eg_H} {n a : Nat} (h : tA M N n a) : (∃ j, j < 3 ∧ M.1 (9, 0) 4 - 10 = nI j ∧ fX11_lawKind N = (nI j, N)) ∨ ((M.1 (9, 0) 4 - 10 < 0 ∨ ((¬ M.1 (9, 0) 4 - 10 < 0) ∧ ¬ M.1 (9, 0) 4 - 10 < 3)) ∧ fX11_lawKind N = (-1, (fX11_wrong N 1).2)) := by
  obtain ⟨t, ek, ht, hk⟩ := tK h
  have no : (¬ (10 ≤ t ∧ t ≤ 12)) → (M.1 (9, 0) 4 - 10 < 0 ∨ ((¬ M.1 (9, 0) 4 - 10 < 0) ∧ ¬ M.1 (9, 0) 4 - 10 < 3)) := by
    intro c
    rw [ek]
    have all : ∀ t, t < 41 → ¬ (10 ≤ t ∧ t ≤ 12) → (nI t - 10 < 0 ∨ ((¬ nI t - 10 < 0) ∧ ¬ nI t - 10 < 3)) := by decide +kernel
    exact all t (by omega) c
  have l10 : (10 : Int32).toInt = 10 := by decide
  have l12 : (12 : Int32).toInt = 12 := by decide
  unfold fX11_lawKind
  by_cases k1 : N.1 (60, 0) 8 = 1
  · have z : t < 24 ∧ N.1 (60, 0) 9 = nI (prm t) := by
      rcases hk with y | y | y | y | y | y | y
      · exact absurd (y.2.symm.trans k1) (by decide)
      · exact ⟨y.1, y.2.2⟩
      · exact absurd (y.2.1.symm.trans k1) (by decide)
      · exact absurd (y.2.1.symm.trans k1) (by decide)
      · exact absurd (y.2.1.symm.trans k1) (by decide)
      · exact absurd (y.2.2.1.symm.trans k1) (by decide)
      · exact absurd (y.2.symm.trans k1) (by decide)
    have p24 := prm_l t z.1
    have pt : (nI (prm t)).toInt = prm t := nI_toInt (by omega)
    rw [if_neg (fun y => y k1), z.2]
    rcases prm_k t z.1 with ⟨c1, c2⟩ | ⟨c1, c2⟩
    · have i1 : nI t - 10 = nI (t - 10) := nI_subn (b := 10) c1.1 (by omega)
      refine Or.inl ⟨t - 10, by omega, by rw [ek]; exact i1, ?_⟩
      rw [if_neg, c2, i1]
      intro y
      rcases isIn_n N (nI (prm t)) 10 12 with w | w
      · exact w.2 ⟨by omega, by omega⟩
      · exact absurd (y.symm.trans w.1) (by decide)
    · refine Or.inr ⟨no c1, ?_⟩
      rw [if_pos]
      rcases isIn_n N (nI (prm t)) 10 12 with w | w
      · exact w.1
      · exact absurd ⟨by omega, by omega⟩ c2
  · rw [if_pos k1]
    refine Or.inr ⟨no (fun c => ?_), rfl⟩
    rcases hk with y | y | y | y | y | y | y
    · omega
    · exact k1 y.2.1
    · omega
    · omega
    · omega
    · omega
    · omega
