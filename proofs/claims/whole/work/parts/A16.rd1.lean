/-! LINES: what is read so far on both sides; names -/
theorem pOf_n {r : eg_R} {q : Nat} (h : pOf r q) : r.1 ≠ 6 ∧ r.1 ≠ 9 ∧ r.1 ≠ 60 := by
  unfold pOf at h
  omega
theorem plS.cong {M M1 K K1 : eg_H} {q s : Nat} (h : plS M q K s) (a : M1.1 (1, 5 * q + s) = M.1 (1, 5 * q + s)) (b : K1.1 (88, 0) s = K.1 (88, 0) s) (c : ∀ j, j < 6 → K1.1 (89, 0) (6 * s + j) = K.1 (89, 0) (6 * s + j)) : plS M1 q K1 s := by
  have c0 : K1.1 (89, 0) (6 * s) = K.1 (89, 0) (6 * s) := c 0 (by omega)
  unfold plS
  rw [a, b, c0, c 1 (by omega), c 2 (by omega), c 3 (by omega), c 4 (by omega), c 5 (by omega)]
  exact h
theorem plG.cong {M M1 K K1 : eg_H} {q g : Nat} (h : plG M q K g) (a : M1.1 (0, 15 * q + g) = M.1 (0, 15 * q + g)) (a2 : M1.1 (20, 15 * q + g) = M.1 (20, 15 * q + g)) (b : K1.1 (90, 0) g = K.1 (90, 0) g) (b1 : K1.1 (91, 0) g = K.1 (91, 0) g) (b2 : K1.1 (92, 0) g = K.1 (92, 0) g) (c : ∀ j, j < 5 → K1.1 (93, 0) (5 * g + j) = K.1 (93, 0) (5 * g + j)) : plG M1 q K1 g := by
  unfold plG
  rw [a, a2, b, b1, b2]
  obtain ⟨c1, c2, c3, c4⟩ := h
  refine ⟨c1, c2, c3, fun k hk => ?_⟩
  rw [c k hk]
  exact c4 k hk
theorem LR.congR {M M1 K K1 : eg_H} {p k : Nat} {w : Int32} (h : LR M p w K k) (a : ∀ k, k = 3 ∨ k = 23 ∨ k = 24 ∨ k = 25 → M1.1 (k, p) = M.1 (k, p)) (b : ∀ k, 94 ≤ k → k ≤ 101 → K1.1 (k, 0) = K.1 (k, 0)) : LR M1 p w K1 k := by
  unfold LR
  rw [a 3 (by omega), a 23 (by omega), a 24 (by omega), a 25 (by omega), b 96 (by omega) (by omega), b 97 (by omega) (by omega), b 99 (by omega) (by omega), b 100 (by omega) (by omega), b 101 (by omega) (by omega)]
  exact h
theorem PL.laws {M M1 K K1 : eg_H} {q : Nat} (h : PL M q K) (a : ∀ k, k = 3 ∨ k = 23 ∨ k = 24 ∨ k = 25 ∨ k = 32 ∨ k = 33 ∨ k = 34 ∨ k = 35 → M1.1 (k, q) = M.1 (k, q)) (a7 : M1.1 (5, q) 7 = M.1 (5, q) 7) (b : ∀ k, 94 ≤ k → k ≤ 101 → K1.1 (k, 0) = K.1 (k, 0)) (b14 : K1.1 (60, 0) 14 = K.1 (60, 0) 14) (b15 : K1.1 (60, 0) 15 = K.1 (60, 0) 15) : (vp_in (K1.1 (60, 0) 14) 5 ∧ M1.1 (5, q) 7 = K1.1 (60, 0) 14) ∧ M1.1 (3, q) 3 = K1.1 (60, 0) 15 ∧ (∀ y, y < (K1.1 (60, 0) 14).toNatClampNeg → plM M1 q K1 y) ∧ ∀ l, l < 3 → plL M1 q K1 l := by
  have al : ∀ k, k = 3 ∨ k = 23 ∨ k = 24 ∨ k = 25 → M1.1 (k, q) = M.1 (k, q) := fun k hk => a k (by omega)
  rw [b14, a7, b15, a 3 (by omega)]
  refine ⟨⟨h.hm, h.em⟩, h.ek, fun y hy => ?_, fun l hl => ?_⟩
  · obtain ⟨c1, c2, c3, c4⟩ := h.m hy
    unfold plM
    rw [a 32 (by omega), a 33 (by omega), a 34 (by omega), b 94 (by omega) (by omega), b 95 (by omega) (by omega)]
    exact ⟨c1, c2, c3, c4.congR al b⟩
  · unfold plL
    rw [a 35 (by omega), b 98 (by omega) (by omega)]
    rcases h.l hl with z | z
    · exact Or.inl z
    · exact Or.inr ⟨z.1, z.2.congR al b⟩
theorem PL.addS {M M1 K K1 : eg_H} {q s : Nat} (h : PL M q K) (hs : K.1 (60, 0) 12 = nI s) (s5 : s < 5) (e12 : K1.1 (60, 0) 12 = nI (s + 1)) (f : ∀ k, 13 ≤ k → k ≤ 18 → K1.1 (60, 0) k = K.1 (60, 0) k) (h5 : ∀ k, k ≠ 0 → M1.1 (5, q) k = M.1 (5, q) k) (h50 : M1.1 (5, q) 0 = nI (s + 1)) (hM : ∀ r, pOf r q → r ≠ (5, q) → r ≠ (1, 5 * q + s) → M1.1 r = M.1 r) (hK : ∀ k, 90 ≤ k → k ≤ 101 → K1.1 (k, 0) = K.1 (k, 0)) (h88 : ∀ k, k < s → K1.1 (88, 0) k = K.1 (88, 0) k) (h89 : ∀ k, k < 6 * s → K1.1 (89, 0) k = K.1 (89, 0) k) (new : plS M1 q K1 s) : PL M1 q K1 := by
  obtain ⟨l1, l2, l3, l4⟩ := h.laws (M1 := M1) (K1 := K1) (fun k hk => hM _ (pOf_k (by omega)) (kd_ne (by omega)) (kd_ne (by omega))) (h5 7 (by omega)) (fun k x y => hK k (by omega) y) (f 14 (by omega) (by omega)) (f 15 (by omega) (by omega))
  have n9 := (nI_of' h.hg (by omega)).2
  refine ⟨h.p2, ⟨?_, ?_⟩, ⟨?_, ?_⟩, l1, l2, ⟨?_, ?_⟩, ⟨?_, ?_⟩, ⟨?_, ?_⟩, fun t ht => ?_, fun g hg => ?_, l3, l4⟩
  · rw [e12]; exact nI_in' (by omega) (by omega)
  · rw [h50, e12]
  · rw [f 13 (by omega) (by omega)]; exact h.hg
  · rw [f 13 (by omega) (by omega), h5 2 (by omega)]; exact h.eg
  · rw [f 16 (by omega) (by omega)]; exact h.hp
  · rw [f 16 (by omega) (by omega), h5 4 (by omega)]; exact h.ep
  · rw [f 17 (by omega) (by omega)]; exact h.ha
  · rw [f 17 (by omega) (by omega), h5 5 (by omega)]; exact h.ea
  · rw [f 18 (by omega) (by omega)]; exact h.hc
  · rw [f 18 (by omega) (by omega), h5 6 (by omega)]; exact h.ec
  · rw [e12, nI_t (by omega)] at ht
    by_cases e : t = s
    · rw [e]; exact new
    · refine (h.s (s := t) (by rw [hs, nI_t (by omega)]; omega)).cong (hM _ (pOf_1 (by omega)) (kd_ne (by omega)) (fun z => ?_)) (h88 t (by omega)) (fun j hj => h89 _ (by omega))
      have := congrArg Prod.snd z
      dsimp only at this
      omega
  · rw [f 13 (by omega) (by omega)] at hg
    refine (h.g hg).cong (hM _ (pOf_0 (by omega)) (kd_ne (by omega)) (kd_ne (by omega))) (hM _ (pOf_20 (by omega)) (kd_ne (by omega)) (kd_ne (by omega))) ?_ ?_ ?_ (fun j _ => ?_)
    · rw [hK 90 (by omega) (by omega)]
    · rw [hK 91 (by omega) (by omega)]
    · rw [hK 92 (by omega) (by omega)]
    · rw [hK 93 (by omega) (by omega)]
theorem PL.addG {M M1 K K1 : eg_H} {q g0 : Nat} (h : PL M q K) (hg0 : K.1 (60, 0) 13 = nI g0) (g9 : g0 < 9) (e13 : K1.1 (60, 0) 13 = nI (g0 + 1)) (f : ∀ k, 12 ≤ k → k ≤ 18 → k ≠ 13 → K1.1 (60, 0) k = K.1 (60, 0) k) (h5 : ∀ k, k ≠ 2 → M1.1 (5, q) k = M.1 (5, q) k) (h52 : M1.1 (5, q) 2 = nI (g0 + 1)) (hM : ∀ r, pOf r q → r ≠ (5, q) → r ≠ (0, 15 * q + g0) → r ≠ (20, 15 * q + g0) → M1.1 r = M.1 r) (hK : ∀ k, 88 ≤ k → k ≤ 101 → k < 90 ∨ 93 < k → K1.1 (k, 0) = K.1 (k, 0)) (h90 : ∀ k, k < g0 → K1.1 (90, 0) k = K.1 (90, 0) k ∧ K1.1 (91, 0) k = K.1 (91, 0) k ∧ K1.1 (92, 0) k = K.1 (92, 0) k) (h93 : ∀ k, k < 5 * g0 → K1.1 (93, 0) k = K.1 (93, 0) k) (new : plG M1 q K1 g0) : PL M1 q K1 := by
  obtain ⟨l1, l2, l3, l4⟩ := h.laws (M1 := M1) (K1 := K1) (fun k hk => hM _ (pOf_k (by omega)) (kd_ne (by omega)) (kd_ne (by omega)) (kd_ne (by omega))) (h5 7 (by omega)) (fun k x y => hK k (by omega) y (by omega)) (f 14 (by omega) (by omega) (by omega)) (f 15 (by omega) (by omega) (by omega))
  have n5 := (nI_of' h.hn (by omega)).2
  refine ⟨h.p2, ⟨?_, ?_⟩, ⟨?_, ?_⟩, l1, l2, ⟨?_, ?_⟩, ⟨?_, ?_⟩, ⟨?_, ?_⟩, fun t ht => ?_, fun g hg => ?_, l3, l4⟩
  · rw [f 12 (by omega) (by omega) (by omega)]; exact h.hn
  · rw [f 12 (by omega) (by omega) (by omega), h5 0 (by omega)]; exact h.en
  · rw [e13]; exact nI_in' (by omega) (by omega)
  · rw [h52, e13]
  · rw [f 16 (by omega) (by omega) (by omega)]; exact h.hp
  · rw [f 16 (by omega) (by omega) (by omega), h5 4 (by omega)]; exact h.ep
  · rw [f 17 (by omega) (by omega) (by omega)]; exact h.ha
  · rw [f 17 (by omega) (by omega) (by omega), h5 5 (by omega)]; exact h.ea
  · rw [f 18 (by omega) (by omega) (by omega)]; exact h.hc
  · rw [f 18 (by omega) (by omega) (by omega), h5 6 (by omega)]; exact h.ec
  · rw [f 12 (by omega) (by omega) (by omega)] at ht
    refine (h.s ht).cong (hM _ (pOf_1 (by omega)) (kd_ne (by omega)) (kd_ne (by omega)) (kd_ne (by omega))) ?_ (fun j _ => ?_)
    · rw [hK 88 (by omega) (by omega) (by omega)]
    · rw [hK 89 (by omega) (by omega) (by omega)]
  · rw [e13, nI_t (by omega)] at hg
    by_cases e : g = g0
    · rw [e]; exact new
    · have ne : ∀ k, ((k, 15 * q + g) : eg_R) ≠ (k, 15 * q + g0) := fun k z => by
        have := congrArg Prod.snd z
        dsimp only at this
        omega
      obtain ⟨u1, u2, u3⟩ := h90 g (by omega)
      exact (h.g (g := g) (by rw [hg0, nI_t (by omega)]; omega)).cong (hM _ (pOf_0 (by omega)) (kd_ne (by omega)) (ne 0) (kd_ne (by omega))) (hM _ (pOf_20 (by omega)) (kd_ne (by omega)) (kd_ne (by omega)) (ne 20)) u1 u2 u3 (fun j hj => h93 _ (by omega))
theorem PL.fld {M M1 K K1 : eg_H} {q : Nat} (h : PL M q K) (f : ∀ k, 12 ≤ k → k ≤ 15 → K1.1 (60, 0) k = K.1 (60, 0) k) (h5 : ∀ k, k = 0 ∨ k = 2 ∨ k = 7 → M1.1 (5, q) k = M.1 (5, q) k) (hM : ∀ r, pOf r q → r ≠ (5, q) → M1.1 r = M.1 r) (hK : ∀ k, 88 ≤ k → k ≤ 101 → K1.1 (k, 0) = K.1 (k, 0)) (e16 : (K1.1 (60, 0) 16 = 0 ∨ K1.1 (60, 0) 16 = 1) ∧ M1.1 (5, q) 4 = K1.1 (60, 0) 16) (e17 : (0 ≤ (K1.1 (60, 0) 17).toInt ∧ (K1.1 (60, 0) 17).toInt ≤ 1800) ∧ M1.1 (5, q) 5 = K1.1 (60, 0) 17) (e18 : (0 ≤ (K1.1 (60, 0) 18).toInt ∧ (K1.1 (60, 0) 18).toInt ≤ 3600) ∧ M1.1 (5, q) 6 = K1.1 (60, 0) 18) : PL M1 q K1 := by
  obtain ⟨l1, l2, l3, l4⟩ := h.laws (M1 := M1) (K1 := K1) (fun k hk => hM _ (pOf_k (by omega)) (kd_ne (by omega))) (h5 7 (by omega)) (fun k x y => hK k (by omega) y) (f 14 (by omega) (by omega)) (f 15 (by omega) (by omega))
  have n5 := (nI_of' h.hn (by omega)).2
  have n9 := (nI_of' h.hg (by omega)).2
  refine ⟨h.p2, ⟨?_, ?_⟩, ⟨?_, ?_⟩, l1, l2, e16, e17, e18, fun t ht => ?_, fun g hg => ?_, l3, l4⟩
  · rw [f 12 (by omega) (by omega)]; exact h.hn
  · rw [f 12 (by omega) (by omega), h5 0 (by omega)]; exact h.en
  · rw [f 13 (by omega) (by omega)]; exact h.hg
  · rw [f 13 (by omega) (by omega), h5 2 (by omega)]; exact h.eg
  · rw [f 12 (by omega) (by omega)] at ht
    refine (h.s ht).cong (hM _ (pOf_1 (by omega)) (kd_ne (by omega))) ?_ (fun j _ => ?_)
    · rw [hK 88 (by omega) (by omega)]
    · rw [hK 89 (by omega) (by omega)]
  · rw [f 13 (by omega) (by omega)] at hg
    refine (h.g hg).cong (hM _ (pOf_0 (by omega)) (kd_ne (by omega))) (hM _ (pOf_20 (by omega)) (kd_ne (by omega))) ?_ ?_ ?_ (fun j _ => ?_)
    · rw [hK 90 (by omega) (by omega)]
    · rw [hK 91 (by omega) (by omega)]
    · rw [hK 92 (by omega) (by omega)]
    · rw [hK 93 (by omega) (by omega)]
theorem PL.k {M M1 N N1 : eg_H} {q : Nat} (h : PL M q (kp N)) (hM : ∀ r, pOf r q → M1.1 r = M.1 r) (hf : ∀ k, 19 ≤ k → k ≤ 25 → N1.1 (60, 0) k = N.1 (60, 0) k) (hr : ∀ k, 88 ≤ k → k ≤ 101 → N1.1 (k, 0) = N.1 (k, 0)) : PL M1 q (kp N1) := by
  refine h.cong hM ⟨fun k a b => ?_, fun k a b _ _ _ => kp_row (show k ≠ 60 by omega) (hr k a b), fun g _ => ⟨?_, ?_, fun k _ => ?_⟩⟩
  · rw [kp_60 N1 ⟨a, b⟩, kp_60 N ⟨a, b⟩, hf _ (by omega) (by omega)]
  · rw [kp_row (show ((91, 0) : eg_R).1 ≠ 60 by decide) (hr 91 (by omega) (by omega))]
  · rw [kp_row (show ((92, 0) : eg_R).1 ≠ 60 by decide) (hr 92 (by omega) (by omega))]
  · rw [kp_row (show ((93, 0) : eg_R).1 ≠ 60 by decide) (hr 93 (by omega) (by omega))]
/-- how many laws are told so far -/
def tl (N : eg_H) : Nat := (if N.1 (98, 0) 3 = 0 then 0 else 1) + (if N.1 (98, 0) 4 = 0 then 0 else 1) + (if N.1 (98, 0) 5 = 0 then 0 else 1) + (N.1 (60, 0) 21).toNatClampNeg
/-- what is read so far -/
def RD (q n a : Nat) (M N : eg_H) : Prop := (q < 2 ∧ M.2.2 (6, 0) 1 = (5, q)) ∧ tA M N n a ∧ PL M q (kp N) ∧ (M.1 (6, 0) 5 = N.1 (60, 0) 26 ∧ (N.1 (60, 0) 26 = 0 ∨ N.1 (60, 0) 26 = 1)) ∧ (∃ c, c ≤ 64 ∧ M.1 (6, 0) 8 = nI c ∧ N.1 (60, 0) 46 = nI c ∧ N.1 (60, 0) 22 = nI c ∧ ∀ u, u < tl N → ∃ b, b ≤ c ∧ M.1 (25, q) u = nI b) ∧ M.1 (3, q) 4 = nI (tl N) ∧ (M.1 (6, 0) 2 = 0 ∧ M.1 (6, 0) 3 = -1 ∧ N.1 (60, 0) 4 = 0 ∧ N.1 (60, 0) 5 = -1 ∧ ∀ l, l < 3 → N.1 (98, 0) (3 + l) = 0 ∨ N.1 (98, 0) (3 + l) = 1)
/-- a line read alike, or a fault told alike -/
def LN (q n a : Nat) (M N : eg_H) (r : Int32) (M1 N1 : eg_H) : Prop := (r = 1 ∧ (∃ a1, a < a1 ∧ RD q n a1 M1 N1) ∧ wC q M M1 ∧ wM N N1 ∧ M1.1 (6, 0) 4 = M.1 (6, 0) 4) ∨ (r = 0 ∧ FL q M N M1 N1)
/-- all but the told text is the same -/
theorem RD.mk {q n a a1 : Nat} {M N M1 N1 : eg_H} (h : RD q n a M N) (hM6 : ∀ k, k = 2 ∨ k = 3 ∨ k = 8 → M1.1 (6, 0) k = M.1 (6, 0) k) (hM : ∀ k, k = 3 ∨ k = 25 → M1.1 (k, q) = M.1 (k, q)) (h22 : M1.2.2 (6, 0) 1 = M.2.2 (6, 0) 1) (hN : ∀ k, k = 4 ∨ k = 5 ∨ k = 21 ∨ k = 22 ∨ k = 46 → N1.1 (60, 0) k = N.1 (60, 0) k) (h98 : N1.1 (98, 0) = N.1 (98, 0)) (ht : tA M1 N1 n a1) (pl : PL M1 q (kp N1)) (h26 : M1.1 (6, 0) 5 = N1.1 (60, 0) 26 ∧ (N1.1 (60, 0) 26 = 0 ∨ N1.1 (60, 0) 26 = 1)) : RD q n a1 M1 N1 := by
  obtain ⟨⟨r1, r2⟩, _, _, _, ⟨c, c1, c2, c3, c4, c5⟩, r6, r7, r8, r9, r10⟩ := h
  have et : tl N1 = tl N := by unfold tl; rw [h98, hN 21 (by omega)]
  refine ⟨⟨r1, by rw [h22]; exact r2⟩, ht, pl, h26, ⟨c, c1, ?_, ?_, ?_, ?_⟩, ?_, ?_, ?_, ?_, ?_, by rw [h98]; exact r10.2⟩
  · rw [hM6 8 (by omega)]; exact c2
  · rw [hN 46 (by omega)]; exact c3
  · rw [hN 22 (by omega)]; exact c4
  · rw [et, hM 25 (by omega)]; exact c5
  · rw [et, hM 3 (by omega)]; exact r6
  · rw [hM6 2 (by omega)]; exact r7
  · rw [hM6 3 (by omega)]; exact r8
  · rw [hN 4 (by omega)]; exact r9
  · rw [hN 5 (by omega)]; exact r10.1
theorem RD.f {q n a a1 : Nat} {M N M1 N1 : eg_H} (h : RD q n a M N) (hc : fC M M1) (hm : fM N N1) (ht : tA M1 N1 n a1) : RD q n a1 M1 N1 := by
  refine h.mk (fun k hk => hc.2.1 k (by omega) (by omega)) (fun k hk => hc.1 _ (kd_ne (by omega)) (kd_ne (by omega))) (by rw [hc.2.2]) (fun k hk => hm.2.1 k (by omega)) (hm.1 _ (by decide)) ht (h.2.2.1.k (fun r hr => ?_) (fun k a b => hm.2.1 k (by omega)) (fun k a b => hm.1 _ (kd_ne (by omega)))) ?_
  · obtain ⟨u1, u2, _⟩ := pOf_n hr
    exact hc.1 r (fun z => u2 (by rw [z])) (fun z => u1 (by rw [z]))
  · rw [hc.2.1 5 (by omega) (by omega), hm.2.1 26 (by omega)]
    exact h.2.2.2.1
/-! a new name -/
theorem so_c {M : eg_H} {q : Nat} {v x : Int32} : fX5_stationOf (sI M (6, 0) 7 v) q x = fX5_stationOf M q x ∧ fX5_guestOf (sI M (6, 0) 7 v) q x = fX5_guestOf M q x ∧ fX5_mayOf (sI M (6, 0) 7 v) q x = fX5_mayOf M q x := by
  have h5 : (sI M (6, 0) 7 v).1 (5, q) = M.1 (5, q) := sI_ne (kd_ne (by omega))
  unfold fX5_stationOf fX5_guestOf fX5_mayOf
  rw [h5]
  refine ⟨fst1_cong _ _ (fun j _ _ => ?_), fst1_cong _ _ (fun j _ _ => ?_), fst1_cong _ _ (fun j _ _ => ?_)⟩
  · rw [sI_ne (kd_ne (by omega))]
  · rw [sI_ne (kd_ne (by omega))]
  · rw [sI_ne (kd_ne (by omega))]
theorem nm_c {κ : eg_K} {d : Nat} (hd : 1 ≤ d) {post : Int32 → eg_H → Prop} {M : eg_H} {q : Nat} {l1 X : Int32} (hq2 : q < 2) (hq : M.2.2 (6, 0) 1 = (5, q)) (e : M.1 (9, 0) 4 = 38) (hX : (l1 = 0 ∧ X = fX5_stationOf M q (M.1 (9, 0) 6)) ∨ (l1 = 3 ∧ X = fX5_guestOf M q (M.1 (9, 0) 6)) ∨ (l1 = 9 ∧ X = fX5_mayOf M q (M.1 (9, 0) 6))) (g1 : vp_in (M.1 (5, q) 0) 6) (g2 : vp_in (M.1 (5, q) 2) 10) (g3 : vp_in (M.1 (5, q) 7) 5) (k : eg_W κ gC mtX6_readNewName d (eQI κ gC post) 77 [(0, vR (6, 0))] [vI X] (sI M (6, 0) 7 (M.1 (9, 0) 6))) : eg_S κ gC mtX6_readNewName d [vR (6, 0), vI l1] M (eQI κ gC post) := by
  have h7 : (sI M (6, 0) 7 (M.1 (9, 0) 6)).1 (6, 0) 7 = M.1 (9, 0) 6 := by rw [sI_i, if_pos ⟨rfl, rfl⟩]
  have h5 : (sI M (6, 0) 7 (M.1 (9, 0) 6)).1 (5, q) = M.1 (5, q) := sI_ne (kd_ne (by omega))
  obtain ⟨s1, s2, s3⟩ := so_c (M := M) (q := q) (v := M.1 (9, 0) 6) (x := M.1 (9, 0) 6)
  refine eg_S.of rfl (Nat.le_of_ble_eq_true rfl) (vX6_readNewName_0 hd M l1 ⟨fun _ M2 e2 => ?_, fun z => absurd e z⟩)
  rcases hX with ⟨z, hX⟩ | ⟨z, hX⟩ | ⟨z, hX⟩
  · refine ⟨fun y => absurd z y, fun _ => ⟨q, hq2, by rw [e2]; exact hq, ?_, fun x hx => ?_⟩⟩
    · unfold gX5_stationOf; rw [e2, h5]; exact g1
    · rw [e2, h7, s1, ← hX] at hx
      rw [hx, e2]; exact k
  · refine ⟨fun _ => ⟨fun y => absurd z y, fun _ => ⟨q, hq2, by rw [e2]; exact hq, ?_, fun x hx => ?_⟩⟩, fun y => absurd (z.symm.trans y) (by decide)⟩
    · unfold gX5_guestOf; rw [e2, h5]; exact g2
    · rw [e2, h7, s2, ← hX] at hx
      rw [hx, e2]; exact k
  · refine ⟨fun _ => ⟨fun _ => ⟨q, hq2, by rw [e2]; exact hq, ?_, fun x hx => ?_⟩, fun y => absurd (z.symm.trans y) (by decide)⟩, fun y => absurd (z.symm.trans y) (by decide)⟩
    · unfold gX5_mayOf; rw [e2, h5]; exact g3
    · rw [e2, h7, s3, ← hX] at hx
      rw [hx, e2]; exact k
