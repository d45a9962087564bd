/-! THE LINE OF A may -/
theorem RD.may {q n a a2 c k1 y : Nat} {M N M1 N1 : eg_H} (h : RD q n a M N) (ec : N.1 (60, 0) 22 = nI c) (c64 : c ≤ 64) (y4 : y < 4) (hy : N.1 (60, 0) 21 = nI y) (ht : tA M1 N1 n a2) (h6 : ∀ k, k < 6 → M1.1 (6, 0) k = M.1 (6, 0) k) (h8 : M1.1 (6, 0) 8 = nI k1 ∧ N1.1 (60, 0) 46 = nI k1 ∧ N1.1 (60, 0) 22 = nI k1) (hk : c < k1 ∧ k1 ≤ 64) (h22 : M1.2.2 = M.2.2) (hM : ∀ r, r.1 = 0 ∨ r.1 = 1 ∨ r.1 = 20 ∨ r.1 = 35 → M1.1 r = M.1 r) (h5 : (∀ k, k ≠ 7 → M1.1 (5, q) k = M.1 (5, q) k) ∧ M1.1 (5, q) 7 = nI (y + 1)) (hmr : ∀ i, i ≠ y → M1.1 (32, q) i = M.1 (32, q) i ∧ M1.1 (33, q) i = M.1 (33, q) i ∧ M1.1 (34, q) i = M.1 (34, q) i) (hnew : M1.1 (32, q) y = N1.1 (94, 0) (4 + y) ∧ vp_in (N1.1 (95, 0) (4 + y)) 3 ∧ M1.1 (33, q) y = N1.1 (95, 0) (4 + y) ∧ M1.1 (34, q) y = nI (tl N)) (h3 : M1.1 (3, q) 3 = nI k1 ∧ M1.1 (3, q) 4 = nI (tl N + 1)) (h23 : ∀ i, i < c → M1.1 (23, q) i = M.1 (23, q) i) (h24 : (∀ u, u ≠ tl N → M1.1 (24, q) u = M.1 (24, q) u ∧ M1.1 (25, q) u = M.1 (25, q) u) ∧ M1.1 (24, q) (tl N) = nI c ∧ M1.1 (25, q) (tl N) = nI k1) (hf : ∀ k, k < 7 ∨ (11 < k ∧ k < 21) ∨ (22 < k ∧ k < 43) → N1.1 (60, 0) k = N.1 (60, 0) k) (h21 : N1.1 (60, 0) 21 = nI (y + 1)) (hK : ∀ k, 88 ≤ k → k ≤ 93 → N1.1 (k, 0) = N.1 (k, 0)) (hr94 : ∀ k, k ≠ 4 + y → N1.1 (94, 0) k = N.1 (94, 0) k ∧ N1.1 (95, 0) k = N.1 (95, 0) k) (h98 : N1.1 (98, 0) = N.1 (98, 0)) (h96 : (∀ k, k ≠ 10 + y → N1.1 (96, 0) k = N.1 (96, 0) k ∧ N1.1 (97, 0) k = N.1 (97, 0) k) ∧ N1.1 (96, 0) (10 + y) = nI c ∧ N1.1 (97, 0) (10 + y) = nI k1) (h99 : ∀ i, i < 64 + c → N1.1 (99, 0) i = N.1 (99, 0) i ∧ N1.1 (100, 0) i = N.1 (100, 0) i ∧ N1.1 (101, 0) i = N.1 (101, 0) i) (hs : skF (M1.1 (23, q)) (fun i => N1.1 (99, 0) (i + 64)) (fun i => N1.1 (100, 0) (i + 64)) (fun i => N1.1 (101, 0) (i + 64)) c (k1 - c) [k1 - 1]) : RD q n a2 M1 N1 := by
  obtain ⟨⟨q2, eq⟩, _, pl, e5, ⟨c', d1, d2, d3, d4, d5⟩, d6, d7, d8, d9, d10⟩ := h
  have cc : c' = c := (nI_eq' (by omega) (by omega)).mp (d4.symm.trans ec)
  rw [cc] at d1 d2 d3 d5
  have le : ∀ x : Int32, (if x = 0 then 0 else 1) ≤ 1 := fun x => by
    by_cases c : x = 0
    · rw [if_pos c]; omega
    · rw [if_neg c]; omega
  have t1 : tl N1 = tl N + 1 := by
    unfold tl
    rw [h98, h21, hy, nI_t (by omega), nI_t (by omega)]
    omega
  have u7 : tl N < 7 := by
    have a3 := le (N.1 (98, 0) 3)
    have a4 := le (N.1 (98, 0) 4)
    have a5 := le (N.1 (98, 0) 5)
    unfold tl
    rw [hy, nI_t (by omega)]
    omega
  have m14 : (kp N1).1 (60, 0) 14 = nI (y + 1) := by rw [kp_60 _ (by omega)]; exact h21
  have o14 : (kp N).1 (60, 0) 14 = nI y := by rw [kp_60 _ (by omega)]; exact hy
  have ext : ∀ {w : Int32} {k : Nat}, k ≠ 3 + y → LR M q w (kp N) k → LR M1 q w (kp N1) k := fun {w k} hkj hl => by
    refine hl.ext (c := c) d6 h3.2 (by omega) (by omega) (fun u hu => h24.1 u (by omega)) (fun u hu => d5 u hu) c64 ?_ (fun i hi => ?_)
    · rw [kp_9 _ _ _ (Or.inl rfl), kp_9 _ _ _ (Or.inl rfl), kp_9 _ _ _ (Or.inr rfl), kp_9 _ _ _ (Or.inr rfl)]
      exact h96.1 _ (by omega)
    · rw [kp_99 _ _ _ (Or.inl rfl), kp_99 _ _ _ (Or.inl rfl), kp_99 _ _ _ (Or.inr (Or.inl rfl)), kp_99 _ _ _ (Or.inr (Or.inl rfl)), kp_99 _ _ _ (Or.inr (Or.inr rfl)), kp_99 _ _ _ (Or.inr (Or.inr rfl))]
      exact ⟨h23 i hi, h99 _ (by omega)⟩
  refine ⟨⟨q2, by rw [h22]; exact eq⟩, ht, ?_, ?_, ⟨k1, hk.2, h8.1, h8.2.1, h8.2.2, fun u hu => ?_⟩, by rw [t1]; exact h3.2, ?_, ?_, ?_, ?_, by rw [h98]; exact d10.2⟩
  · refine pl.ext (fun k hk => h5.1 k (by omega)) (fun r hr => hM r (by omega)) (fun k hk => by rw [kp_60 _ (by omega), kp_60 _ (by omega), hf _ (by omega)]) (fun k x y => kp_row (show k ≠ 60 by omega) (hK k x y)) ⟨by rw [m14]; exact nI_in' (by omega) (by omega), by rw [m14]; exact h5.2⟩ (by rw [kp_60 _ (by omega), h3.1]; exact h8.2.2.symm) (fun z hz => ?_) (fun l hl => ?_)
    · rw [m14, nI_t (by omega)] at hz
      unfold plM
      rw [kp_94 _ _ _ (Or.inl rfl), kp_94 _ _ _ (Or.inr rfl)]
      by_cases zy : z = y
      · rw [zy, show y + 4 = 4 + y by omega, hnew.2.2.2]
        refine ⟨hnew.1, hnew.2.1, hnew.2.2.1, LR.new u7 h3.2 hk.1 hk.2 h24.2.1 h24.2.2 ?_ ?_ ?_⟩
        · rw [kp_9 _ _ _ (Or.inl rfl), show 3 + y + 7 = 10 + y by omega]; exact h96.2.1
        · rw [kp_9 _ _ _ (Or.inr rfl), show 3 + y + 7 = 10 + y by omega]; exact h96.2.2
        · refine skF_cong (fun i _ _ => ⟨rfl, ?_, ?_, ?_⟩) hs
          · exact kp_99 _ _ _ (Or.inl rfl)
          · exact kp_99 _ _ _ (Or.inr (Or.inl rfl))
          · exact kp_99 _ _ _ (Or.inr (Or.inr rfl))
      · obtain ⟨c1, c2, c3, c4⟩ := pl.m (y := z) (by rw [o14, nI_t (by omega)]; omega)
        obtain ⟨g1, g2, g3⟩ := hmr z zy
        rw [kp_94 _ _ _ (Or.inl rfl)] at c1
        rw [kp_94 _ _ _ (Or.inr rfl)] at c2 c3
        rw [g1, g2, g3, (hr94 (z + 4) (by omega)).1, (hr94 (z + 4) (by omega)).2]
        exact ⟨c1, c2, c3, ext (by omega) c4⟩
    · unfold plL
      rw [hM (35, q) (by dsimp only; omega), kp_row (N := N) (r := (98, 0)) (by decide) h98]
      rcases pl.l hl with z | z
      · exact Or.inl z
      · exact Or.inr ⟨z.1, ext (by omega) z.2⟩
  · rw [h6 5 (by omega), hf 26 (by omega)]; exact e5
  · rw [t1] at hu
    by_cases cu : u = tl N
    · rw [cu]; exact ⟨k1, Nat.le_refl _, h24.2.2⟩
    · obtain ⟨b, x, z⟩ := d5 u (by omega)
      exact ⟨b, by omega, by rw [(h24.1 u cu).2]; exact z⟩
  · rw [h6 2 (by omega)]; exact d7
  · rw [h6 3 (by omega)]; exact d8
  · rw [hf 4 (by omega)]; exact d9
  · rw [hf 5 (by omega)]; exact d10.1
theorem mtf {q : Nat} {M N M1 N1 : eg_H} (pl : PL M q (kp N)) (h5 : M1.1 (5, q) = M.1 (5, q)) (h1 : M1.1 (32, q) = M.1 (32, q)) (h94 : N1.1 (94, 0) = N.1 (94, 0)) (h21 : N1.1 (60, 0) 21 = N.1 (60, 0) 21) (v : Int32) : fX5_mayOf M1 q v = fX11_find N1 (94, 0) 4 (N1.1 (60, 0) 21) v := by
  have e1 : fX5_mayOf M1 q v = fX5_mayOf M q v := by
    unfold fX5_mayOf
    rw [h5, h1]
  have e2 : fX11_find N1 (94, 0) 4 (N1.1 (60, 0) 21) v = fX11_find N (94, 0) 4 (N.1 (60, 0) 21) v := by
    unfold fX11_find
    rw [h94, h21]
  rw [e1, e2, (named_e pl v).2.2, kp_60 N (by omega)]
  exact find_k (by decide) rfl
