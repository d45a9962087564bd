/-! THE LINE OF A LAW -/
theorem kp_9 (N : eg_H) (r k : Nat) (hr : r = 96 ∨ r = 97) : (kp N).1 (r, 0) k = N.1 (r, 0) (k + 7) := by
  rw [kp_r N (show r ≠ 60 by omega)]
  rcases hr with z | z
  · rw [z]; rfl
  · rw [z]; rfl
theorem kp_98 (N : eg_H) (k : Nat) : (kp N).1 (98, 0) k = N.1 (98, 0) (k + 3) := kp_r N (by decide) k
theorem kp_94 (N : eg_H) (r k : Nat) (hr : r = 94 ∨ r = 95) : (kp N).1 (r, 0) k = N.1 (r, 0) (k + 4) := by
  rw [kp_r N (show r ≠ 60 by omega)]
  rcases hr with z | z
  · rw [z]; rfl
  · rw [z]; rfl
theorem kp_99 (N : eg_H) (r k : Nat) (hr : r = 99 ∨ r = 100 ∨ r = 101) : (kp N).1 (r, 0) k = N.1 (r, 0) (k + 64) := by
  rw [kp_r N (show r ≠ 60 by omega)]
  rcases hr with z | z | z
  · rw [z]; rfl
  · rw [z]; rfl
  · rw [z]; rfl
theorem FL.s97 {q j : Nat} {M N M1 N1 : eg_H} {x : Int32} (h : FL q M N M1 N1) (hj : 7 ≤ j) : FL q M N M1 (sI N1 (97, 0) j x) := by
  obtain ⟨a, b, c, d, e⟩ := h
  refine ⟨a, b.tr (wM.s (by omega) (by unfold hfO; simp only [reduceIte, Nat.reduceEqDiff, or_true, true_or, or_false, false_or]; omega)), ?_, ?_, ?_⟩
  · rw [sI_ne (by decide)]; exact c
  · rw [sI_ne (by decide)]; exact d
  · rw [sI_ne (by decide)]; exact e
theorem tl_up {N N1 : eg_H} {j : Nat} (hj : j < 3) (h0 : N.1 (98, 0) (3 + j) = 0) (h1 : N1.1 (98, 0) (3 + j) = 1) (ho : ∀ k, k ≠ 3 + j → N1.1 (98, 0) k = N.1 (98, 0) k) (h21 : N1.1 (60, 0) 21 = N.1 (60, 0) 21) : tl N1 = tl N + 1 ∧ tl N ≤ 2 + (N.1 (60, 0) 21).toNatClampNeg := by
  have le : ∀ x : Int32, (if x = 0 then 0 else 1) ≤ 1 := fun x => by
    by_cases c : x = 0
    · rw [if_pos c]; omega
    · rw [if_neg c]; omega
  have a3 := le (N.1 (98, 0) 3)
  have a4 := le (N.1 (98, 0) 4)
  have a5 := le (N.1 (98, 0) 5)
  have n1 : (if (1 : Int32) = 0 then 0 else 1) = 1 := by decide
  unfold tl
  rw [h21]
  have hj3 : j = 0 ∨ j = 1 ∨ j = 2 := by omega
  rcases hj3 with z | z | z
  · rw [z] at h0 h1 ho
    rw [h1, ho 4 (by omega), ho 5 (by omega), h0, if_pos rfl, n1]
    omega
  · rw [z] at h0 h1 ho
    rw [h1, ho 3 (by omega), ho 5 (by omega), h0, if_pos rfl, n1]
    omega
  · rw [z] at h0 h1 ho
    rw [h1, ho 3 (by omega), ho 4 (by omega), h0, if_pos rfl, n1]
    omega
theorem RD.law {q n a a2 c k1 j : Nat} {M N M1 N1 : eg_H} (h : RD q n a M N) (ec : N.1 (60, 0) 22 = nI c) (c64 : c ≤ 64) (hj : j < 3) (h98 : N.1 (98, 0) (3 + j) = 0) (ht : tA M1 N1 n a2) (h6 : ∀ k, k < 6 → M1.1 (6, 0) k = M.1 (6, 0) k) (h8 : M1.1 (6, 0) 8 = nI k1 ∧ N1.1 (60, 0) 46 = nI k1 ∧ N1.1 (60, 0) 22 = nI k1) (hk : c < k1 ∧ k1 ≤ 64) (h22 : M1.2.2 = M.2.2) (hM : ∀ r, r.1 = 0 ∨ r.1 = 1 ∨ r.1 = 20 ∨ r.1 = 5 ∨ r.1 = 32 ∨ r.1 = 33 ∨ r.1 = 34 → M1.1 r = M.1 r) (h3 : M1.1 (3, q) 3 = nI k1 ∧ M1.1 (3, q) 4 = nI (tl N + 1)) (h23 : ∀ i, i < c → M1.1 (23, q) i = M.1 (23, q) i) (h24 : (∀ u, u ≠ tl N → M1.1 (24, q) u = M.1 (24, q) u ∧ M1.1 (25, q) u = M.1 (25, q) u) ∧ M1.1 (24, q) (tl N) = nI c ∧ M1.1 (25, q) (tl N) = nI k1) (h35 : (∀ i, i ≠ j → M1.1 (35, q) i = M.1 (35, q) i) ∧ M1.1 (35, q) j = nI (tl N)) (hf : ∀ k, k < 7 ∨ (11 < k ∧ k < 22) ∨ (22 < k ∧ k < 43) → N1.1 (60, 0) k = N.1 (60, 0) k) (hK : ∀ k, 88 ≤ k → k ≤ 95 → N1.1 (k, 0) = N.1 (k, 0)) (hl98 : N1.1 (98, 0) (3 + j) = 1 ∧ ∀ k, k ≠ 3 + j → N1.1 (98, 0) k = N.1 (98, 0) k) (h96 : (∀ k, k ≠ 7 + j → N1.1 (96, 0) k = N.1 (96, 0) k ∧ N1.1 (97, 0) k = N.1 (97, 0) k) ∧ N1.1 (96, 0) (7 + j) = nI c ∧ N1.1 (97, 0) (7 + j) = nI k1) (h99 : ∀ i, i < 64 + c → N1.1 (99, 0) i = N.1 (99, 0) i ∧ N1.1 (100, 0) i = N.1 (100, 0) i ∧ N1.1 (101, 0) i = N.1 (101, 0) i) (hs : skF (M1.1 (23, q)) (fun i => N1.1 (99, 0) (i + 64)) (fun i => N1.1 (100, 0) (i + 64)) (fun i => N1.1 (101, 0) (i + 64)) c (k1 - c) [k1 - 1]) : RD q n a2 M1 N1 := by
  obtain ⟨⟨q2, eq⟩, _, pl, e5, ⟨c', d1, d2, d3, d4, d5⟩, d6, d7, d8, d9, d10⟩ := h
  have cc : c' = c := (nI_eq' (by omega) (by omega)).mp (d4.symm.trans ec)
  rw [cc] at d1 d2 d3 d5
  have hm := pl.hm
  rw [kp_60 N (by omega)] at hm
  have m5 := vp_lt hm
  obtain ⟨t1, t2⟩ := tl_up hj h98 hl98.1 hl98.2 (hf 21 (by omega))
  have u7 : tl N < 7 := by
    have : (N.1 (60, 0) 21).toNatClampNeg < 5 := m5
    omega
  have m14 : (kp N1).1 (60, 0) 14 = (kp N).1 (60, 0) 14 := by rw [kp_60 _ (by omega), kp_60 _ (by omega), hf _ (by omega)]
  have ext : ∀ {w : Int32} {k : Nat}, k ≠ j → LR M q w (kp N) k → LR M1 q w (kp N1) k := fun {w k} hkj hl => by
    refine hl.ext (c := c) d6 h3.2 (by omega) (by omega) (fun u hu => h24.1 u (by omega)) (fun u hu => d5 u hu) c64 ?_ (fun i hi => ?_)
    · rw [kp_9 _ _ _ (Or.inl rfl), kp_9 _ _ _ (Or.inl rfl), kp_9 _ _ _ (Or.inr rfl), kp_9 _ _ _ (Or.inr rfl)]
      exact h96.1 _ (by omega)
    · rw [kp_99 _ _ _ (Or.inl rfl), kp_99 _ _ _ (Or.inl rfl), kp_99 _ _ _ (Or.inr (Or.inl rfl)), kp_99 _ _ _ (Or.inr (Or.inl rfl)), kp_99 _ _ _ (Or.inr (Or.inr rfl)), kp_99 _ _ _ (Or.inr (Or.inr rfl))]
      exact ⟨h23 i hi, h99 _ (by omega)⟩
  refine ⟨⟨q2, by rw [h22]; exact eq⟩, ht, ?_, ?_, ⟨k1, hk.2, h8.1, h8.2.1, h8.2.2, fun u hu => ?_⟩, by rw [t1]; exact h3.2, ?_, ?_, ?_, ?_, fun l hl => ?_⟩
  · refine pl.ext (fun k hk => by rw [hM _ (by dsimp only; omega)]) (fun r hr => hM r (by omega)) (fun k hk => by rw [kp_60 _ (by omega), kp_60 _ (by omega), hf _ (by omega)]) (fun k x y => kp_row (show k ≠ 60 by omega) (hK k x (by omega))) ⟨by rw [m14]; exact pl.hm, by rw [m14, hM _ (by dsimp only; omega)]; exact pl.em⟩ (by rw [kp_60 _ (by omega), h3.1]; exact h8.2.2.symm) (fun y hy => ?_) (fun l hl => ?_)
    · rw [m14] at hy
      obtain ⟨c1, c2, c3, c4⟩ := pl.m hy
      unfold plM
      rw [hM (32, q) (by dsimp only; omega), hM (33, q) (by dsimp only; omega), hM (34, q) (by dsimp only; omega), kp_row (N := N) (r := (94, 0)) (by decide) (hK 94 (by omega) (by omega)), kp_row (N := N) (r := (95, 0)) (by decide) (hK 95 (by omega) (by omega))]
      exact ⟨c1, c2, c3, ext (by omega) c4⟩
    · unfold plL
      by_cases lj : l = j
      · rw [lj, h35.2, kp_98, show j + 3 = 3 + j by omega, hl98.1]
        refine Or.inr ⟨by decide, LR.new u7 h3.2 hk.1 hk.2 h24.2.1 h24.2.2 ?_ ?_ ?_⟩
        · rw [kp_9 _ _ _ (Or.inl rfl), show j + 7 = 7 + j by omega]; exact h96.2.1
        · rw [kp_9 _ _ _ (Or.inr rfl), show j + 7 = 7 + j by omega]; exact h96.2.2
        · refine skF_cong (fun i _ _ => ⟨rfl, ?_, ?_, ?_⟩) hs
          · exact kp_99 _ _ _ (Or.inl rfl)
          · exact kp_99 _ _ _ (Or.inr (Or.inl rfl))
          · exact kp_99 _ _ _ (Or.inr (Or.inr rfl))
      · rw [h35.1 l lj, kp_98, hl98.2 _ (by omega), ← kp_98]
        rcases pl.l hl with z | z
        · exact Or.inl z
        · exact Or.inr ⟨z.1, ext lj z.2⟩
  · rw [h6 5 (by omega), hf 26 (by omega)]; exact e5
  · rw [t1] at hu
    by_cases cu : u = tl N
    · rw [cu]; exact ⟨k1, Nat.le_refl _, h24.2.2⟩
    · obtain ⟨b, x, y⟩ := d5 u (by omega)
      exact ⟨b, by omega, by rw [(h24.1 u cu).2]; exact y⟩
  · rw [h6 2 (by omega)]; exact d7
  · rw [h6 3 (by omega)]; exact d8
  · rw [hf 4 (by omega)]; exact d9
  · rw [hf 5 (by omega)]; exact d10.1
  · by_cases lj : l = j
    · rw [lj]; exact Or.inr hl98.1
    · rw [hl98.2 _ (by omega)]; exact d10.2 l hl
