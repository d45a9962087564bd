/-! AN EXPRESSION FROM ITS BEGINNING; OLD LAWS STAY -/
theorem EXPR {q n a at0 : Nat} {M N : eg_H} (q2 : q < 2) (eq : M.2.2 (6, 0) 1 = (5, q)) (ht : tA M N n at0) (ha : a ≤ 64) (h3 : M.1 (3, q) 3 = nI a ∧ N.1 (60, 0) 22 = nI a) (h8 : M.1 (6, 0) 8 = nI a ∧ N.1 (60, 0) 46 = nI a) : PI mtX6_readExpression mtX11_sumRead [vR (6, 0)] [vR (60, 0)] 9 5 M N (ER q n a at0 M N) := by
  refine PI.w ?_
  refine PW.c (fun κ d hd post z => eg_S.of rfl (Nat.le_of_ble_eq_true rfl) (vX6_readExpression_0 M z)) (PW.ch fun M1 e1 => PW.ch fun M2 e2 => PW.ch fun M3 e3 => PW.ch fun M4 e4 => PW.ch fun M5 e5 => ?_)
  refine PW.m (fun κ d hd post z => eg_S.of rfl (Nat.le_of_ble_eq_true rfl) (vX11_sumRead_0 N z)) (PW.mh fun N1 f1 => PW.mh fun N2 f2 => PW.mh fun N3 f3 => PW.mh fun N4 f4 => PW.mh fun N5 f5 => ?_)
  have m6 : ∀ j, M5.1 (6, 0) j = if j = 14 then 1 else if j = 13 then 1 else if j = 12 then 0 else if j = 11 then 0 else if j = 10 then 0 else M.1 (6, 0) j := fun j => by rw [e5, sI_rr, e4, sI_rr, e3, sI_rr, e2, sI_rr, e1, sI_rr]
  have n6 : ∀ j, N5.1 (60, 0) j = if j = 48 then 1 else if j = 47 then 1 else if j = 45 then 0 else if j = 44 then 0 else if j = 43 then 0 else N.1 (60, 0) j := fun j => by rw [f5, sI_60, f4, sI_60, f3, sI_60, f2, sI_60, f1, sI_60]
  have mo : ∀ r, r ≠ (6, 0) → M5.1 r = M.1 r := fun r hr => by rw [e5, sI_ne hr, e4, sI_ne hr, e3, sI_ne hr, e2, sI_ne hr, e1, sI_ne hr]
  have no : ∀ r, r ≠ (60, 0) → N5.1 r = N.1 r := fun r hr => by rw [f5, sI_ne hr, f4, sI_ne hr, f3, sI_ne hr, f2, sI_ne hr, f1, sI_ne hr]
  have m2 : M5.2 = M.2 := by rw [e5, e4, e3, e2, e1]; rfl
  have n2 : N5.2 = N.2 := by rw [f5, f4, f3, f2, f1]; rfl
  have t5 : tA M5 N5 n at0 := ht.cong (mo _ (by decide)) (mo _ (by decide)) (fun j _ _ => by rw [n6, if_neg (by omega), if_neg (by omega), if_neg (by omega), if_neg (by omega), if_neg (by omega)]) (no _ (by decide)) (no _ (by decide))
  have co : core q a M5 N5 [] [] a := by
    refine ⟨⟨?_, ?_, trivial, by decide⟩, ⟨?_, ?_, Nat.le_refl _, ha⟩, ?_, ?_, trivial⟩
    · rw [m6, if_neg (by omega), if_neg (by omega), if_neg (by omega), if_neg (by omega), if_pos rfl]; rfl
    · rw [n6, if_neg (by omega), if_neg (by omega), if_neg (by omega), if_neg (by omega), if_pos rfl]; rfl
    · rw [mo _ (kd_ne (by omega))]; exact h3.1
    · rw [n6, if_neg (by omega), if_neg (by omega), if_neg (by omega), if_neg (by omega), if_neg (by omega)]; exact h3.2
    · rw [Nat.sub_self]
      exact rfl
    · rw [n6, if_neg (by omega), if_neg (by omega), if_neg (by omega), if_pos rfl]; rfl
  have xp : XP q a M5 N5 [] [] a 0 1 1 := by
    refine ⟨co, by rw [m2]; exact eq, ⟨?_, ?_⟩, ⟨?_, by omega, by decide, trivial⟩, ⟨?_, ?_⟩, ⟨?_, ?_⟩, ⟨?_, ?_⟩, Or.inl ⟨rfl, rfl, fun _ => rfl⟩⟩
    · rw [m6, if_neg (by omega), if_neg (by omega), if_neg (by omega), if_pos rfl]; rfl
    · rw [n6, if_neg (by omega), if_neg (by omega), if_pos rfl]; rfl
    · rw [m6, if_neg (by omega), if_neg (by omega), if_pos rfl]; rfl
    · rw [m6, if_neg (by omega), if_pos rfl]
    · rw [n6, if_neg (by omega), if_pos rfl]
    · rw [m6, if_pos rfl]
    · rw [n6, if_pos rfl]
    · rw [m6, if_neg (by omega), if_neg (by omega), if_neg (by omega), if_neg (by omega), if_neg (by omega)]; exact h8.1
    · rw [n6, if_neg (by omega), if_neg (by omega), if_neg (by omega), if_neg (by omega), if_neg (by omega)]; exact h8.2
  have xc : xC q a M M5 := ⟨fun r _ b _ _ _ => mo r b, fun i _ => by rw [mo _ (kd_ne (by omega))], fun i _ => by rw [mo _ (kd_ne (by omega))], fun i hi => by rw [m6, if_neg (by omega), if_neg (by omega), if_neg (by omega), if_neg (by omega), if_neg (by omega)], m2⟩
  have xm : xM a N N5 := ⟨fun r x _ => no r x, fun i _ => by rw [no _ (by decide), no _ (by decide), no _ (by decide)]; exact ⟨rfl, rfl, rfl⟩, fun i hi => by rw [n6, if_neg (by omega), if_neg (by omega), if_neg (by omega), if_neg (by omega), if_neg (by omega)], n2⟩
  exact EXL (at0 := at0) (M0 := M) (N0 := N) q2 (n - at0) M5 N5 [] [] a 0 at0 0 1 1 (Nat.le_refl _) (by omega) (Nat.le_refl _) xp t5 xc xm
theorem LR.ext {M M1 K K1 : eg_H} {q k cnt cnt1 c : Nat} {w : Int32} (h : LR M q w K k) (e4 : M.1 (3, q) 4 = nI cnt) (e4' : M1.1 (3, q) 4 = nI cnt1) (hcc : cnt ≤ cnt1) (c7 : cnt1 ≤ 7) (h24 : ∀ u, u < cnt → M1.1 (24, q) u = M.1 (24, q) u ∧ M1.1 (25, q) u = M.1 (25, q) u) (hb : ∀ u, u < cnt → ∃ b, b ≤ c ∧ M.1 (25, q) u = nI b) (hc : c ≤ 64) (h96 : K1.1 (96, 0) k = K.1 (96, 0) k ∧ K1.1 (97, 0) k = K.1 (97, 0) k) (hk : ∀ i, i < c → M1.1 (23, q) i = M.1 (23, q) i ∧ K1.1 (99, 0) i = K.1 (99, 0) i ∧ K1.1 (100, 0) i = K.1 (100, 0) i ∧ K1.1 (101, 0) i = K.1 (101, 0) i) : LR M1 q w K1 k := by
  obtain ⟨u, a, b, e1, hu, hw, hab, hb64, e3, e5, e6, e7, hs⟩ := h
  rw [e4] at hw
  have uc : u < cnt := (nI_lt' (by omega) (by omega)).mp hw
  obtain ⟨b', hb', eb⟩ := hb u uc
  have bb : b = b' := (nI_eq' (by omega) (by omega)).mp (e5.symm.trans eb)
  obtain ⟨g1, g2⟩ := h24 u uc
  refine ⟨u, a, b, e1, hu, by rw [e4']; exact (nI_lt' (by omega) (by omega)).mpr (by omega), hab, hb64, by rw [g1]; exact e3, by rw [g2]; exact e5, by rw [h96.1]; exact e6, by rw [h96.2]; exact e7, skF_cong (fun i x y => ?_) hs⟩
  exact hk i (by omega)
/-- a law written down: class and model alike -/
theorem LR.new {M K : eg_H} {q k u a b : Nat} (hu : u < 7) (e4 : M.1 (3, q) 4 = nI (u + 1)) (hab : a < b) (hb : b ≤ 64) (e24 : M.1 (24, q) u = nI a) (e25 : M.1 (25, q) u = nI b) (e96 : K.1 (96, 0) k = nI a) (e97 : K.1 (97, 0) k = nI b) (hs : skF (M.1 (23, q)) (K.1 (99, 0)) (K.1 (100, 0)) (K.1 (101, 0)) a (b - a) [b - 1]) : LR M q (nI u) K k :=
  ⟨u, a, b, rfl, hu, by rw [e4]; exact (nI_lt' (by omega) (by omega)).mpr (by omega), hab, hb, e24, e25, e96, e97, hs⟩
theorem addL_e {M : eg_H} {q u a b : Nat} (q2 : q < 2) (hu : u < 7) (e4 : M.1 (3, q) 4 = nI u) (e3 : M.1 (3, q) 3 = nI b) {κ : eg_K} {d : Nat} : eg_S κ gC mtX3_addLaw d [vR (3, q), vI (nI a)] M (eQI κ gC (fun x X => x = nI u ∧ X = sI (sI (sI M (24, q) u (nI a)) (25, q) u (nI b)) (3, q) 4 (nI (u + 1)))) := by
  have lt : nI u < (7 : Int32) := (nI_lt' (b := 7) (by omega) (by omega)).mpr hu
  refine eg_S.of rfl (Nat.le_of_ble_eq_true rfl) (vX3_addLaw_0 M q2 (nI a) ⟨fun _ => ?_, fun y => absurd (by rw [e4]; exact lt) y⟩)
  rw [e4, nI_t (show u < 2147483648 by omega)]
  refine ⟨nI_in' hu (by omega), fun M3 f3 => ?_⟩
  have g3 : M3.1 (3, q) = M.1 (3, q) := by rw [f3, sI_ne (kd_ne (by omega))]
  rw [g3, e4, e3, nI_t (show u < 2147483648 by omega)]
  refine ⟨nI_in' hu (by omega), fun M5 f5 M6 f6 => ?_⟩
  have g5 : M5.1 (3, q) 4 = nI u := by rw [f5, sI_ne (kd_ne (by omega)), g3, e4]
  rw [g5, (nAl u).2.1] at f6
  refine ⟨?_, by rw [f6, f5, f3]⟩
  rw [f6, sI_rr, if_pos rfl]
  exact nI_p u
