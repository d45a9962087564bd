/-! A may, FROM ITS FIRST WORD ON -/
theorem MAY {q n a : Nat} {M N : eg_H} (h : RD q n a M N) (hk : ¬ M.1 (9, 0) 4 = 39) : PI mtX6_readMay mtX11_mayLine [vR (6, 0)] [vR (60, 0)] 10 7 M N (LN q n a M N) := by
  obtain ⟨q2, eq⟩ := h.1
  have hn := h.2.2.1.hm
  have en := h.2.2.1.em
  rw [kp_60 N (by omega)] at hn en
  obtain ⟨es, s6⟩ := nI_of' hn (by omega)
  generalize (N.1 (60, 0) (14 + 7)).toNatClampNeg = y at es s6
  have hy : N.1 (60, 0) 21 = nI y := es
  have e5 : M.1 (5, q) 7 = nI y := en.trans es
  refine PI.w (PW.c (fun κ d hd post k => eg_S.of rfl (Nat.le_of_ble_eq_true rfl) (vX6_readMay_0 (by omega) M k)) (PW.m (fun κ d hd post k => eg_S.of rfl (Nat.le_of_ble_eq_true rfl) (vX11_mayLine_0 (by omega) N k)) ?_))
  refine PW.cp q2 eq ?_
  rw [e5, hy]
  by_cases c4 : y = 4
  · refine PW.cF (fun z => ?_) (PW.mNF (by rw [c4]; rfl) (PW.ref (Or.inr ⟨rfl, FL_mk q h.2.1 2 (by decide)⟩)))
    have := (nI_lt' (b := 4) (by omega) (by omega)).mp z
    omega
  have y4 : y < 4 := by omega
  refine PW.cT ((nI_lt' (b := 4) (by omega) (by omega)).mpr y4) (PW.mNT (fun z => c4 ((nI_eq' (b := 4) (by omega) (by omega)).mp z)) ?_)
  refine PW.adv h.2.1 (by omega) (by omega) (fun M3 N2 a1 p1 p2 p3 _ p5 p6 t1 => ?_)
  have ha1 : a < a1 := p6 hk
  refine PW.ch fun x5 e5' => ?_
  rcases LK t1 with ⟨j, j3, lj, lk⟩ | ⟨lo, lk⟩
  · rw [lj] at e5'
    rw [lk, e5']
    refine PW.mf ?_
    dsimp only
    have n0 : ¬ nI j < 0 := fun z => by
      have := (nI_lt' (b := 0) (by omega) (by omega)).mp z
      omega
    refine PW.cF n0 (PW.cT ((nI_lt' (b := 3) (by omega) (by omega)).mpr j3) (PW.mT ((nI_le' (a := 0) (by omega) (by omega)).mpr (by omega)) ?_))
    refine PW.adv t1 (by omega) (by omega) (fun M10 N7 a2 g1 _ g3 _ g5 g6 t2 => ?_)
    have fc2 := p1.tr g1
    have fm2 := p3.tr g3
    have h2 := h.f fc2 fm2 t2
    have pl := h2.2.2.1
    have eq2 : M10.2.2 (6, 0) 1 = (5, q) := h2.1.2
    have m5 : M10.1 (5, q) = M.1 (5, q) := fc2.1 _ (kd_ne (by omega)) (kd_ne (by omega))
    have e57 : M10.1 (5, q) 7 = nI y := by rw [m5]; exact e5
    have n21 : N7.1 (60, 0) 21 = nI y := (fm2.2.1 21 (by omega)).trans hy
    have i4 : (4 : Int32) + nI y = nI (4 + y) := (nAr y).2.2.2.2.1
    have hF := mtf (M1 := M10) (N1 := N7) pl rfl rfl rfl rfl (M10.1 (9, 0) 6)
    have v1 : vp_in (M10.1 (5, q) 0) 6 := by rw [pl.en]; exact pl.hn
    have v2 : vp_in (M10.1 (5, q) 2) 10 := by rw [pl.eg]; exact pl.hg
    have v3 : vp_in (M10.1 (5, q) 7) 5 := by rw [pl.em]; exact pl.hm
    refine PW.cn (NAME (o := 4) (c := N7.1 (60, 0) 21) (r := (94, 0)) (nl := 8) t2 q2 eq2 (Or.inr (Or.inr ⟨rfl, rfl⟩)) v1 v2 v3 hF ?_ ⟨by decide +kernel, rfl⟩ ?_ ⟨by decide, by decide, by decide⟩) (by omega) (by omega) ?_
    · rw [n21]
      refine ⟨show vp_in (nI 4) 100 from nI_in' (by omega) (by omega), nI_in' (by omega) (by omega), ?_⟩
      rw [nI_t (by omega)]
      show 4 + y ≤ 8
      omega
    · rw [n21, i4]; exact nI_in' (by omega) (by omega)
    · rintro x M13 N10 (⟨hx, a3, v, w1, t3, fc3, fm3, ev⟩ | ⟨hx, z⟩)
      · have x0 : ¬ x = 0 := by rw [hx]; decide
        rw [n21, i4, nI_t (by omega)] at fm3
        refine PW.cNT x0 (PW.mNT x0 ?_)
        have eq3 : M13.2.2 (6, 0) 1 = (5, q) := by rw [fc3.2.2]; exact eq2
        have b5 : M13.1 (5, q) = M10.1 (5, q) := fc3.1 _ (kd_ne (by omega)) (kd_ne (by omega))
        have e135 : M13.1 (5, q) 7 = nI y := by rw [b5]; exact e57
        have n60 : ∀ k, k < 7 ∨ 11 < k → N10.1 (60, 0) k = N7.1 (60, 0) k := fun k hk => by rw [fm3.2.1 k hk, sI_ne (by decide)]
        have e1021 : N10.1 (60, 0) 21 = nI y := by rw [n60 21 (by omega)]; exact n21
        refine PW.cp (M := M13) q2 eq3 ?_
        rw [e135, ev, e1021, i4, nI_t (show y < 2147483648 by omega), nI_t (show 4 + y < 2147483648 by omega)]
        refine PW.cg (nI_in' y4 (by omega)) (PW.ch fun M18 e18 => ?_)
        have b18 : M18.1 (5, q) 7 = nI y := by rw [e18, sI_ne (kd_ne (by omega))]; exact e135
        rw [b18, nI_t (show y < 2147483648 by omega)]
        refine PW.cg (nI_in' y4 (by omega)) (PW.ch fun M20 e20 => PW.ch fun x21 e21 => ?_)
        refine PW.mg (nI_in' (by omega) (by omega)) (PW.mh fun N14 f14 => PW.mh fun N15 f15 => ?_)
        have g14 : N14.1 (60, 0) 21 = nI y := by rw [f14, sI_ne (by decide)]; exact e1021
        rw [g14, (nAl y).2.1] at f15
        have g15 : N15.1 (60, 0) 21 = nI (y + 1) := by rw [f15, sI_60, if_pos rfl]
        have i2 : (2 : Int32) + nI (y + 1) = nI (3 + y) := by
          rw [(nAr (y + 1)).2.2.1]
          congr 1
          omega
        rw [g15, i2]
        obtain ⟨c, d1, d2, d3, d4, d5⟩ := h2.2.2.2.2.1
        have d6 := h2.2.2.2.2.2.1
        have ek := pl.ek
        rw [kp_60 N7 (by omega)] at ek
        have oM : ∀ r, r ≠ (9, 0) → r ≠ (6, 0) → r ≠ (32, q) → r ≠ (33, q) → M20.1 r = M10.1 r := fun r a b c d => by rw [e20, sI_ne d, e18, sI_ne c, fc3.1 r a b]
        have z20 : ∀ k, k ≠ 6 → k ≠ 7 → M20.1 (6, 0) k = M10.1 (6, 0) k := fun k a b => by rw [e20, sI_ne (kd_ne (by omega)), e18, sI_ne (kd_ne (by omega)), fc3.2.1 k a b]
        have s20 : M20.2 = M10.2 := by rw [e20, e18]; exact fc3.2.2
        have e33 : M20.1 (3, q) 3 = nI c := by rw [oM _ (kd_ne (by omega)) (kd_ne (by omega)) (kd_ne (by omega)) (kd_ne (by omega)), ek]; exact d4
        rw [e33] at e21
        rw [e21]
        have eq20 : M20.2.2 (6, 0) 1 = (5, q) := by rw [s20]; exact eq2
        have oN : ∀ r, r ≠ (60, 0) → r ≠ (94, 0) → r ≠ (95, 0) → N15.1 r = N7.1 r := fun r a b c => by rw [f15, sI_ne a, f14, sI_ne c, fm3.1 r a, sI_ne b]
        have o60 : ∀ k, k < 7 ∨ 11 < k → k ≠ 21 → N15.1 (60, 0) k = N7.1 (60, 0) k := fun k a b => by rw [f15, sI_60, if_neg b, f14, sI_ne (by decide), n60 k a]
        have e22 : N15.1 (60, 0) 22 = nI c := by rw [o60 22 (by omega) (by omega)]; exact d4
        have i7 : (7 : Int32) + nI (3 + y) = nI (10 + y) := by
          rw [(nAr (3 + y)).2.2.2.2.2.2.2.1]
          congr 1
          omega
        refine PW.m (Km' := fun κ d post => vp_in (nI (10 + y)) 14 ∧ ∀ Z : eg_H, Z = sI N15 (96, 0) (10 + y) (nI c) → eCI κ gM mtX11_sumRead (d - 1) [vR (60, 0)] Z (fun x Z2 => ∀ Z3 : eg_H, Z3 = sI Z2 (97, 0) (10 + y) (Z2.1 (60, 0) 22) → ((x = 0 ∨ x = 1) ∧ post x Z3))) (fun κ d hd post z => ⟨fun x Z => (x = 0 ∨ x = 1) ∧ post x Z, ?_, fun _ _ y => y⟩) ?_
        · refine eg_S.of rfl (Nat.le_of_ble_eq_true rfl) (vX11_sumInto_0 (by omega) N15 (nI (3 + y)) ?_)
          rw [i7, nI_t (show 10 + y < 2147483648 by omega), e22]
          refine ⟨z.1, fun Z eZ => ?_⟩
          obtain ⟨po, s, t⟩ := z.2 Z eZ
          exact ⟨po, s, fun x Z2 hZ Z3 e3 => ⟨(t x Z2 hZ Z3 e3).1, t x Z2 hZ Z3 e3⟩⟩
        refine PW.mg (nI_in' (by omega) (by omega)) (PW.mh fun NA eA => ?_)
        have oA : ∀ r, r ≠ (96, 0) → NA.1 r = N15.1 r := fun r hr => by rw [eA, sI_ne hr]
        have t20 : tA M20 NA n a3 := by
          refine t3.cong (by rw [e20, sI_ne (kd_ne (by omega)), e18, sI_ne (kd_ne (by omega))]) (by rw [e20, sI_ne (kd_ne (by omega)), e18, sI_ne (kd_ne (by omega))]) (fun k _ _ => ?_) ?_ ?_
          · rw [oA _ (by decide), f15, sI_60, if_neg (by omega), f14, sI_ne (by decide)]
          · rw [oA _ (by decide), f15, sI_ne (by decide), f14, sI_ne (by decide)]
          · rw [oA _ (by decide), f15, sI_ne (by decide), f14, sI_ne (by decide)]
        have wcA : wC q M M20 := by
          refine ((fc2.tr fc3).w).tr ?_
          rw [e20, e18]
          exact (wC.s (Or.inl (pOf_k (by omega)))).tr (wC.s (Or.inl (pOf_k (by omega))))
        have wmA : wM N NA := by
          refine (fm2.w.tr (wM.s (N := N7) (r := 94) (k := 4 + y) (x := v) (by omega) (show 4 ≤ 4 + y by omega))).tr (fm3.w.tr ?_)
          rw [eA, f15, f14]
          exact (wM.s (by omega) (show 4 ≤ 4 + y by omega)).tr ((wM.s6 (by omega)).tr (wM.s (by omega) (show 7 ≤ 10 + y by omega)))
        refine PW.cn1 (EXPR (a := c) q2 eq20 t20 d1 ⟨e33, by rw [oA _ (by decide)]; exact e22⟩ ⟨by rw [z20 8 (by omega) (by omega)]; exact d2, by rw [oA _ (by decide), o60 46 (by omega) (by omega)]; exact d3⟩) (by omega) (by omega) ?_
        rintro r M23 N4 (⟨hr, ⟨k1, a4, s1, s2, ⟨s3, s4⟩, ⟨s5, s6'⟩, ⟨s7, s8⟩, s9⟩, xc, xm⟩ | ⟨hr, fl⟩)
        · have r0 : ¬ r = 0 := by rw [hr]; decide
          have eq23 : M23.2.2 (6, 0) 1 = (5, q) := by rw [xc.2.2.2.2]; exact eq20
          refine PW.cNT r0 (PW.cp (M := M23) q2 eq23 ?_)
          have le : ∀ x : Int32, (if x = 0 then 0 else 1) ≤ 1 := fun x => by
            by_cases c : x = 0
            · rw [if_pos c]; omega
            · rw [if_neg c]; omega
          have u7 : tl N7 < 7 := by
            have a3 := le (N7.1 (98, 0) 3)
            have a4 := le (N7.1 (98, 0) 4)
            have a5 := le (N7.1 (98, 0) 5)
            unfold tl
            rw [n21, nI_t (by omega)]
            omega
          have e34 : M23.1 (3, q) 4 = nI (tl N7) := by rw [xc.2.2.1 4 (by omega), oM _ (kd_ne (by omega)) (kd_ne (by omega)) (kd_ne (by omega)) (kd_ne (by omega))]; exact d6
          have e237 : M23.1 (5, q) 7 = nI y := by rw [xc.1 _ (kd_ne (by omega)) (kd_ne (by omega)) (kd_ne (by omega)) (kd_ne (by omega)) (kd_ne (by omega)), oM _ (kd_ne (by omega)) (kd_ne (by omega)) (kd_ne (by omega)) (kd_ne (by omega))]; exact e57
          rw [e237, nI_t (show y < 2147483648 by omega)]
          refine PW.ce (ec := 0) (fun κ d hd => addL_e (a := c) q2 u7 e34 s5) (by omega) (PW.cg (nI_in' y4 (by omega)) (PW.ch fun M31 e31 => PW.cp (M := M31) q2 (by rw [e31]; exact eq23) (PW.ch fun M33 e33' => PW.mh fun N6 e6 => ?_)))
          rw [s6'] at e6
          have f31 : M31.1 (5, q) 7 = nI y := by rw [e31, sI_ne (kd_ne (by omega)), sI_ne (kd_ne (by omega)), sI_ne (kd_ne (by omega)), sI_ne (kd_ne (by omega))]; exact e237
          rw [f31, (nAl y).2.1] at e33'
          rw [hr]
          refine PW.mg (Or.inr rfl) (PW.e ?_)
          have b33 : ∀ r, r ≠ (5, q) → r ≠ (34, q) → r ≠ (3, q) → r ≠ (25, q) → r ≠ (24, q) → M33.1 r = M23.1 r := fun r a b c d e => by rw [e33', sI_ne a, e31, sI_ne b, sI_ne c, sI_ne d, sI_ne e]
          have xo : ∀ k, k ≠ 9 → k ≠ 6 → k ≠ 36 → k ≠ 23 → k ≠ 3 → ∀ b, M23.1 (k, b) = M20.1 (k, b) := fun k a b c d e f => xc.1 _ (kd_ne a) (kd_ne b) (kd_ne c) (kd_ne d) (kd_ne e)
          have b6 : ∀ r, r ≠ (97, 0) → N6.1 r = N4.1 r := fun r hr => by rw [e6, sI_ne hr]
          have f60 : ∀ k, k < 7 ∨ (11 < k ∧ k < 21) ∨ (22 < k ∧ k < 43) → N6.1 (60, 0) k = N7.1 (60, 0) k := fun k hk => by rw [b6 _ (by decide), xm.2.2.1 k (by omega), oA _ (by decide), o60 k (by omega) (by omega)]
          have n9x : ∀ r, r < 99 → r ≠ 60 → r ≠ 96 → r ≠ 97 → N6.1 (r, 0) = N15.1 (r, 0) := fun r a b c d => by rw [b6 _ (kd_ne d), xm.1 _ (kd_ne b) (Or.inl (by dsimp only; omega)), oA _ (kd_ne c)]
          have t33 : tA M33 N6 n a4 := s2.cong (b33 _ (kd_ne (by omega)) (kd_ne (by omega)) (kd_ne (by omega)) (kd_ne (by omega)) (kd_ne (by omega))) (b33 _ (kd_ne (by omega)) (kd_ne (by omega)) (kd_ne (by omega)) (kd_ne (by omega)) (kd_ne (by omega))) (fun k _ _ => by rw [b6 _ (by decide)]) (b6 _ (by decide)) (b6 _ (by decide))
          have z6 : ∀ k, k < 6 → M33.1 (6, 0) k = M10.1 (6, 0) k := fun k hk => by rw [b33 _ (kd_ne (by omega)) (kd_ne (by omega)) (kd_ne (by omega)) (kd_ne (by omega)) (kd_ne (by omega)), xc.2.2.2.1 k hk, z20 k (by omega) (by omega)]
          have r94 : N15.1 (94, 0) = (sI N7 (94, 0) (4 + y) v).1 (94, 0) := by rw [f15, sI_ne (by decide), f14, sI_ne (by decide), fm3.1 _ (by decide)]
          have r95 : ∀ k, N15.1 (95, 0) k = if k = 4 + y then nI j else N7.1 (95, 0) k := fun k => by rw [f15, sI_ne (by decide), f14, sI_rr, fm3.1 _ (by decide), sI_ne (by decide)]
          have rd := h2.may (M1 := M33) (N1 := N6) (a2 := a4) (c := c) (k1 := k1) (y := y) d4 d1 y4 n21 t33 z6 ⟨by rw [b33 _ (kd_ne (by omega)) (kd_ne (by omega)) (kd_ne (by omega)) (kd_ne (by omega)) (kd_ne (by omega))]; exact s7, by rw [b6 _ (by decide)]; exact s8, by rw [b6 _ (by decide)]; exact s6'⟩ ⟨s3, s4⟩ (by rw [e33', e31]; show M23.2.2 = _; rw [xc.2.2.2.2, s20]) (fun r hr => ?_) ⟨fun k hk => ?_, ?_⟩ (fun i hi => ⟨?_, ?_, ?_⟩) ⟨?_, ?_, ?_, ?_⟩ ⟨?_, ?_⟩ (fun i hi => ?_) ⟨fun u hu => ⟨?_, ?_⟩, ?_, ?_⟩ f60 ?_ (fun k x z => ?_) (fun k hk => ⟨?_, ?_⟩) ?_ ⟨fun k hk => ⟨?_, ?_⟩, ?_, ?_⟩ (fun i hi => ?_) ?_
          · refine Or.inl ⟨rfl, ⟨a4, by omega, rd⟩, ?_, ?_, ?_⟩
            · refine (wcA.tr xc.w).tr ?_
              rw [e33', e31]
              exact (wC.s (Or.inl (pOf_k (by omega)))).tr ((wC.s (Or.inl (pOf_k (by omega)))).tr ((wC.s (Or.inl (pOf_k (by omega)))).tr ((wC.s (Or.inl (pOf_k (by omega)))).tr (wC.s (Or.inl (pOf_k (by omega)))))))
            · refine (wmA.tr xm.w).tr ?_
              rw [e6]
              exact wM.s (by omega) (show 7 ≤ 10 + y by omega)
            · rw [z6 4 (by omega), fc2.2.1 4 (by omega) (by omega)]
          · have nn : ∀ k, k = 9 ∨ k = 6 ∨ k = 36 ∨ k = 23 ∨ k = 3 ∨ k = 34 ∨ k = 25 ∨ k = 24 ∨ k = 5 ∨ k = 32 ∨ k = 33 → ∀ b, r ≠ (k, b) := fun k hk b e => by
              rw [e] at hr
              dsimp only at hr
              omega
            rw [b33 r (nn 5 (by omega) _) (nn 34 (by omega) _) (nn 3 (by omega) _) (nn 25 (by omega) _) (nn 24 (by omega) _), xc.1 r (nn 9 (by omega) _) (nn 6 (by omega) _) (nn 36 (by omega) _) (nn 23 (by omega) _) (nn 3 (by omega) _)]
            exact oM r (nn 9 (by omega) _) (nn 6 (by omega) _) (nn 32 (by omega) _) (nn 33 (by omega) _)
          · rw [e33', sI_rr, if_neg hk, e31, sI_ne (kd_ne (by omega)), sI_ne (kd_ne (by omega)), sI_ne (kd_ne (by omega)), sI_ne (kd_ne (by omega)), xo 5 (by omega) (by omega) (by omega) (by omega) (by omega), oM _ (kd_ne (by omega)) (kd_ne (by omega)) (kd_ne (by omega)) (kd_ne (by omega))]
          · rw [e33', sI_rr, if_pos rfl]
          · rw [b33 _ (kd_ne (by omega)) (kd_ne (by omega)) (kd_ne (by omega)) (kd_ne (by omega)) (kd_ne (by omega)), xo 32 (by omega) (by omega) (by omega) (by omega) (by omega), e20, sI_ne (kd_ne (by omega)), e18, sI_rr, if_neg hi, fc3.1 _ (kd_ne (by omega)) (kd_ne (by omega))]
          · rw [b33 _ (kd_ne (by omega)) (kd_ne (by omega)) (kd_ne (by omega)) (kd_ne (by omega)) (kd_ne (by omega)), xo 33 (by omega) (by omega) (by omega) (by omega) (by omega), e20, sI_rr, if_neg hi, e18, sI_ne (kd_ne (by omega)), fc3.1 _ (kd_ne (by omega)) (kd_ne (by omega))]
          · rw [e33', sI_ne (kd_ne (by omega)), e31, sI_rr, if_neg hi, sI_ne (kd_ne (by omega)), sI_ne (kd_ne (by omega)), sI_ne (kd_ne (by omega)), xo 34 (by omega) (by omega) (by omega) (by omega) (by omega), oM _ (kd_ne (by omega)) (kd_ne (by omega)) (kd_ne (by omega)) (kd_ne (by omega))]
          · rw [b33 _ (kd_ne (by omega)) (kd_ne (by omega)) (kd_ne (by omega)) (kd_ne (by omega)) (kd_ne (by omega)), xo 32 (by omega) (by omega) (by omega) (by omega) (by omega), e20, sI_ne (kd_ne (by omega)), e18, sI_rr, if_pos rfl, n9x 94 (by omega) (by omega) (by omega) (by omega), r94, sI_rr, if_pos rfl]
          · rw [n9x 95 (by omega) (by omega) (by omega) (by omega), r95, if_pos rfl]; exact nI_in' j3 (by omega)
          · rw [b33 _ (kd_ne (by omega)) (kd_ne (by omega)) (kd_ne (by omega)) (kd_ne (by omega)) (kd_ne (by omega)), xo 33 (by omega) (by omega) (by omega) (by omega) (by omega), e20, sI_rr, if_pos rfl, n9x 95 (by omega) (by omega) (by omega) (by omega), r95, if_pos rfl]
          · rw [e33', sI_ne (kd_ne (by omega)), e31, sI_rr, if_pos rfl]
          · rw [e33', sI_ne (kd_ne (by omega)), e31, sI_ne (kd_ne (by omega)), sI_rr, if_neg (by omega), sI_ne (kd_ne (by omega)), sI_ne (kd_ne (by omega))]; exact s5
          · rw [e33', sI_ne (kd_ne (by omega)), e31, sI_ne (kd_ne (by omega)), sI_rr, if_pos rfl]
          · rw [b33 _ (kd_ne (by omega)) (kd_ne (by omega)) (kd_ne (by omega)) (kd_ne (by omega)) (kd_ne (by omega)), xc.2.1 i hi, oM _ (kd_ne (by omega)) (kd_ne (by omega)) (kd_ne (by omega)) (kd_ne (by omega))]
          · rw [e33', sI_ne (kd_ne (by omega)), e31, sI_ne (kd_ne (by omega)), sI_ne (kd_ne (by omega)), sI_ne (kd_ne (by omega)), sI_rr, if_neg hu, xo 24 (by omega) (by omega) (by omega) (by omega) (by omega), oM _ (kd_ne (by omega)) (kd_ne (by omega)) (kd_ne (by omega)) (kd_ne (by omega))]
          · rw [e33', sI_ne (kd_ne (by omega)), e31, sI_ne (kd_ne (by omega)), sI_ne (kd_ne (by omega)), sI_rr, if_neg hu, sI_ne (kd_ne (by omega)), xo 25 (by omega) (by omega) (by omega) (by omega) (by omega), oM _ (kd_ne (by omega)) (kd_ne (by omega)) (kd_ne (by omega)) (kd_ne (by omega))]
          · rw [e33', sI_ne (kd_ne (by omega)), e31, sI_ne (kd_ne (by omega)), sI_ne (kd_ne (by omega)), sI_ne (kd_ne (by omega)), sI_rr, if_pos rfl]
          · rw [e33', sI_ne (kd_ne (by omega)), e31, sI_ne (kd_ne (by omega)), sI_ne (kd_ne (by omega)), sI_rr, if_pos rfl]
          · rw [b6 _ (by decide), xm.2.2.1 21 (by omega), oA _ (by decide)]; exact g15
          · rw [n9x k (by omega) (by omega) (by omega) (by omega), oN _ (kd_ne (by omega)) (kd_ne (by omega)) (kd_ne (by omega))]
          · rw [n9x 94 (by omega) (by omega) (by omega) (by omega), r94, sI_rr, if_neg hk]
          · rw [n9x 95 (by omega) (by omega) (by omega) (by omega), r95, if_neg hk]
          · rw [n9x 98 (by omega) (by omega) (by omega) (by omega), oN _ (by decide) (by decide) (by decide)]
          · rw [b6 _ (by decide), xm.1 _ (by decide) (by decide), eA, sI_rr, if_neg hk, oN _ (by decide) (by decide) (by decide)]
          · rw [e6, sI_rr, if_neg hk, xm.1 _ (by decide) (by decide), oA _ (by decide), oN _ (by decide) (by decide) (by decide)]
          · rw [b6 _ (by decide), xm.1 _ (by decide) (by decide), eA, sI_rr, if_pos rfl]
          · rw [e6, sI_rr, if_pos rfl]
          · obtain ⟨y1, y2, y3⟩ := xm.2.1 i hi
            have r9 : ∀ r, r = 99 ∨ r = 100 ∨ r = 101 → NA.1 (r, 0) = N7.1 (r, 0) := fun r hr => by rw [oA _ (kd_ne (by omega)), oN _ (kd_ne (by omega)) (kd_ne (by omega)) (kd_ne (by omega))]
            rw [b6 _ (by decide), b6 _ (by decide), b6 _ (by decide), y1, y2, y3, r9 99 (by omega), r9 100 (by omega), r9 101 (by omega)]
            exact ⟨rfl, rfl, rfl⟩
          · rw [b33 _ (kd_ne (by omega)) (kd_ne (by omega)) (kd_ne (by omega)) (kd_ne (by omega)) (kd_ne (by omega)), b6 _ (by decide), b6 _ (by decide), b6 _ (by decide)]
            exact s9
        · refine PW.cNF hr (PW.mh fun N6 e6 => ?_)
          rw [hr, e6]
          exact PW.mg (Or.inl rfl) (PW.e (Or.inr ⟨rfl, FL.pre wcA wmA (fl.s97 (by omega))⟩))
      · exact PW.cNF hx (PW.mNF hx (PW.e (Or.inr ⟨rfl, (z q).pre fc2.w fm2.w⟩)))
  · rw [lk]
    refine PW.mf ?_
    dsimp only
    refine PW.mF (by decide) ?_
    have fl : LN q n a M N 0 (fX6_refuse M3 1).2 (fX11_wrong N2 1).2 := Or.inr ⟨rfl, FL.pre p1.w p3.w (FL_mk q t1 1 (by decide))⟩
    rw [← e5'] at lo
    rcases lo with z | ⟨z1, z2⟩
    · exact PW.cT z (PW.cf (K := fun x M1 _ _ post => post x M1) (PW.e (r := 0) fl))
    · exact PW.cF z1 (PW.cF z2 (PW.cf (K := fun x M1 _ _ post => post x M1) (PW.e (r := 0) fl)))
