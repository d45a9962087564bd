/-! A LAW, FROM ITS FIRST WORD ON -/
theorem LAW {q n a : Nat} {M N : eg_H} (h : RD q n a M N) (hk : ¬ M.1 (9, 0) 4 = 39) : PI mtX6_readLaw mtX11_lawLine [vR (6, 0)] [vR (60, 0)] 10 7 M N (LN q n a M N) := by
  obtain ⟨q2, eq⟩ := h.1
  refine PI.w (PW.c (fun κ d hd post k => eg_S.of rfl (Nat.le_of_ble_eq_true rfl) (vX6_readLaw_0 (by omega) M k)) (PW.m (fun κ d hd post k => eg_S.of rfl (Nat.le_of_ble_eq_true rfl) (vX11_lawLine_0 (by omega) N k)) ?_))
  refine PW.adv h.2.1 (by omega) (by omega) (fun M1 N1 a1 p1 p2 p3 _ p5 p6 t1 => ?_)
  have h1 := h.f p1 p3 t1
  have ha1 : a < a1 := p6 hk
  have eq1 : M1.2.2 (6, 0) 1 = (5, q) := h1.1.2
  refine PW.ch fun x3 e3 => ?_
  rcases LK t1 with ⟨j, j3, lj, lk⟩ | ⟨lo, lk⟩
  · rw [lj] at e3
    rw [lk, e3]
    refine PW.mf ?_
    dsimp only
    have i3 : (3 : Int32) + nI j = nI (3 + j) := (nAr j).2.2.2.1
    have n0 : ¬ nI j < 0 := fun y => by
      have := (nI_lt' (b := 0) (by omega) (by omega)).mp y
      omega
    rw [i3, nI_t (show j < 2147483648 by omega), nI_t (show 3 + j < 2147483648 by omega)]
    refine PW.cF n0 (PW.cT ((nI_lt' (b := 3) (by omega) (by omega)).mpr j3) (PW.cp q2 eq1 (PW.cg (nI_in' j3 (by omega)) ?_)))
    refine PW.mT ((nI_le' (a := 0) (by omega) (by omega)).mpr (by omega)) (PW.mg (nI_in' (by omega) (by omega)) ?_)
    rcases h1.2.2.1.l j3 with ⟨w1, w2⟩ | ⟨w1, w2⟩
    · rw [kp_98, show j + 3 = 3 + j by omega] at w2
      refine PW.cT w1 (PW.mT w2 (PW.mh fun N8 e8 => ?_))
      rw [nar1] at e8
      have o8 : ∀ r, r ≠ (98, 0) → N8.1 r = N1.1 r := fun r hr => by rw [e8, sI_ne hr]
      have t8 : tA M1 N8 n a1 := t1.cong rfl rfl (fun k _ _ => by rw [o8 _ (by decide)]) (o8 _ (by decide)) (o8 _ (by decide))
      have wm8 : wM N N8 := by
        rw [e8]
        exact p3.w.tr (wM.s (by omega) (show 3 ≤ 3 + j by omega))
      refine PW.adv t8 (by omega) (by omega) (fun M11 N9 a2 g1 _ g3 _ g5 g6 t9 => ?_)
      obtain ⟨c, d1, d2, d3, d4, d5⟩ := h1.2.2.2.2.1
      have d6 := h1.2.2.2.2.2.1
      have ek := h1.2.2.1.ek
      rw [kp_60 N1 (by omega)] at ek
      have m3 : M11.1 (3, q) = M1.1 (3, q) := g1.1 _ (kd_ne (by omega)) (kd_ne (by omega))
      have e33 : M11.1 (3, q) 3 = nI c := by rw [m3, ek]; exact d4
      have n60 : ∀ k, k < 7 ∨ 11 < k → N9.1 (60, 0) k = N1.1 (60, 0) k := fun k hk => by rw [g3.2.1 k hk, o8 _ (by decide)]
      have e22 : N9.1 (60, 0) 22 = nI c := by rw [n60 22 (by omega)]; exact d4
      have eq11 : M11.2.2 (6, 0) 1 = (5, q) := by rw [g1.2.2]; exact eq1
      have i7 : (7 : Int32) + nI j = nI (7 + j) := (nAr j).2.2.2.2.2.2.2.1
      refine PW.cp q2 eq11 (PW.ch fun x14 e14 => ?_)
      rw [e33] at e14
      rw [e14]
      refine PW.m (Km' := fun κ d post => vp_in (nI (7 + j)) 14 ∧ ∀ Z : eg_H, Z = sI N9 (96, 0) (7 + j) (nI c) → eCI κ gM mtX11_sumRead (d - 1) [vR (60, 0)] Z (fun x Z2 => ∀ Z3 : eg_H, Z3 = sI Z2 (97, 0) (7 + j) (Z2.1 (60, 0) 22) → ((x = 0 ∨ x = 1) ∧ post x Z3))) (fun κ d hd post z => ⟨fun x Z => (x = 0 ∨ x = 1) ∧ post x Z, ?_, fun _ _ y => y⟩) ?_
      · refine eg_S.of rfl (Nat.le_of_ble_eq_true rfl) (vX11_sumInto_0 (by omega) N9 (nI j) ?_)
        rw [i7, nI_t (show 7 + j < 2147483648 by omega), e22]
        refine ⟨z.1, fun Z eZ => ?_⟩
        obtain ⟨po, s, t⟩ := z.2 Z eZ
        exact ⟨po, s, fun x Z2 hZ Z3 e3 => ⟨(t x Z2 hZ Z3 e3).1, t x Z2 hZ Z3 e3⟩⟩
      refine PW.mg (nI_in' (by omega) (by omega)) (PW.mh fun NA eA => ?_)
      have oA : ∀ r, r ≠ (96, 0) → NA.1 r = N9.1 r := fun r hr => by rw [eA, sI_ne hr]
      have tA' : tA M11 NA n a2 := t9.cong rfl rfl (fun k _ _ => by rw [oA _ (by decide)]) (oA _ (by decide)) (oA _ (by decide))
      have wmA : wM N NA := by
        refine wm8.tr (g3.w.tr ?_)
        rw [eA]
        exact wM.s (by omega) (show 7 ≤ 7 + j by omega)
      have wcA : wC q M M11 := (p1.tr g1).w
      refine PW.cn1 (EXPR (a := c) q2 eq11 tA' d1 ⟨e33, by rw [oA _ (by decide)]; exact e22⟩ ⟨by rw [g1.2.1 8 (by omega) (by omega)]; exact d2, by rw [oA _ (by decide), n60 46 (by omega)]; exact d3⟩) (by omega) (by omega) ?_
      rintro r M16 N4 (⟨hr, ⟨k1, a3, s1, s2, ⟨s3, s4⟩, ⟨s5, s6⟩, ⟨s7, s8⟩, s9⟩, xc, xm⟩ | ⟨hr, fl⟩)
      · have r0 : ¬ r = 0 := by rw [hr]; decide
        refine PW.cNT r0 (PW.cp (M := M16) q2 (by rw [xc.2.2.2.2]; exact eq11) ?_)
        have mm := h1.2.2.1.hm
        rw [kp_60 N1 (by omega)] at mm
        have m5 : (N1.1 (60, 0) 21).toNatClampNeg < 5 := vp_lt mm
        have u7 : tl N1 < 7 := by
          have := (tl_up (N := N1) (N1 := sI N1 (98, 0) (3 + j) 1) j3 w2 (by rw [sI_rr, if_pos rfl]) (fun k hk => by rw [sI_rr, if_neg hk]) (by rw [sI_ne (by decide)])).2
          omega
        have e34 : M16.1 (3, q) 4 = nI (tl N1) := by rw [xc.2.2.1 4 (by omega), m3]; exact d6
        refine PW.ce (ec := 0) (fun κ d hd => addL_e (a := c) q2 u7 e34 s5) (by omega) (PW.ch fun M23 e23 => PW.mh fun N6 e6 => ?_)
        rw [s6] at e6
        rw [hr]
        refine PW.mg (Or.inr rfl) (PW.e ?_)
        have b23 : ∀ r, r ≠ (35, q) → r ≠ (3, q) → r ≠ (25, q) → r ≠ (24, q) → M23.1 r = M16.1 r := fun r a b c d => by rw [e23, sI_ne a, sI_ne b, sI_ne c, sI_ne d]
        have b6 : ∀ r, r ≠ (97, 0) → N6.1 r = N4.1 r := fun r hr => by rw [e6, sI_ne hr]
        have f60 : ∀ k, k < 7 ∨ (11 < k ∧ k < 22) ∨ (22 < k ∧ k < 43) → N6.1 (60, 0) k = N1.1 (60, 0) k := fun k hk => by rw [b6 _ (by decide), xm.2.2.1 k (by omega), oA _ (by decide), n60 k (by omega)]
        have oN : ∀ r, r < 96 → r ≠ 60 → N6.1 (r, 0) = N1.1 (r, 0) := fun r a b => by rw [b6 _ (kd_ne (by omega)), xm.1 _ (kd_ne b) (Or.inl (by dsimp only; omega)), oA _ (kd_ne (by omega)), g3.1 _ (kd_ne b), o8 _ (kd_ne (by omega))]
        have oM : ∀ r, r ≠ (9, 0) → r ≠ (6, 0) → r ≠ (36, 0) → r ≠ (23, q) → r ≠ (3, q) → r ≠ (35, q) → r ≠ (25, q) → r ≠ (24, q) → M23.1 r = M1.1 r := fun r a b c d e f g i => by rw [b23 r f e g i, xc.1 r a b c d e, g1.1 r a b]
        have n98 : N6.1 (98, 0) = N8.1 (98, 0) := by rw [b6 _ (by decide), xm.1 _ (by decide) (by decide), oA _ (by decide), g3.1 _ (by decide)]
        have t23 : tA M23 N6 n a3 := s2.cong (b23 _ (kd_ne (by omega)) (kd_ne (by omega)) (kd_ne (by omega)) (kd_ne (by omega))) (b23 _ (kd_ne (by omega)) (kd_ne (by omega)) (kd_ne (by omega)) (kd_ne (by omega))) (fun k _ _ => by rw [b6 _ (by decide)]) (b6 _ (by decide)) (b6 _ (by decide))
        have z6 : ∀ k, k < 6 → M23.1 (6, 0) k = M1.1 (6, 0) k := fun k hk => by rw [b23 _ (kd_ne (by omega)) (kd_ne (by omega)) (kd_ne (by omega)) (kd_ne (by omega)), xc.2.2.2.1 k hk, g1.2.1 k (by omega) (by omega)]
        have rd := h1.law (M1 := M23) (N1 := N6) (a2 := a3) (c := c) (k1 := k1) (j := j) d4 d1 j3 w2 t23 z6 ⟨by rw [b23 _ (kd_ne (by omega)) (kd_ne (by omega)) (kd_ne (by omega)) (kd_ne (by omega))]; exact s7, by rw [b6 _ (by decide)]; exact s8, by rw [b6 _ (by decide)]; exact s6⟩ ⟨s3, s4⟩ (by rw [e23]; show M16.2.2 = _; rw [xc.2.2.2.2, g1.2.2]) (fun r hr => ?_) ⟨?_, ?_⟩ (fun i hi => ?_) ⟨fun u hu => ⟨?_, ?_⟩, ?_, ?_⟩ ⟨fun i hi => ?_, ?_⟩ f60 (fun k x y => oN k (by omega) (by omega)) ⟨?_, fun k hk => ?_⟩ ⟨fun k hk => ⟨?_, ?_⟩, ?_, ?_⟩ (fun i hi => ?_) ?_
        · refine Or.inl ⟨rfl, ⟨a3, by omega, rd⟩, ?_, ?_, ?_⟩
          · refine (wcA.tr xc.w).tr ?_
            rw [e23]
            exact (wC.s (Or.inl (pOf_k (by omega)))).tr ((wC.s (Or.inl (pOf_k (by omega)))).tr ((wC.s (Or.inl (pOf_k (by omega)))).tr (wC.s (Or.inl (pOf_k (by omega))))))
          · refine (wmA.tr xm.w).tr ?_
            rw [e6]
            exact wM.s (by omega) (show 7 ≤ 7 + j by omega)
          · rw [z6 4 (by omega), p1.2.1 4 (by omega) (by omega)]
        · have nn : ∀ k, k = 9 ∨ k = 6 ∨ k = 36 ∨ k = 23 ∨ k = 3 ∨ k = 35 ∨ k = 25 ∨ k = 24 → ∀ b, r ≠ (k, b) := fun k hk b e => by
            rw [e] at hr
            dsimp only at hr
            omega
          exact oM r (nn 9 (by omega) _) (nn 6 (by omega) _) (nn 36 (by omega) _) (nn 23 (by omega) _) (nn 3 (by omega) _) (nn 35 (by omega) _) (nn 25 (by omega) _) (nn 24 (by omega) _)
        · rw [e23, sI_ne (kd_ne (by omega)), sI_rr, if_neg (by omega), sI_ne (kd_ne (by omega)), sI_ne (kd_ne (by omega))]; exact s5
        · rw [e23, sI_ne (kd_ne (by omega)), sI_rr, if_pos rfl]
        · rw [b23 _ (kd_ne (by omega)) (kd_ne (by omega)) (kd_ne (by omega)) (kd_ne (by omega)), xc.2.1 i hi, g1.1 _ (kd_ne (by omega)) (kd_ne (by omega))]
        · rw [e23, sI_ne (kd_ne (by omega)), sI_ne (kd_ne (by omega)), sI_ne (kd_ne (by omega)), sI_rr, if_neg hu, xc.1 _ (kd_ne (by omega)) (kd_ne (by omega)) (kd_ne (by omega)) (kd_ne (by omega)) (kd_ne (by omega)), g1.1 _ (kd_ne (by omega)) (kd_ne (by omega))]
        · rw [e23, sI_ne (kd_ne (by omega)), sI_ne (kd_ne (by omega)), sI_rr, if_neg hu, sI_ne (kd_ne (by omega)), xc.1 _ (kd_ne (by omega)) (kd_ne (by omega)) (kd_ne (by omega)) (kd_ne (by omega)) (kd_ne (by omega)), g1.1 _ (kd_ne (by omega)) (kd_ne (by omega))]
        · rw [e23, sI_ne (kd_ne (by omega)), sI_ne (kd_ne (by omega)), sI_ne (kd_ne (by omega)), sI_rr, if_pos rfl]
        · rw [e23, sI_ne (kd_ne (by omega)), sI_ne (kd_ne (by omega)), sI_rr, if_pos rfl]
        · rw [e23, sI_rr, if_neg hi, sI_ne (kd_ne (by omega)), sI_ne (kd_ne (by omega)), sI_ne (kd_ne (by omega)), xc.1 _ (kd_ne (by omega)) (kd_ne (by omega)) (kd_ne (by omega)) (kd_ne (by omega)) (kd_ne (by omega)), g1.1 _ (kd_ne (by omega)) (kd_ne (by omega))]
        · rw [e23, sI_rr, if_pos rfl]
        · rw [n98, e8, sI_rr, if_pos rfl]
        · rw [n98, e8, sI_rr, if_neg hk]
        · rw [b6 _ (by decide), xm.1 _ (by decide) (by decide), eA, sI_rr, if_neg hk, g3.1 _ (by decide), o8 _ (by decide)]
        · rw [e6, sI_rr, if_neg hk, xm.1 _ (by decide) (by decide), oA _ (by decide), g3.1 _ (by decide), o8 _ (by decide)]
        · rw [b6 _ (by decide), xm.1 _ (by decide) (by decide), eA, sI_rr, if_pos rfl]
        · rw [e6, sI_rr, if_pos rfl]
        · obtain ⟨y1, y2, y3⟩ := xm.2.1 i hi
          have r9 : ∀ r, r = 99 ∨ r = 100 ∨ r = 101 → NA.1 (r, 0) = N1.1 (r, 0) := fun r hr => by rw [oA _ (kd_ne (by omega)), g3.1 _ (kd_ne (by omega)), o8 _ (kd_ne (by omega))]
          rw [b6 _ (by decide), b6 _ (by decide), b6 _ (by decide), y1, y2, y3, r9 99 (by omega), r9 100 (by omega), r9 101 (by omega)]
          exact ⟨rfl, rfl, rfl⟩
        · rw [b23 _ (kd_ne (by omega)) (kd_ne (by omega)) (kd_ne (by omega)) (kd_ne (by omega)), b6 _ (by decide), b6 _ (by decide), b6 _ (by decide)]
          exact s9
      · refine PW.cNF hr (PW.mh fun N6 e6 => ?_)
        rw [hr, e6]
        exact PW.mg (Or.inl rfl) (PW.e (Or.inr ⟨rfl, FL.pre wcA wmA (fl.s97 (by omega))⟩))
    · rw [kp_98, show j + 3 = 3 + j by omega] at w1
      obtain ⟨u, _, _, e1, hu, _⟩ := w2
      refine PW.cF (fun y => ?_) (PW.mF w1 (PW.ref (Or.inr ⟨rfl, FL.pre p1.w p3.w (FL_mk q t1 3 (by decide))⟩)))
      rw [e1] at y
      exact nI_ne_m1 (by omega) y
  · rw [lk]
    refine PW.mf ?_
    dsimp only
    refine PW.mF (by decide) ?_
    have fl : LN q n a M N 0 (fX6_refuse M1 1).2 (fX11_wrong N1 1).2 := Or.inr ⟨rfl, FL.pre p1.w p3.w (FL_mk q t1 1 (by decide))⟩
    rw [← e3] at lo
    rcases lo with z | ⟨z1, z2⟩
    · exact PW.cT z (PW.cf (K := fun x M1 _ _ post => post x M1) (PW.e (r := 0) fl))
    · exact PW.cF z1 (PW.cF z2 (PW.cf (K := fun x M1 _ _ post => post x M1) (PW.e (r := 0) fl)))
