/-! A STATION, FROM ITS FIRST WORD ON -/
theorem SQ.rf (q s : Nat) (M N : eg_H) : SQ q s M N M N := ⟨fun _ _ => rfl, rfl, fun _ _ _ => rfl, rfl, fun _ _ => rfl, fun _ _ => rfl⟩
theorem SQ.fl {q n a s : Nat} {M N P Q A B M1 N1 : eg_H} (h : SQ q s M N P Q) (s5 : s < 5) (fc : fC P A) (fm : fM Q B) (z : ∀ q, FL q A B M1 N1) : LN q n a M N 0 M1 N1 := Or.inr ⟨rfl, (z q).pre ((h.wC s5).tr fc.w) (h.wM.tr fm.w)⟩
theorem plS_mk {P Q : eg_H} {q s : Nat} {v0 v1 v2 w3 v4 v5 w6 : Int32} (c0 : P.1 (1, 5 * q + s) 0 = v0) (c1 : P.1 (1, 5 * q + s) 1 = v1) (c2 : P.1 (1, 5 * q + s) 2 = v2) (c3 : P.1 (1, 5 * q + s) 3 = if w3 < 0 then 0 else w3) (c4 : P.1 (1, 5 * q + s) 4 = v4) (c5 : P.1 (1, 5 * q + s) 5 = v5) (c6 : P.1 (1, 5 * q + s) 6 = if w6 ≤ 0 then 0 else w6) (d0 : Q.1 (88, 0) (5 + s) = v0) (d1 : Q.1 (89, 0) (30 + 6 * s) = v1) (d2 : Q.1 (89, 0) (31 + 6 * s) = v2) (d3 : Q.1 (89, 0) (32 + 6 * s) = w3) (d4 : Q.1 (89, 0) (33 + 6 * s) = v4) (d5 : Q.1 (89, 0) (34 + 6 * s) = v5) (d6 : Q.1 (89, 0) (35 + 6 * s) = w6) (r1 : 1 ≤ v1.toInt ∧ v1.toInt ≤ 240) (r2 : 1 ≤ v2.toInt ∧ v2.toInt ≤ 4) (r3 : w3 = -1 ∨ (1 ≤ w3.toInt ∧ w3.toInt ≤ 60)) (r4 : 0 ≤ v4.toInt ∧ v4.toInt ≤ 900) (r5 : 0 ≤ v5.toInt ∧ v5.toInt ≤ 59) : plS P q (kp Q) s := by
  have f0 : (kp Q).1 (88, 0) s = v0 := by rw [kp_88, Nat.add_comm]; exact d0
  have f1 : (kp Q).1 (89, 0) (6 * s) = v1 := by rw [kp_89, Nat.add_comm]; exact d1
  have f2 : (kp Q).1 (89, 0) (6 * s + 1) = v2 := by rw [kp_89, show 6 * s + 1 + 30 = 31 + 6 * s by omega]; exact d2
  have f3 : (kp Q).1 (89, 0) (6 * s + 2) = w3 := by rw [kp_89, show 6 * s + 2 + 30 = 32 + 6 * s by omega]; exact d3
  have f4 : (kp Q).1 (89, 0) (6 * s + 3) = v4 := by rw [kp_89, show 6 * s + 3 + 30 = 33 + 6 * s by omega]; exact d4
  have f5 : (kp Q).1 (89, 0) (6 * s + 4) = v5 := by rw [kp_89, show 6 * s + 4 + 30 = 34 + 6 * s by omega]; exact d5
  have f6 : (kp Q).1 (89, 0) (6 * s + 5) = w6 := by rw [kp_89, show 6 * s + 5 + 30 = 35 + 6 * s by omega]; exact d6
  unfold plS
  rw [f0, f1, f2, f3, f4, f5, f6]
  exact ⟨c0, ⟨r1, c1⟩, ⟨r2, c2⟩, ⟨r3, c3⟩, ⟨r4, c4⟩, ⟨r5, c5⟩, c6⟩
theorem clr_1 (M : eg_H) (c k : Nat) : (fX1_clear M c).1 (1, c) k = if 3 ≤ k ∧ k ≤ 6 then 0 else M.1 (1, c) k := by
  unfold fX1_clear
  rw [sI_rr, sI_rr, sI_rr, sI_rr]
  by_cases c6 : k = 6
  · rw [if_pos c6, if_pos (by omega)]
  · rw [if_neg c6]
    by_cases c5 : k = 5
    · rw [if_pos c5, if_pos (by omega)]
    · rw [if_neg c5]
      by_cases c4 : k = 4
      · rw [if_pos c4, if_pos (by omega)]
      · rw [if_neg c4]
        by_cases c3 : k = 3
        · rw [if_pos c3, if_pos (by omega)]
        · rw [if_neg c3, if_neg (by omega)]
theorem clr_sq (q s : Nat) (M N : eg_H) : SQ q s M N (fX1_clear M (5 * q + s)) N := ((((SQ.rf q s M N).c 3 0).c 4 0).c 5 0).c 6 0
theorem stf {q : Nat} {M N M1 N1 : eg_H} (pl : PL M q (kp N)) (h5 : M1.1 (5, q) = M.1 (5, q)) (h1 : ∀ j, M1.1 (1, 5 * q + j) 0 = M.1 (1, 5 * q + j) 0) (h88 : N1.1 (88, 0) = N.1 (88, 0)) (h19 : N1.1 (60, 0) 19 = N.1 (60, 0) 19) (v : Int32) : fX5_stationOf M1 q v = fX11_find N1 (88, 0) 5 (N1.1 (60, 0) 19) v := by
  have e1 : fX5_stationOf M1 q v = fX5_stationOf M q v := by
    unfold fX5_stationOf
    rw [h5]
    exact fst1_cong _ _ (fun j _ _ => by rw [h1 j])
  have e2 : fX11_find N1 (88, 0) 5 (N1.1 (60, 0) 19) v = fX11_find N (88, 0) 5 (N.1 (60, 0) 19) v := by
    unfold fX11_find
    rw [h88, h19]
  rw [e1, e2, (named_e pl v).1, kp_60 N (by omega)]
  exact find_k (by decide) rfl
theorem ST1 {q n a : Nat} {M N : eg_H} (h : RD q n a M N) (hk : ¬ M.1 (9, 0) 4 = 39) : PI mtX6_readStation mtX11_stationLine [vR (6, 0)] [vR (60, 0)] 9 4 M N (LN q n a M N) := by
  obtain ⟨q2, eq⟩ := h.1
  have pl := h.2.2.1
  have hn := pl.hn
  have en := pl.en
  rw [kp_60 N (by omega)] at hn en
  obtain ⟨es, s6⟩ := nI_of' hn (by omega)
  generalize (N.1 (60, 0) (12 + 7)).toNatClampNeg = s at es s6
  have hs : N.1 (60, 0) 19 = nI s := es
  have e5 : M.1 (5, q) 0 = nI s := en.trans es
  refine PI.w (PW.c (fun κ d hd post k => eg_S.of rfl (Nat.le_of_ble_eq_true rfl) (vX6_readStation_0 (by omega) M k)) (PW.m (fun κ d hd post k => eg_S.of rfl (Nat.le_of_ble_eq_true rfl) (vX11_stationLine_0 (by omega) N k)) ?_))
  refine PW.cp q2 eq ?_
  rw [e5, nI_t (show s < 2147483648 by omega), hs]
  by_cases c5 : s = 5
  · refine PW.cF (fun z => ?_) (PW.mNF (by rw [c5]; rfl) (PW.ref (Or.inr ⟨rfl, FL_mk q h.2.1 2 (by decide)⟩)))
    have := (nI_lt' (b := 5) (by omega) (by omega)).mp z
    omega
  · have s5 : s < 5 := by omega
    refine PW.cT ((nI_lt' (b := 5) (by omega) (by omega)).mpr s5) (PW.cg (nI_in' s5 (by omega)) (PW.ch fun M4 e4 => ?_))
    refine PW.mNT (fun z => c5 ((nI_eq' (b := 5) (by omega) (by omega)).mp z)) ?_
    have sq0 : SQ q s M N M4 N := by rw [e4]; exact clr_sq q s M N
    have o4 : ∀ r, r ≠ (1, 5 * q + s) → M4.1 r = M.1 r := sq0.hP
    have t4 : tA M4 N n a := h.2.1.cong (o4 _ (kd_ne (by omega))) (o4 _ (kd_ne (by omega))) (fun _ _ _ => rfl) rfl rfl
    refine PW.adv t4 (by omega) (by omega) (fun M6 N2 a6 p1 _ p3 _ p5 p6 t6 => ?_)
    have ha6 : a < a6 := p6 (by rw [o4 _ (kd_ne (by omega))]; exact hk)
    have m5 : M6.1 (5, q) = M.1 (5, q) := (p1.1 _ (kd_ne (by omega)) (kd_ne (by omega))).trans (o4 _ (kd_ne (by omega)))
    have n88 : N2.1 (88, 0) = N.1 (88, 0) := p3.1 _ (by decide)
    have n19 : N2.1 (60, 0) 19 = nI s := (p3.2.1 19 (by omega)).trans hs
    have i88 : (5 : Int32) + nI s = nI (5 + s) := (nAr s).2.2.2.2.2.1
    have h1 : ∀ j, M6.1 (1, 5 * q + j) 0 = M.1 (1, 5 * q + j) 0 := fun j => by
      rw [p1.1 _ (kd_ne (by omega)) (kd_ne (by omega))]
      by_cases c : ((1, 5 * q + j) : eg_R) = (1, 5 * q + s)
      · rw [c, e4, clr_1, if_neg (by omega)]
      · rw [o4 _ c]
    have hF := stf pl m5 h1 n88 (p3.2.1 19 (by omega)) (M6.1 (9, 0) 6)
    have g2 : vp_in (M.1 (5, q) 2) 10 := by rw [pl.eg]; exact pl.hg
    have g3 : vp_in (M.1 (5, q) 7) 5 := by rw [pl.em]; exact pl.hm
    refine PW.cn (NAME (o := 5) (c := N2.1 (60, 0) 19) (r := (88, 0)) (nl := 10) t6 q2 ?_ (Or.inl ⟨rfl, rfl⟩) (by rw [m5, e5]; exact nI_in' s6 (by omega)) (by rw [m5]; exact g2) (by rw [m5]; exact g3) hF ?_ ⟨by decide +kernel, rfl⟩ ?_ ⟨by decide, by decide, by decide⟩) (by omega) (by omega) ?_
    · rw [p1.2.2, sq0.hP2]; exact eq
    · rw [n19]
      refine ⟨show vp_in (nI 5) 100 from nI_in' (by omega) (by omega), nI_in' (by omega) (by omega), ?_⟩
      rw [nI_t (by omega)]
      show 5 + s ≤ 10
      omega
    · rw [n19, i88]; exact nI_in' (by omega) (by omega)
    · rintro x M9 N5 (⟨hx, a9, v0, p9, t9, fc9, fm9, ev0⟩ | ⟨hx, z⟩)
      · have x0 : ¬ x = 0 := by rw [hx]; decide
        rw [n19, i88, nI_t (by omega)] at fm9
        have fcA : fC M4 M9 := p1.tr fc9
        have fmA : fM (sI N (88, 0) (5 + s) v0) N5 := (p3.s (Or.inl (by decide))).tr fm9
        have sqA := sq0.m8 v0
        have n5 : N5.1 (60, 0) 19 = nI s := (fmA.2.1 19 (by omega)).trans (by rw [sI_ne (by decide)]; exact hs)
        refine PW.cNT x0 (PW.mNT x0 (PW.ch fun M12 e12 => PW.mh fun x8 hx8 => ?_))
        have ex8 : x8 = nI (30 + 6 * s) := by rw [hx8, n5, (nMl s).2.1]; show nI 30 + nI (6 * s) = _; rw [nI_add]
        rw [ev0] at e12
        have fcB : fC (sI M4 (1, 5 * q + s) 0 v0) M12 := by rw [e12]; exact fcA.s (kd_ne (by omega)) (kd_ne (by omega))
        have sqB := sqA.c 0 v0
        have tB : tA M12 N5 n a9 := by rw [e12]; exact t9.cong (sI_ne (kd_ne (by omega))) (sI_ne (kd_ne (by omega))) (fun _ _ _ => rfl) rfl rfl
        have j1 : nI (30 + 6 * s) + 1 = nI (31 + 6 * s) := by rw [(nAl _).2.1]; congr 1; omega
        have j2 : nI (30 + 6 * s) + 2 = nI (32 + 6 * s) := by rw [(nAl _).2.2.1]; congr 1; omega
        have j3 : nI (30 + 6 * s) + 3 = nI (33 + 6 * s) := by rw [(nAl _).2.2.2.1]; congr 1; omega
        have j4 : nI (30 + 6 * s) + 4 = nI (34 + 6 * s) := by rw [(nAl _).2.2.2.2.1]; congr 1; omega
        have j5 : nI (30 + 6 * s) + 5 = nI (35 + 6 * s) := by rw [(nAl _).2.2.2.2.2.1]; congr 1; omega
        rw [ex8, j1, j2, j3, j4, j5, nI_t (show 30 + 6 * s < 2147483648 by omega), nI_t (show 31 + 6 * s < 2147483648 by omega), nI_t (show 32 + 6 * s < 2147483648 by omega), nI_t (show 33 + 6 * s < 2147483648 by omega), nI_t (show 34 + 6 * s < 2147483648 by omega), nI_t (show 35 + 6 * s < 2147483648 by omega)]
        refine PW.num tB (by omega) (by omega) (fun A B z => sqB.fl s5 fcB fmA z) (fun M14 N10 a14 v1 r1 r2 r3 r4 r5 r6 r7 r8 => ?_)
        rw [r5, r6]
        refine PW.ch fun M17 e17 => PW.mg (nI_in' (by omega) (by omega)) (PW.mh fun N14 e14 => ?_)
        have fcC : fC (sI (sI M4 (1, 5 * q + s) 0 v0) (1, 5 * q + s) 1 v1) M17 := by rw [e17]; exact (fcB.tr r1).s (kd_ne (by omega)) (kd_ne (by omega))
        have fmC : fM (sI (sI N (88, 0) (5 + s) v0) (89, 0) (30 + 6 * s) v1) N14 := by rw [e14]; exact (fmA.tr r2).s (Or.inl (by decide))
        have sqC := (sqB.c 1 v1).m9 (k := 30 + 6 * s) (by omega) v1
        have tC : tA M17 N14 n a14 := by rw [e17, e14]; exact r4.cong (sI_ne (kd_ne (by omega))) (sI_ne (kd_ne (by omega))) (fun k _ _ => by rw [sI_ne (by decide)]) (sI_ne (by decide)) (sI_ne (by decide))
        refine PW.num tC (by omega) (by omega) (fun A B z => sqC.fl s5 fcC fmC z) (fun M19 N16 a19 v2 y1 y2 y3 y4 y5 y6 y7 y8 => ?_)
        rw [y5, y6]
        refine PW.ch fun M22 e22 => PW.mg (nI_in' (by omega) (by omega)) (PW.mh fun N20 e20 => PW.mg (nI_in' (by omega) (by omega)) (PW.mh fun N22 e22' => PW.mg (nI_in' (by omega) (by omega)) (PW.mh fun N24 e24 => PW.mg (nI_in' (by omega) (by omega)) (PW.mh fun N26 e26 => PW.mg (nI_in' (by omega) (by omega)) (PW.mh fun N28 e28 => PW.mh fun x30 hx30 => ?_)))))
        have fcD := (fcC.tr y1).s (r := (1, 5 * q + s)) (k := 2) (x := v2) (kd_ne (by omega)) (kd_ne (by omega))
        have fmD := (((((fmC.tr y2).s (r := (89, 0)) (k := 31 + 6 * s) (x := v2) (Or.inl (by decide))).s (r := (89, 0)) (k := 32 + 6 * s) (x := -1) (Or.inl (by decide))).s (r := (89, 0)) (k := 33 + 6 * s) (x := 0) (Or.inl (by decide))).s (r := (89, 0)) (k := 34 + 6 * s) (x := 0) (Or.inl (by decide))).s (r := (89, 0)) (k := 35 + 6 * s) (x := -1) (Or.inl (by decide))
        have sqD := (((((sqC.c 2 v2).m9 (k := 31 + 6 * s) (by omega) v2).m9 (k := 32 + 6 * s) (by omega) (-1)).m9 (k := 33 + 6 * s) (by omega) 0).m9 (k := 34 + 6 * s) (by omega) 0).m9 (k := 35 + 6 * s) (by omega) (-1)
        have tD : tA M22 N28 n a19 := by
          rw [e22, e28, e26, e24, e22', e20]
          exact y4.cong (sI_ne (kd_ne (by omega))) (sI_ne (kd_ne (by omega))) (fun k _ _ => by rw [sI_ne (by decide), sI_ne (by decide), sI_ne (by decide), sI_ne (by decide), sI_ne (by decide)]) (by rw [sI_ne (by decide), sI_ne (by decide), sI_ne (by decide), sI_ne (by decide), sI_ne (by decide)]) (by rw [sI_ne (by decide), sI_ne (by decide), sI_ne (by decide), sI_ne (by decide), sI_ne (by decide)])
        rw [← e22] at fcD
        rw [← e20, ← e22', ← e24, ← e26, ← e28] at fmD
        generalize hP : sI (sI (sI M4 (1, 5 * q + s) 0 v0) (1, 5 * q + s) 1 v1) (1, 5 * q + s) 2 v2 = P at fcD sqD
        generalize hQ : sI (sI (sI (sI (sI (sI (sI N (88, 0) (5 + s) v0) (89, 0) (30 + 6 * s) v1) (89, 0) (31 + 6 * s) v2) (89, 0) (32 + 6 * s) (-1)) (89, 0) (33 + 6 * s) 0) (89, 0) (34 + 6 * s) 0) (89, 0) (35 + 6 * s) (-1) = Q at fmD sqD
        have b1 : 1 ≤ v1.toInt ∧ v1.toInt ≤ 240 := ⟨r7, r8⟩
        have b2 : 1 ≤ v2.toInt ∧ v2.toInt ≤ 4 := ⟨y7, y8⟩
        have ha19 : a < a19 := by omega
        have cP : P.1 (1, 5 * q + s) 0 = v0 ∧ P.1 (1, 5 * q + s) 1 = v1 ∧ P.1 (1, 5 * q + s) 2 = v2 ∧ ∀ k, 3 ≤ k → k ≤ 6 → P.1 (1, 5 * q + s) k = 0 := by
          rw [← hP]
          refine ⟨?_, ?_, ?_, fun k a b => ?_⟩
          · rw [sI_rr, if_neg (by omega), sI_rr, if_neg (by omega), sI_rr, if_pos rfl]
          · rw [sI_rr, if_neg (by omega), sI_rr, if_pos rfl]
          · rw [sI_rr, if_pos rfl]
          · rw [sI_rr, if_neg (by omega), sI_rr, if_neg (by omega), sI_rr, if_neg (by omega), e4, clr_1, if_pos ⟨a, b⟩]
        have cQ : Q.1 (88, 0) (5 + s) = v0 ∧ Q.1 (89, 0) (30 + 6 * s) = v1 ∧ Q.1 (89, 0) (31 + 6 * s) = v2 ∧ Q.1 (89, 0) (32 + 6 * s) = -1 ∧ Q.1 (89, 0) (33 + 6 * s) = 0 ∧ Q.1 (89, 0) (34 + 6 * s) = 0 ∧ Q.1 (89, 0) (35 + 6 * s) = -1 := by
          have n8 : ((88, 0) : eg_R) ≠ (89, 0) := by decide
          rw [← hQ]
          refine ⟨?_, ?_, ?_, ?_, ?_, ?_, ?_⟩
          · rw [sI_ne n8, sI_ne n8, sI_ne n8, sI_ne n8, sI_ne n8, sI_ne n8, sI_rr, if_pos rfl]
          · rw [sI_rr, if_neg (by omega), sI_rr, if_neg (by omega), sI_rr, if_neg (by omega), sI_rr, if_neg (by omega), sI_rr, if_neg (by omega), sI_rr, if_pos rfl]
          · rw [sI_rr, if_neg (by omega), sI_rr, if_neg (by omega), sI_rr, if_neg (by omega), sI_rr, if_neg (by omega), sI_rr, if_pos rfl]
          · rw [sI_rr, if_neg (by omega), sI_rr, if_neg (by omega), sI_rr, if_neg (by omega), sI_rr, if_pos rfl]
          · rw [sI_rr, if_neg (by omega), sI_rr, if_neg (by omega), sI_rr, if_pos rfl]
          · rw [sI_rr, if_neg (by omega), sI_rr, if_pos rfl]
          · rw [sI_rr, if_pos rfl]
        obtain ⟨u0, u1, u2, u3⟩ := cP
        obtain ⟨w0, w1, w2, w3, w4, w5, w6⟩ := cQ
        rw [isKey_n] at hx30
        rcases KEY tD (w := 1) (by omega) with ⟨k1, k2, k3⟩ | ⟨k1, k2⟩
        · have hx31 : x30 = 1 := hx30.trans (if_pos ⟨k2, k3⟩)
          refine PW.cNF k1 (PW.mr (by rw [hx31]; decide) (by rw [hx31]; decide) ?_)
          refine PW.adv tD (by omega) (by omega) (fun M24 N32 a24 q1 _ q3 _ q5 q6 t24 => ?_)
          refine PW.num t24 (by omega) (by omega) (fun A B z => sqD.fl s5 (fcD.tr q1) (fmD.tr q3) z) (fun M27 N35 a27 v3 z1 z2 z3 z4 z5 z6 z7 z8 => ?_)
          rw [z5, z6]
          refine PW.ch fun M30 e30 => PW.mh fun N38 e38 => ?_
          have fcE := ((fcD.tr q1).tr z1).s (r := (1, 5 * q + s)) (k := 3) (x := v3) (kd_ne (by omega)) (kd_ne (by omega))
          have fmE := ((fmD.tr q3).tr z2).s (r := (89, 0)) (k := 32 + 6 * s) (x := v3) (Or.inl (by decide))
          have sqE := (sqD.c 3 v3).m9 (k := 32 + 6 * s) (by omega) v3
          have tE : tA M30 N38 n a27 := by rw [e30, e38]; exact z4.cong (sI_ne (kd_ne (by omega))) (sI_ne (kd_ne (by omega))) (fun k _ _ => by rw [sI_ne (by decide)]) (sI_ne (by decide)) (sI_ne (by decide))
          rw [← e30] at fcE
          rw [← e38] at fmE
          refine PW.num tE (by omega) (by omega) (fun A B z => sqE.fl s5 fcE fmE z) (fun M32 N40 a32 v4 o1 o2 o3 o4' o5 o6 o7 o8 => ?_)
          rw [o5, o6]
          refine PW.ch fun M35 e35 => PW.mh fun N43 e43 => ?_
          have fcF := (fcE.tr o1).s (r := (1, 5 * q + s)) (k := 4) (x := v4) (kd_ne (by omega)) (kd_ne (by omega))
          have fmF := (fmE.tr o2).s (r := (89, 0)) (k := 33 + 6 * s) (x := v4) (Or.inl (by decide))
          have sqF := (sqE.c 4 v4).m9 (k := 33 + 6 * s) (by omega) v4
          have tF : tA M35 N43 n a32 := by rw [e35, e43]; exact o4'.cong (sI_ne (kd_ne (by omega))) (sI_ne (kd_ne (by omega))) (fun k _ _ => by rw [sI_ne (by decide)]) (sI_ne (by decide)) (sI_ne (by decide))
          rw [← e35] at fcF
          rw [← e43] at fmF
          refine PW.num tF (by omega) (by omega) (fun A B z => sqF.fl s5 fcF fmF z) (fun M37 N45 a37 v5 m1 m2 m3 m4 m5' m6 m7 m8 => ?_)
          rw [m5', m6]
          refine PW.ch fun M40 e40 => PW.mh fun N48 e48 => ?_
          have fcG := (fcF.tr m1).s (r := (1, 5 * q + s)) (k := 5) (x := v5) (kd_ne (by omega)) (kd_ne (by omega))
          have fmG := (fmF.tr m2).s (r := (89, 0)) (k := 34 + 6 * s) (x := v5) (Or.inl (by decide))
          have sqG := (sqF.c 5 v5).m9 (k := 34 + 6 * s) (by omega) v5
          have tG : tA M40 N48 n a37 := by rw [e40, e48]; exact m4.cong (sI_ne (kd_ne (by omega))) (sI_ne (kd_ne (by omega))) (fun k _ _ => by rw [sI_ne (by decide)]) (sI_ne (by decide)) (sI_ne (by decide))
          rw [← e40] at fcG
          rw [← e48] at fmG
          have l0 : (0 : Int32).toInt = 0 := by decide
          have i1 : (1 : Int32).toInt = 1 := by decide
          have i60 : (60 : Int32).toInt = 60 := by decide
          have i900 : (900 : Int32).toInt = 900 := by decide
          have i59 : (59 : Int32).toInt = 59 := by decide
          have b3 : ¬ v3 < 0 := by rw [t_lt]; omega
          have n8 : ((88, 0) : eg_R) ≠ (89, 0) := by decide
          refine ST2 h hs s5 (by omega) tG fcG fmG sqG (plS_mk (v0 := v0) (v1 := v1) (v2 := v2) (w3 := v3) (v4 := v4) (v5 := v5) (w6 := -1) ?_ ?_ ?_ ?_ ?_ ?_ ?_ ?_ ?_ ?_ ?_ ?_ ?_ ?_ b1 b2 (Or.inr ⟨by omega, by omega⟩) ⟨by omega, by omega⟩ ⟨by omega, by omega⟩)
          · rw [sI_rr, if_neg (by omega), sI_rr, if_neg (by omega), sI_rr, if_neg (by omega)]; exact u0
          · rw [sI_rr, if_neg (by omega), sI_rr, if_neg (by omega), sI_rr, if_neg (by omega)]; exact u1
          · rw [sI_rr, if_neg (by omega), sI_rr, if_neg (by omega), sI_rr, if_neg (by omega)]; exact u2
          · rw [sI_rr, if_neg (by omega), sI_rr, if_neg (by omega), sI_rr, if_pos rfl, if_neg b3]
          · rw [sI_rr, if_neg (by omega), sI_rr, if_pos rfl]
          · rw [sI_rr, if_pos rfl]
          · rw [sI_rr, if_neg (by omega), sI_rr, if_neg (by omega), sI_rr, if_neg (by omega), u3 6 (by omega) (by omega), if_pos (by decide)]
          · rw [sI_ne n8, sI_ne n8, sI_ne n8]; exact w0
          · rw [sI_rr, if_neg (by omega), sI_rr, if_neg (by omega), sI_rr, if_neg (by omega)]; exact w1
          · rw [sI_rr, if_neg (by omega), sI_rr, if_neg (by omega), sI_rr, if_neg (by omega)]; exact w2
          · rw [sI_rr, if_neg (by omega), sI_rr, if_neg (by omega), sI_rr, if_pos rfl]
          · rw [sI_rr, if_neg (by omega), sI_rr, if_pos rfl]
          · rw [sI_rr, if_pos rfl]
          · rw [sI_rr, if_neg (by omega), sI_rr, if_neg (by omega), sI_rr, if_neg (by omega)]; exact w6
        · have hx31 : x30 = 0 := hx30.trans (if_neg k2)
          refine PW.cNT k1 (PW.ml hx31 (by rw [hx31]; decide) ?_)
          refine ST2 h hs s5 ha19 tD fcD fmD sqD (plS_mk (w3 := -1) (v4 := 0) (v5 := 0) (w6 := -1) u0 u1 u2 ?_ (u3 4 (by omega) (by omega)) (u3 5 (by omega) (by omega)) ?_ w0 w1 w2 w3 w4 w5 w6 b1 b2 (Or.inl rfl) (by decide) (by decide))
          · rw [u3 3 (by omega) (by omega), if_pos (by decide)]
          · rw [u3 6 (by omega) (by omega), if_pos (by decide)]
      · exact PW.cNF hx (PW.mNF hx (PW.e (sq0.fl s5 p1 p3 z)))
