/-! A GUEST, FROM ITS FIRST WORD ON -/
def zN (N : eg_H) (g : Nat) : eg_H := itr (fun i M => sI M (93, 0) (75 + 5 * g + i) 0) 5 N
theorem zN_e (N : eg_H) (g : Nat) : zN N g = sI (sI (sI (sI (sI N (93, 0) (75 + 5 * g + 0) 0) (93, 0) (75 + 5 * g + 1) 0) (93, 0) (75 + 5 * g + 2) 0) (93, 0) (75 + 5 * g + 3) 0) (93, 0) (75 + 5 * g + 4) 0 := rfl
theorem cl0_e (M : eg_H) (c : Nat) : fX0_clear M c = sI (sI (sI (sI (sI M (20, c) 0 0) (20, c) 1 0) (20, c) 2 0) (20, c) 3 0) (20, c) 4 0 := rfl
theorem zN_o (N : eg_H) (g : Nat) {r : eg_R} (h : r ≠ (93, 0)) : (zN N g).1 r = N.1 r := by
  rw [zN_e, sI_ne h, sI_ne h, sI_ne h, sI_ne h, sI_ne h]
theorem z5_c (M : eg_H) (r : eg_R) (b : Nat) {k : Nat} (h : k < 5) : (sI (sI (sI (sI (sI M r (b + 0) 0) r (b + 1) 0) r (b + 2) 0) r (b + 3) 0) r (b + 4) 0).1 r (b + k) = 0 := by
  rw [sI_rr, sI_rr, sI_rr, sI_rr, sI_rr]
  have hk : k = 0 ∨ k = 1 ∨ k = 2 ∨ k = 3 ∨ k = 4 := by omega
  rcases hk with z | z | z | z | z
  · rw [z, if_neg (by omega), if_neg (by omega), if_neg (by omega), if_neg (by omega), if_pos rfl]
  · rw [z, if_neg (by omega), if_neg (by omega), if_neg (by omega), if_pos rfl]
  · rw [z, if_neg (by omega), if_neg (by omega), if_pos rfl]
  · rw [z, if_neg (by omega), if_pos rfl]
  · rw [z, if_pos rfl]
theorem zN_c (N : eg_H) (g : Nat) {k : Nat} (h : k < 5) : (zN N g).1 (93, 0) (75 + 5 * g + k) = 0 := by
  rw [zN_e]
  exact z5_c N (93, 0) (75 + 5 * g) h
theorem cl0_c (M : eg_H) (c : Nat) {k : Nat} (h : k < 5) : (fX0_clear M c).1 (20, c) k = 0 := by
  have := z5_c M (20, c) 0 h
  rw [Nat.zero_add k] at this
  rw [cl0_e]
  exact this
theorem cl0_o (M : eg_H) (c : Nat) {r : eg_R} (h : r ≠ (20, c)) : (fX0_clear M c).1 r = M.1 r := by
  rw [cl0_e, sI_ne h, sI_ne h, sI_ne h, sI_ne h, sI_ne h]
theorem cl0_gq (q g : Nat) (M N : eg_H) : GQ q g M N (fX0_clear M (15 * q + g)) N := (((((GQ.rf q g M N).c2 0 0).c2 1 0).c2 2 0).c2 3 0).c2 4 0
theorem zN_f {Q N : eg_H} (g : Nat) (h : fM Q N) : fM (zN Q g) (zN N g) := ((((h.s (Or.inl (by decide))).s (Or.inl (by decide))).s (Or.inl (by decide))).s (Or.inl (by decide))).s (Or.inl (by decide))
theorem zN_gq {q g : Nat} {M N P Q : eg_H} (h : GQ q g M N P Q) : GQ q g M N P (zN Q g) := ((((h.m3 (j := 75 + 5 * g + 0) (by omega) 0).m3 (j := 75 + 5 * g + 1) (by omega) 0).m3 (j := 75 + 5 * g + 2) (by omega) 0).m3 (j := 75 + 5 * g + 3) (by omega) 0).m3 (j := 75 + 5 * g + 4) (by omega) 0
theorem g93 {κ : eg_K} {d : Nat} {post : Int32 → eg_H → Prop} {N : eg_H} {g : Nat} (g9 : g < 9) (k : eg_W κ gM mtX11_guestLine d (eQI κ gM post) 115 [(0, vR (60, 0)), (1, vI (nI (15 + g)))] [] (zN N g)) : eg_W κ gM mtX11_guestLine d (eQI κ gM post) 93 [(0, vR (60, 0)), (1, vI (nI (15 + g))), (2, vI (0 : Int32))] [] N := by
  refine eg_down (P := fun i => eg_W κ gM mtX11_guestLine d (eQI κ gM post) 93 [(0, vR (60, 0)), (1, vI (nI (15 + g))), (2, vI (nI i))] [] (itr (fun i M => sI M (93, 0) (75 + 5 * g + i) 0) i N)) 5 (fun i hi w => ?_) ?_
  · refine vX11_guestLine_93 _ _ _ ⟨fun y => ?_, fun _ => ?_⟩
    · have := (nI_le' (a := 5) (by omega) (by omega)).mp y
      omega
    · have ix : (5 : Int32) * nI (15 + g) + nI i = nI (75 + 5 * g + i) := by rw [(nMl _).1, nI_add]; congr 1; omega
      rw [ix, nI_t (show 75 + 5 * g + i < 2147483648 by omega)]
      refine ⟨nI_in' (by omega) (by omega), fun M3 e3 x4 e4 => ?_⟩
      rw [e4, e3, (nAl i).2.1]
      exact w
  · exact vX11_guestLine_93 _ _ _ ⟨fun _ => k, fun y => absurd (show (5 : Int32) ≤ nI 5 from by decide) y⟩
theorem gtf {q : Nat} {M N M1 N1 : eg_H} (pl : PL M q (kp N)) (h5 : M1.1 (5, q) = M.1 (5, q)) (h1 : ∀ j, M1.1 (0, 15 * q + j) 0 = M.1 (0, 15 * q + j) 0) (h90 : N1.1 (90, 0) = N.1 (90, 0)) (h20 : N1.1 (60, 0) 20 = N.1 (60, 0) 20) (v : Int32) : fX5_guestOf M1 q v = fX11_find N1 (90, 0) 9 (N1.1 (60, 0) 20) v := by
  have e1 : fX5_guestOf M1 q v = fX5_guestOf M q v := by
    unfold fX5_guestOf
    rw [h5]
    exact fst1_cong _ _ (fun j _ _ => by rw [h1 j])
  have e2 : fX11_find N1 (90, 0) 9 (N1.1 (60, 0) 20) v = fX11_find N (90, 0) 9 (N.1 (60, 0) 20) v := by
    unfold fX11_find
    rw [h90, h20]
  rw [e1, e2, (named_e pl v).2.1, kp_60 N (by omega)]
  exact find_k (by decide) rfl
theorem GT1 {q n a : Nat} {M N : eg_H} (h : RD q n a M N) (hk : ¬ M.1 (9, 0) 4 = 39) : PI mtX6_readGuest mtX11_guestLine [vR (6, 0)] [vR (60, 0)] 9 4 M N (LN q n a M N) := by
  obtain ⟨q2, eq⟩ := h.1
  have pl := h.2.2.1
  have hn := pl.hg
  have en := pl.eg
  rw [kp_60 N (by omega)] at hn en
  obtain ⟨es, s6⟩ := nI_of' hn (by omega)
  generalize (N.1 (60, 0) (13 + 7)).toNatClampNeg = g at es s6
  have hs : N.1 (60, 0) 20 = nI g := es
  have e5 : M.1 (5, q) 2 = nI g := en.trans es
  refine PI.w (PW.c (fun κ d hd post k => eg_S.of rfl (Nat.le_of_ble_eq_true rfl) (vX6_readGuest_0 (by omega) M k)) (PW.m (fun κ d hd post k => eg_S.of rfl (Nat.le_of_ble_eq_true rfl) (vX11_guestLine_0 (by omega) N k)) ?_))
  refine PW.cp q2 eq ?_
  rw [e5, nI_t (show g < 2147483648 by omega), hs]
  by_cases c5 : g = 9
  · refine PW.cF (fun z => ?_) (PW.mNF (by rw [c5]; rfl) (PW.ref (Or.inr ⟨rfl, FL_mk q h.2.1 2 (by decide)⟩)))
    have := (nI_lt' (b := 9) (by omega) (by omega)).mp z
    omega
  · have g9 : g < 9 := by omega
    refine PW.cT ((nI_lt' (b := 9) (by omega) (by omega)).mpr g9) (PW.cg (nI_in' (by omega) (by omega)) (PW.ch fun M4 e4 => ?_))
    refine PW.mNT (fun z => c5 ((nI_eq' (b := 9) (by omega) (by omega)).mp z)) ?_
    have sq0 : GQ q g M N M4 N := by rw [e4]; exact cl0_gq q g M N
    have o4 : ∀ r, r ≠ (20, 15 * q + g) → M4.1 r = M.1 r := fun r hr => by rw [e4]; exact cl0_o M _ hr
    have t4 : tA M4 N n a := h.2.1.cong (o4 _ (kd_ne (by omega))) (o4 _ (kd_ne (by omega))) (fun _ _ _ => rfl) rfl rfl
    refine PW.adv t4 (by omega) (by omega) (fun M6 N2 a6 p1 _ p3 _ p5 p6 t6 => ?_)
    have ha6 : a < a6 := p6 (by rw [o4 _ (kd_ne (by omega))]; exact hk)
    have m5 : M6.1 (5, q) = M.1 (5, q) := (p1.1 _ (kd_ne (by omega)) (kd_ne (by omega))).trans (o4 _ (kd_ne (by omega)))
    have n90 : N2.1 (90, 0) = N.1 (90, 0) := p3.1 _ (by decide)
    have n20 : N2.1 (60, 0) 20 = nI g := (p3.2.1 20 (by omega)).trans hs
    have i90 : (9 : Int32) + nI g = nI (9 + g) := (nAr g).2.2.2.2.2.2.2.2.2.1
    have hF := gtf pl m5 (fun j => by rw [p1.1 _ (kd_ne (by omega)) (kd_ne (by omega)), o4 _ (kd_ne (by omega))]) n90 (p3.2.1 20 (by omega)) (M6.1 (9, 0) 6)
    have g1 : vp_in (M.1 (5, q) 0) 6 := by rw [pl.en]; exact pl.hn
    have g3 : vp_in (M.1 (5, q) 7) 5 := by rw [pl.em]; exact pl.hm
    refine PW.cn (NAME (o := 9) (c := N2.1 (60, 0) 20) (r := (90, 0)) (nl := 18) t6 q2 ?_ (Or.inr (Or.inl ⟨rfl, rfl⟩)) (by rw [m5]; exact g1) (by rw [m5, e5]; exact nI_in' s6 (by omega)) (by rw [m5]; exact g3) hF ?_ ⟨by decide +kernel, rfl⟩ ?_ ⟨by decide, by decide, by decide⟩) (by omega) (by omega) ?_
    · rw [p1.2.2, sq0.2.1]; exact eq
    · rw [n20]
      refine ⟨show vp_in (nI 9) 100 from nI_in' (by omega) (by omega), nI_in' (by omega) (by omega), ?_⟩
      rw [nI_t (by omega)]
      show 9 + g ≤ 18
      omega
    · rw [n20, i90]; exact nI_in' (by omega) (by omega)
    · rintro x M9 N5 (⟨hx, a9, v0, p9, t9, fc9, fm9, ev0⟩ | ⟨hx, z⟩)
      · have x0 : ¬ x = 0 := by rw [hx]; decide
        rw [n20, i90, nI_t (by omega)] at fm9
        have fcA : fC M4 M9 := p1.tr fc9
        have fmA : fM (sI N (90, 0) (9 + g) v0) N5 := (p3.s (Or.inl (by decide))).tr fm9
        have sqA := sq0.m0 v0
        have n5 : N5.1 (60, 0) 20 = nI g := (fmA.2.1 20 (by omega)).trans (by rw [sI_ne (by decide)]; exact hs)
        refine PW.cNT x0 (PW.mNT x0 (PW.ch fun M12 e12 => PW.mh fun x8 hx8 => ?_))
        have ex8 : x8 = nI (15 + g) := by rw [hx8, n5]; show nI 15 + nI g = _; rw [nI_add]
        rw [ev0] at e12
        have fcB : fC (sI M4 (0, 15 * q + g) 0 v0) M12 := by rw [e12]; exact fcA.s (kd_ne (by omega)) (kd_ne (by omega))
        have sqB := sqA.c0 0 v0
        have tB : tA M12 N5 n a9 := by rw [e12]; exact t9.cong (sI_ne (kd_ne (by omega))) (sI_ne (kd_ne (by omega))) (fun _ _ _ => rfl) rfl rfl
        rw [ex8, nI_t (show 15 + g < 2147483648 by omega)]
        refine PW.num tB (by omega) (by omega) (fun A B z => sqB.fl g9 fcB fmA z) (fun M14 N10 a14 v1 r1 r2 r3 r4 r5 r6 r7 r8 => ?_)
        rw [r5, r6]
        refine PW.ch fun M17 e17 => PW.mg (nI_in' (by omega) (by omega)) (PW.mh fun N14 e14 => ?_)
        have fcC : fC (sI (sI M4 (0, 15 * q + g) 0 v0) (0, 15 * q + g) 1 v1) M17 := by rw [e17]; exact (fcB.tr r1).s (kd_ne (by omega)) (kd_ne (by omega))
        have fmC : fM (sI (sI N (90, 0) (9 + g) v0) (91, 0) (15 + g) v1) N14 := by rw [e14]; exact (fmA.tr r2).s (Or.inl (by decide))
        have sqC := (sqB.c0 1 v1).m1 v1
        have tC : tA M17 N14 n a14 := by rw [e17, e14]; exact r4.cong (sI_ne (kd_ne (by omega))) (sI_ne (kd_ne (by omega))) (fun k _ _ => by rw [sI_ne (by decide)]) (sI_ne (by decide)) (sI_ne (by decide))
        refine PW.num tC (by omega) (by omega) (fun A B z => sqC.fl g9 fcC fmC z) (fun M19 N16 a19 v2 y1 y2 y3 y4 y5 y6 y7 y8 => ?_)
        rw [y5, y6]
        refine PW.ch fun M22 e22 => PW.mh fun N19 e19 => PW.m (fun κ d hd post k => g93 g9 k) ?_
        have fcD := (fcC.tr y1).s (r := (0, 15 * q + g)) (k := 2) (x := v2) (kd_ne (by omega)) (kd_ne (by omega))
        have fmD := zN_f g ((fmC.tr y2).s (r := (92, 0)) (k := 15 + g) (x := v2) (Or.inl (by decide)))
        have sqD := zN_gq ((sqC.c0 2 v2).m2 v2)
        have tD : tA M22 (zN N19 g) n a19 := by
          rw [e22, e19]
          exact y4.cong (sI_ne (kd_ne (by omega))) (sI_ne (kd_ne (by omega))) (fun k _ _ => by rw [zN_o _ _ (by decide), sI_ne (by decide)]) (by rw [zN_o _ _ (by decide), sI_ne (by decide)]) (by rw [zN_o _ _ (by decide), sI_ne (by decide)])
        rw [← e22] at fcD
        rw [← e19] at fmD
        have d20 : ∀ k, k < 5 → (sI (sI (sI M4 (0, 15 * q + g) 0 v0) (0, 15 * q + g) 1 v1) (0, 15 * q + g) 2 v2).1 (20, 15 * q + g) k = 0 := fun k hk => by
          rw [sI_ne (kd_ne (by omega)), sI_ne (kd_ne (by omega)), sI_ne (kd_ne (by omega)), e4]
          exact cl0_c M _ hk
        have e0 : cn5 ((sI (sI (sI M4 (0, 15 * q + g) 0 v0) (0, 15 * q + g) 1 v1) (0, 15 * q + g) 2 v2).1 (20, 15 * q + g)) = 0 := by
          unfold cn5
          rw [d20 0 (by omega), d20 1 (by omega), d20 2 (by omega), d20 3 (by omega), d20 4 (by omega)]
          decide
        have l0 : (0 : Int32).toInt = 0 := by decide
        have i1 : (1 : Int32).toInt = 1 := by decide
        have i20 : (20 : Int32).toInt = 20 := by decide
        have i35 : (3599 : Int32).toInt = 3599 := by decide
        have nn : ((90, 0) : eg_R) ≠ (93, 0) ∧ ((90, 0) : eg_R) ≠ (92, 0) ∧ ((90, 0) : eg_R) ≠ (91, 0) ∧ ((91, 0) : eg_R) ≠ (93, 0) ∧ ((91, 0) : eg_R) ≠ (92, 0) ∧ ((92, 0) : eg_R) ≠ (93, 0) := by decide
        have fin := GT2 h hs g9 5 a19 M22 (zN N19 g) _ _ (by rw [e0]) (by omega) tD fcD fmD sqD ?_
        · rw [e0] at fin
          exact fin
        · unfold plG
          rw [kp_90, kp_91, kp_92, zN_o _ _ nn.1, zN_o _ _ nn.2.2.2.1, zN_o _ _ nn.2.2.2.2.2, sI_ne nn.2.1, sI_ne nn.2.2.1, sI_ne nn.2.2.2.2.1]
          refine ⟨?_, ⟨?_, ?_⟩, ⟨?_, ?_⟩, fun k hk => ?_⟩
          · rw [sI_rr, if_neg (by omega), sI_rr, if_neg (by omega), sI_rr, if_pos rfl, sI_rr, if_pos (by omega)]
          · rw [sI_rr, if_pos (by omega)]
            exact ⟨by omega, by omega⟩
          · rw [sI_rr, if_neg (by omega), sI_rr, if_pos rfl, sI_rr, if_pos (by omega)]
          · rw [sI_rr, if_pos (by omega)]
            exact ⟨by omega, by omega⟩
          · rw [sI_rr, if_pos rfl, sI_rr, if_pos (by omega)]
          · rw [d20 k hk, kp_93, show 5 * g + k + 75 = 75 + 5 * g + k by omega, zN_c _ _ hk]
            exact ⟨by decide, rfl⟩
      · exact PW.cNF hx (PW.mNF hx (PW.e (sq0.fl g9 p1 p3 z)))
