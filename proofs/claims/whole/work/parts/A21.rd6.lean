/-! A GUEST: THE STATIONS WANTED -/
theorem NK {M N : eg_H} {n a : Nat} (h : tA M N n a) : (M.1 (9, 0) 4 = 38 ∧ N.1 (60, 0) 8 = 2 ∧ N.1 (60, 0) 9 = M.1 (9, 0) 6) ∨ ((¬ M.1 (9, 0) 4 = 38) ∧ ¬ N.1 (60, 0) 8 = 2) := by
  obtain ⟨t, ek, ht, hc⟩ := tkN h.tk
  have kw := nIq ht 38 (by omega)
  by_cases c : t = 38
  · refine Or.inl ⟨by rw [ek, c]; rfl, ?_⟩
    rcases hc with z | z | z | z | z | z | z
    · omega
    · omega
    · exact z.2
    · omega
    · omega
    · omega
    · omega
  · refine Or.inr ⟨fun z => c (kw.mp (ek.symm.trans z)), fun y => ?_⟩
    rcases hc with z | z | z | z | z | z | z
    · exact absurd (z.2.symm.trans y) (by decide)
    · exact absurd (z.2.1.symm.trans y) (by decide)
    · exact c z.1
    · exact absurd (z.2.1.symm.trans y) (by decide)
    · exact absurd (z.2.1.symm.trans y) (by decide)
    · exact absurd (z.2.2.1.symm.trans y) (by decide)
    · exact absurd (z.2.symm.trans y) (by decide)
theorem PW.rf1 {dc dm : Nat} {A N : eg_H} {w : Int32} {R : Int32 → eg_H → eg_H → Prop} (h : R 0 A (fX11_wrong N w).2) : PW dc dm (fun _ _ post => post 0 A) (fun _ _ post => ∀ (x : Int32) (M1 : eg_H), (x, M1) = fX11_wrong N w → post x M1) R :=
  PW.mf (K := fun x M1 _ _ post => post x M1) (PW.e (r := 0) h)
theorem GTs {q n a g a2 : Nat} {M N M2 N2 P Q : eg_H} (h : RD q n a M N) (hs : N.1 (60, 0) 20 = nI g) (g9 : g < 9) (ih : ∀ a3 M3 N3 P3 Q3, cn5 (P3.1 (20, 15 * q + g)) = cn5 (P.1 (20, 15 * q + g)) + 1 → a < a3 → tA M3 N3 n a3 → fC P3 M3 → fM Q3 N3 → GQ q g M N P3 Q3 → plG P3 q (kp Q3) g → PW 9 4 (fun κ d post => eg_W κ gC mtX6_readGuest d (eQI κ gC post) 106 [(0, vR (6, 0)), (1, vR (0, 15 * q + g)), (2, vI (nI (cn5 (P3.1 (20, 15 * q + g)))))] [] M3) (fun κ d post => eg_W κ gM mtX11_guestLine d (eQI κ gM post) 115 [(0, vR (60, 0)), (1, vI (nI (15 + g)))] [] N3) (LN q n a M N)) (ha : a < a2) (ht : tA M2 N2 n a2) (fc : fC P M2) (fm : fM Q N2) (sq : GQ q g M N P Q) (pl : plG P q (kp Q) g) : PW 9 4 (fun κ d post => eg_W κ gC mtX6_readGuest d (eQI κ gC post) 106 [(0, vR (6, 0)), (1, vR (0, 15 * q + g)), (2, vI (nI (cn5 (P.1 (20, 15 * q + g)))))] [] M2) (fun κ d post => eg_W κ gM mtX11_guestLine d (eQI κ gM post) 115 [(0, vR (60, 0)), (1, vI (nI (15 + g)))] [] N2) (LN q n a M N) := by
  obtain ⟨q2, eq⟩ := h.1
  have PLm := h.2.2.1
  have eqP : P.2.2 (6, 0) 1 = (5, q) := by rw [sq.2.1]; exact eq
  have c5 := cn5_le (P.1 (20, 15 * q + g))
  have l15 : 15 * q + g < 30 := by omega
  refine PW.c (fun κ d hd post k => vX6_readGuest_106 (by omega) M2 l15 _ k) ?_
  refine PW.m (fun κ d hd post k => vX11_guestLine_115 (by omega) N2 _ k) ?_
  refine PW.cF (fun z => ?_) (PW.mh fun x hx => ?_)
  · have := (nI_lt' (a := 5) (by omega) (by omega)).mp z
    omega
  rw [isKey_n] at hx
  rcases KEY ht (w := 4) (by omega) with ⟨k1, k2, k3⟩ | ⟨k1, k2⟩
  · have hx1 : x = 1 := hx.trans (if_pos ⟨k2, k3⟩)
    refine PW.cNF k1 (PW.mr (by rw [hx1]; decide) (by rw [hx1]; decide) ?_)
    refine PW.adv ht (by omega) (by omega) (fun M7 N5 a7 p1 _ p3 _ p5 p6 t7 => ?_)
    have fc7 := fc.tr p1
    have fm7 := fm.tr p3
    have eq7 : M7.2.2 (6, 0) 1 = (5, q) := by rw [fc7.2.2]; exact eqP
    have oM : ∀ k, k ≠ 0 → k ≠ 20 → k ≠ 9 → k ≠ 6 → ∀ b, M7.1 (k, b) = M.1 (k, b) := fun k a b c d e => (fc7.1 _ (kd_ne c) (kd_ne d)).trans (sq.1 _ (kd_ne a) (kd_ne b))
    have oN : ∀ k, k < 90 ∨ 93 < k → k ≠ 60 → N5.1 (k, 0) = N.1 (k, 0) := fun k a b => (fm7.1 _ (kd_ne b)).trans (sq.2.2.1 (k, 0) a)
    have o60 : ∀ k, 11 < k → N5.1 (60, 0) k = N.1 (60, 0) k := fun k hk => (fm7.2.1 k (by omega)).trans (by rw [sq.2.2.1 (60, 0) (by decide)])
    rcases NK t7 with ⟨e38, ekd, ewh⟩ | ⟨n38, nkd⟩
    · have hF := stf PLm (oM 5 (by omega) (by omega) (by omega) (by omega) q) (fun j => by rw [oM 1 (by omega) (by omega) (by omega) (by omega)]) (oN 88 (by omega) (by omega)) (o60 19 (by omega)) (M7.1 (9, 0) 6)
      have hn := PLm.hn
      have en := PLm.en
      rw [kp_60 N (by omega)] at hn en
      obtain ⟨es, s6⟩ := nI_of' hn (by omega)
      have gst : gX5_stationOf M7 q (M7.1 (9, 0) 6) := by
        unfold gX5_stationOf
        rw [oM 5 (by omega) (by omega) (by omega) (by omega), en]
        exact hn
      have gf : gX11_find N5 (88, 0) 5 (N5.1 (60, 0) 19) (M7.1 (9, 0) 6) := by
        rw [o60 19 (by omega)]
        refine ⟨show vp_in (nI 5) 100 from nI_in' (by omega) (by omega), ?_, ?_⟩
        · rw [show N.1 (60, 0) 19 = nI (N.1 (60, 0) (12 + 7)).toNatClampNeg from es]
          exact nI_in' (by omega) (by omega)
        · show 5 + (N.1 (60, 0) (12 + 7)).toNatClampNeg ≤ 10
          omega
      refine PW.mT ekd ?_
      rw [ewh]
      refine PW.mg gf (PW.mh fun x10 hx10 => ?_)
      rw [← hF] at hx10
      by_cases cx : fX5_stationOf M7 q (M7.1 (9, 0) 6) < 0
      · have em : fX5_stationOf M7 q (M7.1 (9, 0) 6) = -1 := by
          rcases find_r gf with y | ⟨y1, y2⟩
          · rw [hF]; exact y
          · rw [← hF] at y1; exact absurd cx y1
        refine PW.ce (ec := 1) (r := -1) (M1 := (fX6_refuse M7 4).2) (fun κ d hd => ?_) (by omega) (PW.cNF rfl (PW.mF (by rw [hx10, em]; decide) (PW.rf1 ?_)))
        · refine eg_S.of rfl (Nat.le_of_ble_eq_true rfl) (vX6_wantedStation_0 (by omega) M7 l15 ⟨fun _ => ⟨q, q2, eq7, gst, fun x5 hx5 => ⟨fun y => absurd (hx5.trans em) y, fun _ x12 M11 e11 => ⟨rfl, congrArg Prod.snd e11⟩⟩⟩, fun y => absurd e38 y⟩)
        · exact sq.fl g9 fc7 fm7 (fun q => FL_mk q t7 4 (by decide))
      · obtain ⟨j, ej, _, hj, _⟩ := fst1_r _ _ _ (show ¬ fst1 (fun k => decide (M7.1 (1, 5 * q + k) 0 = M7.1 (9, 0) 6)) 0 (M7.1 (5, q) 0).toNatClampNeg < 0 from cx)
        have ej' : fX5_stationOf M7 q (M7.1 (9, 0) 6) = nI j := ej
        rw [oM 5 (by omega) (by omega) (by omega) (by omega), en] at hj
        have j5 : j < 5 := by omega
        have nj : ¬ nI j = -1 := nI_ne_m1 (by omega)
        have ix : (5 : Int32) * nI (15 + g) + nI j = nI (75 + 5 * g + j) := by rw [(nMl _).1, nI_add]; congr 1; omega
        obtain ⟨b1, b2, b3, b4⟩ := pl
        have cM : M7.1 (20, 15 * q + g) j = P.1 (20, 15 * q + g) j := by rw [fc7.1 _ (kd_ne (by omega)) (kd_ne (by omega))]
        have cN : N5.1 (93, 0) (75 + 5 * g + j) = P.1 (20, 15 * q + g) j := by
          rw [fm7.1 _ (by decide), (b4 j j5).2, kp_93, show 75 + 5 * g + j = 5 * g + j + 75 by omega]
        rw [ej'] at hx10
        rw [hx10, ix, nI_t (show 75 + 5 * g + j < 2147483648 by omega)]
        refine PW.mT ((nI_le' (a := 0) (by omega) (by omega)).mpr (by omega)) (PW.mg (nI_in' (by omega) (by omega)) ?_)
        rw [cN]
        by_cases c0 : P.1 (20, 15 * q + g) j ≤ 0
        · refine PW.ce (ec := 1) (r := nI j) (M1 := M7) (fun κ d hd => ?_) (by omega) (PW.cNT nj (PW.mT c0 ?_))
          · refine eg_S.of rfl (Nat.le_of_ble_eq_true rfl) (vX6_wantedStation_0 (by omega) M7 l15 ⟨fun _ => ⟨q, q2, eq7, gst, fun x5 hx5 => ?_⟩, fun y => absurd e38 y⟩)
            rw [ej'] at hx5
            rw [hx5, nI_t (show j < 2147483648 by omega), cM]
            exact ⟨fun _ => ⟨nI_in' j5 (by omega), fun _ => ⟨rfl, rfl⟩, fun y => absurd c0 y⟩, fun y => absurd y nj⟩
          · refine PW.adv t7 (by omega) (by omega) (fun M13 N14 a13 o1 _ o3 _ o5 o6 t13 => ?_)
            refine PW.num t13 (by omega) (by omega) (fun A B z => sq.fl g9 (fc7.tr o1) (fm7.tr o3) z) (fun M16 N17 a16 v r1 r2 r3 r4 r5 r6 r7 r8 => ?_)
            rw [r5, r6, nI_t (show j < 2147483648 by omega)]
            have l0 : (0 : Int32).toInt = 0 := by decide
            have i1 : (1 : Int32).toInt = 1 := by decide
            have i9 : (9 : Int32).toInt = 9 := by decide
            have vp : ¬ v ≤ 0 := by rw [t_le]; omega
            have up := cn5_up (P := P) (r := (20, 15 * q + g)) j5 c0 vp
            refine PW.cg (nI_in' j5 (by omega)) (PW.ch fun M20 e20 => PW.ch fun x21 hx21 => PW.mh fun N20 f20 => ?_)
            have ex : x21 = nI (cn5 ((sI P (20, 15 * q + g) j v).1 (20, 15 * q + g))) := by rw [hx21, up]; exact (nAl _).2.1
            rw [ex]
            refine ih a16 M20 N20 _ (sI Q (93, 0) (75 + 5 * g + j) v) up (by omega) ?_ ?_ ?_ ((sq.c2 j v).m3 (by omega) v) ?_
            · rw [e20, f20]
              exact r4.cong (sI_ne (kd_ne (by omega))) (sI_ne (kd_ne (by omega))) (fun k _ _ => by rw [sI_ne (by decide)]) (sI_ne (by decide)) (sI_ne (by decide))
            · rw [e20]
              exact ((fc7.tr o1).tr r1).s (kd_ne (by omega)) (kd_ne (by omega))
            · rw [f20]
              exact ((fm7.tr o3).tr r2).s (Or.inl (by decide))
            · unfold plG
              have z0 : ((0, 15 * q + g) : eg_R) ≠ (20, 15 * q + g) := kd_ne (by omega)
              rw [sI_ne z0, kp_90, kp_91, kp_92, sI_ne (by decide), sI_ne (by decide), sI_ne (by decide), ← kp_90, ← kp_91, ← kp_92]
              refine ⟨b1, b2, b3, fun k hk => ?_⟩
              rw [sI_rr, kp_93, sI_rr]
              by_cases ck : k = j
              · rw [if_pos ck, if_pos (by omega)]
                exact ⟨⟨by omega, by omega⟩, rfl⟩
              · rw [if_neg ck, if_neg (by omega), ← kp_93]
                exact b4 k hk
        · refine PW.ce (ec := 1) (r := -1) (M1 := (fX6_refuse M7 3).2) (fun κ d hd => ?_) (by omega) (PW.cNF rfl (PW.mF c0 (PW.rf1 ?_)))
          · refine eg_S.of rfl (Nat.le_of_ble_eq_true rfl) (vX6_wantedStation_0 (by omega) M7 l15 ⟨fun _ => ⟨q, q2, eq7, gst, fun x5 hx5 => ?_⟩, fun y => absurd e38 y⟩)
            rw [ej'] at hx5
            rw [hx5, nI_t (show j < 2147483648 by omega), cM]
            exact ⟨fun _ => ⟨nI_in' j5 (by omega), fun y => absurd y c0, fun _ x10 M9 e9 => ⟨rfl, congrArg Prod.snd e9⟩⟩, fun y => absurd y nj⟩
          · exact sq.fl g9 fc7 fm7 (fun q => FL_mk q t7 3 (by decide))
    · refine PW.ce (ec := 1) (r := -1) (M1 := (fX6_refuse M7 1).2) (fun κ d hd => ?_) (by omega) (PW.cNF rfl (PW.mF nkd (PW.rf1 ?_)))
      · exact eg_S.of rfl (Nat.le_of_ble_eq_true rfl) (vX6_wantedStation_0 (by omega) M7 l15 ⟨fun y => absurd y n38, fun _ x14 M13 e13 => ⟨rfl, congrArg Prod.snd e13⟩⟩)
      · exact sq.fl g9 fc7 fm7 (fun q => FL_mk q t7 1 (by decide))
  · have hx0 : x = 0 := hx.trans (if_neg k2)
    refine PW.cNT k1 (PW.cp (M := M2) q2 (by rw [fc.2.2]; exact eqP) (PW.ch fun M6 e6 => PW.ml hx0 (by rw [hx0]; decide) (PW.mh fun N4 f4 => PW.e ?_)))
    rw [e6, f4]
    exact GT3 h hs g9 ha ht fc fm sq pl
theorem GT2 {q n a g : Nat} {M N : eg_H} (h : RD q n a M N) (hs : N.1 (60, 0) 20 = nI g) (g9 : g < 9) : ∀ m a2 M2 N2 P Q, cn5 (P.1 (20, 15 * q + g)) + m = 5 → a < a2 → tA M2 N2 n a2 → fC P M2 → fM Q N2 → GQ q g M N P Q → plG P q (kp Q) g → PW 9 4 (fun κ d post => eg_W κ gC mtX6_readGuest d (eQI κ gC post) 106 [(0, vR (6, 0)), (1, vR (0, 15 * q + g)), (2, vI (nI (cn5 (P.1 (20, 15 * q + g)))))] [] M2) (fun κ d post => eg_W κ gM mtX11_guestLine d (eQI κ gM post) 115 [(0, vR (60, 0)), (1, vI (nI (15 + g)))] [] N2) (LN q n a M N)
  | 0, a2, M2, N2, P, Q, hm, ha, ht, fc, fm, sq, pl => GTs h hs g9 (fun a3 M3 N3 P3 Q3 e => absurd (cn5_le (P3.1 (20, 15 * q + g))) (by omega)) ha ht fc fm sq pl
  | m + 1, a2, M2, N2, P, Q, hm, ha, ht, fc, fm, sq, pl => GTs h hs g9 (fun a3 M3 N3 P3 Q3 e => GT2 h hs g9 m a3 M3 N3 P3 Q3 (by omega)) ha ht fc fm sq pl
