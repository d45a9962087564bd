/-! EXPRESSIONS: a value is due, on both sides -/
theorem prm_h : ∀ t, t < 24 → (16 ≤ t → prm t = t) ∧ (t < 16 → prm t < 16) := by decide +kernel
def kV (κ : eg_K) (d : Nat) (post : Int32 → eg_H → Prop) : Int32 → eg_H → Prop := fun x M1 => (x = 0 → post 0 M1) ∧ (¬ x = 0 → eCV κ gC mtX9_advance d [vR (9, 0)] M1 (fun M2 => post 1 M2))
theorem XR_f {q n a at0 : Nat} {M N : eg_H} {w : Int32} (ht : tA M N n at0) (hw : ¬ w = 0) : XR q n a at0 M N 0 (fX6_refuse M w).2 (fX11_wrong N w).2 := Or.inr ⟨rfl, FL_mk q ht w hw⟩
theorem LEAF3 {q n a at0 k b : Nat} {M N : eg_H} {L l : List Nat} {Y l1 m1 x X Z : Int32} (q2 : q < 2) (xp : XP q a M N L l k b 1 Y) (ht : tA M N n at0) (n39 : ¬ M.1 (9, 0) 4 = 39) (hx : (if (¬ l1 = (37 : Int32)) then ((10000 : Int32) + l1) else (M.1 (9, 0) 5)) = x) (hX : (if m1 = 0 then (0 : Int32) else (1 : Int32)) = X) (hZ : (if m1 = 0 then (N.1 (60, 0) 9) else ((N.1 (60, 0) 9) - (16 : Int32))) = Z) (st : ∀ kc km pt ot : Nat → Int32, kc k = x → km k = X → pt k = Z → stp kc km pt ot k l (k :: l)) : PW 9 4 (fun κ d post => eg_W κ gC mtX6_readValue (d - 1) (eQI κ gC (kV κ d post)) 148 [(0, vR (6, 0)), (1, vI l1)] [] M) (fun κ d post => eg_W κ gM mtX11_leafRead d (eQI κ gM post) 147 [(0, vR (60, 0)), (1, vI m1)] [] N) (XR q n a at0 M N) := by
  have P := xp
  obtain ⟨p1, p2, p3, p4, p5, p6, p7, p8⟩ := xp
  have c8 := p1.2.1.2.2.2
  have c5 := p1.2.1.1
  have c6 := p1.2.1.2.1
  have c10 := p1.2.2.2.1
  have ll : l.length ≤ k - a := (skF_in p1.2.2.1).2
  refine PW.c (fun κ d hd post z => vX6_readValue_148 (by omega) M l1 z) ?_
  refine PW.m (fun κ d hd post z => vX11_leafRead_147 (by omega) N m1 z) ?_
  rcases ckC c8 p7.1 with ⟨u1, u2⟩ | ⟨u1, u2⟩
  · rcases ckM c8 p7.2 with ⟨_, w2⟩ | ⟨w1, _⟩
    · rw [u2, w2]
      refine PW.cf (PW.mf (PW.cNT (show ¬ (1 : Int32) = 0 by decide) (PW.mNT (show ¬ (1 : Int32) = 0 by decide) ?_)))
      dsimp only
      have k9 : (sI N (60, 0) 46 (nI (k + nop L + 1))).1 (60, 0) 9 = N.1 (60, 0) 9 := by rw [sI_60, if_neg (by omega)]
      rw [sI_ne (show ((9, 0) : eg_R) ≠ (6, 0) by decide), k9, hx, hX, hZ]
      refine PW.cp q2 (show (sI M (6, 0) 8 (nI (k + nop L + 1))).2.2 (6, 0) 1 = (5, q) from p2) (PW.ch fun x5 e5 => ?_)
      obtain ⟨v1, v2⟩ := gk_e (M := sI M (6, 0) 8 (nI (k + nop L + 1))) (q := q) (k := k) x (by omega) (by rw [sI_ne (kd_ne (by omega))]; exact c5)
      rw [e5, v2]
      refine PW.cg v1 (PW.ch fun M7 e7 => PW.ch fun M9 e9 => PW.mh fun x4 f4 => PW.mh fun x5' f5 => ?_)
      rw [f4, f5]
      have gre := fun (κ : eg_K) (d : Nat) => gr_e (N := sI N (60, 0) 46 (nI (k + nop L + 1))) (k := k) (h := l.length) X Z 0 (by omega) (by omega) (by rw [sI_60, if_neg (by omega)]; exact c6) (by rw [sI_60, if_neg (by omega)]; exact c10) (κ := κ) (d := d)
      refine PW.m (Km' := fun κ d post => ∀ M8 : eg_H, M8 = sI (gr (sI N (60, 0) 46 (nI (k + nop L + 1))) k l.length X Z 0) (60, 0) 47 0 → eCV κ gM mtX11_token d [vR (60, 0)] M8 (fun M9 => post 1 M9)) (fun κ d hd post z => ⟨_, gre κ (d - 1), fun M6 e6 => by rw [e6]; exact z⟩) (PW.mh fun N8 f8 => ?_)
      have xl := x_leaf P u1 st
      rw [← e7, ← e9, ← f8] at xl
      have o9 : M9.1 (9, 0) = M.1 (9, 0) := by rw [e9, sI_ne (by decide), e7, gk_o _ _ _ _ (kd_ne (by omega)) (kd_ne (by omega)), sI_ne (by decide)]
      have xc : xC q a M M9 := by
        rw [e9, e7]
        refine xC.tr (M1 := gk (sI M (6, 0) 8 (nI (k + nop L + 1))) q k x) ⟨fun r _ b _ d e => ?_, fun i hi => ?_, fun i hi => ?_, fun i hi => ?_, rfl⟩ (xC.s6 (by omega))
        · rw [gk_o _ _ _ _ d e, sI_ne b]
        · rw [gk_23, if_neg (by have := p1.2.1.2.2.1; omega), sI_ne (kd_ne (by omega))]
        · rw [gk_3, if_neg hi, sI_ne (kd_ne (by omega))]
        · rw [gk_o _ _ _ _ (kd_ne (by omega)) (kd_ne (by omega)), sI_rr, if_neg (by omega)]
      have ha := p1.2.1.2.2.1
      have xm : xM a N N8 := by
        rw [f8]
        refine xM.tr (N1 := gr (sI N (60, 0) 46 (nI (k + nop L + 1))) k l.length X Z 0) ⟨fun r a b => ?_, fun i hi => ⟨?_, ?_, ?_⟩, fun i hi => ?_, rfl⟩ (xM.s6 (by omega))
        · rw [gr_o _ _ _ _ _ _ a (by omega), sI_ne a]
        · rw [gr_99, if_neg (by omega), sI_ne (by decide)]
        · rw [gr_100, if_neg (by omega), sI_ne (by decide)]
        · rw [gr_101, if_neg (by omega), sI_ne (by decide)]
        · rw [gr_60, if_neg (by omega), if_neg (by omega), sI_60, if_neg (by omega)]
      have t9 : tA M9 N8 n at0 := by
        refine ht.cong o9 ?_ (fun j _ _ => ?_) ?_ ?_
        · rw [e9, sI_ne (by decide), e7, gk_o _ _ _ _ (kd_ne (by omega)) (kd_ne (by omega)), sI_ne (by decide)]
        · rw [f8, sI_60, if_neg (by omega), gr_60, if_neg (by omega), if_neg (by omega), sI_60, if_neg (by omega)]
        · rw [f8, sI_ne (by decide), gr_o _ _ _ _ _ _ (by decide) (by decide), sI_ne (by decide)]
        · rw [f8, sI_ne (by decide), gr_o _ _ _ _ _ _ (by decide) (by decide), sI_ne (by decide)]
      exact KcS.ok (Nat.le_refl _) t9 (by rw [o9]; exact n39) xl xc xm
    · omega
  · rcases ckM c8 p7.2 with ⟨w1, _⟩ | ⟨_, w2⟩
    · omega
    · rw [u2, w2]
      refine PW.cf (PW.mf (PW.cr (fun y => y rfl) rfl (PW.mr (fun y => y rfl) rfl ?_)))
      exact KcS.no (PW.e (XR_f ht (by decide)))
theorem LEAF2 {q n a at0 k b t : Nat} {M N : eg_H} {L l : List Nat} {Y : Int32} (q2 : q < 2) (xp : XP q a M N L l k b 1 Y) (ht : tA M N n at0) (ek : M.1 (9, 0) 4 = nI t) (ht40 : t ≤ 40) (hc : (t = 39 ∧ N.1 (60, 0) 8 = 0) ∨ (t < 24 ∧ N.1 (60, 0) 8 = 1 ∧ N.1 (60, 0) 9 = nI (prm t)) ∨ (t = 38 ∧ N.1 (60, 0) 8 = 2 ∧ N.1 (60, 0) 9 = M.1 (9, 0) 6) ∨ (t = 37 ∧ N.1 (60, 0) 8 = 3 ∧ N.1 (60, 0) 9 = M.1 (9, 0) 5 ∧ 0 ≤ (M.1 (9, 0) 5).toInt ∧ (M.1 (9, 0) 5).toInt ≤ 99999) ∨ ((t = 24 ∨ t = 25 ∨ t = 26 ∨ t = 27 ∨ t = 34 ∨ t = 35 ∨ t = 36) ∧ N.1 (60, 0) 8 = 4 ∧ N.1 (60, 0) 9 = sgc t) ∨ (28 ≤ t ∧ t < 34 ∧ N.1 (60, 0) 8 = 5 ∧ N.1 (60, 0) 9 = nI (t - 28)) ∨ (t = 40 ∧ N.1 (60, 0) 8 = 6)) : PW 9 4 (fun κ d post => eg_W κ gC mtX6_readValue (d - 1) (eQI κ gC (kV κ d post)) 99 [(0, vR (6, 0)), (1, vI (nI t))] [] M) (fun κ d post => eg_W κ gM mtX11_leafRead d (eQI κ gM post) 86 [(0, vR (60, 0))] [] N) (XR q n a at0 M N) := by
  refine PW.c (fun κ d hd post z => vX6_readValue_99 (by omega) M (nI t) z) ?_
  refine PW.m (fun κ d hd post z => vX11_leafRead_86 (by omega) N z) ?_
  have e37 := nIq ht40 37 (by omega)
  refine PW.mh fun x1 hx1 => ?_
  by_cases c37 : t = 37
  · have z : N.1 (60, 0) 8 = 3 ∧ N.1 (60, 0) 9 = M.1 (9, 0) 5 ∧ 0 ≤ (M.1 (9, 0) 5).toInt ∧ (M.1 (9, 0) 5).toInt ≤ 99999 := by
      rcases hc with y | y | y | y | y | y | y
      · omega
      · omega
      · omega
      · exact y.2
      · omega
      · omega
      · omega
    have t37 : nI t = (37 : Int32) := e37.mpr c37
    rw [z.1, if_pos (by decide)] at hx1
    refine PW.cT t37 (PW.mr (by rw [hx1]; decide) hx1 (PW.mT z.1 ?_))
    rw [hx1]
    refine PW.c (fun κ d hd post z => vX6_readValue_123 (by omega) M (nI t) z) ?_
    refine PW.m (fun κ d hd post z => vX11_leafRead_127 (by omega) N 0 z) ?_
    refine PW.cNF t37 (PW.mNF rfl ?_)
    rw [z.2.1]
    by_cases c9 : M.1 (9, 0) 5 ≤ (9999 : Int32)
    · refine PW.cT c9 (PW.mT c9 (LEAF3 q2 xp ht (by rw [ek, t37]; decide) (if_neg (fun y => y t37)) (if_pos rfl) (if_pos rfl) (fun kc km pt ot h1 h2 h3 => Or.inl ⟨?_, ?_, h2, ?_, rfl⟩)))
      · rw [h1]; exact z.2.2.1
      · have l9 : (9999 : Int32).toInt = 9999 := by decide
        rw [t_le] at c9
        rw [h1]
        omega
      · rw [h3, h1, z.2.1]
    · exact PW.cF c9 (PW.mF c9 (KcS.rf (XR_f ht (by decide))))
  · have n37 : ¬ nI t = (37 : Int32) := fun y => c37 (e37.mp y)
    by_cases cw : 16 ≤ t ∧ t ≤ 23
    · have z : N.1 (60, 0) 8 = 1 ∧ N.1 (60, 0) 9 = nI t := by
        rcases hc with y | y | y | y | y | y | y
        · omega
        · rw [(prm_h t y.1).1 cw.1] at y; exact y.2
        · omega
        · omega
        · omega
        · omega
        · omega
      have x1e : x1 = 1 := by
        rw [hx1, if_neg (fun y => y z.1), z.2, if_neg]
        intro y
        have := (nI_lt' (b := 16) (by omega) (by omega)).mp y
        omega
      refine PW.cF n37 (PW.cF (fun y => ?_) (PW.cT ((nI_le' (b := 23) (by omega) (by omega)).mpr cw.2) (PW.ml (by rw [x1e]; decide) (by rw [x1e]; decide) ?_)))
      · have := (nI_lt' (b := 16) (by omega) (by omega)).mp y
        omega
      · rw [x1e]
        refine PW.c (fun κ d hd post z => vX6_readValue_123 (by omega) M (nI t) z) ?_
        refine PW.m (fun κ d hd post z => vX11_leafRead_127 (by omega) N 1 z) ?_
        refine PW.cNT n37 (PW.mNT (by decide) ?_)
        have i10 : (10000 : Int32) + nI t = nI (10000 + t) := by show nI 10000 + nI t = _; rw [nI_add]
        have i16 : nI t - 16 = nI (t - 16) := nI_subn (b := 16) (by omega) (by omega)
        refine LEAF3 (x := nI (10000 + t)) (X := 1) (Z := nI (t - 16)) q2 xp ht (fun y => ?_) (by rw [if_pos n37, i10]) (if_neg (by decide)) (by rw [if_neg (by decide), z.2, i16]) (fun kc km pt ot h1 h2 h3 => Or.inr (Or.inl ⟨t - 16, by omega, ?_, h2, h3, rfl⟩))
        · have := (nIq ht40 39 (by omega)).mp (ek.symm.trans y)
          omega
        · rw [h1]; congr 1; omega
    · have x1e : x1 = 0 := by
        rw [hx1]
        by_cases k1 : N.1 (60, 0) 8 = 1
        · rw [if_neg (fun y => y k1), if_pos]
          rcases hc with y | y | y | y | y | y | y
          · exact absurd (y.2.symm.trans k1) (by decide)
          · rw [y.2.2]
            exact (nI_lt' (b := 16) (by have := prm_l t y.1; omega) (by omega)).mpr ((prm_h t y.1).2 (by omega))
          · exact absurd (y.2.1.symm.trans k1) (by decide)
          · exact absurd (y.2.1.symm.trans k1) (by decide)
          · exact absurd (y.2.1.symm.trans k1) (by decide)
          · exact absurd (y.2.2.1.symm.trans k1) (by decide)
          · exact absurd (y.2.symm.trans k1) (by decide)
        · rw [if_pos k1]
      have k3 : ¬ N.1 (60, 0) 8 = 3 := fun k3 => by
        rcases hc with y | y | y | y | y | y | y
        · exact absurd (y.2.symm.trans k3) (by decide)
        · exact absurd (y.2.1.symm.trans k3) (by decide)
        · exact absurd (y.2.1.symm.trans k3) (by decide)
        · exact c37 y.1
        · exact absurd (y.2.1.symm.trans k3) (by decide)
        · exact absurd (y.2.2.1.symm.trans k3) (by decide)
        · exact absurd (y.2.symm.trans k3) (by decide)
      refine PW.cF n37 (PW.mr (by rw [x1e]; decide) x1e (PW.mF k3 ?_))
      by_cases c16 : t < 16
      · exact PW.cT ((nI_lt' (b := 16) (by omega) (by omega)).mpr c16) (KcS.rf (XR_f ht (by decide)))
      · refine PW.cF (fun y => c16 ((nI_lt' (b := 16) (by omega) (by omega)).mp y)) (PW.cF (fun y => ?_) (KcS.rf (XR_f ht (by decide))))
        have := (nI_le' (b := 23) (by omega) (by omega)).mp y
        omega
theorem LEAF {q n a at0 k b : Nat} {M N : eg_H} {L l : List Nat} {Y : Int32} (q2 : q < 2) (xp : XP q a M N L l k b 1 Y) (ht : tA M N n at0) : PW 9 4 (KcS mtX6_readValue M) (fun κ d post => eg_S κ gM mtX11_leafRead d [vR (60, 0)] N (eQI κ gM post)) (XR q n a at0 M N) := by
  have P := xp
  obtain ⟨p1, p2, p3, p4, p5, p6, p7, p8⟩ := xp
  obtain ⟨t, ek, ht40, hc⟩ := tK ht
  have hlen := p1.len
  have ll := len_e L
  have c8 := p1.2.1.2.2.2
  have lv := p1.1.2.2.2
  refine KcS.i (fun κ d hd post z => eg_S.of rfl (Nat.le_of_ble_eq_true rfl) (vX6_readValue_0 (by omega) M z)) ?_
  refine PW.m (fun κ d hd post z => eg_S.of rfl (Nat.le_of_ble_eq_true rfl) (vX11_leafRead_0 (by omega) N z)) ?_
  refine PW.ch fun x1 hx1 => PW.mh fun x2 hx2 => ?_
  rcases SGN ht (w := 34) (by omega) with ⟨g1, g2⟩ | ⟨g1, g2⟩
  · have x2e : x2 = 1 := hx2.trans g2
    have x1e : x1 = 34 := hx1.trans g1
    have n39 : ¬ M.1 (9, 0) 4 = 39 := by rw [g1]; decide
    refine PW.cNF x1e (PW.mr (by rw [x2e]; decide) (by rw [x2e]; decide) ?_)
    rw [p3.1, p3.2]
    by_cases cl : lev L < 8
    · refine PW.cT ((nI_lt' (b := 8) (by omega) (by omega)).mpr cl) (PW.mNT (fun y => ?_) ?_)
      · have := (nI_eq' (b := 8) (by omega) (by omega)).mp y
        omega
      rw [(nAl (lev L)).2.1]
      refine PW.ch fun M12 e12 => PW.ch fun M13 e13 => PW.mh fun N17 f17 => ?_
      have e13' : M13 = sI (sI M (6, 0) 11 (nI (lev L + 1))) (6, 0) 12 (nI (clb b (lev L + 1))) := by
        rw [e13, e12]
        congr 1
        rw [sI_rr, if_neg (by omega), sI_rr, if_pos rfl, p4.1]
        exact (bits0 b p4.2.1 (lev L + 1) (by omega)).1.1
      obtain ⟨u1, u2⟩ := hsC_e (M := M13) (n := L.length) 34 (by omega) (by rw [e13', sI_rr, if_neg (by omega), sI_rr, if_neg (by omega)]; exact p1.1.1)
      obtain ⟨w1, w2⟩ := hsM_e (N := N17) (n := L.length) 34 (by omega) (by rw [f17, sI_60, if_neg (by omega)]; exact p1.1.2.1)
      refine PW.cg u1 (PW.ch fun M15 e15 => PW.ch fun M17 e17 => PW.mg w1 (PW.mh fun N19 f19 => PW.mh fun N21 f21 => ?_))
      have e15' : M15 = hsC M13 L.length 34 := e15.trans u2
      have f19' : N19 = hsM N17 L.length 34 := f19.trans w2
      have xo := x_open P ht n39 cl
      rw [← e13', ← f17, ← e15', ← f19', ← e17, ← f21] at xo
      have o9 : ∀ r, r ≠ (6, 0) → r ≠ (36, 0) → M17.1 r = M.1 r := fun r a b => by rw [e17, sI_ne a, e15', hsC_o _ _ _ a b, e13', sI_ne a, sI_ne a]
      have oN : ∀ r, r ≠ (60, 0) → r ≠ (102, 0) → N21.1 r = N.1 r := fun r a b => by rw [f21, sI_ne a, f19', hsM_o _ _ _ a b, f17, sI_ne a]
      refine KcS.ok (Nat.le_refl _) (ht.cong (o9 _ (by decide) (by decide)) (o9 _ (by decide) (by decide)) (fun j _ _ => ?_) (oN _ (by decide) (by decide)) (oN _ (by decide) (by decide))) (by rw [o9 _ (by decide) (by decide)]; exact n39) xo ?_ ?_
      · rw [f21, sI_60, if_neg (by omega), f19', hsM_60, if_neg (by omega), f17, sI_60, if_neg (by omega)]
      · rw [e17, e15', e13']
        exact (xC.s6 (by omega)).tr ((xC.s6 (by omega)).tr (xC.s36.tr ((xC.s6 (by omega)).tr (xC.s6 (by omega)))))
      · rw [f21, f19', f17]
        exact (xM.s6 (by omega)).tr (xM.s102.tr ((xM.s6 (by omega)).tr (xM.s6 (by omega))))
    · refine PW.cF (fun y => cl ((nI_lt' (b := 8) (by omega) (by omega)).mp y)) (PW.mNF ((nI_eq' (b := 8) (by omega) (by omega)).mpr (by omega)) (KcS.rf (XR_f ht (by decide))))
  · have x2e : x2 = 0 := hx2.trans g2
    have t34 : t ≠ 34 := fun y => g1 (by rw [ek, y])
    refine PW.cNT (fun y => g1 (hx1.symm.trans y)) (PW.ml x2e (by rw [x2e]; decide) (PW.mh fun x5 hx5 => ?_))
    rw [hx1.trans ek]
    rcases KEYi ht (w := 15) (by omega) with ⟨k1, k2⟩ | ⟨k1, k2⟩
    · have x5e : x5 = 1 := hx5.trans k2
      have t15 : nI t = (15 : Int32) := ek.symm.trans k1
      have n39 : ¬ M.1 (9, 0) 4 = 39 := by rw [k1]; decide
      refine PW.cNF t15 (PW.mr (by rw [x5e]; decide) (by rw [x5e]; decide) ?_)
      rw [p6.1, p6.2]
      by_cases cY : Y = 0
      · exact PW.cT cY (PW.mT cY (LEAF2 q2 P ht ek ht40 hc))
      · refine PW.cF cY (PW.mF cY ?_)
        rcases ckC c8 p7.1 with ⟨u1, u2⟩ | ⟨u1, u2⟩
        · rcases ckM c8 p7.2 with ⟨_, w2⟩ | ⟨w1, _⟩
          · rw [u2, w2]
            refine PW.cf (PW.mf (PW.cNT (show ¬ (1 : Int32) = 0 by decide) (PW.mNT (show ¬ (1 : Int32) = 0 by decide) ?_)))
            dsimp only
            obtain ⟨v1, v2⟩ := hsC_e (M := sI M (6, 0) 8 (nI (k + nop L + 1))) (n := L.length) 15 (by omega) (by rw [sI_rr, if_neg (by omega)]; exact p1.1.1)
            obtain ⟨y1, y2⟩ := hsM_e (N := sI N (60, 0) 46 (nI (k + nop L + 1))) (n := L.length) 15 (by omega) (by rw [sI_60, if_neg (by omega)]; exact p1.1.2.1)
            refine PW.cg v1 (PW.ch fun M9 e9 => PW.mg y1 (PW.mh fun N12 f12 => ?_))
            have e9' := e9.trans v2
            have f12' := f12.trans y2
            have xn := x_not P cY u1
            rw [← e9', ← f12'] at xn
            have o9 : ∀ r, r ≠ (6, 0) → r ≠ (36, 0) → M9.1 r = M.1 r := fun r a b => by rw [e9', hsC_o _ _ _ a b, sI_ne a]
            have oN : ∀ r, r ≠ (60, 0) → r ≠ (102, 0) → N12.1 r = N.1 r := fun r a b => by rw [f12', hsM_o _ _ _ a b, sI_ne a]
            refine KcS.ok (Nat.le_refl _) (ht.cong (o9 _ (by decide) (by decide)) (o9 _ (by decide) (by decide)) (fun j _ _ => ?_) (oN _ (by decide) (by decide)) (oN _ (by decide) (by decide))) (by rw [o9 _ (by decide) (by decide)]; exact n39) xn ?_ ?_
            · rw [f12', hsM_60, if_neg (by omega), sI_60, if_neg (by omega)]
            · rw [e9']
              exact (xC.s6 (by omega)).tr (xC.s36.tr (xC.s6 (by omega)))
            · rw [f12']
              exact (xM.s6 (by omega)).tr (xM.s102.tr (xM.s6 (by omega)))
          · omega
        · rcases ckM c8 p7.2 with ⟨w1, _⟩ | ⟨_, w2⟩
          · omega
          · rw [u2, w2]
            refine PW.cf (PW.mf (PW.cr (fun y => y rfl) rfl (PW.mr (fun y => y rfl) rfl ?_)))
            exact KcS.no (PW.e (XR_f ht (by decide)))
    · have x5e : x5 = 0 := hx5.trans k2
      exact PW.cNT (fun y => k1 (ek.trans y)) (PW.ml x5e (by rw [x5e]; decide) (LEAF2 q2 P ht ek ht40 hc))
