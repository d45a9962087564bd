/-! THE LINE OF A STATION -/
theorem kp_88 (N : eg_H) (k : Nat) : (kp N).1 (88, 0) k = N.1 (88, 0) (k + 5) := kp_r N (by decide) k
theorem kp_89 (N : eg_H) (k : Nat) : (kp N).1 (89, 0) k = N.1 (89, 0) (k + 30) := kp_r N (by decide) k
def SQ (q s : Nat) (M N P Q : eg_H) : Prop := (∀ r, r ≠ (1, 5 * q + s) → P.1 r = M.1 r) ∧ (P.2 = M.2) ∧ (∀ r, r ≠ (88, 0) → r ≠ (89, 0) → Q.1 r = N.1 r) ∧ (Q.2 = N.2) ∧ (∀ k, k ≠ 5 + s → Q.1 (88, 0) k = N.1 (88, 0) k) ∧ (∀ k, k < 30 + 6 * s → Q.1 (89, 0) k = N.1 (89, 0) k)
theorem SQ.hP {q s : Nat} {M N P Q : eg_H} (h : SQ q s M N P Q) : ∀ r, r ≠ (1, 5 * q + s) → P.1 r = M.1 r := h.1
theorem SQ.hP2 {q s : Nat} {M N P Q : eg_H} (h : SQ q s M N P Q) : P.2 = M.2 := h.2.1
theorem SQ.hQ {q s : Nat} {M N P Q : eg_H} (h : SQ q s M N P Q) : ∀ r, r ≠ (88, 0) → r ≠ (89, 0) → Q.1 r = N.1 r := h.2.2.1
theorem SQ.hQ2 {q s : Nat} {M N P Q : eg_H} (h : SQ q s M N P Q) : Q.2 = N.2 := h.2.2.2.1
theorem SQ.h88 {q s : Nat} {M N P Q : eg_H} (h : SQ q s M N P Q) : ∀ k, k ≠ 5 + s → Q.1 (88, 0) k = N.1 (88, 0) k := h.2.2.2.2.1
theorem SQ.h89 {q s : Nat} {M N P Q : eg_H} (h : SQ q s M N P Q) : ∀ k, k < 30 + 6 * s → Q.1 (89, 0) k = N.1 (89, 0) k := h.2.2.2.2.2
theorem SQ.wC {q s : Nat} {M N P Q : eg_H} (h : SQ q s M N P Q) (s5 : s < 5) : wC q M P := ⟨fun r hr _ _ _ => h.hP r (fun e => hr (by rw [e]; exact pOf_1 s5)), by rw [h.hP2]⟩
theorem SQ.wM {q s : Nat} {M N P Q : eg_H} (h : SQ q s M N P Q) : wM N Q := by
  have o : ∀ k, k ≠ 88 → k ≠ 89 → Q.1 (k, 0) = N.1 (k, 0) := fun k a b => h.hQ _ (kd_ne a) (kd_ne b)
  refine ⟨fun r a b => h.hQ r (fun e => ?_) (fun e => ?_), fun k _ => by rw [o 60 (by omega) (by omega)], ⟨fun k hk => h.h88 k (by omega), fun k hk => h.h89 k (by omega), fun k _ => ?_, fun k _ => ?_, fun k _ => ?_, fun k _ => ?_, fun k _ => ?_, fun k _ => ?_⟩, h.hQ2⟩
  · rw [e] at b
    dsimp only at b
    omega
  · rw [e] at b
    dsimp only at b
    omega
  · rw [o 90 (by omega) (by omega), o 91 (by omega) (by omega), o 92 (by omega) (by omega)]; exact ⟨rfl, rfl, rfl⟩
  · rw [o 93 (by omega) (by omega)]
  · rw [o 94 (by omega) (by omega), o 95 (by omega) (by omega)]; exact ⟨rfl, rfl⟩
  · rw [o 96 (by omega) (by omega), o 97 (by omega) (by omega)]; exact ⟨rfl, rfl⟩
  · rw [o 98 (by omega) (by omega)]
  · rw [o 99 (by omega) (by omega), o 100 (by omega) (by omega), o 101 (by omega) (by omega)]; exact ⟨rfl, rfl, rfl⟩
theorem SQ.c {q s : Nat} {M N P Q : eg_H} (h : SQ q s M N P Q) (k : Nat) (x : Int32) : SQ q s M N (sI P (1, 5 * q + s) k x) Q := ⟨fun r hr => by rw [sI_ne hr]; exact h.hP r hr, h.hP2, h.hQ, h.hQ2, h.h88, h.h89⟩
theorem SQ.m8 {q s : Nat} {M N P Q : eg_H} (h : SQ q s M N P Q) (x : Int32) : SQ q s M N P (sI Q (88, 0) (5 + s) x) := ⟨h.hP, h.hP2, fun r a b => by rw [sI_ne a]; exact h.hQ r a b, h.hQ2, fun k hk => by rw [sI_rr, if_neg hk]; exact h.h88 k hk, fun k hk => by rw [sI_ne (by decide)]; exact h.h89 k hk⟩
theorem SQ.m9 {q s : Nat} {M N P Q : eg_H} (h : SQ q s M N P Q) {k : Nat} (hk : 30 + 6 * s ≤ k) (x : Int32) : SQ q s M N P (sI Q (89, 0) k x) := ⟨h.hP, h.hP2, fun r a b => by rw [sI_ne b]; exact h.hQ r a b, h.hQ2, fun j hj => by rw [sI_ne (by decide)]; exact h.h88 j hj, fun j hj => by rw [sI_rr, if_neg (by omega)]; exact h.h89 j hj⟩
theorem ST3 {q n a a2 s : Nat} {M N M2 N2 P Q : eg_H} (h : RD q n a M N) (hs : N.1 (60, 0) 19 = nI s) (s5 : s < 5) (ha : a < a2) (ht : tA M2 N2 n a2) (fc : fC P M2) (fm : fM Q N2) (sq : SQ q s M N P Q) (pl : plS P q (kp Q) s) : LN q n a M N 1 (sI M2 (5, q) 0 (M2.1 (5, q) 0 + 1)) (sI N2 (60, 0) 19 (N2.1 (60, 0) 19 + 1)) := by
  have h5 : M2.1 (5, q) = M.1 (5, q) := (fc.1 _ (kd_ne (by omega)) (kd_ne (by omega))).trans (sq.hP _ (kd_ne (by omega)))
  have e5 : M.1 (5, q) 0 = nI s := by rw [h.2.2.1.en, kp_60 N (by omega)]; exact hs
  have e19 : N2.1 (60, 0) 19 = nI s := by rw [fm.2.1 19 (by omega), sq.hQ _ (by decide) (by decide)]; exact hs
  have inc : nI s + 1 = nI (s + 1) := (nAl s).2.1
  rw [h5, e5, e19, inc]
  have rN : ∀ k, k ≠ 60 → (sI N2 (60, 0) 19 (nI (s + 1))).1 (k, 0) = Q.1 (k, 0) := fun k hk => (sI_ne (kd_ne hk)).trans (fm.1 _ (kd_ne hk))
  have fN : ∀ k, 11 < k ∨ k < 7 → k ≠ 19 → (sI N2 (60, 0) 19 (nI (s + 1))).1 (60, 0) k = N.1 (60, 0) k := fun k hk h19 => by rw [sI_60, if_neg h19, fm.2.1 k (by omega), sq.hQ _ (by decide) (by decide)]
  have rM : ∀ r, r ≠ (5, q) → r ≠ (9, 0) → r ≠ (6, 0) → (sI M2 (5, q) 0 (nI (s + 1))).1 r = P.1 r := fun r a b c => (sI_ne a).trans (fc.1 r b c)
  have m6 : ∀ k, k ≠ 6 → k ≠ 7 → (sI M2 (5, q) 0 (nI (s + 1))).1 (6, 0) k = M.1 (6, 0) k := fun k a b => by rw [sI_ne (kd_ne (by omega)), fc.2.1 k a b, sq.hP _ (kd_ne (by omega))]
  have wc : wC q M (sI M2 (5, q) 0 (nI (s + 1))) := (sq.wC s5).tr (fc.w.tr (wC.s (Or.inl (pOf_k (by omega)))))
  have wm : wM N (sI N2 (60, 0) 19 (nI (s + 1))) := sq.wM.tr (fm.w.tr (wM.s6 (by omega)))
  refine Or.inl ⟨rfl, ⟨a2, ha, ?_⟩, wc, wm, m6 4 (by omega) (by omega)⟩
  refine h.mk (fun k hk => m6 k (by omega) (by omega)) (fun k hk => ?_) (by rw [wc.2]) (fun k hk => fN k (by omega) (by omega)) ?_ (ht.cong (sI_ne (kd_ne (by omega))) (sI_ne (kd_ne (by omega))) (fun k _ _ => by rw [sI_60, if_neg (by omega)]) (sI_ne (by decide)) (sI_ne (by decide))) ?_ ?_
  · rw [rM _ (kd_ne (by omega)) (kd_ne (by omega)) (kd_ne (by omega)), sq.hP _ (kd_ne (by omega))]
  · rw [rN 98 (by omega), sq.hQ _ (by decide) (by decide)]
  · refine h.2.2.1.addS (s := s) ?_ s5 ?_ (fun k x y => ?_) (fun k hk => ?_) ?_ (fun r hr a b => ?_) (fun k x y => kp_row (show k ≠ 60 by omega) ?_) (fun k hk => ?_) (fun k hk => ?_) ?_
    · rw [kp_60 N (by omega)]; exact hs
    · rw [kp_60 _ (by omega), sI_60, if_pos (by omega)]
    · rw [kp_60 _ (by omega), kp_60 _ (by omega), fN _ (by omega) (by omega)]
    · rw [sI_rr, if_neg hk, h5]
    · rw [sI_rr, if_pos rfl]
    · obtain ⟨u1, u2, _⟩ := pOf_n hr
      rw [rM r a (fun z => u2 (by rw [z])) (fun z => u1 (by rw [z]))]
      exact sq.hP r b
    · rw [rN k (by omega)]
      exact sq.hQ _ (kd_ne (by omega)) (kd_ne (by omega))
    · rw [kp_88, kp_88, rN 88 (by omega)]
      exact sq.h88 _ (by omega)
    · rw [kp_89, kp_89, rN 89 (by omega)]
      exact sq.h89 _ (by omega)
    · refine pl.cong (rM _ (kd_ne (by omega)) (kd_ne (by omega)) (kd_ne (by omega))) ?_ (fun j _ => ?_)
      · rw [kp_88, kp_88, rN 88 (by omega)]
      · rw [kp_89, kp_89, rN 89 (by omega)]
  · rw [m6 5 (by omega) (by omega), fN 26 (by omega) (by omega)]
    exact h.2.2.2.1
theorem isKey_n {N : eg_H} (w : Int32) : fX11_isKey N w = if N.1 (60, 0) 8 = 1 ∧ N.1 (60, 0) 9 = w then 1 else 0 := by
  unfold fX11_isKey
  by_cases c : N.1 (60, 0) 8 = 1
  · by_cases c2 : N.1 (60, 0) 9 = w
    · rw [if_neg (fun z => z c), if_neg (fun z => z c2), if_pos ⟨c, c2⟩]
    · rw [if_neg (fun z => z c), if_pos c2, if_neg (fun z => c2 z.2)]
  · rw [if_pos c, if_neg (fun z => c z.1)]
theorem prm_inj : ∀ t, t < 24 → ∀ u, u < 24 → prm t = prm u → t = u := by decide +kernel
theorem prm_l : ∀ t, t < 24 → prm t < 24 := by decide +kernel
theorem KEY {M N : eg_H} {n a : Nat} (h : tA M N n a) {w : Nat} (hw : w < 24) : (M.1 (9, 0) 4 = nI w ∧ N.1 (60, 0) 8 = 1 ∧ N.1 (60, 0) 9 = nI (prm w)) ∨ ((¬ M.1 (9, 0) 4 = nI w) ∧ ¬ (N.1 (60, 0) 8 = 1 ∧ N.1 (60, 0) 9 = nI (prm w))) := by
  obtain ⟨t, ek, ht, hc⟩ := tkN h.tk
  have kw := nIq ht w (by omega)
  by_cases c : t = w
  · refine Or.inl ⟨by rw [ek, c], ?_⟩
    rcases hc with z | z | z | z | z | z | z
    · omega
    · rw [← c]; exact z.2
    · omega
    · omega
    · omega
    · omega
    · omega
  · refine Or.inr ⟨fun z => c (kw.mp (ek.symm.trans z)), fun y => ?_⟩
    rcases hc with z | z | z | z | z | z | z
    · exact absurd (z.2.symm.trans y.1) (by decide)
    · have pl := prm_l t z.1
      have pw := prm_l w hw
      have := (nI_eq' (by omega) (by omega)).mp (z.2.2.symm.trans y.2)
      exact c (prm_inj t z.1 w hw this)
    · exact absurd (z.2.1.symm.trans y.1) (by decide)
    · exact absurd (z.2.1.symm.trans y.1) (by decide)
    · exact absurd (z.2.1.symm.trans y.1) (by decide)
    · exact absurd (z.2.2.1.symm.trans y.1) (by decide)
    · exact absurd (z.2.symm.trans y.1) (by decide)
theorem ST2 {q n a a2 s : Nat} {M N M2 N2 P Q : eg_H} (h : RD q n a M N) (hs : N.1 (60, 0) 19 = nI s) (s5 : s < 5) (ha : a < a2) (ht : tA M2 N2 n a2) (fc : fC P M2) (fm : fM Q N2) (sq : SQ q s M N P Q) (pl : plS P q (kp Q) s) : PW 9 4 (fun κ d post => eg_W κ gC mtX6_readStation d (eQI κ gC post) 181 [(0, vR (6, 0)), (1, vR (1, 5 * q + s))] [] M2) (fun κ d post => eg_W κ gM mtX11_stationLine d (eQI κ gM post) 215 [(0, vR (60, 0)), (1, vI (nI (30 + 6 * s)))] [] N2) (LN q n a M N) := by
  obtain ⟨q2, eq⟩ := h.1
  have eqP : P.2.2 (6, 0) 1 = (5, q) := by rw [sq.hP2]; exact eq
  refine PW.c (fun κ d hd post k => vX6_readStation_181 (by omega) M2 (by omega) k) ?_
  refine PW.m (fun κ d hd post k => vX11_stationLine_215 (by omega) N2 _ k) ?_
  refine PW.mh fun x hx => ?_
  rw [isKey_n] at hx
  rcases KEY ht (w := 2) (by omega) with ⟨k1, k2, k3⟩ | ⟨k1, k2⟩
  · rw [if_pos ⟨k2, k3⟩] at hx
    refine PW.cNF k1 (PW.mr (by rw [hx]; decide) (by rw [hx]; decide) ?_)
    refine PW.adv ht (by omega) (by omega) (fun M4 N4 a4 p1 _ p3 _ p5 p6 p7 => ?_)
    have wc : wC q M M4 := (sq.wC s5).tr (fc.tr p1).w
    have wm : wM N N4 := sq.wM.tr (fm.tr p3).w
    refine PW.num p7 (by omega) (by omega) (fun M7 N7 z => Or.inr ⟨rfl, (z q).pre wc wm⟩) (fun M7 N7 a7 v r1 r2 r3 r4 r5 r6 r7 r8 => ?_)
    have fc7 := fc.tr (p1.tr r1)
    have fm7 := fm.tr (p3.tr r2)
    have l1 : (1 : Int32).toInt = 1 := by decide
    have l2 : (3600 : Int32).toInt = 3600 := by decide
    rw [l1] at r7
    rw [l2] at r8
    have i5 : nI (30 + 6 * s) + 5 = nI (35 + 6 * s) := by rw [(nAl _).2.2.2.2.2.1]; congr 1; omega
    rw [r5, r6, i5, nI_t (show 35 + 6 * s < 2147483648 by omega)]
    refine PW.ch fun M10 e10 => PW.cp (M := M10) q2 (by rw [e10]; exact (congrFun (congrFun (congrArg Prod.snd fc7.2.2) _) _).trans eqP) (PW.ch fun M12 e12 => ?_)
    refine PW.mg (nI_in' (by omega) (by omega)) (PW.mh fun N12 f12 => PW.mh fun N13 f13 => PW.e ?_)
    rw [e12, e10, f13, f12]
    refine ST3 h hs s5 (show a < a7 by omega) (r4.cong (sI_ne (kd_ne (by omega))) (sI_ne (kd_ne (by omega))) (fun k _ _ => by rw [sI_ne (by decide)]) (sI_ne (by decide)) (sI_ne (by decide))) (fc7.s (kd_ne (by omega)) (kd_ne (by omega))) (fm7.s (Or.inl (by decide))) ((sq.c 6 v).m9 (by omega) v) ?_
    obtain ⟨c1, c2, c3, c4, c5, c6, c7⟩ := pl
    have n89 : ∀ j, j < 5 → (kp (sI Q (89, 0) (35 + 6 * s) v)).1 (89, 0) (6 * s + j) = (kp Q).1 (89, 0) (6 * s + j) := fun j hj => by rw [kp_89, kp_89, sI_rr, if_neg (by omega)]
    have n0 : (kp (sI Q (89, 0) (35 + 6 * s) v)).1 (89, 0) (6 * s) = (kp Q).1 (89, 0) (6 * s) := n89 0 (by omega)
    have n88 : (kp (sI Q (89, 0) (35 + 6 * s) v)).1 (88, 0) s = (kp Q).1 (88, 0) s := by rw [kp_88, kp_88, sI_ne (by decide)]
    have m1 : ∀ j, j ≠ 6 → (sI P (1, 5 * q + s) 6 v).1 (1, 5 * q + s) j = P.1 (1, 5 * q + s) j := fun j hj => by rw [sI_rr, if_neg hj]
    unfold plS
    rw [n0, n88, n89 1 (by omega), n89 2 (by omega), n89 3 (by omega), n89 4 (by omega), m1 0 (by omega), m1 1 (by omega), m1 2 (by omega), m1 3 (by omega), m1 4 (by omega), m1 5 (by omega)]
    refine ⟨c1, c2, c3, c4, c5, c6, ?_⟩
    have ev : (kp (sI Q (89, 0) (35 + 6 * s) v)).1 (89, 0) (6 * s + 5) = v := by rw [kp_89, sI_rr, if_pos (by omega)]
    have l0 : (0 : Int32).toInt = 0 := by decide
    have pos : ¬ v ≤ 0 := by rw [t_le]; omega
    rw [sI_rr, if_pos rfl, ev, if_neg pos]
  · have hx : x = 0 := hx.trans (if_neg k2)
    refine PW.cNT k1 (PW.cp (M := M2) q2 ((congrFun (congrFun (congrArg Prod.snd fc.2.2) _) _).trans eqP) (PW.ch fun M3 e3 => ?_))
    refine PW.ml hx (by rw [hx]; decide) (PW.mh fun N4 f4 => PW.e ?_)
    rw [e3, f4]
    exact ST3 h hs s5 ha ht fc fm sq pl
