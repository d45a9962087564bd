/-! LAW -/
def StL (mc mm : eg_M) (av : List eg_V) (M N : eg_H) (C : Nat) : Prop := ∃ (r : Int64) (P Q : eg_H → Prop), (∀ κ, eg_S κ gC mc 12 (vR (10, 0) :: av) M (eQL κ gC (fun r' M1 => r' = r ∧ P M1))) ∧ (∀ κ, eg_S κ gM mm 12 (vR (60, 0) :: av) N (eQL κ gM (fun r' N1 => r' = r ∧ Q N1))) ∧ ∀ M1 N1, P M1 → Q N1 → ∃ p', JJ M1 N1 (C + 60) p'
theorem StL.q {mc mm : eg_M} {av : List eg_V} {M N : eg_H} {C p : Nat} (h : JJ M N C p) (r : Int64) (hc : ∀ κ, eg_S κ gC mc 12 (vR (10, 0) :: av) M (eQL κ gC (fun r' M1 => r' = r ∧ FrQ p M M1))) (hm : ∀ κ, eg_S κ gM mm 12 (vR (60, 0) :: av) N (eQL κ gM (fun r' N1 => r' = r ∧ FrN N N1))) : StL mc mm av M N C :=
  ⟨r, _, _, hc, hm, fun _ _ hP hQ => ⟨p, (h.cong hP hQ).mono (by omega)⟩⟩
theorem setName_k (M : eg_H) (p k : Nat) (hk : k < 8) (x : Int64) : gX3_setName M p (nI (16 + k)) x ∧ fX3_setName M p (nI (16 + k)) x = sL M (26, p) k x := by
  have e : nI (16 + k) - 16 = nI k := by
    rw [Nat.add_comm, ← nI_add]
    exact Int32.add_sub_cancel _ _
  unfold gX3_setName fX3_setName
  rw [e, nI_t (by omega)]
  refine ⟨fun _ _ => nI_in' hk (by omega), ?_⟩
  have c1 : ¬ nI (16 + k) < 16 := fun q => absurd ((nI_lt' (b := 16) (by omega) (by omega)).mp q) (by omega)
  have c2 : ¬ (23 : Int32) < nI (16 + k) := fun q => absurd ((nI_lt' (a := 23) (by omega) (by omega)).mp q) (by omega)
  rw [if_neg c1, if_neg c2]
/-- the eight names asked for -/
def nm8 (f : Nat → Int64) (a b c e : Int64) : Nat → Int64 := vp_updL (vp_updL (vp_updL (vp_updL (vp_updL (vp_updL (vp_updL (vp_updL f 0 a) 1 b) 2 c) 3 0) 4 e) 5 0) 6 b) 7 0
theorem nm8_j (f g : Nat → Int64) (a b c e : Int64) {j : Nat} (hj : j < 8) : nm8 f a b c e j = nm8 g a b c e j := by
  have : j = 0 ∨ j = 1 ∨ j = 2 ∨ j = 3 ∨ j = 4 ∨ j = 5 ∨ j = 6 ∨ j = 7 := by omega
  rcases this with z | z | z | z | z | z | z | z <;> rw [z] <;> rfl
theorem nm8_i (f : Nat → Int64) (a b c e : Int32) : iN (nm8 f a.toInt64 b.toInt64 c.toInt64 e.toInt64) := by
  intro j hj
  have : j = 0 ∨ j = 1 ∨ j = 2 ∨ j = 3 ∨ j = 4 ∨ j = 5 ∨ j = 6 ∨ j = 7 := by omega
  rcases this with z | z | z | z | z | z | z | z <;> rw [z]
  · exact ⟨a, rfl⟩
  · exact ⟨b, rfl⟩
  · exact ⟨c, rfl⟩
  · exact ⟨0, rfl⟩
  · exact ⟨e, rfl⟩
  · exact ⟨0, rfl⟩
  · exact ⟨b, rfl⟩
  · exact ⟨0, rfl⟩
def sL8 (M : eg_H) (r : eg_R) (a b c e : Int64) : eg_H := sL (sL (sL (sL (sL (sL (sL (sL M r 0 a) r 1 b) r 2 c) r 3 0) r 4 e) r 5 0) r 6 b) r 7 0
theorem sL_u (M : eg_H) (r : eg_R) (k : Nat) (x : Int64) : (sL M r k x).2.1 r = vp_updL (M.2.1 r) k x := by
  funext j
  show (if r = r ∧ j = k then x else M.2.1 r j) = vp_updL (M.2.1 r) k x j
  unfold vp_updL
  by_cases c : j = k
  · rw [if_pos ⟨rfl, c⟩, if_pos c]
  · rw [if_neg (fun q => c q.2), if_neg c]
theorem sL8_n (M : eg_H) (r : eg_R) (a b c e : Int64) : (sL8 M r a b c e).2.1 r = nm8 (M.2.1 r) a b c e := by
  unfold sL8 nm8
  rw [sL_u, sL_u, sL_u, sL_u, sL_u, sL_u, sL_u, sL_u]
theorem isNamed_n (M : eg_H) (x : Int32) : (fX10_isNamed M x = 0 ∧ ¬ vp_in x 10000) ∨ (fX10_isNamed M x = 1 ∧ vp_in x 10000) := by
  have i : (9999 : Int32).toInt = 9999 := by decide
  unfold fX10_isNamed
  by_cases c1 : x < 0
  · rw [if_pos c1]; rw [t_lt, t_0] at c1; exact Or.inl ⟨rfl, fun q => by have := t_in.mp q; omega⟩
  · rw [if_neg c1]
    rw [t_lt, t_0] at c1
    by_cases c2 : (9999 : Int32) < x
    · rw [if_pos c2]; rw [t_lt] at c2; exact Or.inl ⟨rfl, fun q => by have := t_in.mp q; omega⟩
    · rw [if_neg c2]; rw [t_lt] at c2; exact Or.inr ⟨rfl, t_in.mpr (by omega)⟩
theorem isIn_9 (M : eg_H) (x : Int32) : (fX11_isIn M x 0 9999 = 0 ∧ ¬ vp_in x 10000) ∨ (fX11_isIn M x 0 9999 = 1 ∧ vp_in x 10000) := by
  have i : (9999 : Int32).toInt = 9999 := by decide
  rcases isIn_n M x 0 9999 with z | z
  · rw [t_0, i] at z; exact Or.inl ⟨z.1, fun q => by have := t_in.mp q; omega⟩
  · rw [t_0, i] at z; exact Or.inr ⟨z.1, t_in.mpr (by omega)⟩
theorem st_law {M N : eg_H} {C p : Nat} (h : JJ M N C p) (x a b c e : Int32) : StL mtX10_law mtX11_law [vI x, vI a, vI b, vI c, vI e] M N C := by
  have F0 : FrN N (t0 N) := FrN_f N (by omega) 0
  have hp := h.hp
  have pl0 : PL M p (t0 N) := h.1.2.1.cong (fun _ _ => rfl) F0.T
  have i2 : (2 : Int32).toInt = 2 := by decide
  have i3 : (3 : Int32).toInt = 3 := by decide
  have no : ∀ κ, eg_W κ gM mtX11_law 12 (eQL κ gM (fun r' N1 => r' = -9223372036854775808 ∧ FrN N N1)) 69 [] [] (t0 N) := fun κ => vX11_law_69 _ ⟨rfl, F0⟩
  by_cases z : vp_in x 3 ∧ vp_in a 10000 ∧ vp_in b 10000 ∧ vp_in c 10000 ∧ vp_in e 10000
  · obtain ⟨zx, za, zb, zc, ze⟩ := z
    have zx' := t_in.mp zx
    obtain ⟨ex, hl⟩ := nI_of' zx (by omega)
    generalize x.toNatClampNeg = l at ex hl
    have el : x.toNatClampNeg = l := by rw [ex]; exact nI_t (by omega)
    have gv : gvC M p (M.1 (35, p) l) := h.1.2.1.cW.2.2.2.1 l hl
    have cN9 : ∀ y, vp_in y 10000 → fX10_isNamed M y = 1 := fun y hy => by
      rcases isNamed_n M y with w | w
      · exact absurd hy w.2
      · exact w.1
    have mN9 : ∀ y, vp_in y 10000 → fX11_isIn (t0 N) y 0 9999 = 1 := fun y hy => by
      rcases isIn_9 (t0 N) y with w | w
      · exact absurd hy w.2
      · exact w.1
    refine StL.q h (valC M p (nm8 (M.2.1 (26, p)) a.toInt64 b.toInt64 c.toInt64 e.toInt64) (M.1 (35, p) l)) (fun κ => ?_) (fun κ => ?_)
    · refine eg_S.of rfl (Nat.le_of_ble_eq_true rfl) (vX10_law_0 (by omega) M _ _ _ _ _ (fun x2 e2 => ⟨fun q => absurd (q.symm.trans (e2.trans (cN9 a za))) (by decide), fun _ x5 e5 => ⟨fun q => absurd (q.symm.trans (e5.trans (cN9 b zb))) (by decide), fun _ x8 e8 => ⟨fun q => absurd (q.symm.trans (e8.trans (cN9 c zc))) (by decide), fun _ x11 e11 x12 e12 => ⟨fun q => ?_, fun _ => ⟨fun q => ?_, fun _ => ⟨fun _ => ⟨p, hp.2.1, hp.1.1, ?_⟩, fun q => ?_⟩⟩⟩⟩⟩⟩))
      · rw [t_lt, t_0] at q; omega
      · rw [t_le] at q; omega
      · obtain ⟨g0, s0⟩ := setName_k M p 0 (by omega) a.toInt64
        refine ⟨g0, fun M18 e18 => ?_⟩
        have e18 := e18.trans s0
        obtain ⟨g1, s1⟩ := setName_k M18 p 1 (by omega) b.toInt64
        refine ⟨g1, fun M21 e21 => ?_⟩
        have e21 := e21.trans s1
        obtain ⟨g2, s2⟩ := setName_k M21 p 2 (by omega) c.toInt64
        refine ⟨g2, fun M24 e24 => ?_⟩
        have e24 := e24.trans s2
        obtain ⟨g3, s3⟩ := setName_k M24 p 3 (by omega) 0
        refine ⟨g3, fun M27 e27 => ?_⟩
        have e27 := e27.trans s3
        obtain ⟨g4, s4⟩ := setName_k M27 p 4 (by omega) e.toInt64
        refine ⟨g4, fun M30 e30 => ?_⟩
        have e30 := e30.trans s4
        obtain ⟨g5, s5⟩ := setName_k M30 p 5 (by omega) 0
        refine ⟨g5, fun M33 e33 => ?_⟩
        have e33 := e33.trans s5
        obtain ⟨g6, s6⟩ := setName_k M33 p 6 (by omega) b.toInt64
        refine ⟨g6, fun M36 e36 => ?_⟩
        have e36 := e36.trans s6
        obtain ⟨g7, s7⟩ := setName_k M36 p 7 (by omega) 0
        refine ⟨g7, fun M39 e39 => ?_⟩
        have e39 := e39.trans s7
        have eM : M39 = sL8 M (26, p) a.toInt64 b.toInt64 c.toInt64 e.toInt64 := by
          rw [e39, e36, e33, e30, e27, e24, e21, e18]; rfl
        rw [eM]
        refine ⟨p, hp.2.1, hp.1.1, zx, ?_⟩
        rw [el]
        have gv' : gvC (sL8 M (26, p) a.toInt64 b.toInt64 c.toInt64 e.toInt64) p (M.1 (35, p) l) := gv
        refine ⟨_, sX3_value (by omega) _ hp.2.1 _ gv', fun x43 M44 ⟨e43, st, e44⟩ => ⟨?_, ?_⟩⟩
        · rw [e43, sL8_n]; rfl
        · rw [e44]; exact ⟨fun _ _ _ _ _ _ => rfl, fun _ _ _ => rfl⟩
      · rw [e11, cN9 e ze, if_neg (by decide)] at e12
        exact absurd (e12.symm.trans q) (by decide)
    · refine eg_S.of rfl (Nat.le_of_ble_eq_true rfl) (vX11_law_0 (by omega) N _ _ _ _ _ (fun M1 e1 x3 e3 => ?_))
      have e1 : M1 = t0 N := e1
      rw [e1] at e3 ⊢
      have hx3 : fX11_isIn (t0 N) x 0 2 = 1 := by
        rcases isIn_n (t0 N) x 0 2 with w | w
        · rw [t_0, i2] at w; omega
        · exact w.1
      refine ⟨fun q => absurd (q.symm.trans (e3.trans hx3)) (by decide), fun _ => ⟨by rw [ex]; exact nI_in' (by omega) (by omega), fun q98 => ?_, fun q98 x8 e8 => ⟨fun q => absurd (q.symm.trans (e8.trans (mN9 a za))) (by decide), fun _ x11 e11 => ⟨fun q => absurd (q.symm.trans (e11.trans (mN9 b zb))) (by decide), fun _ x14 e14 => ⟨fun q => absurd (q.symm.trans (e14.trans (mN9 c zc))) (by decide), fun _ x17 e17 => ⟨fun _ => ?_, fun q => absurd (q.symm.trans (e17.trans (mN9 e ze))) (by decide)⟩⟩⟩⟩⟩⟩
      · rw [el] at q98
        rcases pl0.l hl with w | w
        · have ev : valC M p (nm8 (M.2.1 (26, p)) a.toInt64 b.toInt64 c.toInt64 e.toInt64) (M.1 (35, p) l) = -9223372036854775808 := by
            unfold valC
            rw [w.1, if_pos (Or.inl (by decide))]
          rw [ev]
          exact no κ
        · exact absurd q98 w.1
      · rw [el] at q98
        rcases pl0.l hl with w | w
        · exact absurd w.2 q98
        · have lr := w.2
          refine ⟨nI_in' (n := 0) (by omega) (by omega), fun M20 e20 => ⟨nI_in' (n := 1) (by omega) (by omega), fun M22 e22 => ⟨nI_in' (n := 2) (by omega) (by omega), fun M24 e24 => ⟨nI_in' (n := 3) (by omega) (by omega), fun M26 e26 => ⟨nI_in' (n := 4) (by omega) (by omega), fun M28 e28 => ⟨nI_in' (n := 5) (by omega) (by omega), fun M30 e30 => ⟨nI_in' (n := 6) (by omega) (by omega), fun M32 e32 => ⟨nI_in' (n := 7) (by omega) (by omega), fun M34 e34 => ?_⟩⟩⟩⟩⟩⟩⟩⟩
          have eM : M34 = sL8 (t0 N) (127, 0) a.toInt64 b.toInt64 c.toInt64 e.toInt64 := by
            rw [e34, e32, e30, e28, e26, e24, e22, e20]; rfl
          obtain ⟨Q, hQ⟩ : ∃ Q, Q = sL8 (t0 N) (127, 0) a.toInt64 b.toInt64 c.toInt64 e.toInt64 := ⟨_, rfl⟩
          rw [eM, ← hQ]
          have q1 : Q.1 = (t0 N).1 := by rw [hQ]; rfl
          have qn : Q.2.1 (127, 0) = nm8 ((t0 N).2.1 (127, 0)) a.toInt64 b.toInt64 c.toInt64 e.toInt64 := by rw [hQ, sL8_n]
          have lrQ : LR M p (M.1 (35, p) l) Q l := by
            unfold LR
            rw [q1]
            exact lr
          have val := lrQ.val (nm8_i (M.2.1 (26, p)) a b c e)
          obtain ⟨u, s, t, k1, hu, hw, hst, ht, k3, k4, k5, k6, hs⟩ := lrQ
          have ks := skF_KS (by omega) hs
          rw [show s + (t - s) = t by omega] at ks
          have es : (Q.1 (96, 0) l).toNatClampNeg = s := by rw [k5]; exact nI_t (by omega)
          have et : (Q.1 (97, 0) l).toNatClampNeg = t := by rw [k6]; exact nI_t (by omega)
          have gs : gX11_sumOf Q x := by
            unfold gX11_sumOf
            rw [el, es, et, k5, k6]
            exact ⟨by rw [ex]; exact nI_in' (by omega) (by omega), nI_in' (by omega) (by omega), nI_in' (by omega) (by omega), hst, fun i h1 h2 => ks.w i h1 h2⟩
          refine ⟨gs, fun x37 M36 e36 x38 e38 => ?_⟩
          unfold fX11_sumOf at e36
          dsimp only at e36
          rw [el, es, et] at e36
          rw [es, et] at val
          obtain ⟨e6, e7⟩ := Prod.mk.inj e36
          have cg := smV_cong ks (nm := Q.2.1 (127, 0)) (nm' := nm8 (M.2.1 (26, p)) a.toInt64 b.toInt64 c.toInt64 e.toInt64) (v := Q.2.1 (128, 0)) (v' := nm0) (fun j hj => by rw [qn]; exact nm8_j _ _ _ _ _ _ hj) (t - s) (by omega)
          have c1 : (smM Q s (t - s)).2 = _ := cg.1
          have c2 : (smM Q s (t - s)).1 (t - 1) = _ := cg.2 _ (by omega) (by omega)
          rw [e7, (sVE_o Q _).2.2.2.2.2.1, e6, c1, c2] at e38
          refine ⟨?_, ?_⟩
          · rw [e38]
            by_cases hz : (smV (Q.1 (99, 0)) (Q.1 (100, 0)) (Q.1 (101, 0)) (nm8 (M.2.1 (26, p)) a.toInt64 b.toInt64 c.toInt64 e.toInt64) nm0 s (t - s)).2 = 0
            · rw [if_pos hz] at val ⊢
              rw [if_pos hz]
              by_cases hm : valC M p (nm8 (M.2.1 (26, p)) a.toInt64 b.toInt64 c.toInt64 e.toInt64) (M.1 (35, p) l) = mnL
              · rw [if_pos hm] at val; exact nomatch val
              · rw [if_neg hm] at val; exact (Option.some.inj val).symm
            · rw [if_neg hz] at val ⊢
              by_cases hm : valC M p (nm8 (M.2.1 (26, p)) a.toInt64 b.toInt64 c.toInt64 e.toInt64) (M.1 (35, p) l) = mnL
              · rw [hm]
              · rw [if_neg hm] at val; exact nomatch val
          · rw [e7]
            have f68 : FrN N (sI (t0 N) (60, 0) 68 (smM Q s (t - s)).2) := F0.tr (FrN_f (t0 N) (k := 68) (by omega) _)
            have f1 : (sVE Q (smM Q s (t - s))).1 = (sI (t0 N) (60, 0) 68 (smM Q s (t - s)).2).1 := by
              funext r j
              show (if r = (60, 0) ∧ j = 68 then _ else Q.1 r j) = (if r = (60, 0) ∧ j = 68 then _ else (t0 N).1 r j)
              rw [q1]
            unfold FrN
            rw [f1]
            exact f68
  · refine StL.q h (-9223372036854775808) (fun κ => ?_) (fun κ => ?_)
    · have n34 : eg_W κ gC mtX10_law 12 (eQL κ gC (fun r' M1 => r' = -9223372036854775808 ∧ FrQ p M M1)) 34 [(0, vR (10, 0)), (1, vI x), (2, vI a), (3, vI b), (4, vI c), (5, vI e)] [] M := vX10_law_34 (by omega) M _ _ _ _ _ ⟨fun _ => ⟨rfl, FrQ.rf p M⟩, fun _ => ⟨fun _ => ⟨rfl, FrQ.rf p M⟩, fun _ => ⟨fun q => absurd rfl q, fun _ => ⟨rfl, FrQ.rf p M⟩⟩⟩⟩
      refine eg_S.of rfl (Nat.le_of_ble_eq_true rfl) (vX10_law_0 (by omega) M _ _ _ _ _ (fun x2 e2 => ⟨fun _ => n34, fun q2 x5 e5 => ⟨fun _ => n34, fun q5 x8 e8 => ⟨fun _ => n34, fun q8 x11 e11 x12 e12 => ⟨fun _ => ⟨rfl, FrQ.rf p M⟩, fun qa => ⟨fun _ => ⟨rfl, FrQ.rf p M⟩, fun qb => ⟨fun q12 => ?_, fun _ => ⟨rfl, FrQ.rf p M⟩⟩⟩⟩⟩⟩⟩))
      exfalso
      rw [t_lt, t_0] at qa
      rw [t_le, i3] at qb
      have k : ∀ y, ¬ fX10_isNamed M y = 0 → vp_in y 10000 := fun y q => by
        rcases isNamed_n M y with w | w
        · exact absurd w.1 q
        · exact w.2
      refine z ⟨t_in.mpr (by omega), k a (fun q => q2 (e2.trans q)), k b (fun q => q5 (e5.trans q)), k c (fun q => q8 (e8.trans q)), k e (fun q => q12 ?_)⟩
      rw [e12, e11, if_pos q]
    · refine eg_S.of rfl (Nat.le_of_ble_eq_true rfl) (vX11_law_0 (by omega) N _ _ _ _ _ (fun M1 e1 x3 e3 => ?_))
      have e1 : M1 = t0 N := e1
      rw [e1] at e3 ⊢
      refine ⟨fun _ => no κ, fun q3 => ?_⟩
      have hx : vp_in x 3 := by
        rcases isIn_n (t0 N) x 0 2 with w | w
        · exact absurd (e3.trans w.1) q3
        · rw [t_0, i2] at w; exact t_in.mpr (by omega)
      have hx6 : vp_in x 6 := by rw [t_in] at hx ⊢; omega
      have k : ∀ y, ¬ fX11_isIn (t0 N) y 0 9999 = 0 → vp_in y 10000 := fun y q => by
        rcases isIn_9 (t0 N) y with w | w
        · exact absurd w.1 q
        · exact w.2
      refine ⟨hx6, fun _ => no κ, fun _ x8 e8 => ⟨fun _ => no κ, fun q8 x11 e11 => ⟨fun _ => no κ, fun q11 x14 e14 => ⟨fun _ => no κ, fun q14 x17 e17 => ⟨fun q17 => ?_, fun _ => no κ⟩⟩⟩⟩⟩
      exact absurd ⟨hx, k a (fun q => q8 (e8.trans q)), k b (fun q => q11 (e11.trans q)), k c (fun q => q14 (e14.trans q)), k e (fun q => q17 (e17.trans q))⟩ z
