/-! A NEW NAME ON BOTH SIDES; THE LINE OF A STATION -/
theorem sI_rr (M : eg_H) (r : eg_R) (k j : Nat) (x : Int32) : (sI M r k x).1 r j = if j = k then x else M.1 r j := by
  rw [sI_i]
  by_cases c : j = k
  · rw [if_pos ⟨rfl, c⟩, if_pos c]
  · rw [if_neg (fun z => c z.2), if_neg c]
theorem find_r {N : eg_H} {r : eg_R} {o c v : Int32} (g : gX11_find N r o c v) : fX11_find N r o c v = -1 ∨ ((¬ fX11_find N r o c v < 0) ∧ ¬ fX11_find N r o c v = -1) := by
  have hc := vp_lt g.2.1
  by_cases k : fX11_find N r o c v < 0
  · refine Or.inl ?_
    unfold fX11_find at k ⊢
    exact fst1_no _ _ (fst1_m1 _ _ (by omega) k)
  · refine Or.inr ⟨k, ?_⟩
    unfold fX11_find at k ⊢
    obtain ⟨p, e, _, hp, _⟩ := fst1_r _ _ _ k
    rw [e]
    exact nI_ne_m1 (by omega)
theorem find_k {N : eg_H} {r : eg_R} {o c v : Int32} (h : r.1 ≠ 60) (ho : o.toNatClampNeg = kof r.1) : fX11_find (kp N) r 0 c v = fX11_find N r o c v := by
  unfold fX11_find
  refine fst1_cong _ _ (fun j _ _ => ?_)
  have z : (0 : Int32).toNatClampNeg = 0 := rfl
  rw [kp_r N h, ho, z, Nat.zero_add, Nat.add_comm j]
theorem NAME {q n a nl : Nat} {M N : eg_H} {r : eg_R} {l1 o c X : Int32} (ht : tA M N n a) (hq2 : q < 2) (hq : M.2.2 (6, 0) 1 = (5, q)) (hX : (l1 = 0 ∧ X = fX5_stationOf M q (M.1 (9, 0) 6)) ∨ (l1 = 3 ∧ X = fX5_guestOf M q (M.1 (9, 0) 6)) ∨ (l1 = 9 ∧ X = fX5_mayOf M q (M.1 (9, 0) 6))) (g1 : vp_in (M.1 (5, q) 0) 6) (g2 : vp_in (M.1 (5, q) 2) 10) (g3 : vp_in (M.1 (5, q) 7) 5) (hF : X = fX11_find N r o c (M.1 (9, 0) 6)) (gf : gX11_find N r o c (M.1 (9, 0) 6)) (hl1 : r ∈ gM.1 ∧ gM.2.1 r = (1, nl)) (hv : vp_in (o + c) nl) (hr : r ≠ (60, 0) ∧ r ≠ (61, 0) ∧ r ≠ (64, 0)) : PI mtX6_readNewName mtX11_newName [vR (6, 0), vI l1] [vR (60, 0), vR r, vI o, vI c] 8 3 M N (fun x M1 N1 => (x = 1 ∧ ∃ a1 v, a < a1 ∧ tA M1 N1 n a1 ∧ fC M M1 ∧ fM (sI N r (o + c).toNatClampNeg v) N1 ∧ M1.1 (6, 0) 7 = v) ∨ (x = 0 ∧ ∀ q, FL q M N M1 N1)) := by
  obtain ⟨t, ek, ht40, hc⟩ := tkN ht.tk
  have k38 := nIq ht40 38 (by omega)
  refine PI.w ?_
  by_cases z : t = 38
  · have hkd : N.1 (60, 0) 8 = 2 ∧ N.1 (60, 0) 9 = M.1 (9, 0) 6 := by
      rcases hc with z | z | z | z | z | z | z
      · omega
      · omega
      · exact ⟨z.2.1, z.2.2⟩
      · omega
      · omega
      · omega
      · omega
    have e38 : M.1 (9, 0) 4 = 38 := by rw [ek, z]; rfl
    have tS : tA (sI M (6, 0) 7 (M.1 (9, 0) 6)) N n a := ht.cong (sI_ne (by decide)) (sI_ne (by decide)) (fun _ _ _ => rfl) rfl rfl
    refine PW.c (fun κ d hd post k => nm_c (by omega) hq2 hq e38 hX g1 g2 g3 (vX6_readNewName_77 (by omega) _ _ k)) ?_
    refine PW.m (fun κ d hd post k => eg_S.of rfl (Nat.le_of_ble_eq_true rfl) (vX11_newName_0 (by omega) N hl1 o c k)) ?_
    refine PW.mT hkd.1 ?_
    rw [hkd.2]
    refine PW.mg gf (PW.mh fun x hx => ?_)
    rw [← hF] at hx
    rcases find_r gf with y | ⟨y1, y2⟩
    · rw [← hF] at y
      refine PW.cT y (PW.mT (by rw [hx, y]; decide) (PW.mg hv (PW.mh fun N7 e7 => ?_)))
      have tB : tA (sI M (6, 0) 7 (M.1 (9, 0) 6)) N7 n a := by
        rw [e7]
        exact tS.cong rfl rfl (fun k _ _ => by rw [sI_ne (Ne.symm hr.1)]) (sI_ne (Ne.symm hr.2.1)) (sI_ne (Ne.symm hr.2.2))
      refine PW.adv tB (by omega) (by omega) (fun M1 N1 a1 p1 p2 p3 p4 p5 p6 p7 => PW.e (Or.inl ⟨rfl, a1, M.1 (9, 0) 6, p6 ?_, p7, ((fC.rf M).s6 (Or.inr rfl)).tr p1, ?_, ?_⟩))
      · rw [sI_ne (by decide), e38]; decide
      · rw [← e7]; exact p3
      · rw [p2, sI_i, if_pos ⟨rfl, rfl⟩]
    · rw [← hF] at y1 y2
      refine PW.cF y2 (PW.mF (by rw [hx]; exact y1) (PW.ref (Or.inr ⟨rfl, fun q => ?_⟩)))
      exact FL.pre (fC.w ((fC.rf M).s6 (Or.inr rfl))) (wM.rf N) (FL_mk q tS 3 (by decide))
  · have n38 : ¬ M.1 (9, 0) 4 = 38 := fun y => z (k38.mp (ek.symm.trans y))
    have nkd : ¬ N.1 (60, 0) 8 = 2 := by
      rcases hc with y | y | y | y | y | y | y
      · rw [y.2]; decide
      · rw [y.2.1]; decide
      · exact absurd y.1 z
      · rw [y.2.1]; decide
      · rw [y.2.1]; decide
      · rw [y.2.2.1]; decide
      · rw [y.2]; decide
    refine PW.c (fun κ d hd post k => eg_S.of rfl (Nat.le_of_ble_eq_true rfl) (vX6_readNewName_0 (by omega) M l1 k)) ?_
    refine PW.m (fun κ d hd post k => eg_S.of rfl (Nat.le_of_ble_eq_true rfl) (vX11_newName_0 (by omega) N hl1 o c k)) ?_
    exact PW.cF n38 (PW.mF nkd (PW.ref (Or.inr ⟨rfl, fun q => FL_mk q ht 1 (by decide)⟩)))
/-- where a row's second half begins -/
def hfO (r : Nat) : Nat := if r = 88 then 5 else if r = 89 then 30 else if r = 90 ∨ r = 91 ∨ r = 92 then 9 else if r = 93 then 45 else if r = 94 ∨ r = 95 then 4 else if r = 96 ∨ r = 97 then 7 else if r = 98 then 3 else if r = 99 ∨ r = 100 ∨ r = 101 then 64 else 0
theorem hfO_s {N : eg_H} {r j k i : Nat} {x : Int32} (hk : hfO r ≤ k) (hi : j = r → i < hfO r) : (sI N (r, 0) k x).1 (j, 0) i = N.1 (j, 0) i := by
  rw [sI_i, if_neg]
  rintro ⟨z1, z2⟩
  have : j = r := congrArg Prod.fst z1
  have := hi this
  omega
theorem wM.s {N : eg_H} {r k : Nat} {x : Int32} (hr : 88 ≤ r ∧ r ≤ 103) (hk : hfO r ≤ k) : wM N (sI N (r, 0) k x) := by
  refine ⟨fun z a b => sI_ne (fun e => ?_), fun j _ => by rw [sI_ne (kd_ne (by omega))], ⟨fun i hi => hfO_s hk (fun e => ?_), fun i hi => hfO_s hk (fun e => ?_), fun i hi => ⟨hfO_s hk (fun e => ?_), hfO_s hk (fun e => ?_), hfO_s hk (fun e => ?_)⟩, fun i hi => hfO_s hk (fun e => ?_), fun i hi => ⟨hfO_s hk (fun e => ?_), hfO_s hk (fun e => ?_)⟩, fun i hi => ⟨hfO_s hk (fun e => ?_), hfO_s hk (fun e => ?_)⟩, fun i hi => hfO_s hk (fun e => ?_), fun i hi => ⟨hfO_s hk (fun e => ?_), hfO_s hk (fun e => ?_), hfO_s hk (fun e => ?_)⟩⟩, rfl⟩
  · rw [e] at b
    dsimp only at b
    omega
  all_goals
    rw [← e]
    unfold hfO
    simp only [reduceIte, Nat.reduceEqDiff, or_true, true_or, or_false, false_or]
    omega
theorem wM.s6 {N : eg_H} {k : Nat} {x : Int32} (hk : (4 ≤ k ∧ k ≤ 11) ∨ (19 ≤ k ∧ k ≤ 26) ∨ (43 ≤ k ∧ k ≤ 48)) : wM N (sI N (60, 0) k x) :=
  ⟨fun z a _ => sI_ne (fun e => a (by rw [e])), fun j h => by rw [sI_60, if_neg (by omega)], hlf.rf (fun j _ _ => sI_ne (kd_ne (by omega))), rfl⟩
