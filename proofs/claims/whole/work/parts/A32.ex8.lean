/-! EXPRESSIONS: both sides read one alike -/
theorem BEHIND {q n a at0 k b : Nat} {M N : eg_H} {L l : List Nat} {Y : Int32} (q2 : q < 2) (xp : XP q a M N L l k b 0 Y) (ht : tA M N n at0) : PW 9 4 (KcS mtX6_readBehindValue M) (fun κ d post => eg_S κ gM mtX11_signs d [vR (60, 0)] N (eQI κ gM post)) (XR q n a at0 M N) := by
  have P := xp
  obtain ⟨p1, p2, p3, ⟨b1, b2, b3, b4⟩, p5, p6, p7, p8⟩ := xp
  have hl : l.length = bin L + 1 := by
    rcases p8 with z | z
    · exact absurd z.1 (by decide)
    · exact z.2
  have lv := p1.1.2.2.2
  obtain ⟨t, ek, ht40, _⟩ := tK ht
  refine KcS.i (fun κ d hd post z => eg_S.of rfl (Nat.le_of_ble_eq_true rfl) (vX6_readBehindValue_0 (by omega) M z)) ?_
  refine PW.m (fun κ d hd post z => eg_S.of rfl (Nat.le_of_ble_eq_true rfl) (vX11_signs_0 (by omega) N z)) ?_
  refine PW.ch fun x1 hx1 => PW.mh fun x2 hx2 => ?_
  have le0 : nI (lev L) ≤ (0 : Int32) ↔ lev L ≤ 0 := nI_le' (b := 0) (by omega) (by omega)
  have tail := BEH2 q2 P ht ek ht40
  rcases SGN ht (w := 35) (by omega) with ⟨g1, g2⟩ | ⟨g1, g2⟩
  · have x2e : x2 = 1 := hx2.trans g2
    have x1e : x1 = 35 := hx1.trans g1
    refine PW.cNF x1e (PW.mr (by rw [x2e]; decide) (by rw [x2e]; decide) ?_)
    rw [p3.1, p3.2, hx1.trans ek]
    by_cases c0 : lev L ≤ 0
    · exact PW.cT (le0.mpr c0) (PW.mT (le0.mpr c0) tail)
    · have n0 : ¬ nI (lev L) ≤ (0 : Int32) := fun y => c0 (le0.mp y)
      refine PW.cF n0 (PW.mF n0 (PW.cv1 (RELV (rc := 1) (rm := 1) q2 (by omega) (by omega) p2 p1 hl (agr_rf 1 L)) (by omega) (by omega) ?_))
      rintro M1 N1 ⟨l1, k1, r3, r4, r5, r6, r7, r8⟩
      obtain ⟨L', hD⟩ := drp_1 (L := L) (by omega) (fun t ht0 h0 => ((rk_m0 t (vsb_l (stk_v p1.1.2.2.1 t ht0)) (stk_v p1.1.2.2.1 t ht0)).2.2.2.2.1).mp h0)
      have hlen := r3.len
      have l0 : lev L' + 1 = lev L := by
        have := drp_lev (r := 1) (by omega) L
        rw [hD] at this
        exact this
      have e10 : M1.1 (6, 0) 10 = nI (L'.length + 1) := by
        have := r3.1.1
        rw [hD] at this
        exact this
      have e43 : N1.1 (60, 0) 43 = nI (L'.length + 1) := by
        have := r3.1.2.1
        rw [hD] at this
        exact this
      rw [hD] at hlen
      have ln : (34 :: L').length = L'.length + 1 := rfl
      refine PW.ch fun x6 e6 => PW.ch fun M7 e7 => PW.ch fun M8 e8 => PW.mh fun N7 f7 => PW.mh fun N8 f8 => ?_
      have x6e : x6 = nI L'.length := by
        rw [e6, e10, if_neg]
        · exact nI_p _
        · intro y
          have := (nI_le' (b := 0) (by omega) (by omega)).mp y
          omega
      rw [x6e] at e7
      have i11 : M7.1 (6, 0) 11 - 1 = nI (lev L') := by
        rw [e7, sI_rr, if_neg (by omega), r7.2.2.2.1 11 (by omega), p3.1, ← l0]
        exact nI_p _
      rw [i11] at e8
      have f7' : N7 = sI N1 (60, 0) 43 (nI L'.length) := by
        rw [f7, e43]
        rw [nI_p]
      have i45 : N7.1 (60, 0) 45 - 1 = nI (lev L') := by
        rw [f7', sI_60, if_neg (by omega), r8.2.2.1 45 (by omega) (by omega) (by omega), p3.2, ← l0]
        exact nI_p _
      rw [i45] at f8
      have xs := x_close P hD r3 r4 r5 r7 r8
      rw [← e7, ← e8, ← f7', ← f8] at xs
      have ak := p1.2.1.2.2.1
      have oM : ∀ r, r ≠ (6, 0) → M8.1 r = M1.1 r := fun r hr => by rw [e8, sI_ne hr, e7, sI_ne hr]
      have oN : ∀ r, r ≠ (60, 0) → N8.1 r = N1.1 r := fun r hr => by rw [f8, sI_ne hr, f7', sI_ne hr]
      have m9 : M8.1 (9, 0) = M.1 (9, 0) := by rw [oM _ (by decide), r7.1 _ (by decide) (kd_ne (by omega)) (kd_ne (by omega))]
      refine KcS.ok (Nat.le_refl _) (ht.cong m9 ?_ (fun j x y => ?_) ?_ ?_) (by rw [m9, g1]; decide) xs ?_ ?_
      · rw [oM _ (by decide), r7.1 _ (by decide) (kd_ne (by omega)) (kd_ne (by omega))]
      · rw [f8, sI_60, if_neg (by omega), f7', sI_60, if_neg (by omega), r8.2.2.1 j (by omega) (by omega) (by omega)]
      · rw [oN _ (by decide), r8.1 _ (by decide) (by decide)]
      · rw [oN _ (by decide), r8.1 _ (by decide) (by decide)]
      · rw [e8, e7]
        exact (r7.x ak).tr ((xC.s6 (by omega)).tr (xC.s6 (by omega)))
      · rw [f8, f7']
        exact (r8.x ak).tr ((xM.s6 (by omega)).tr (xM.s6 (by omega)))
  · have x2e : x2 = 0 := hx2.trans g2
    refine PW.cNT (fun y => g1 (hx1.symm.trans y)) (PW.ml x2e (by rw [x2e]; decide) ?_)
    rw [hx1.trans ek]
    exact tail
theorem KcS.use {mt : eg_M} {M M1 : eg_H} {κ : eg_K} {d : Nat} {r : Int32} {p0 K : eg_H → Prop} (h : KcS mt M κ d (fun x X => x = r ∧ X = M1)) (h0 : r = 0 → p0 M1) (h1 : ¬ r = 0 → K M1) : eCI κ gC mt d [vR (6, 0)] M (fun x A => (x = 0 → p0 A) ∧ (¬ x = 0 → eCV κ gC mtX9_advance d [vR (9, 0)] A K)) := by
  obtain ⟨po, s, t⟩ := h
  refine ⟨po, s, fun x A hp => ⟨fun x0 => ?_, fun x0 => ?_⟩⟩
  · obtain ⟨e1, e2⟩ := (t x A hp).1 x0
    rw [e2]
    exact h0 e1.symm
  · obtain ⟨po2, s2, t2⟩ := (t x A hp).2 x0
    refine ⟨po2, s2, fun M2 h2 => ?_⟩
    obtain ⟨e1, e2⟩ := t2 M2 h2
    rw [e2]
    exact h1 (by rw [← e1]; decide)
def ER (q n a at0 : Nat) (M N : eg_H) (r : Int32) (M1 N1 : eg_H) : Prop := (r = 1 ∧ (∃ k1 at1, at0 ≤ at1 ∧ tA M1 N1 n at1 ∧ (a < k1 ∧ k1 ≤ 64) ∧ (M1.1 (3, q) 3 = nI k1 ∧ N1.1 (60, 0) 22 = nI k1) ∧ (M1.1 (6, 0) 8 = nI k1 ∧ N1.1 (60, 0) 46 = nI k1) ∧ skF (M1.1 (23, q)) (fun i => N1.1 (99, 0) (i + 64)) (fun i => N1.1 (100, 0) (i + 64)) (fun i => N1.1 (101, 0) (i + 64)) a (k1 - a) [k1 - 1]) ∧ xC q a M M1 ∧ xM a N N1) ∨ (r = 0 ∧ FL q M N M1 N1)
theorem drp_nil : ∀ {L : List Nat}, lev L = 0 → (∀ t ∈ L, rk t = 0 → t = 34) → drp 1 L = []
  | [], _, _ => rfl
  | t :: L, h, hv => by
    have e : lev (t :: L) = lev L + if t = 34 then 1 else 0 := rfl
    have t34 : t ≠ 34 := fun z => by
      rw [if_pos z] at e
      omega
    have c : ¬ rk t < 1 := fun z => t34 (hv t List.mem_cons_self (by omega))
    rw [show drp 1 (t :: L) = drp 1 L from if_neg c]
    exact drp_nil (by omega) (fun x hx => hv x (List.mem_cons_of_mem _ hx))
theorem sk_one {kc km pt ot : Nat → Int32} {a n : Nat} {l : List Nat} (h : skF kc km pt ot a n l) (h1 : l.length = 1) : 0 < n ∧ l = [a + n - 1] := by
  cases n with
  | zero =>
    have : l = [] := h
    rw [this] at h1
    exact absurd h1 (by decide)
  | succ n =>
    obtain ⟨l0, _, hs⟩ := skF_s h
    have hd : ∃ l1, l = (a + n) :: l1 := by
      rcases hs with z | ⟨j, z⟩ | ⟨_, _, x, l1, z⟩ | ⟨_, y, x, l1, z⟩
      · exact ⟨_, z.2.2.2.2⟩
      · exact ⟨_, z.2.2.2.2⟩
      · exact ⟨_, z.2.2⟩
      · exact ⟨_, z.2.2.2⟩
    obtain ⟨l1, e⟩ := hd
    rw [e] at h1 ⊢
    have : l1.length + 1 = 1 := h1
    have l0 : l1 = [] := List.eq_nil_of_length_eq_zero (by omega)
    refine ⟨by omega, ?_⟩
    rw [l0]
    congr 1
theorem EXs {q n a at0 at1 i k b : Nat} {M0 N0 M N : eg_H} {L l : List Nat} {W Y : Int32} (q2 : q < 2) (ih : ∀ (M N : eg_H) (L l : List Nat) (k b at2 i : Nat) (W Y : Int32), at1 < at2 → i ≤ at2 → at0 ≤ at2 → XP q a M N L l k b W Y → tA M N n at2 → xC q a M0 M → xM a N0 N → PW 9 5 (fun κ d post => eg_W κ gC mtX6_readExpression d (eQI κ gC post) 27 [(0, vR (6, 0)), (1, vI (nI i))] [] M) (fun κ d post => eg_W κ gM mtX11_sumRead d (eQI κ gM post) 25 [(0, vR (60, 0))] [] N) (ER q n a at0 M0 N0)) (hi : i ≤ at1) (h0 : at0 ≤ at1) (xp : XP q a M N L l k b W Y) (ht : tA M N n at1) (xc : xC q a M0 M) (xm : xM a N0 N) : PW 9 5 (fun κ d post => eg_W κ gC mtX6_readExpression d (eQI κ gC post) 27 [(0, vR (6, 0)), (1, vI (nI i))] [] M) (fun κ d post => eg_W κ gM mtX11_sumRead d (eQI κ gM post) 25 [(0, vR (60, 0))] [] N) (ER q n a at0 M0 N0) := by
  have P := xp
  obtain ⟨p1, p2, p3, ⟨b1, b2, b3, b4⟩, p5, p6, p7, p8⟩ := xp
  have lv := p1.1.2.2.2
  have an := ht.at'.2.2
  have n8 := ht.1.2.2
  have hni : ¬ M.1 (9, 0) 1 < nI i := fun y => by
    rw [ht.1.1] at y
    have := (nI_lt' (by omega) (by omega)).mp y
    omega
  have inc : nI i + 1 = nI (i + 1) := (nAl i).2.1
  rcases p8 with ⟨hW, _, _⟩ | ⟨hW, hl⟩
  · rw [hW] at p5 P
    have w1 : ¬ M.1 (6, 0) 13 = 0 := by rw [p5.1]; decide
    have w2 : ¬ N.1 (60, 0) 47 = 0 := by rw [p5.2]; decide
    have cC : ∀ (κ : eg_K) (d : Nat), 9 ≤ d → ∀ post : Int32 → eg_H → Prop, eCI κ gC mtX6_readValue d [vR (6, 0)] M (fun x9 M10 => (x9 = 0 → post 0 M10) ∧ ((¬ x9 = 0) → eCV κ gC mtX9_advance d [vR (9, 0)] M10 (fun M13 => ∀ x15 : Int32, x15 = nI i + 1 → eg_W κ gC mtX6_readExpression d (eQI κ gC post) 27 [(0, vR (6, 0)), (1, vI x15)] [] M13))) → eg_W κ gC mtX6_readExpression d (eQI κ gC post) 27 [(0, vR (6, 0)), (1, vI (nI i))] [] M := fun κ d hd post z =>
      vX6_readExpression_27 (by omega) M _ ⟨fun y => absurd y hni, fun _ => ⟨fun _ => vX6_readExpression_71 (by omega) M _ ⟨fun y => absurd y w1, fun _ => z⟩, fun y => absurd y w1⟩⟩
    have cM : ∀ (κ : eg_K) (d : Nat), 5 ≤ d → ∀ post : Int32 → eg_H → Prop, eCI κ gM mtX11_leafRead d [vR (60, 0)] N (fun x6 M7 => (x6 = 0 → post 0 M7) ∧ ((¬ x6 = 0) → eg_W κ gM mtX11_sumRead d (eQI κ gM post) 25 [(0, vR (60, 0))] [] M7)) → eg_W κ gM mtX11_sumRead d (eQI κ gM post) 25 [(0, vR (60, 0))] [] N := fun κ d hd post z => by
      have z48 := vX11_sumRead_48 (κ := κ) (d := d) (post := post) (by omega) N ⟨fun y => absurd y w2, fun _ => z⟩
      exact vX11_sumRead_25 (by omega) N (fun x2 _ => ⟨fun _ => z48, fun _ => ⟨fun _ => z48, fun y => absurd y w2⟩⟩)
    obtain ⟨r, M1, N1, hk, hm, hR⟩ := LEAF q2 P ht
    rcases hR with ⟨hr, ⟨L2, l2, k2, b2', at2, W2, Y2, x1, x2, x3⟩, x4, x5⟩ | ⟨hr, fl⟩
    · have r0 : ¬ r = 0 := by rw [hr]; decide
      refine PW.c (fun κ d hd post z => cC κ d hd post (KcS.use (hk κ d hd) (fun e => absurd e r0) (fun _ x15 e15 => ?_))) (PW.m (fun κ d hd post z => cM κ d hd post ⟨_, hm κ (d - 1) (by omega), fun x A hA => ⟨fun y => absurd (hA.1.symm.trans y) r0, fun _ => ?_⟩⟩) (ih M1 N1 L2 l2 k2 b2' at2 (i + 1) W2 Y2 x1 (by omega) (by omega) x3 x2 (xc.tr x4) (xm.tr x5)))
      · rw [e15, inc]; exact z
      · rw [hA.2]; exact z
    · refine PW.c (Kc' := fun _ _ post => post 0 M1) (fun κ d hd post z => cC κ d hd post (KcS.use (hk κ d hd) (fun _ => z) (fun y => absurd hr y))) (PW.m (Km' := fun _ _ post => post 0 N1) (fun κ d hd post z => cM κ d hd post ⟨_, hm κ (d - 1) (by omega), fun x A hA => ⟨fun _ => ?_, fun y => absurd (hA.1.trans hr) y⟩⟩) (PW.e (Or.inr ⟨rfl, FL.pre xc.w xm.w fl⟩)))
      rw [hA.2]; exact z
  · rw [hW] at p5 P
    have w1 : M.1 (6, 0) 13 = 0 := p5.1
    have w2 : N.1 (60, 0) 47 = 0 := p5.2
    have le0 : nI (lev L) ≤ (0 : Int32) ↔ lev L ≤ 0 := nI_le' (b := 0) (by omega) (by omega)
    have eq0 : nI (lev L) = (0 : Int32) ↔ lev L = 0 := nI_eq' (b := 0) (by omega) (by omega)
    have sg := SGN ht (w := 36) (by omega)
    by_cases ce : lev L = 0 ∧ M.1 (9, 0) 4 = 36
    · have g2 : fX11_isSign N 59 = 1 := by
        rcases sg with z | z
        · exact z.2
        · exact absurd ce.2 z.1
      refine PW.c (fun κ d hd post z => vX6_readExpression_27 (by omega) M _ ⟨fun y => absurd y hni, fun _ => ⟨fun y => absurd w1 y, fun _ => ⟨fun y => absurd (by rw [p3.1]; exact eq0.mpr ce.1) y, fun _ => ⟨fun y => absurd ce.2 y, fun _ => z⟩⟩⟩⟩) ?_
      refine PW.m (fun κ d hd post z => vX11_sumRead_25 (by omega) N (fun x2 e2 => ⟨fun y => absurd ((e2.trans g2).symm.trans y) (by decide), fun _ => ⟨fun y => absurd w2 y, fun _ => ⟨fun _ => z, fun y => absurd (by rw [p3.2]; exact le0.mpr (by omega)) y⟩⟩⟩)) ?_
      refine PW.cv (RELV (rc := 1) (rm := 1) q2 (by omega) (by omega) p2 p1 hl (agr_rf 1 L)) (by omega) (by omega) ?_
      rintro M1 N1 ⟨l1, k1, r3, r4, r5, r6, r7, r8⟩
      have dn : drp 1 L = [] := drp_nil ce.1 (fun t ht0 h0 => ((rk_m0 t (vsb_l (stk_v p1.1.2.2.1 t ht0)) (stk_v p1.1.2.2.1 t ht0)).2.2.2.2.1).mp h0)
      rw [dn] at r3 r4 r5
      have r5' : k1 = k + nop L := r5
      obtain ⟨_, ⟨c5, c6, c7, c8⟩, c9, _, _⟩ := r3
      have c8' : k1 ≤ 64 := c8
      obtain ⟨s1, s2⟩ := sk_one c9 r4
      have ak := p1.2.1.2.2.1
      refine PW.e (Or.inl ⟨rfl, ⟨k1, at1, h0, ?_, ⟨by omega, c8'⟩, ⟨c5, c6⟩, ⟨?_, ?_⟩, ?_⟩, xc.tr (r7.x ak), xm.tr (r8.x ak)⟩)
      · exact ht.cong (r7.1 _ (by decide) (kd_ne (by omega)) (kd_ne (by omega))) (r7.1 _ (by decide) (kd_ne (by omega)) (kd_ne (by omega))) (fun j x y => r8.2.2.1 j (by omega) (by omega) (by omega)) (r8.1 _ (by decide) (by decide)) (r8.1 _ (by decide) (by decide))
      · rw [r7.2.2.2.1 8 (by omega), p7.1, r5']
      · rw [r8.2.2.1 46 (by omega) (by omega) (by omega), p7.2, r5']
      · rw [s2, show a + (k1 - a) - 1 = k1 - 1 by omega] at c9
        exact c9
    · have cC : ∀ (κ : eg_K) (d : Nat), 9 ≤ d → ∀ post : Int32 → eg_H → Prop, eCI κ gC mtX6_readBehindValue d [vR (6, 0)] M (fun x9 M10 => (x9 = 0 → post 0 M10) ∧ ((¬ x9 = 0) → eCV κ gC mtX9_advance d [vR (9, 0)] M10 (fun M13 => ∀ x15 : Int32, x15 = nI i + 1 → eg_W κ gC mtX6_readExpression d (eQI κ gC post) 27 [(0, vR (6, 0)), (1, vI x15)] [] M13))) → eg_W κ gC mtX6_readExpression d (eQI κ gC post) 27 [(0, vR (6, 0)), (1, vI (nI i))] [] M := fun κ d hd post z => by
        obtain ⟨po, s, t⟩ := z
        have z71 := vX6_readExpression_71 (κ := κ) (d := d) (post := post) (by omega) M (nI i) ⟨fun _ => ⟨po, s, fun x A hA => ⟨(t x A hA).2, (t x A hA).1⟩⟩, fun y => absurd w1 y⟩
        exact vX6_readExpression_27 (by omega) M _ ⟨fun y => absurd y hni, fun _ => ⟨fun y => absurd w1 y, fun _ => ⟨fun _ => z71, fun y => ⟨fun _ => z71, fun y2 => absurd ⟨eq0.mp (by rw [← p3.1]; exact y), y2⟩ ce⟩⟩⟩⟩
      have cM : ∀ (κ : eg_K) (d : Nat), 5 ≤ d → ∀ post : Int32 → eg_H → Prop, eCI κ gM mtX11_signs d [vR (60, 0)] N (fun x6 M7 => ((¬ x6 = 0) → eg_W κ gM mtX11_sumRead d (eQI κ gM post) 25 [(0, vR (60, 0))] [] M7) ∧ (x6 = 0 → post 0 M7)) → eg_W κ gM mtX11_sumRead d (eQI κ gM post) 25 [(0, vR (60, 0))] [] N := fun κ d hd post z => by
        have z48 := vX11_sumRead_48 (κ := κ) (d := d) (post := post) (by omega) N ⟨fun _ => z, fun y => absurd w2 y⟩
        refine vX11_sumRead_25 (by omega) N (fun x2 e2 => ⟨fun _ => z48, fun y => ⟨fun _ => z48, fun _ => ⟨fun y2 => ?_, fun _ => z48⟩⟩⟩)
        rcases sg with u | u
        · exact absurd ⟨by have := le0.mp (by rw [← p3.2]; exact y2); omega, u.1⟩ ce
        · exact absurd (e2.trans u.2) y
      obtain ⟨r, M1, N1, hk, hm, hR⟩ := BEHIND q2 P ht
      rcases hR with ⟨hr, ⟨L2, l2, k2, b2', at2, W2, Y2, x1, x2, x3⟩, x4, x5⟩ | ⟨hr, fl⟩
      · have r0 : ¬ r = 0 := by rw [hr]; decide
        refine PW.c (fun κ d hd post z => cC κ d hd post (KcS.use (hk κ d hd) (fun e => absurd e r0) (fun _ x15 e15 => ?_))) (PW.m (fun κ d hd post z => cM κ d hd post ⟨_, hm κ (d - 1) (by omega), fun x A hA => ⟨fun _ => ?_, fun y => absurd (hA.1.symm.trans y) r0⟩⟩) (ih M1 N1 L2 l2 k2 b2' at2 (i + 1) W2 Y2 x1 (by omega) (by omega) x3 x2 (xc.tr x4) (xm.tr x5)))
        · rw [e15, inc]; exact z
        · rw [hA.2]; exact z
      · refine PW.c (Kc' := fun _ _ post => post 0 M1) (fun κ d hd post z => cC κ d hd post (KcS.use (hk κ d hd) (fun _ => z) (fun y => absurd hr y))) (PW.m (Km' := fun _ _ post => post 0 N1) (fun κ d hd post z => cM κ d hd post ⟨_, hm κ (d - 1) (by omega), fun x A hA => ⟨fun y => absurd (hA.1.trans hr) y, fun _ => ?_⟩⟩) (PW.e (Or.inr ⟨rfl, FL.pre xc.w xm.w fl⟩)))
        rw [hA.2]; exact z
theorem EXL {q n a at0 : Nat} {M0 N0 : eg_H} (q2 : q < 2) : ∀ (m : Nat) (M N : eg_H) (L l : List Nat) (k b at1 i : Nat) (W Y : Int32), n - at1 ≤ m → i ≤ at1 → at0 ≤ at1 → XP q a M N L l k b W Y → tA M N n at1 → xC q a M0 M → xM a N0 N → PW 9 5 (fun κ d post => eg_W κ gC mtX6_readExpression d (eQI κ gC post) 27 [(0, vR (6, 0)), (1, vI (nI i))] [] M) (fun κ d post => eg_W κ gM mtX11_sumRead d (eQI κ gM post) 25 [(0, vR (60, 0))] [] N) (ER q n a at0 M0 N0)
  | 0, M, N, L, l, k, b, at1, i, W, Y, hm, hi, h0, xp, ht, xc, xm => EXs q2 (fun M N L l k b at2 i W Y g1 g2 g3 g4 g5 => absurd g5.at'.2.2 (by omega)) hi h0 xp ht xc xm
  | m + 1, M, N, L, l, k, b, at1, i, W, Y, hm, hi, h0, xp, ht, xc, xm => EXs q2 (fun M N L l k b at2 i W Y g1 g2 g3 g4 g5 => EXL q2 m M N L l k b at2 i W Y (by omega) g2 g3 g4 g5) hi h0 xp ht xc xm
