/-! QUESTIONS THAT TRY ONE NUMBER AFTER THE OTHER: many -/
theorem sI_comm (M : eg_H) (r : eg_R) {a b : Nat} (h : a ≠ b) (x y : Int32) : sI (sI M r a x) r b y = sI (sI M r b y) r a x := by
  refine eg_ext (fun z j => ?_) (fun _ _ => rfl) (fun _ _ => rfl)
  rw [sI_i, sI_i, sI_i, sI_i]
  by_cases c1 : z = r ∧ j = b
  · have c2 : ¬ (z = r ∧ j = a) := fun q => h (q.2.symm.trans c1.2)
    rw [if_pos c1, if_neg c2, if_pos c1]
  · rw [if_neg c1, if_neg c1]
theorem clrQ (N : eg_H) {a b : Nat} (ha : a = 53 ∨ a = 55 ∨ a = 57 ∨ a = 62) (hb : b = 54 ∨ b = 56 ∨ b = 58 ∨ b = 63) (x y x1 y1 : Int32) : sI (sI (fX11_clears (sI (sI (fX11_clears N) (60, 0) a x) (60, 0) b y)) (60, 0) a x1) (60, 0) b y1 = sI (sI (fX11_clears N) (60, 0) a x1) (60, 0) b y1 := by
  rw [clr_keep _ (by omega), clr_again _ (by omega), clr_clr, sI_comm _ _ (show b ≠ a by omega) y x1, sI_sI]
/-- the model between two tries -/
def mI (N : eg_H) (a b : Nat) (M : eg_H) : Prop := FrN N M ∧ ∃ nm s Y A, M = SX A nm s Y ∧ (∀ j, 366 ≤ j → Y j = 0) ∧ ∀ x y, sI (sI (fX11_clears A) (60, 0) a x) (60, 0) b y = sI (sI (fX11_clears (t0 N)) (60, 0) a x) (60, 0) b y
theorem mI_0 {M N : eg_H} {C p : Nat} (h : JJ M N C p) (a b : Nat) : mI N a b (t0 N) := by
  have F0 : FrN N (t0 N) := FrN_f N (by omega) 0
  refine ⟨F0, (t0 N).2.1 (127, 0), ((t0 N).2.1 (128, 0), (t0 N).1 (60, 0) 68), (t0 N).1 (110, 0), t0 N, (SX_self _).symm, fun j hj => ?_, fun _ _ => rfl⟩
  rw [F0.2.2.2 j hj]
  exact h.2.2.2.2.1 j hj
theorem mI_s {N M' R : _} {q n a b : Nat} {x y : Int32} (ha : a = 53 ∨ a = 55 ∨ a = 57 ∨ a = 62) (hb : b = 54 ∨ b = 56 ∨ b = 58 ∨ b = 63) (qs : QS M' q (sI (sI (fX11_clears (t0 N)) (60, 0) a x) (60, 0) b y) R) (hn : n ≤ 3600) (nm : Nat → Int64) (s : (Nat → Int64) × Int32) : mI N a b (SX (sI (sI (fX11_clears (t0 N)) (60, 0) a x) (60, 0) b y) nm s (rF (sI (sI (fX11_clears (t0 N)) (60, 0) a x) (60, 0) b y) n)) :=
  ⟨(FrN_Q (by omega) (by omega) x y).tr (qs.FrX hn nm s), nm, s, _, _, rfl, fun j hj => qs.hi hn hj, fun x1 y1 => clrQ (t0 N) ha hb x y x1 y1⟩
theorem mI_u {N M : eg_H} {a b : Nat} (ha : a ≠ 68) (hb : b ≠ 68) (h : mI N a b M) (x y : Int32) : ∃ nm s Y, sI (sI (fX11_clears M) (60, 0) a x) (60, 0) b y = SX (sI (sI (fX11_clears (t0 N)) (60, 0) a x) (60, 0) b y) nm s Y ∧ ∀ j, 366 ≤ j → Y j = 0 := by
  obtain ⟨_, nm, s, Y, A, e, hY, hA⟩ := h
  refine ⟨nm, s, Y, ?_, hY⟩
  rw [e, clr_SX, SX_sI _ _ _ _ ha, SX_sI _ _ _ _ hb, hA]
theorem mI_g {M N M1 : eg_H} {C p a b : Nat} (h : JJ M N C p) (m : mI N a b M1) : gX11_clears M1 := (h.1.2.1.cong (fun _ _ => rfl) m.1.T).hp
/-! many -/
abbrev exD (p st f : Nat) : eg_R → Nat → Prop := fun r k => r = (1, 5 * (1 - p) + st) ∧ k = f
theorem qs_dish {M N M' : eg_H} {C p st f a b : Nat} {v : Int32} (h : JJ M N C p) (hst : st < cN M p) (hf : (f = 2 ∧ a = 53 ∧ b = 54) ∨ (f = 5 ∧ a = 55 ∧ b = 56 ∧ 0 ≤ v.toInt ∧ v.toInt ≤ 59) ∨ (f = 3 ∧ a = 57 ∧ b = 58 ∧ (1 ≤ v.toInt ∧ v.toInt ≤ 60) ∧ ¬ dC M p st 2 = 0)) (sx : spX M p M' (exD p st f)) (hv : M'.1 (1, 5 * (1 - p) + st) f = v) : QS M' (1 - p) (sI (sI (fX11_clears (t0 N)) (60, 0) a (nI st)) (60, 0) b v) (M'.1 (40, 0)) := by
  have ab : 52 ≤ a ∧ a ≤ 63 ∧ 52 ≤ b ∧ b ≤ 63 ∧ a ≠ b := by omega
  have F := FrN_Q (N := N) (k1 := a) (k2 := b) (by omega) (by omega) (nI st) v
  have pl : PL M p (sI (sI (fX11_clears (t0 N)) (60, 0) a (nI st)) (60, 0) b v) := h.1.2.1.cong (fun _ _ => rfl) F.T
  obtain ⟨ck1, ck2⟩ := h.ck (FrN_f N (k := 2) (by omega) 0)
  have g : ∀ k, k ≠ a → k ≠ b → (sI (sI (fX11_clears (t0 N)) (60, 0) a (nI st)) (60, 0) b v).1 (60, 0) k = (fX11_clears (t0 N)).1 (60, 0) k := fun k h1 h2 => by rw [sI_60, if_neg h2, sI_60, if_neg h1]
  have ga : (sI (sI (fX11_clears (t0 N)) (60, 0) a (nI st)) (60, 0) b v).1 (60, 0) a = nI st := by rw [sI_60, if_neg ab.2.2.2.2, sI_60, if_pos rfl]
  have gb : (sI (sI (fX11_clears (t0 N)) (60, 0) a (nI st)) (60, 0) b v).1 (60, 0) b = v := by rw [sI_60, if_pos rfl]
  have r125 : ∀ c, c < 15 → (sI (sI (fX11_clears (t0 N)) (60, 0) a (nI st)) (60, 0) b v).1 (125, 0) c = 0 := fun c hc => by rw [sI_ne (by decide), sI_ne (by decide)]; exact clr_125 _ hc
  have r126 : ∀ k, k < cN M p → M.1 (40, 0) k = (sI (sI (fX11_clears (t0 N)) (60, 0) a (nI st)) (60, 0) b v).1 (126, 0) k := fun k hk => by rw [sI_ne (by decide), sI_ne (by decide)]; exact ck1 k hk
  have r110 : ∀ j, 366 ≤ j → (sI (sI (fX11_clears (t0 N)) (60, 0) a (nI st)) (60, 0) b v).1 (110, 0) j = 0 := fun j hj => by rw [sI_ne (by decide), sI_ne (by decide)]; exact ck2 j hj
  have cl := clr_n (t0 N)
  have n6 := (cN_e pl.cW).2
  generalize sI (sI (fX11_clears (t0 N)) (60, 0) a (nI st)) (60, 0) b v = Q at *
  obtain ⟨g1, g2, g3, g4, g5⟩ := gsp pl sx (fun q => kd_ne (by decide) q.1) (fun r k q => by rw [q.1]; show (1 : Nat) ≠ 0; decide) (fun c hc => by rw [g 52 (by omega) (by omega), cl.1]; exact m1n (by omega)) (by rw [g 59 (by omega) (by omega)]; exact cl.2.2.2.2.1) (by rw [g 61 (by omega) (by omega)]; exact cl.2.2.2.2.2.2.1) r125
  have same : ∀ s k, s < cN M p → k < 7 → (s ≠ st ∨ k ≠ f) → M'.1 (1, 5 * (1 - p) + s) k = M.1 (1, 5 * p + s) k := fun s k hs hk hne => sx.2.2.1 s k hs hk (fun q => by
    have q1 := congrArg Prod.snd q.1
    have q2 := q.2
    simp only at q1
    omega)
  refine QS_sp h pl sx (fun r k q => Or.inr (Or.inl (by rw [q.1]))) ⟨fun q => kd_ne (by decide) q.1, fun q => kd_ne (by decide) q.1, fun q => kd_ne (by decide) q.1⟩ g1 (fun s hs => ⟨fun k k2 k3 k5 q => by have := q.2; omega, ?_, ?_, ?_⟩) g2 g3 ?_ (sx.l pl (fun k q => kd_ne (by decide) q.1) (fun l hl => by rw [g 62 (by omega) (by omega), cl.2.2.2.2.2.2.2]; exact m1n (by omega))) g4 (fun s hs c => ?_) (fun s hs c => ?_) g5 r126 r110
  · show M'.1 (1, 5 * (1 - p) + s) 2 = _
    by_cases c : a = 53
    · subst c
      have hb : b = 54 := by omega
      have hf2 : f = 2 := by omega
      subst hb hf2
      rw [ga, gb]
      by_cases e : s = st
      · subst e; rw [if_neg (fun z => z rfl)]; exact hv
      · rw [if_pos (fun z => e ((nI_eq' (by omega) (by omega)).mp z))]
        exact same s 2 hs (by omega) (Or.inl e)
    · rw [g 53 (by omega) (by omega), cl.2.1, if_pos (m1n (by omega))]
      exact same s 2 hs (by omega) (by omega)
  · show M'.1 (1, 5 * (1 - p) + s) 3 = _
    by_cases c : a = 57
    · subst c
      have hb : b = 58 := by omega
      have hf2 : f = 3 := by omega
      subst hb hf2
      rw [ga, gb]
      by_cases e : s = st
      · subst e
        rw [if_neg (show ¬ dC M p s 2 = 0 by rcases hf with q | q | q; · omega
                                             · omega
                                             · exact q.2.2.2.2), if_neg (fun z => z rfl)]
        exact hv
      · have e1 := same s 3 hs (by omega) (Or.inl e)
        by_cases c0 : dC M p s 2 = 0
        · rw [if_pos c0]; exact e1.trans c0
        · rw [if_neg c0, if_pos (fun z => e ((nI_eq' (by omega) (by omega)).mp z))]; exact e1
    · rw [g 57 (by omega) (by omega), cl.2.2.2.1]
      have e1 := same s 3 hs (by omega) (by omega)
      by_cases c0 : dC M p s 2 = 0
      · rw [if_pos c0]; exact e1.trans c0
      · rw [if_neg c0, if_pos (m1n (by omega))]; exact e1
  · show M'.1 (1, 5 * (1 - p) + s) 5 = _
    by_cases c : a = 55
    · subst c
      have hb : b = 56 := by omega
      have hf2 : f = 5 := by omega
      subst hb hf2
      rw [ga, gb]
      by_cases e : s = st
      · subst e; rw [if_neg (fun z => z rfl)]; exact hv
      · rw [if_pos (fun z => e ((nI_eq' (by omega) (by omega)).mp z))]
        exact same s 5 hs (by omega) (Or.inl e)
    · rw [g 55 (by omega) (by omega), cl.2.2.1, if_pos (m1n (by omega))]
      exact same s 5 hs (by omega) (by omega)
  · rw [sx.2.1 4 (by omega) (fun q => kd_ne (by decide) q.1), pl.ep, g 60 (by omega) (by omega), g 16 (by omega) (by omega), cl.2.2.2.2.2.1]
    exact (clr_Fr (t0 N)).1 16 (by omega) (by omega) (by omega)
  · by_cases ca : a = 57
    · subst ca
      have hb : b = 58 := by omega
      subst hb
      rw [gb]
      rcases hf with q | q | q
      · omega
      · omega
      · exact q.2.2.2.1
    · rw [g 57 (by omega) (by omega), cl.2.2.2.1] at c; exact absurd c (m1n (by omega))
  · by_cases ca : a = 55
    · subst ca
      have hb : b = 56 := by omega
      subst hb
      rw [gb]
      rcases hf with q | q | q
      · omega
      · exact q.2.2.2
      · omega
    · rw [g 55 (by omega) (by omega), cl.2.2.1] at c; exact absurd c (m1n (by omega))
/-- the first number of places that will do -/
def mnA (W : Nat → Int32) (b : Int32) : Nat → Nat → Int32
  | 0, _ => -2
  | m + 1, k => if b < W k then mnA W b m (k + 1) else nI k
theorem isBound_n (M : eg_H) (x : Int32) : (fX11_isBound M x = 0 ∧ ¬ (0 ≤ x.toInt ∧ x.toInt ≤ 99999)) ∨ (fX11_isBound M x = 1 ∧ (0 ≤ x.toInt ∧ x.toInt ≤ 99999)) := by
  have := isIn_n M x 0 99999
  rw [t_0, show (99999 : Int32).toInt = 99999 by decide] at this
  exact this
theorem st_many {M N : eg_H} {C p : Nat} (h : JJ M N C p) (y x b : Int32) : StI mtX10_many mtX11_many [vI y, vI x, vI b] M N C := by
  have F0 : FrN N (t0 N) := FrN_f N (by omega) 0
  have hp := h.hp
  have pl0 : PL M p (t0 N) := h.1.2.1.cong (fun _ _ => rfl) F0.T
  have n6 := (cN_e h.1.2.1.cW).2
  have ib : (99999 : Int32).toInt = 99999 := by decide
  by_cases hx : vp_in y (cN M p) ∧ vp_in x 3601 ∧ 0 ≤ b.toInt ∧ b.toInt ≤ 99999
  · obtain ⟨hy, hx, hb⟩ := hx
    obtain ⟨ey, hst⟩ := nI_of' hy (by omega)
    obtain ⟨ex, hn⟩ := nI_of' hx (by omega)
    generalize x.toNatClampNeg = n at ex hn
    generalize y.toNatClampNeg = st at ey hst
    subst ex ey
    have hw := fun M' k sx hv => qs_dish (M' := M') (f := 2) (a := 53) (b := 54) (v := nI k) h hst (Or.inl ⟨rfl, rfl, rfl⟩) sx hv
    obtain ⟨Ms, ss⟩ := h.spE
    have ss := ss.w (ex2 := exD p st 2) (fun _ _ q => q.elim)
    have hm := fun k => hw _ k (ss.I (r := (1, 5 * (1 - p) + st)) (k := 2) (pOf_1 (by omega)) (by dsimp only; decide) ⟨rfl, rfl⟩ (nI k)) (by rw [sI_i, if_pos ⟨rfl, rfl⟩])
    have hs := fun k nm s => mI_s (n := n) (Or.inl rfl) (Or.inl rfl) (hm k) (by omega) nm s
    have hu := fun M1 m k => mI_u (N := N) (M := M1) (a := 53) (b := 54) (by decide) (by decide) m (nI st) (nI k)
    generalize hQ : (fun k => sI (sI (fX11_clears (t0 N)) (60, 0) 53 (nI st)) (60, 0) 54 (nI k)) = Qf at *
    have eQ : ∀ k, sI (sI (fX11_clears (t0 N)) (60, 0) 53 (nI st)) (60, 0) 54 (nI k) = Qf k := fun k => congrFun hQ k
    simp only [eQ] at hw hm hs hu
    refine StI.q h (mnA (fun k => sm (fun g => rF (Qf k) n (20 + 20 * g + 4)) (NM (Qf k))) b 4 1) (fun κ => ?_) (fun κ => ?_)
    · have key : ∀ m k M', k + m = 5 → spX M p M' (exD p st 2) → eg_W κ gC mtX10_many 12 (eQI κ gC (fun r' M1 => r' = mnA (fun k => sm (fun g => rF (Qf k) n (20 + 20 * g + 4)) (NM (Qf k))) b m k ∧ FrQ p M M1)) 45 [(0, vR (10, 0)), (1, vI (nI st)), (2, vI (nI n)), (3, vI b), (4, vI (nI k))] [] M' := by
        intro m
        induction m with
        | zero =>
          intro k M' hk sx
          exact vX10_many_45 (by omega) M' _ _ _ _ ⟨fun _ => ⟨rfl, sx.1⟩, fun c => absurd ((nI_lt' (a := 4) (by omega) (by omega)).mpr (by omega)) c⟩
        | succ m ih =>
          intro k M' hk sx
          refine vX10_many_45 (by omega) M' _ _ _ _ ⟨fun c => absurd ((nI_lt' (a := 4) (by omega) (by omega)).mp c) (by omega), fun _ => ⟨1 - p, hp.2.2.1, (sx.r hp.1).2, nI_in' (by omega) (by omega), fun M4 e4 => ?_⟩⟩
          rw [nI_t (by omega)] at e4
          have s4 : spX M p M4 (exD p st 2) := by rw [e4]; exact sx.I (pOf_1 (by omega)) (by dsimp only; decide) ⟨rfl, rfl⟩ _
          have q4 := hw M4 k s4 (by rw [e4, sI_i, if_pos ⟨rfl, rfl⟩])
          refine ⟨_, q4.waitedBy (by omega) (by omega), fun x5 M6 ⟨a5, t6⟩ => ⟨fun c x9 e9 => ?_, fun c => ?_⟩⟩
          · rw [a5, wEv q4] at c
            have e : mnA (fun k => sm (fun g => rF (Qf k) n (20 + 20 * g + 4)) (NM (Qf k))) b (m + 1) k = mnA (fun k => sm (fun g => rF (Qf k) n (20 + 20 * g + 4)) (NM (Qf k))) b m (k + 1) := if_pos c
            rw [e, e9, nI_1]
            exact ih (k + 1) M6 (by omega) (s4.t t6)
          · rw [a5, wEv q4] at c
            exact ⟨(if_neg c).symm, (s4.t t6).1⟩
      refine eg_S.of rfl (Nat.le_of_ble_eq_true rfl) (vX10_many_0 (by omega) M _ _ _ ⟨p, hp.2.1, hp.1.1, fun x3 e3 => ⟨fun c => ?_, fun _ x6 e6 => ⟨fun c => ?_, fun _ => ⟨fun c => ?_, fun _ => ⟨fun _ => ⟨1 - p, hp.2.2.1, hp.1.2, _, h.copy (FrQ.rf p M) (by omega), fun M11 c11 => key 4 1 M11 rfl ((h.sp (FrQ.rf p M) c11).w (fun _ _ q => q.elim))⟩, fun c => ?_⟩⟩⟩⟩⟩)
      · rw [e3, hasStation_n pl0] at c
        rcases isStation_n (t0 N) (nI st) pl0.hn with q | q
        · rw [← pl0.n1] at q; exact absurd hy q.2
        · rw [q.1] at c; exact absurd c (by decide)
      · rcases isLength_n M (nI n) with q | q
        · exact absurd hx q.2
        · exact absurd (c.symm.trans (e6.trans q.1)) (by decide)
      · rw [t_lt, t_0] at c; omega
      · rw [t_le, ib] at c; omega
    · have key : ∀ m k M1, k + m = 5 → mI N 53 54 M1 → eg_W κ gM mtX11_many 12 (eQI κ gM (fun r' N1 => r' = mnA (fun k => sm (fun g => rF (Qf k) n (20 + 20 * g + 4)) (NM (Qf k))) b m k ∧ FrN N N1)) 32 [(0, vR (60, 0)), (1, vI (nI st)), (2, vI (nI n)), (3, vI b), (4, vI (nI k))] [] M1 := by
        intro m
        induction m with
        | zero =>
          intro k M1 hk m1
          exact vX11_many_32 (by omega) M1 _ _ _ _ ⟨fun _ => ⟨rfl, m1.1⟩, fun c => absurd ((nI_le' (a := 5) (by omega) (by omega)).mpr (by omega)) c⟩
        | succ m ih =>
          intro k M1 hk m1
          refine vX11_many_32 (by omega) M1 _ _ _ _ ⟨fun c => absurd ((nI_le' (a := 5) (by omega) (by omega)).mp c) (by omega), fun _ => ⟨mI_g h m1, fun M3 e3 M5 e5 M6 e6 => ?_⟩⟩
          obtain ⟨nm, s, Y, eu, hY⟩ := hu M1 m1 k
          rw [e3] at e5
          rw [e5, eu] at e6
          rw [e6]
          refine ⟨_, (hm k).run (by omega) (by omega) nm s Y hY, fun M7 ⟨nm2, s2, e7⟩ => ?_⟩
          rw [e7]
          obtain ⟨v1, v2⟩ := waitedOf_n (hm k).2.2.2.2.1 nm2 s2 (rF (Qf k) n)
          refine ⟨v1, fun x11 e11 => ⟨fun c x13 e13 => ?_, fun c => ?_⟩⟩
          · rw [e11, v2] at c
            have e : mnA (fun k => sm (fun g => rF (Qf k) n (20 + 20 * g + 4)) (NM (Qf k))) b (m + 1) k = mnA (fun k => sm (fun g => rF (Qf k) n (20 + 20 * g + 4)) (NM (Qf k))) b m (k + 1) := if_pos c
            rw [e, e13, nI_1]
            exact ih (k + 1) _ (by omega) (hs k nm2 s2)
          · rw [e11, v2] at c
            exact ⟨(if_neg c).symm, (hs k nm2 s2).1⟩
      refine eg_S.of rfl (Nat.le_of_ble_eq_true rfl) (vX11_many_0 (by omega) N _ _ _ (fun M1 e1 x3 e3 => ⟨fun c => ?_, fun _ x6 e6 => ⟨fun c => ?_, fun _ x9 e9 => ⟨fun _ => ?_, fun c => ?_⟩⟩⟩))
      · rw [e1] at e3
        rcases isStation_n (t0 N) (nI st) pl0.hn with q | q
        · rw [← pl0.n1] at q; exact absurd hy q.2
        · exact absurd (c.symm.trans (e3.trans q.1)) (by decide)
      · rcases isTime_n M1 (nI n) with q | q
        · exact absurd hx q.2
        · exact absurd (c.symm.trans (e6.trans q.1)) (by decide)
      · rw [e1]
        exact key 4 1 _ rfl (mI_0 h 53 54)
      · rcases isBound_n M1 b with q | q
        · exact absurd hb q.2
        · exact absurd (c.symm.trans (e9.trans q.1)) (by decide)
  · refine StI.q h (-1) (fun κ => ?_) (fun κ => ?_)
    · refine eg_S.of rfl (Nat.le_of_ble_eq_true rfl) (vX10_many_0 (by omega) M _ _ _ ⟨p, hp.2.1, hp.1.1, fun x3 e3 => ⟨fun c => ⟨rfl, FrQ.rf p M⟩, fun c3 x6 e6 => ⟨fun c => ⟨rfl, FrQ.rf p M⟩, fun c6 => ⟨fun c => ⟨rfl, FrQ.rf p M⟩, fun c7 => ⟨fun c8 => ?_, fun c => ⟨rfl, FrQ.rf p M⟩⟩⟩⟩⟩⟩)
      exfalso
      rw [e3, hasStation_n pl0] at c3
      rw [t_lt, t_0] at c7
      rw [t_le, ib] at c8
      rcases isStation_n (t0 N) y pl0.hn with q | q
      · exact c3 q.1
      · rcases isLength_n M x with z | z
        · exact c6 (e6.trans z.1)
        · exact hx ⟨by rw [pl0.n1]; exact q.2, z.2, by omega, by omega⟩
    · refine eg_S.of rfl (Nat.le_of_ble_eq_true rfl) (vX11_many_0 (by omega) N _ _ _ (fun M1 e1 x3 e3 => ⟨fun c => ⟨rfl, by rw [e1]; exact F0⟩, fun c3 x6 e6 => ⟨fun c => ⟨rfl, by rw [e1]; exact F0⟩, fun c6 x9 e9 => ⟨fun c9 => ?_, fun c => ⟨rfl, by rw [e1]; exact F0⟩⟩⟩⟩))
      exfalso
      rw [e1] at e3
      rcases isStation_n (t0 N) y pl0.hn with q | q
      · exact c3 (e3.trans q.1)
      · rcases isTime_n M1 x with z | z
        · exact c6 (e6.trans z.1)
        · rcases isBound_n M1 b with w | w
          · exact c9 (e9.trans w.1)
          · exact hx ⟨by rw [pl0.n1]; exact q.2, z.2, w.2⟩
