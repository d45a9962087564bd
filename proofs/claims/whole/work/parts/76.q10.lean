/-! QUESTIONS: fill, rule -/
theorem t_mul {x y : Int32} (h1 : -2147483648 ≤ x.toInt * y.toInt) (h2 : x.toInt * y.toInt < 2147483648) : (x * y).toInt = x.toInt * y.toInt := by
  rw [Int32.toInt_mul]
  exact Int.bmod_eq_of_le (by omega) (by omega)
theorem mul_b {x y : Int32} {K L : Nat} (hx : 0 ≤ x.toInt ∧ x.toInt ≤ K) (hy : 0 ≤ y.toInt ∧ y.toInt ≤ L) (hb : K * L < 1000000000) : 0 ≤ (x * y).toInt ∧ (x * y).toInt ≤ ((K * L : Nat) : Int) := by
  obtain ⟨a, ha⟩ := Int.eq_ofNat_of_zero_le hx.1
  obtain ⟨b, hb2⟩ := Int.eq_ofNat_of_zero_le hy.1
  have h1 : a ≤ K := by omega
  have h2 : b ≤ L := by omega
  have h3 : a * b ≤ K * L := Nat.mul_le_mul h1 h2
  have e : x.toInt * y.toInt = ((a * b : Nat) : Int) := by rw [ha, hb2]; exact (Int.natCast_mul a b).symm
  generalize a * b = m at *
  generalize K * L = n at *
  rw [t_mul (by rw [e]; omega) (by rw [e]; omega), e]
  omega
/-- the least, and where -/
def chF (c : Nat → Int32) : Nat → Nat → Int32 → Int32 → Int32 × Int32
  | 0, _, l, b => (l, b)
  | m + 1, k, l, b => if l ≤ c k then chF c m (k + 1) l b else chF c m (k + 1) (c k) (nI k)
/-- what a run costs -/
def coF (u v : Int32) (st n : Nat) (Q : eg_H) : Int32 := u * rF Q n (320 + 8 * st + 5) + v * rF Q n (320 + 8 * st)
theorem QS.co0 {M : eg_H} {q : Nat} {Q : eg_H} {R : Nat → Int32} (h : QS M q Q R) {n st : Nat} (hn : n ≤ 3600) (hs : st < nM Q) {u v : Int32} (hu : 0 ≤ u.toInt ∧ u.toInt ≤ 99) (hv : 0 ≤ v.toInt ∧ v.toInt ≤ 99) : 0 ≤ (coF u v st n Q).toInt := by
  have b1 := (h.b hn).2 st hs
  have b2 := ((h.T hn).1.2.2.2.1 st hs).1
  unfold coF
  have m1 := mul_b (K := 99) hu b1 (by decide)
  have m2 := mul_b (K := 99) hv b2 (by decide)
  rw [t_add (by omega) (by omega)]
  omega
theorem sX11_costAt {M' : eg_H} {q : Nat} {Q : eg_H} {R : Nat → Int32} (h : QS M' q Q R) {κ : eg_K} {d : Nat} (hd : 9 ≤ d) {n st : Nat} (hn : n ≤ 3600) (hs : st < 5) (u v : Int32) (nm : Nat → Int64) (s : (Nat → Int64) × Int32) (Y : Nat → Int32) (hY : ∀ j, 366 ≤ j → Y j = 0) : eg_S κ gM mtX11_costAt d [vR (60, 0), vI (nI st), vI (nI n), vI u, vI v] (SX Q nm s Y) (eQI κ gM (fun r M1 => r = coF u v st n Q ∧ ∃ nm1 s1, M1 = SX Q nm1 s1 (rF Q n))) := by
  refine eg_S.of rfl (Nat.le_of_ble_eq_true rfl) (vX11_costAt_0 (by omega) _ _ _ _ _ ⟨_, h.run (by omega) hn nm s Y hY, fun M1 ⟨nm1, s1, e1⟩ => ?_⟩)
  rw [e1]
  simp (disch := omega) only [forall_eq, pan_n, nAl, nI_t, vpi, SX_Y]
  exact ⟨by omega, by omega, rfl, nm1, s1, rfl⟩
/-- who may be asked -/
theorem hasPan_b {M Q : eg_H} {p : Nat} (pl : PL M p Q) (x : Int32) : gX5_hasPan M p x ∧ ((fX5_hasPan M p x = 0 ∧ ¬ (vp_in x (cN M p) ∧ ¬ dC M p x.toNatClampNeg 2 = 0)) ∨ (fX5_hasPan M p x = 1 ∧ (vp_in x (cN M p) ∧ ¬ dC M p x.toNatClampNeg 2 = 0))) := by
  have n6 := pl.nn
  have en := pl.en
  have ei : (M.1 (5, p) 0).toInt = (cN M p : Int) := by rw [en, n6.1, t_nI (by omega), pl.n1]
  have hn6 : cN M p < 6 := by rw [pl.n1]; exact n6.2
  refine ⟨fun c1 c2 => ?_, ?_⟩
  · rw [t_in]
    rw [t_lt, t_0] at c1
    rw [t_le, ei] at c2
    omega
  · unfold fX5_hasPan
    by_cases c1 : x < 0
    · rw [if_pos c1]; rw [t_lt, t_0] at c1; exact Or.inl ⟨rfl, fun q => by have := t_in.mp q.1; omega⟩
    · rw [if_neg c1]
      rw [t_lt, t_0] at c1
      by_cases c2 : M.1 (5, p) 0 ≤ x
      · rw [if_pos c2]; rw [t_le, ei] at c2; exact Or.inl ⟨rfl, fun q => by have := t_in.mp q.1; omega⟩
      · rw [if_neg c2]
        rw [t_le, ei] at c2
        have hx : vp_in x (cN M p) := by rw [t_in]; omega
        have hs := vp_lt hx
        rw [pl.n1] at hs
        have b := (pl.s hs).2.2.2.1
        have e3 : M.1 (1, 5 * p + x.toNatClampNeg) 3 = dC M p x.toNatClampNeg 2 := rfl
        have p0 := pn0 b.1
        rw [← b.2, e3] at p0
        by_cases c3 : M.1 (1, 5 * p + x.toNatClampNeg) 3 ≤ 0
        · rw [if_pos c3]
          rw [e3, t_le, t_0] at c3
          exact Or.inl ⟨rfl, fun q => q.2 (t_eq.mpr (by rw [t_0]; omega))⟩
        · rw [if_neg c3]
          refine Or.inr ⟨rfl, hx, fun q => c3 ?_⟩
          rw [e3, q]
          decide
theorem hasPan_m {M Q : eg_H} {p : Nat} (pl : PL M p Q) {s : Nat} (hs : s < cN M p) : (fX11_hasPan Q (nI s) = 0 ∧ dC M p s 2 = 0) ∨ (fX11_hasPan Q (nI s) = 1 ∧ ¬ dC M p s 2 = 0) := by
  have n6 := (cN_e pl.cW).2
  have hs' : s < (Q.1 (60, 0) 12).toNatClampNeg := by rw [← pl.n1]; exact hs
  have b := (pl.s hs').2.2.2.1
  have p0 := (pn0 b.1).2
  rw [← b.2] at p0
  have hz := hasPan_n Q s (by omega)
  rcases zX11_hasPan Q (nI s) with q | q
  · exact Or.inl ⟨q, p0.mpr (hz.mp q)⟩
  · refine Or.inr ⟨q, fun z => ?_⟩
    have := hz.mpr (p0.mp z)
    rw [q] at this
    exact absurd this (by decide)
def weighs (M : eg_H) (p : Nat) (y x u v w : Int32) : Prop := (vp_in y (cN M p) ∧ ¬ dC M p y.toNatClampNeg 2 = 0) ∧ vp_in x 3601 ∧ (0 ≤ u.toInt ∧ u.toInt ≤ 99) ∧ (0 ≤ v.toInt ∧ v.toInt ≤ 99) ∧ 0 ≤ w.toInt ∧ w.toInt ≤ 1
theorem sX10_canWeigh {κ : eg_K} {d : Nat} (hd : 1 ≤ d) {M N : eg_H} {C p : Nat} (h : JJ M N C p) (y x u v w : Int32) : eg_S κ gC mtX10_canWeigh d [vR (10, 0), vI y, vI x, vI u, vI v, vI w] M (eQI κ gC (fun r M1 => M1 = M ∧ ((r = 0 ∧ ¬ weighs M p y x u v w) ∨ (r = 1 ∧ weighs M p y x u v w)))) := by
  have hp := h.hp
  obtain ⟨g1, g2⟩ := hasPan_b h.1.2.1 y
  have i99 : (99 : Int32).toInt = 99 := by decide
  refine eg_S.of rfl (Nat.le_of_ble_eq_true rfl) (vX10_canWeigh_0 (by omega) M _ _ _ _ _ (fun x1 e1 => ⟨p, hp.2.1, hp.1.1, g1, fun x5 e5 => ⟨fun c => ⟨rfl, Or.inl ⟨rfl, fun q => ?_⟩⟩, fun c5 x8 e8 x9 e9 => ⟨rfl, ?_⟩⟩⟩))
  · rcases g2 with z | z
    · exact z.2 q.1
    · rw [e5, z.1] at c; exact absurd c (by decide)
  · have w1 : (x1 = 0 ∧ ¬ ((0 ≤ u.toInt ∧ u.toInt ≤ 99) ∧ (0 ≤ v.toInt ∧ v.toInt ≤ 99))) ∨ (x1 = 1 ∧ ((0 ≤ u.toInt ∧ u.toInt ≤ 99) ∧ (0 ≤ v.toInt ∧ v.toInt ≤ 99))) := by
      rw [e1]
      by_cases a1 : u < 0
      · rw [if_pos a1]; rw [t_lt, t_0] at a1; exact Or.inl ⟨rfl, by omega⟩
      · rw [if_neg a1]; rw [t_lt, t_0] at a1
        by_cases a2 : (99 : Int32) < u
        · rw [if_pos a2]; rw [t_lt, i99] at a2; exact Or.inl ⟨rfl, by omega⟩
        · rw [if_neg a2]; rw [t_lt, i99] at a2
          by_cases a3 : v < 0
          · rw [if_pos a3]; rw [t_lt, t_0] at a3; exact Or.inl ⟨rfl, by omega⟩
          · rw [if_neg a3]; rw [t_lt, t_0] at a3
            by_cases a4 : (99 : Int32) < v
            · rw [if_pos a4]; rw [t_lt, i99] at a4; exact Or.inl ⟨rfl, by omega⟩
            · rw [if_neg a4]; rw [t_lt, i99] at a4; exact Or.inr ⟨rfl, by omega⟩
    have w5 : vp_in y (cN M p) ∧ ¬ dC M p y.toNatClampNeg 2 = 0 := by
      rcases g2 with z | z
      · exact absurd (e5.trans z.1) c5
      · exact z.2
    rw [e9]
    rcases isLength_n M x with z | z
    · rw [e8, if_pos z.1]; exact Or.inl ⟨rfl, fun q => z.2 q.2.1⟩
    · rw [e8, z.1, if_neg (by decide)]
      rcases w1 with z1 | z1
      · rw [if_pos z1.1]; exact Or.inl ⟨rfl, fun q => z1.2 ⟨q.2.2.1, q.2.2.2.1⟩⟩
      · rw [z1.1, if_neg (by decide)]
        by_cases c0 : w = 0
        · rw [if_pos c0]; exact Or.inr ⟨rfl, w5, z.2, z1.2.1, z1.2.2, by rw [c0, t_0]; omega, by rw [c0, t_0]; omega⟩
        · rw [if_neg c0]
          by_cases c1 : w = 1
          · rw [if_neg (fun q => q c1)]; exact Or.inr ⟨rfl, w5, z.2, z1.2.1, z1.2.2, by rw [c1, t_1]; omega, by rw [c1, t_1]; omega⟩
          · rw [if_pos c1]
            refine Or.inl ⟨rfl, fun q => ?_⟩
            have a0 : ¬ w.toInt = 0 := fun z => c0 (t_eq.mpr (by rw [z, t_0]))
            have a1 : ¬ w.toInt = 1 := fun z => c1 (t_eq.mpr (by rw [z, t_1]))
            have := q.2.2.2.2
            omega
theorem isRule_n {M Q : eg_H} {p : Nat} (pl : PL M p Q) (y x u v w : Int32) : gX11_isRule Q y x u v w ∧ ((fX11_isRule Q y x u v w = 0 ∧ ¬ weighs M p y x u v w) ∨ (fX11_isRule Q y x u v w = 1 ∧ weighs M p y x u v w)) := by
  have n6 := (cN_e pl.cW).2
  have i99 : (99 : Int32).toInt = 99 := by decide
  rcases isStation_n Q y pl.hn with z | z
  · refine ⟨fun c => absurd z.1 c, ?_⟩
    unfold fX11_isRule
    rw [if_pos z.1]
    exact Or.inl ⟨rfl, fun q => z.2 (by rw [← pl.n1]; exact q.1.1)⟩
  · have hy : vp_in y (cN M p) := by rw [pl.n1]; exact z.2
    obtain ⟨ey, hs⟩ := nI_of' hy (by omega)
    refine ⟨fun _ => ?_, ?_⟩
    · rw [ey]; exact ghas_n _ _ 2 (by omega)
    · have hm := hasPan_m pl hs
      rw [← ey] at hm
      unfold fX11_isRule
      rw [z.1, if_neg (by decide)]
      rcases hm with a | a
      · rw [if_pos a.1]; exact Or.inl ⟨rfl, fun q => q.1.2 a.2⟩
      · rw [a.1, if_neg (by decide)]
        rcases isTime_n Q x with b | b
        · rw [if_pos b.1]; exact Or.inl ⟨rfl, fun q => b.2 q.2.1⟩
        · rw [b.1, if_neg (by decide)]
          have c := isIn_n Q u 0 99
          rw [t_0, i99] at c
          rcases c with c | c
          · rw [if_pos c.1]; exact Or.inl ⟨rfl, fun q => c.2 q.2.2.1⟩
          · rw [c.1, if_neg (by decide)]
            have e := isIn_n Q v 0 99
            rw [t_0, i99] at e
            rcases e with e | e
            · rw [if_pos e.1]; exact Or.inl ⟨rfl, fun q => e.2 q.2.2.2.1⟩
            · rw [e.1, if_neg (by decide)]
              have f := isIn_n Q w 0 1
              rw [t_0, t_1] at f
              rcases f with f | f
              · rw [if_pos f.1]; exact Or.inl ⟨rfl, fun q => f.2 q.2.2.2.2⟩
              · rw [f.1, if_neg (by decide)]
                exact Or.inr ⟨rfl, ⟨hy, a.2⟩, b.2, c.2, e.2, f.2⟩
/-- the class's trials -/
theorem sX10_cheapest {κ : eg_K} {d : Nat} (hd : 8 ≤ d) {M N : eg_H} {C p st n f a b k0 kl : Nat} {fl : Int32} (h : JJ M N C p) (hst : st < cN M p) (hpan : ¬ dC M p st 2 = 0) (hn : n ≤ 3600) (hfl : (fl = 1 ∧ f = 5 ∧ a = 55 ∧ b = 56 ∧ k0 = 0 ∧ kl = 59) ∨ (fl = 0 ∧ f = 3 ∧ a = 57 ∧ b = 58 ∧ k0 = 1 ∧ kl = 60)) (u v w : Int32) (hu : 0 ≤ u.toInt ∧ u.toInt ≤ 99) (hv : 0 ≤ v.toInt ∧ v.toInt ≤ 99) : eg_S κ gC mtX10_cheapest d [vR (10, 0), vI (nI st), vI (nI n), vI u, vI v, vI w, vI fl] M (eQI κ gC (fun r M1 => r = (if ¬ w = 0 then (chF (fun k => coF u v st n (sI (sI (fX11_clears (t0 N)) (60, 0) a (nI st)) (60, 0) b (nI k))) 59 (k0 + 1) (coF u v st n (sI (sI (fX11_clears (t0 N)) (60, 0) a (nI st)) (60, 0) b (nI k0))) (nI k0)).1 else (chF (fun k => coF u v st n (sI (sI (fX11_clears (t0 N)) (60, 0) a (nI st)) (60, 0) b (nI k))) 59 (k0 + 1) (coF u v st n (sI (sI (fX11_clears (t0 N)) (60, 0) a (nI st)) (60, 0) b (nI k0))) (nI k0)).2) ∧ FrQ p M M1)) := by
  have hp := h.hp
  have n6 := (cN_e h.1.2.1.cW).2
  have hw := fun M' (k : Nat) (hk : k0 ≤ k ∧ k ≤ kl) sx hv => qs_dish (M' := M') (f := f) (a := a) (b := b) (v := nI k) h hst (by
    rw [t_nI (by omega)]
    rcases hfl with q | q
    · exact Or.inr (Or.inl ⟨q.2.1, q.2.2.1, q.2.2.2.1, by omega, by omega⟩)
    · exact Or.inr (Or.inr ⟨q.2.1, q.2.2.1, q.2.2.2.1, ⟨by omega, by omega⟩, hpan⟩)) sx hv
  generalize hQ : (fun k => sI (sI (fX11_clears (t0 N)) (60, 0) a (nI st)) (60, 0) b (nI k)) = Qf at *
  have eQ : ∀ k, sI (sI (fX11_clears (t0 N)) (60, 0) a (nI st)) (60, 0) b (nI k) = Qf k := fun k => congrFun hQ k
  simp only [eQ] at hw ⊢
  have step : ∀ (post : Int32 → eg_H → Prop) (M' : eg_H) (k : Nat) (l bb : Int32), k0 ≤ k → k ≤ kl → spX M p M' (exD p st f) → (∀ M12, spX M p M12 (exD p st f) → 0 ≤ (coF u v st n (Qf k)).toInt → (l = -1 → eg_W κ gC mtX10_cheapest d (eQI κ gC post) 65 [(0, vR (10, 0)), (2, vI (nI n)), (3, vI u), (4, vI v), (5, vI w), (6, vI fl), (7, vR (1, 5 * (1 - p) + st)), (8, vR (4, 5 * 1 + st)), (9, vI (coF u v st n (Qf k))), (10, vI (nI k)), (11, vI (nI kl)), (12, vI (nI (k + 1)))] [] M12) ∧ (¬ l = -1 → (l ≤ coF u v st n (Qf k) → eg_W κ gC mtX10_cheapest d (eQI κ gC post) 65 [(0, vR (10, 0)), (2, vI (nI n)), (3, vI u), (4, vI v), (5, vI w), (6, vI fl), (7, vR (1, 5 * (1 - p) + st)), (8, vR (4, 5 * 1 + st)), (9, vI l), (10, vI bb), (11, vI (nI kl)), (12, vI (nI (k + 1)))] [] M12) ∧ (¬ l ≤ coF u v st n (Qf k) → eg_W κ gC mtX10_cheapest d (eQI κ gC post) 65 [(0, vR (10, 0)), (2, vI (nI n)), (3, vI u), (4, vI v), (5, vI w), (6, vI fl), (7, vR (1, 5 * (1 - p) + st)), (8, vR (4, 5 * 1 + st)), (9, vI (coF u v st n (Qf k))), (10, vI (nI k)), (11, vI (nI kl)), (12, vI (nI (k + 1)))] [] M12))) → eg_W κ gC mtX10_cheapest d (eQI κ gC post) 65 [(0, vR (10, 0)), (2, vI (nI n)), (3, vI u), (4, vI v), (5, vI w), (6, vI fl), (7, vR (1, 5 * (1 - p) + st)), (8, vR (4, 5 * 1 + st)), (9, vI l), (10, vI bb), (11, vI (nI kl)), (12, vI (nI k))] [] M' := by
    intro post M' k l bb hk1 hk2 sx K
    refine vX10_cheapest_65 (by omega) M' _ _ _ _ _ (by omega) (by omega) _ _ _ _ ⟨fun c => absurd ((nI_lt' (by omega) (by omega)).mp c) (by omega), fun _ x5 e5 M6 e6 x7 e7 M8 e8 => ?_⟩
    have e8' : M8 = sI M' (1, 5 * (1 - p) + st) f (nI k) := by
      rcases hfl with q | q
      · rw [q.1, if_neg (by decide)] at e5 e7
        rw [e8, e7, sI_self, e6, e5, q.2.1]
      · rw [q.1, if_pos rfl] at e5 e7
        rw [e8, e7, e6, e5, sI_self, q.2.1]
    have s8 : spX M p M8 (exD p st f) := by rw [e8']; exact sx.I (pOf_1 (by omega)) (by dsimp only; decide) ⟨rfl, rfl⟩ _
    have q8 := hw M8 k ⟨hk1, hk2⟩ s8 (by rw [e8', sI_i, if_pos ⟨rfl, rfl⟩])
    have hW := q8.1
    refine ⟨1 - p, hp.2.2.1, (s8.r hp.1).2, _, sX7_begin (by omega) (t := 1) (by omega) hW (anC_40 (j := 0) (by decide)) (by omega) (fun k _ => cXo_40 (t0 := 1) (t1 := 0) (by decide) k), fun M10 ⟨Z1, e1, b1⟩ => ?_⟩
    rw [e1]
    refine ⟨_, q8.go (by omega) hn b1, fun M12 t12 x14 e14 => ?_⟩
    have ecN : cN M8 (1 - p) = cN M p := by unfold cN; rw [s8.2.1 0 (by omega) (fun q => kd_ne (by decide) q.1)]
    have c0 := q8.co0 hn (st := st) (by have : nM (Qf k) = cN M8 (1 - p) := q8.2.2.2.1.1.symm; omega) hu hv
    have t0' := t12.s (s := st) (k := 0) (by omega) (by omega) (by omega)
    rw [t12.s (k := 5) (by omega) (by omega) (by omega), t0'] at e14
    have e14' : x14 = coF u v st n (Qf k) := e14
    obtain ⟨K1, K2⟩ := K M12 (s8.t t12) c0
    rw [e14']
    refine ⟨fun c x16 e16 => by rw [e16, nI_1]; exact K1 c, fun c => ⟨fun c2 x18 e18 => by rw [e18, nI_1]; exact (K2 c).1 c2, fun c2 x19 e19 => by rw [e19, nI_1]; exact (K2 c).2 c2⟩⟩
  have loop : ∀ m k M' l bb, k0 ≤ k → k + m = kl + 1 → spX M p M' (exD p st f) → 0 ≤ l.toInt → eg_W κ gC mtX10_cheapest d (eQI κ gC (fun r M1 => r = (if ¬ w = 0 then (chF (fun k => coF u v st n (Qf k)) m k l bb).1 else (chF (fun k => coF u v st n (Qf k)) m k l bb).2) ∧ FrQ p M M1)) 65 [(0, vR (10, 0)), (2, vI (nI n)), (3, vI u), (4, vI v), (5, vI w), (6, vI fl), (7, vR (1, 5 * (1 - p) + st)), (8, vR (4, 5 * 1 + st)), (9, vI l), (10, vI bb), (11, vI (nI kl)), (12, vI (nI k))] [] M' := by
    intro m
    induction m with
    | zero =>
      intro k M' l bb hk1 hk sx hl
      exact vX10_cheapest_65 (by omega) M' _ _ _ _ _ (by omega) (by omega) _ _ _ _ ⟨fun _ x2 e2 => ⟨by rw [e2]; rfl, sx.1⟩, fun c => absurd ((nI_lt' (by omega) (by omega)).mpr (by omega)) c⟩
    | succ m ih =>
      intro k M' l bb hk1 hk sx hl
      have lne : ¬ l = -1 := fun q => by rw [q, t_m1] at hl; omega
      refine step _ M' k l bb hk1 (by omega) sx (fun M12 s12 c0 => ⟨fun q => absurd q lne, fun _ => ⟨fun c => ?_, fun c => ?_⟩⟩)
      · have e : chF (fun k => coF u v st n (Qf k)) (m + 1) k l bb = chF (fun k => coF u v st n (Qf k)) m (k + 1) l bb := if_pos c
        rw [e]
        exact ih (k + 1) M12 l bb (by omega) (by omega) s12 hl
      · have e : chF (fun k => coF u v st n (Qf k)) (m + 1) k l bb = chF (fun k => coF u v st n (Qf k)) m (k + 1) (coF u v st n (Qf k)) (nI k) := if_neg c
        rw [e]
        exact ih (k + 1) M12 _ _ (by omega) (by omega) s12 c0
  refine eg_S.of rfl (Nat.le_of_ble_eq_true rfl) (vX10_cheapest_0 (by omega) M _ _ _ _ _ _ ⟨1 - p, hp.2.2.1, hp.1.2, p, hp.2.1, hp.1.1, _, h.copy (FrQ.rf p M) (by omega), fun M3 c3 => ?_⟩)
  have s3 := (h.sp (FrQ.rf p M) c3).w (ex2 := exD p st f) (fun _ _ q => q.elim)
  refine ⟨1 - p, hp.2.2.1, (s3.r hp.1).2, nI_in' (by omega) (by omega), fun x7 e7 x8 e8 => ?_⟩
  have e7' : x7 = nI kl := by
    rcases hfl with q | q
    · rw [e7, q.1, if_neg (by decide), q.2.2.2.2.2]; rfl
    · rw [e7, q.1, if_pos rfl, q.2.2.2.2.2]; rfl
  have e8' : x8 = nI k0 := by
    rcases hfl with q | q
    · rw [e8, q.1, if_neg (by decide), q.2.2.2.2.1]; rfl
    · rw [e8, q.1, if_pos rfl, q.2.2.2.2.1]; rfl
  rw [e7', e8', nI_t (by omega)]
  refine step _ M3 k0 (-1) (-1) (Nat.le_refl _) (by omega) s3 (fun M12 s12 c0 => ⟨fun _ => ?_, fun q => absurd rfl q⟩)
  exact loop 59 (k0 + 1) M12 _ _ (by omega) (by omega) s12 c0
theorem st_fill {M N : eg_H} {C p : Nat} (h : JJ M N C p) (y x u v w : Int32) : StI mtX10_fill mtX11_fill [vI y, vI x, vI u, vI v, vI w] M N C := by
  have F0 : FrN N (t0 N) := FrN_f N (by omega) 0
  have hp := h.hp
  have pl0 : PL M p (t0 N) := h.1.2.1.cong (fun _ _ => rfl) F0.T
  have n6 := (cN_e h.1.2.1.cW).2
  obtain ⟨ir1, ir2⟩ := isRule_n pl0 y x u v w
  by_cases hx : weighs M p y x u v w
  · obtain ⟨⟨hy, hpan⟩, hx2, hu, hv, hw2⟩ := hx
    have hx : weighs M p y x u v w := ⟨⟨hy, hpan⟩, hx2, hu, hv, hw2⟩
    have irz : ¬ fX11_isRule (t0 N) y x u v w = 0 := by
      rcases ir2 with q | q
      · exact absurd hx q.2
      · rw [q.1]; decide
    obtain ⟨ey, hst⟩ := nI_of' hy (by omega)
    obtain ⟨ex, hn⟩ := nI_of' hx2 (by omega)
    generalize x.toNatClampNeg = n at ex hn
    generalize y.toNatClampNeg = st at ey hst hpan
    subst ex ey
    have hfl : ((1 : Int32) = 1 ∧ 5 = 5 ∧ 55 = 55 ∧ 56 = 56 ∧ 0 = 0 ∧ 59 = 59) ∨ ((1 : Int32) = 0 ∧ 5 = 3 ∧ 55 = 57 ∧ 56 = 58 ∧ 0 = 1 ∧ 59 = 60) := by decide
    have hc := fun κ => sX10_cheapest (κ := κ) (d := 11) (by omega) h hst hpan (n := n) (by omega) hfl u v w hu hv
    obtain ⟨Ms, ss⟩ := h.spE
    have ss := ss.w (ex2 := exD p st 5) (fun _ _ q => q.elim)
    have hm := fun (k : Nat) (hk : 0 ≤ k ∧ k ≤ 59) => qs_dish (f := 5) (a := 55) (b := 56) (v := nI k) h hst (by
      rw [t_nI (by omega)]
      exact Or.inr (Or.inl ⟨rfl, rfl, rfl, by omega, by omega⟩)) (ss.I (r := (1, 5 * (1 - p) + st)) (k := 5) (pOf_1 (by omega)) (by dsimp only; decide) ⟨rfl, rfl⟩ (nI k)) (by rw [sI_i, if_pos ⟨rfl, rfl⟩])
    have hs := fun k hk nm s => mI_s (n := n) (by omega) (by omega) (hm k hk) (by omega) nm s
    have hu2 := fun M1 m k => mI_u (N := N) (M := M1) (a := 55) (b := 56) (by decide) (by decide) m (nI st) (nI k)
    generalize hQ : (fun k => sI (sI (fX11_clears (t0 N)) (60, 0) 55 (nI st)) (60, 0) 56 (nI k)) = Qf at *
    have eQ : ∀ k, sI (sI (fX11_clears (t0 N)) (60, 0) 55 (nI st)) (60, 0) 56 (nI k) = Qf k := fun k => congrFun hQ k
    simp only [eQ] at hc hm hs hu2
    refine StI.q h (if ¬ w = 0 then (chF (fun k => coF u v st n (Qf k)) 59 (0 + 1) (coF u v st n (Qf 0)) (nI 0)).1 else (chF (fun k => coF u v st n (Qf k)) 59 (0 + 1) (coF u v st n (Qf 0)) (nI 0)).2) (fun κ => ?_) (fun κ => ?_)
    · refine eg_S.of rfl (Nat.le_of_ble_eq_true rfl) (vX10_fill_0 (by omega) M _ _ _ _ _ ⟨_, sX10_canWeigh (by omega) h (nI st) (nI n) u v w, fun x1 M2 ⟨e2, cw⟩ => ⟨fun c => ?_, fun _ => ?_⟩⟩)
      · rcases cw with q | q
        · exact absurd hx q.2
        · rw [q.1] at c; exact absurd c (by decide)
      · rw [e2]
        exact ⟨_, hc κ, fun x5 M6 z => z⟩
    · have step : ∀ (post : Int32 → eg_H → Prop) (M1 : eg_H) (k : Nat) (l bb : Int32), 0 ≤ k → k ≤ 59 → mI N 55 56 M1 → (∀ M12, mI N 55 56 M12 → (bb < 0 → eg_W κ gM mtX11_fill 12 (eQI κ gM post) 30 [(0, vR (60, 0)), (1, vI (nI st)), (2, vI (nI n)), (3, vI u), (4, vI v), (5, vI w), (6, vI (nI k)), (7, vI (coF u v st n (Qf k))), (8, vI (nI (k + 1)))] [] M12) ∧ (¬ bb < 0 → (coF u v st n (Qf k) < l → eg_W κ gM mtX11_fill 12 (eQI κ gM post) 30 [(0, vR (60, 0)), (1, vI (nI st)), (2, vI (nI n)), (3, vI u), (4, vI v), (5, vI w), (6, vI (nI k)), (7, vI (coF u v st n (Qf k))), (8, vI (nI (k + 1)))] [] M12) ∧ (¬ coF u v st n (Qf k) < l → eg_W κ gM mtX11_fill 12 (eQI κ gM post) 30 [(0, vR (60, 0)), (1, vI (nI st)), (2, vI (nI n)), (3, vI u), (4, vI v), (5, vI w), (6, vI bb), (7, vI l), (8, vI (nI (k + 1)))] [] M12))) → eg_W κ gM mtX11_fill 12 (eQI κ gM post) 30 [(0, vR (60, 0)), (1, vI (nI st)), (2, vI (nI n)), (3, vI u), (4, vI v), (5, vI w), (6, vI bb), (7, vI l), (8, vI (nI k))] [] M1 := by
        intro post M1 k l bb hk1 hk2 m1 K
        refine vX11_fill_30 (by omega) M1 _ _ _ _ _ _ _ _ ⟨fun c => absurd ((nI_le' (a := 60) (by omega) (by omega)).mp c) (by omega), fun _ => ⟨mI_g h m1, fun M6 e6 M8 e8 M9 e9 => ?_⟩⟩
        obtain ⟨nm, s, Y, eu, hY⟩ := hu2 M1 m1 k
        rw [e6] at e8
        rw [e8, eu] at e9
        rw [e9]
        refine ⟨_, sX11_costAt (hm k ⟨hk1, hk2⟩) (by omega) (by omega) (by omega) u v nm s Y hY, fun x10 M11 ⟨a10, nm2, s2, e11⟩ => ?_⟩
        rw [e11, a10]
        obtain ⟨K1, K2⟩ := K _ (hs k ⟨hk1, hk2⟩ nm2 s2)
        exact ⟨fun c x14 e14 => by rw [e14, nI_1]; exact K1 c, fun c => ⟨fun c2 x16 e16 => by rw [e16, nI_1]; exact (K2 c).1 c2, fun c2 x17 e17 => by rw [e17, nI_1]; exact (K2 c).2 c2⟩⟩
      have loop : ∀ m k M1 l bb, 0 ≤ k → k + m = 60 → mI N 55 56 M1 → ¬ bb < 0 → eg_W κ gM mtX11_fill 12 (eQI κ gM (fun r N1 => r = (if ¬ w = 0 then (chF (fun k => coF u v st n (Qf k)) m k l bb).1 else (chF (fun k => coF u v st n (Qf k)) m k l bb).2) ∧ FrN N N1)) 30 [(0, vR (60, 0)), (1, vI (nI st)), (2, vI (nI n)), (3, vI u), (4, vI v), (5, vI w), (6, vI bb), (7, vI l), (8, vI (nI k))] [] M1 := by
        intro m
        induction m with
        | zero =>
          intro k M1 l bb hk1 hk m1 hb
          exact vX11_fill_30 (by omega) M1 _ _ _ _ _ _ _ _ ⟨fun _ x2 e2 => ⟨by rw [e2]; rfl, m1.1⟩, fun c => absurd ((nI_le' (a := 60) (by omega) (by omega)).mpr (by omega)) c⟩
        | succ m ih =>
          intro k M1 l bb hk1 hk m1 hb
          refine step _ M1 k l bb hk1 (by omega) m1 (fun M12 m12 => ⟨fun q => absurd q hb, fun _ => ⟨fun c => ?_, fun c => ?_⟩⟩)
          · have e : chF (fun k => coF u v st n (Qf k)) (m + 1) k l bb = chF (fun k => coF u v st n (Qf k)) m (k + 1) (coF u v st n (Qf k)) (nI k) := if_neg (show ¬ l ≤ coF u v st n (Qf k) from fun q => by rw [t_le] at q; rw [t_lt] at c; omega)
            rw [e]
            exact ih (k + 1) M12 _ _ (by omega) (by omega) m12 (nI_pos (by omega))
          · have e : chF (fun k => coF u v st n (Qf k)) (m + 1) k l bb = chF (fun k => coF u v st n (Qf k)) m (k + 1) l bb := if_pos (show l ≤ coF u v st n (Qf k) by rw [t_le]; rw [t_lt] at c; omega)
            rw [e]
            exact ih (k + 1) M12 l bb (by omega) (by omega) m12 hb
      refine eg_S.of rfl (Nat.le_of_ble_eq_true rfl) (vX11_fill_0 (by omega) N _ _ _ _ _ (fun M1 e1 => ?_))
      rw [e1]
      refine ⟨ir1, fun x4 e4 => ⟨fun _ => ?_, fun c => absurd (e4.symm.trans c) irz⟩⟩
      refine step _ _ 0 0 (-1) (by omega) (by omega) (mI_0 h 55 56) (fun M12 m12 => ⟨fun _ => loop 59 (0 + 1) M12 _ _ (by omega) (by omega) m12 (nI_pos (by omega)), fun q => absurd (by decide) q⟩)
  · have irz : fX11_isRule (t0 N) y x u v w = 0 := by
      rcases ir2 with q | q
      · exact q.1
      · exact absurd q.2 hx
    refine StI.q h (-1) (fun κ => ?_) (fun κ => ?_)
    · refine eg_S.of rfl (Nat.le_of_ble_eq_true rfl) (vX10_fill_0 (by omega) M _ _ _ _ _ ⟨_, sX10_canWeigh (by omega) h y x u v w, fun x1 M2 ⟨e2, cw⟩ => ⟨fun c => ⟨rfl, by rw [e2]; exact FrQ.rf p M⟩, fun c => ?_⟩⟩)
      rcases cw with q | q
      · exact absurd q.1 c
      · exact absurd q.2 hx
    · refine eg_S.of rfl (Nat.le_of_ble_eq_true rfl) (vX11_fill_0 (by omega) N _ _ _ _ _ (fun M1 e1 => ?_))
      rw [e1]
      exact ⟨ir1, fun x4 e4 => ⟨fun c => absurd (e4.trans irz) c, fun _ => ⟨rfl, F0⟩⟩⟩
theorem st_rule {M N : eg_H} {C p : Nat} (h : JJ M N C p) (y x u v w : Int32) : StI mtX10_rule mtX11_rule [vI y, vI x, vI u, vI v, vI w] M N C := by
  have F0 : FrN N (t0 N) := FrN_f N (by omega) 0
  have hp := h.hp
  have pl0 : PL M p (t0 N) := h.1.2.1.cong (fun _ _ => rfl) F0.T
  have n6 := (cN_e h.1.2.1.cW).2
  obtain ⟨ir1, ir2⟩ := isRule_n pl0 y x u v w
  by_cases hx : weighs M p y x u v w
  · obtain ⟨⟨hy, hpan⟩, hx2, hu, hv, hw2⟩ := hx
    have hx : weighs M p y x u v w := ⟨⟨hy, hpan⟩, hx2, hu, hv, hw2⟩
    have irz : ¬ fX11_isRule (t0 N) y x u v w = 0 := by
      rcases ir2 with q | q
      · exact absurd hx q.2
      · rw [q.1]; decide
    obtain ⟨ey, hst⟩ := nI_of' hy (by omega)
    obtain ⟨ex, hn⟩ := nI_of' hx2 (by omega)
    generalize x.toNatClampNeg = n at ex hn
    generalize y.toNatClampNeg = st at ey hst hpan
    subst ex ey
    have hfl : ((0 : Int32) = 1 ∧ 3 = 5 ∧ 57 = 55 ∧ 58 = 56 ∧ 1 = 0 ∧ 60 = 59) ∨ ((0 : Int32) = 0 ∧ 3 = 3 ∧ 57 = 57 ∧ 58 = 58 ∧ 1 = 1 ∧ 60 = 60) := by decide
    have hc := fun κ => sX10_cheapest (κ := κ) (d := 11) (by omega) h hst hpan (n := n) (by omega) hfl u v w hu hv
    obtain ⟨Ms, ss⟩ := h.spE
    have ss := ss.w (ex2 := exD p st 3) (fun _ _ q => q.elim)
    have hm := fun (k : Nat) (hk : 1 ≤ k ∧ k ≤ 60) => qs_dish (f := 3) (a := 57) (b := 58) (v := nI k) h hst (by
      rw [t_nI (by omega)]
      exact Or.inr (Or.inr ⟨rfl, rfl, rfl, ⟨by omega, by omega⟩, hpan⟩)) (ss.I (r := (1, 5 * (1 - p) + st)) (k := 3) (pOf_1 (by omega)) (by dsimp only; decide) ⟨rfl, rfl⟩ (nI k)) (by rw [sI_i, if_pos ⟨rfl, rfl⟩])
    have hs := fun k hk nm s => mI_s (n := n) (by omega) (by omega) (hm k hk) (by omega) nm s
    have hu2 := fun M1 m k => mI_u (N := N) (M := M1) (a := 57) (b := 58) (by decide) (by decide) m (nI st) (nI k)
    generalize hQ : (fun k => sI (sI (fX11_clears (t0 N)) (60, 0) 57 (nI st)) (60, 0) 58 (nI k)) = Qf at *
    have eQ : ∀ k, sI (sI (fX11_clears (t0 N)) (60, 0) 57 (nI st)) (60, 0) 58 (nI k) = Qf k := fun k => congrFun hQ k
    simp only [eQ] at hc hm hs hu2
    refine StI.q h (if ¬ w = 0 then (chF (fun k => coF u v st n (Qf k)) 59 (1 + 1) (coF u v st n (Qf 1)) (nI 1)).1 else (chF (fun k => coF u v st n (Qf k)) 59 (1 + 1) (coF u v st n (Qf 1)) (nI 1)).2) (fun κ => ?_) (fun κ => ?_)
    · refine eg_S.of rfl (Nat.le_of_ble_eq_true rfl) (vX10_rule_0 (by omega) M _ _ _ _ _ ⟨_, sX10_canWeigh (by omega) h (nI st) (nI n) u v w, fun x1 M2 ⟨e2, cw⟩ => ⟨fun c => ?_, fun _ => ?_⟩⟩)
      · rcases cw with q | q
        · exact absurd hx q.2
        · rw [q.1] at c; exact absurd c (by decide)
      · rw [e2]
        exact ⟨_, hc κ, fun x5 M6 z => z⟩
    · have step : ∀ (post : Int32 → eg_H → Prop) (M1 : eg_H) (k : Nat) (l bb : Int32), 1 ≤ k → k ≤ 60 → mI N 57 58 M1 → (∀ M12, mI N 57 58 M12 → (bb < 0 → eg_W κ gM mtX11_rule 12 (eQI κ gM post) 30 [(0, vR (60, 0)), (1, vI (nI st)), (2, vI (nI n)), (3, vI u), (4, vI v), (5, vI w), (6, vI (nI k)), (7, vI (coF u v st n (Qf k))), (8, vI (nI (k + 1)))] [] M12) ∧ (¬ bb < 0 → (coF u v st n (Qf k) < l → eg_W κ gM mtX11_rule 12 (eQI κ gM post) 30 [(0, vR (60, 0)), (1, vI (nI st)), (2, vI (nI n)), (3, vI u), (4, vI v), (5, vI w), (6, vI (nI k)), (7, vI (coF u v st n (Qf k))), (8, vI (nI (k + 1)))] [] M12) ∧ (¬ coF u v st n (Qf k) < l → eg_W κ gM mtX11_rule 12 (eQI κ gM post) 30 [(0, vR (60, 0)), (1, vI (nI st)), (2, vI (nI n)), (3, vI u), (4, vI v), (5, vI w), (6, vI bb), (7, vI l), (8, vI (nI (k + 1)))] [] M12))) → eg_W κ gM mtX11_rule 12 (eQI κ gM post) 30 [(0, vR (60, 0)), (1, vI (nI st)), (2, vI (nI n)), (3, vI u), (4, vI v), (5, vI w), (6, vI bb), (7, vI l), (8, vI (nI k))] [] M1 := by
        intro post M1 k l bb hk1 hk2 m1 K
        refine vX11_rule_30 (by omega) M1 _ _ _ _ _ _ _ _ ⟨fun c => absurd ((nI_le' (a := 61) (by omega) (by omega)).mp c) (by omega), fun _ => ⟨mI_g h m1, fun M6 e6 M8 e8 M9 e9 => ?_⟩⟩
        obtain ⟨nm, s, Y, eu, hY⟩ := hu2 M1 m1 k
        rw [e6] at e8
        rw [e8, eu] at e9
        rw [e9]
        refine ⟨_, sX11_costAt (hm k ⟨hk1, hk2⟩) (by omega) (by omega) (by omega) u v nm s Y hY, fun x10 M11 ⟨a10, nm2, s2, e11⟩ => ?_⟩
        rw [e11, a10]
        obtain ⟨K1, K2⟩ := K _ (hs k ⟨hk1, hk2⟩ nm2 s2)
        exact ⟨fun c x14 e14 => by rw [e14, nI_1]; exact K1 c, fun c => ⟨fun c2 x16 e16 => by rw [e16, nI_1]; exact (K2 c).1 c2, fun c2 x17 e17 => by rw [e17, nI_1]; exact (K2 c).2 c2⟩⟩
      have loop : ∀ m k M1 l bb, 1 ≤ k → k + m = 61 → mI N 57 58 M1 → ¬ bb < 0 → eg_W κ gM mtX11_rule 12 (eQI κ gM (fun r N1 => r = (if ¬ w = 0 then (chF (fun k => coF u v st n (Qf k)) m k l bb).1 else (chF (fun k => coF u v st n (Qf k)) m k l bb).2) ∧ FrN N N1)) 30 [(0, vR (60, 0)), (1, vI (nI st)), (2, vI (nI n)), (3, vI u), (4, vI v), (5, vI w), (6, vI bb), (7, vI l), (8, vI (nI k))] [] M1 := by
        intro m
        induction m with
        | zero =>
          intro k M1 l bb hk1 hk m1 hb
          exact vX11_rule_30 (by omega) M1 _ _ _ _ _ _ _ _ ⟨fun _ x2 e2 => ⟨by rw [e2]; rfl, m1.1⟩, fun c => absurd ((nI_le' (a := 61) (by omega) (by omega)).mpr (by omega)) c⟩
        | succ m ih =>
          intro k M1 l bb hk1 hk m1 hb
          refine step _ M1 k l bb hk1 (by omega) m1 (fun M12 m12 => ⟨fun q => absurd q hb, fun _ => ⟨fun c => ?_, fun c => ?_⟩⟩)
          · have e : chF (fun k => coF u v st n (Qf k)) (m + 1) k l bb = chF (fun k => coF u v st n (Qf k)) m (k + 1) (coF u v st n (Qf k)) (nI k) := if_neg (show ¬ l ≤ coF u v st n (Qf k) from fun q => by rw [t_le] at q; rw [t_lt] at c; omega)
            rw [e]
            exact ih (k + 1) M12 _ _ (by omega) (by omega) m12 (nI_pos (by omega))
          · have e : chF (fun k => coF u v st n (Qf k)) (m + 1) k l bb = chF (fun k => coF u v st n (Qf k)) m (k + 1) l bb := if_pos (show l ≤ coF u v st n (Qf k) by rw [t_le]; rw [t_lt] at c; omega)
            rw [e]
            exact ih (k + 1) M12 l bb (by omega) (by omega) m12 hb
      refine eg_S.of rfl (Nat.le_of_ble_eq_true rfl) (vX11_rule_0 (by omega) N _ _ _ _ _ (fun M1 e1 => ?_))
      rw [e1]
      refine ⟨ir1, fun x4 e4 => ⟨fun _ => ?_, fun c => absurd (e4.symm.trans c) irz⟩⟩
      refine step _ _ 1 0 (-1) (by omega) (by omega) (mI_0 h 57 58) (fun M12 m12 => ⟨fun _ => loop 59 (1 + 1) M12 _ _ (by omega) (by omega) m12 (nI_pos (by omega)), fun q => absurd (by decide) q⟩)
  · have irz : fX11_isRule (t0 N) y x u v w = 0 := by
      rcases ir2 with q | q
      · exact q.1
      · exact absurd q.2 hx
    refine StI.q h (-1) (fun κ => ?_) (fun κ => ?_)
    · refine eg_S.of rfl (Nat.le_of_ble_eq_true rfl) (vX10_rule_0 (by omega) M _ _ _ _ _ ⟨_, sX10_canWeigh (by omega) h y x u v w, fun x1 M2 ⟨e2, cw⟩ => ⟨fun c => ⟨rfl, by rw [e2]; exact FrQ.rf p M⟩, fun c => ?_⟩⟩)
      rcases cw with q | q
      · exact absurd q.1 c
      · exact absurd q.2 hx
    · refine eg_S.of rfl (Nat.le_of_ble_eq_true rfl) (vX11_rule_0 (by omega) N _ _ _ _ _ (fun M1 e1 => ?_))
      rw [e1]
      exact ⟨ir1, fun x4 e4 => ⟨fun c => absurd (e4.trans irz) c, fun _ => ⟨rfl, F0⟩⟩⟩
