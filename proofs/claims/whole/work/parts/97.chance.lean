/-! CHANCE -/
def lx (x : Int64) : Int64 := (x * 1103515245 + 12345) &&& 2147483647
def lxN (x : Int64) : Nat → Int64
  | 0 => x
  | k + 1 => lx (lxN x k)
/-- the seconds later that a drawn number says -/
def lat (b : Int32) (v : Int64) : Int32 := (v / 65536 - v / 65536 / b.toInt64 * b.toInt64).toInt32
theorem lat_c (b : Int32) (x : Int64) (hb : 1 ≤ b.toInt ∧ b.toInt ≤ 601) : (lx x / 65536).toInt32 - (lx x / 65536).toInt32 / b * b = lat b (lx x) := lcg_r _ b (lcg_v _).1 (lcg_v _).2 hb
theorem lat_b (b : Int32) (x : Int64) (hb : 1 ≤ b.toInt ∧ b.toInt ≤ 601) : 0 ≤ (lat b (lx x)).toInt ∧ (lat b (lx x)).toInt ≤ 600 := by
  rw [← lat_c b x hb]
  obtain ⟨h0, h1⟩ := lcg_v (x * 1103515245 + 12345)
  have h0 : 0 ≤ (lx x / 65536).toInt := h0
  have h1 : (lx x / 65536).toInt < 32768 := h1
  have e : (lx x / 65536).toInt32.toInt = (lx x / 65536).toInt := by rw [Int64.toInt_toInt32]; exact Int.bmod_eq_of_le (by omega) (by omega)
  generalize (lx x / 65536).toInt32 = v at *
  rw [← e] at h0 h1
  clear e
  have d0 : 0 ≤ v.toInt.tdiv b.toInt := Int.tdiv_nonneg h0 (by omega)
  have d1 : v.toInt.tdiv b.toInt ≤ v.toInt := Int.tdiv_le_self _ h0
  have ed : (v / b).toInt = v.toInt.tdiv b.toInt := by rw [Int32.toInt_div]; exact Int.bmod_eq_of_le (by omega) (by omega)
  have hm := Int.tmod_add_tdiv_mul v.toInt b.toInt
  have hm0 : 0 ≤ v.toInt.tmod b.toInt := Int.tmod_nonneg _ h0
  have hm1 : v.toInt.tmod b.toInt < b.toInt := Int.tmod_lt_of_pos _ (by omega)
  have em : (v / b * b).toInt = v.toInt.tdiv b.toInt * b.toInt := by rw [t_mul (by rw [ed]; omega) (by rw [ed]; omega), ed]
  rw [t_sub (by rw [em]; omega) (by rw [em]; omega), em]
  omega
abbrev exC : eg_R → Nat → Prop := fun r k => r.1 = 0 ∧ k = 1
/-- the model with guests who come later -/
def chQ (A : eg_H) (b : Int32) (G : Nat) (x : Int64) : eg_H := sW A (125, 0) (cpT (fun j => lat b (lxN x (j + 1))) (A.1 (125, 0)) G)
def chV (M : eg_H) (p : Nat) (b : Int32) (x : Int64) (g : Nat) : Int32 := if 3600 ≤ M.1 (0, 15 * p + g) 1 + lat b (lxN x (g + 1)) then 3599 else M.1 (0, 15 * p + g) 1 + lat b (lxN x (g + 1))
theorem chQ_f (A : eg_H) (b : Int32) (G : Nat) (x : Int64) : (chQ A b G x).1 (60, 0) = A.1 (60, 0) := sW_ne _ _ (by decide)
theorem chQ_Fr (A : eg_H) (b : Int32) (G : Nat) (x : Int64) : FrN A (chQ A b G x) := by
  have e : ∀ r : eg_R, r ≠ (125, 0) → (chQ A b G x).1 r = A.1 r := fun r hr => sW_ne _ _ hr
  refine ⟨fun k _ _ _ => by rw [e _ (by decide)], fun r _ _ h3 _ _ _ _ _ _ _ => e r (fun q => h3 (by rw [q])), fun g _ => ?_, fun j _ => by rw [e _ (by decide)]⟩
  rw [e _ (by decide), e _ (by decide), e _ (by decide)]
  exact ⟨rfl, rfl, fun _ _ => rfl⟩
theorem qs_chance {M N M' : eg_H} {C p : Nat} (h : JJ M N C p) {b : Int32} (hb : 1 ≤ b.toInt ∧ b.toInt ≤ 601) (x : Int64) (sx : spX M p M' exC) (hv : ∀ g, g < cP M p → M'.1 (0, 15 * (1 - p) + g) 1 = chV M p b x g) : QS M' (1 - p) (chQ (fX11_clears (t0 N)) b (cP M p) x) (M'.1 (40, 0)) := by
  have F : FrN N (chQ (fX11_clears (t0 N)) b (cP M p) x) := ((FrN_f N (k := 2) (by omega) 0).tr (clr_Fr _)).tr (chQ_Fr _ _ _ _)
  have pl : PL M p (chQ (fX11_clears (t0 N)) b (cP M p) x) := h.1.2.1.cong (fun _ _ => rfl) F.T
  obtain ⟨ck1, ck2⟩ := h.ck (FrN_f N (k := 2) (by omega) 0)
  have f := chQ_f (fX11_clears (t0 N)) b (cP M p) x
  have r125 : ∀ g, g < cP M p → (chQ (fX11_clears (t0 N)) b (cP M p) x).1 (125, 0) g = lat b (lxN x (g + 1)) := fun g hg => by
    unfold chQ
    rw [sW_at, cpT_lt hg]
  have r126 : ∀ k, k < cN M p → M.1 (40, 0) k = (chQ (fX11_clears (t0 N)) b (cP M p) x).1 (126, 0) k := fun k hk => by unfold chQ; rw [sW_ne _ _ (by decide)]; exact ck1 k hk
  have r110 : ∀ j, 366 ≤ j → (chQ (fX11_clears (t0 N)) b (cP M p) x).1 (110, 0) j = 0 := fun j hj => by unfold chQ; rw [sW_ne _ _ (by decide)]; exact ck2 j hj
  have cl := clr_n (t0 N)
  have n6 := (cN_e pl.cW).2
  have g9 := pl.gg.2
  generalize chQ (fX11_clears (t0 N)) b (cP M p) x = Q at *
  obtain ⟨g1, g2⟩ := pl.ev (by rw [f]; exact cl.2.2.2.2.2.2.1)
  have b2 := sx.2.1 2 (by omega) (fun q => absurd q.1 (show ¬ (5 : Nat) = 0 by decide))
  have eP : cP M' (1 - p) = cP M p := by unfold cP; rw [b2]
  have bo : ∀ g, g < (Q.1 (60, 0) 13).toNatClampNeg → pC M p g 0 = M.1 (0, 15 * p + g) 1 ∧ (0 ≤ (M.1 (0, 15 * p + g) 1 + lat b (lxN x (g + 1))).toInt ∧ (M.1 (0, 15 * p + g) 1 + lat b (lxN x (g + 1))).toInt ≤ 4199) := fun g hg => by
    have q := (pl.g hg).2.1
    have l := lat_b b (lxN x g) hb
    refine ⟨rfl, ?_⟩
    rw [q.2]
    show 0 ≤ (Q.1 (91, 0) g + lat b (lx (lxN x g))).toInt ∧ (Q.1 (91, 0) g + lat b (lx (lxN x g))).toInt ≤ 4199
    rw [t_add (by omega) (by omega)]
    omega
  have i3 : (3599 : Int32).toInt = 3599 := by decide
  have i36 : (3600 : Int32).toInt = 3600 := by decide
  have co : ∀ g, g < (Q.1 (60, 0) 13).toNatClampNeg → coM Q g = chV M p b x g ∧ ¬ coM Q g = -1 := fun g hg => by
    obtain ⟨q1, q2⟩ := bo g hg
    have e : coM Q g = chV M p b x g := by
      rw [pl.c0 hg, q1, r125 g (by rw [pl.g1]; exact hg)]
      unfold chV
      by_cases c : (3600 : Int32) ≤ M.1 (0, 15 * p + g) 1 + lat b (lxN x (g + 1))
      · rw [if_pos c, if_pos]
        rw [t_lt, i3]; rw [t_le, i36] at c; omega
      · rw [if_neg c, if_neg]
        rw [t_lt, i3]; rw [t_le, i36] at c; omega
    refine ⟨e, ?_⟩
    rw [e]
    unfold chV
    intro z
    by_cases c : (3600 : Int32) ≤ M.1 (0, 15 * p + g) 1 + lat b (lxN x (g + 1))
    · rw [if_pos c] at z; exact absurd z (by decide)
    · rw [if_neg c] at z
      rw [z, t_m1] at q2
      omega
  refine QS_sp h pl sx (fun r k q => Or.inr (Or.inr (Or.inl q.1))) ⟨fun q => absurd q.1 (show ¬ (5 : Nat) = 0 by decide), fun q => absurd q.1 (show ¬ (5 : Nat) = 0 by decide), fun q => absurd q.1 (show ¬ (5 : Nat) = 0 by decide)⟩ ⟨by rw [b2]; exact pl.cW.2.2.1, by rw [eP, g2, pl.g1]⟩ (fun s hs => sx.d n6 (fun r k q => by rw [q.1]; decide) (by rw [f]; exact cl.2.1) (by rw [f]; exact cl.2.2.2.1) (by rw [f]; exact cl.2.2.1) hs) (fun g hg => ?_) (fun g hg => ?_) ?_ (sx.l pl (fun k q => absurd q.1 (show ¬ (35 : Nat) = 0 by decide)) (fun l hl => by rw [f, cl.2.2.2.2.2.2.2]; exact m1n (by omega))) g1 (fun s hs c => ?_) (fun s hs c => ?_) (fun g hg => ?_) r126 r110
  · rw [g2] at hg
    have hg' : g < cP M p := by rw [pl.g1]; exact hg
    obtain ⟨c1, c2⟩ := sx.2.2.2.1 g hg'
    refine ⟨?_, ?_, fun k hk => ?_⟩
    · show _ = (if nI g = Q.1 (60, 0) 52 then -1 else coM Q g)
      rw [f, cl.1, if_neg (m1n (by omega)), (co g hg).1]
      exact hv g hg'
    · rw [pl.c1 hg, f, cl.2.2.2.2.1, if_pos (by decide)]
      exact c1 2 (by omega) (fun q => absurd q.2 (by decide))
    · rw [pl.c2 hg k]
      show (if k < 5 then M'.1 (20, 15 * (1 - p) + g) k else 0) = (if k < 5 then M.1 (20, 15 * p + g) k else 0)
      rw [if_pos hk, if_pos hk, c2 k hk]
  · rw [g2] at hg
    rw [pl.c1 hg, f, cl.2.2.2.2.1, if_pos (by decide)]
    exact pl.sz hg
  · rw [sx.2.1 4 (by omega) (fun q => absurd q.1 (show ¬ (5 : Nat) = 0 by decide)), pl.ep, f, cl.2.2.2.2.2.1]
    exact (clr_Fr (t0 N)).1 16 (by omega) (by omega) (by omega)
  · rw [f, cl.2.2.2.1] at c; exact absurd c (m1n (by omega))
  · rw [f, cl.2.2.1] at c; exact absurd c (m1n (by omega))
  · rw [g2] at hg
    exact (co g hg).2
/-- the draws -/
def chS (F : Int64 → Int32) (G : Nat) (bd : Int32) : Nat → Int64 → Int32 → Int32
  | 0, _, a => a
  | m + 1, x, a => chS F G bd m (lxN x G) (a + if F x ≤ bd then 0 else 1)
theorem clr_125e (A : eg_H) (f : Nat → Int32) (hf : ∀ j, 15 ≤ j → f j = (fX11_clears A).1 (125, 0) j) : fX11_clears (sW (fX11_clears A) (125, 0) f) = fX11_clears A := by
  have e : ∀ r : eg_R, r ≠ (125, 0) → (sW (fX11_clears A) (125, 0) f).1 r = (fX11_clears A).1 r := fun r hr => sW_ne _ _ hr
  have cc := clr_clr A
  generalize fX11_clears A = B at *
  refine Eq.trans ?_ cc
  refine eg_ext (fun r j => ?_) (fun _ _ => rfl) (fun _ _ => rfl)
  by_cases c0 : r = (60, 0)
  · subst c0
    rw [clr_f, clr_f, e (60, 0) (by decide)]
  · by_cases c1 : r = (125, 0)
    · subst c1
      by_cases c : j < 15
      · rw [clr_125 _ c, clr_125 _ c]
      · have hh : ∀ N : eg_H, (fX11_clears N).1 (125, 0) j = N.1 (125, 0) j := fun N => by
          unfold fX11_clears
          rw [sW_ne _ _ (by decide), sW_at, cpT_ge (by omega)]
        rw [hh, hh, sW_at]
        exact hf j (by omega)
    · by_cases c2 : r = (126, 0)
      · subst c2
        unfold fX11_clears
        rw [sW_at, sW_at, e (112, 0) (by decide), e (126, 0) (by decide)]
      · rw [clr_o _ c0 c1 c2, clr_o _ c0 c1 c2, e _ c1]
/-- the model between two draws -/
def mC (N : eg_H) (M1 : eg_H) : Prop := FrN N M1 ∧ ∃ nm s Y B, M1 = SX B nm s Y ∧ (∀ j, 366 ≤ j → Y j = 0) ∧ fX11_clears B = fX11_clears (t0 N)
theorem st_chance {M N : eg_H} {C p : Nat} (h : JJ M N C p) (sd j x bd : Int32) : StI mtX10_chance mtX11_chance [vI sd, vI j, vI x, vI bd] M N C := by
  have F0 : FrN N (t0 N) := FrN_f N (by omega) 0
  have hp := h.hp
  have pl0 : PL M p (t0 N) := h.1.2.1.cong (fun _ _ => rfl) F0.T
  have ib : (99999 : Int32).toInt = 99999 := by decide
  have i6 : (600 : Int32).toInt = 600 := by decide
  by_cases hx : 0 ≤ sd.toInt ∧ (0 ≤ j.toInt ∧ j.toInt ≤ 600) ∧ vp_in x 3601 ∧ 0 ≤ bd.toInt ∧ bd.toInt ≤ 99999
  · obtain ⟨hsd, hj, hx, hbd⟩ := hx
    have hP := cP_e h.1.2.1.cW
    have hG : cP M p < 10 := by rw [pl0.g1]; exact pl0.gg.2
    obtain ⟨ex, hn⟩ := nI_of' hx (by omega)
    generalize x.toNatClampNeg = n at ex hn
    subst ex
    have ej : (j + 1).toInt = j.toInt + 1 := by rw [t_add (by rw [t_1]; omega) (by rw [t_1]; omega), t_1]
    have hb : 1 ≤ (j + 1).toInt ∧ (j + 1).toInt ≤ 601 := by omega
    have nj : ¬ j + 1 = 0 := fun z => by rw [z, t_0] at hb; omega
    have nj64 : ¬ (j + 1).toInt64 = 0 := fun z => by
      have z1 := congrArg Int64.toInt z
      rw [Int32.toInt_toInt64, show (0 : Int64).toInt = 0 by decide] at z1
      omega
    generalize hbe : j + 1 = b at *
    have hw := fun M' y sx hv => qs_chance (M' := M') h hb y sx hv
    obtain ⟨Ms, ss⟩ := h.spE
    have ss := ss.w (ex2 := exC) (fun _ _ q => q.elim)
    have lay : ∀ y m, m ≤ cP M p → ∃ M', spX M p M' exC ∧ ∀ g, g < m → M'.1 (0, 15 * (1 - p) + g) 1 = chV M p b y g := by
      intro y m
      induction m with
      | zero => exact fun _ => ⟨Ms, ss, fun g hg => absurd hg (Nat.not_lt_zero _)⟩
      | succ m ih =>
        intro hm
        obtain ⟨M', s', v'⟩ := ih (by omega)
        refine ⟨sI M' (0, 15 * (1 - p) + m) 1 (chV M p b y m), s'.I (pOf_0 (by omega)) (by dsimp only; decide) ⟨rfl, rfl⟩ _, fun g hg => ?_⟩
        by_cases e : g = m
        · subst e; rw [sI_i, if_pos ⟨rfl, rfl⟩]
        · rw [sI_ne (pr_ne (by omega))]; exact v' g (by omega)
    have hQ : ∀ y, ∃ M', QS M' (1 - p) (chQ (fX11_clears (t0 N)) b (cP M p) y) (M'.1 (40, 0)) := fun y => by
      obtain ⟨M', s', v'⟩ := lay y _ (Nat.le_refl _)
      exact ⟨M', hw M' y s' v'⟩
    have FA : FrN N (fX11_clears (t0 N)) := F0.tr (clr_Fr _)
    have A13 : (fX11_clears (t0 N)).1 (60, 0) 13 = nI (cP M p) := by rw [FA.1 13 (by omega) (by omega) (by omega), ← h.1.2.1.eg]; exact hP.1
    have hi15 : ∀ y k, 15 ≤ k → cpT (fun i => lat b (lxN y (i + 1))) ((fX11_clears (t0 N)).1 (125, 0)) (cP M p) k = (fX11_clears (t0 N)).1 (125, 0) k := fun y k hk => cpT_ge (by omega)
    have ce : ∀ y, fX11_clears (chQ (fX11_clears (t0 N)) b (cP M p) y) = fX11_clears (t0 N) := fun y => clr_125e _ _ (hi15 y)
    have cg : gX11_clears (t0 N) := pl0.hp
    have e0 : sW (fX11_clears (t0 N)) (125, 0) (cpT (fun i => lat b (lxN sd.toInt64 (i + 1))) ((fX11_clears (t0 N)).1 (125, 0)) 0) = fX11_clears (t0 N) := by rw [cpT_0, sW_self]
    refine StI.q h (chS (fun y => sm (fun g => rF (chQ (fX11_clears (t0 N)) b (cP M p) y) n (20 + 20 * g + 4)) (NM (chQ (fX11_clears (t0 N)) b (cP M p) y))) (cP M p) bd 10 sd.toInt64 0) (fun κ => ?_) (fun κ => ?_)
    · have key : ∀ m k M' y a, k + m = 10 → spX M p M' exC → eg_W κ gC mtX10_chance 12 (eQI κ gC (fun r' M1 => r' = chS (fun y => sm (fun g => rF (chQ (fX11_clears (t0 N)) b (cP M p) y) n (20 + 20 * g + 4)) (NM (chQ (fX11_clears (t0 N)) b (cP M p) y))) (cP M p) bd m y a ∧ FrQ p M M1)) 70 [(0, vR (10, 0)), (2, vI j), (3, vI (nI n)), (4, vI bd), (6, vI a), (7, vL y), (9, vI (nI k))] [] M' := by
        intro m
        induction m with
        | zero =>
          intro k M' y a hk sx
          exact vX10_chance_70 M' _ _ _ _ _ _ ⟨fun _ => ⟨rfl, sx.1⟩, fun c => absurd ((nI_le' (a := 10) (by omega) (by omega)).mpr (by omega)) c⟩
        | succ m ih =>
          intro k M' y a hk sx
          refine vX10_chance_70 M' _ _ _ _ _ _ ⟨fun c => absurd ((nI_le' (a := 10) (by omega) (by omega)).mp c) (by omega), fun _ => ?_⟩
          suffices hs : ∀ q i, q = cP M p - i → ∀ M', i ≤ cP M p → spX M p M' exC → (∀ g, g < i → M'.1 (0, 15 * (1 - p) + g) 1 = chV M p b y g) → eg_W κ gC mtX10_chance 12 (eQI κ gC (fun r' M1 => r' = chS (fun y => sm (fun g => rF (chQ (fX11_clears (t0 N)) b (cP M p) y) n (20 + 20 * g + 4)) (NM (chQ (fX11_clears (t0 N)) b (cP M p) y))) (cP M p) bd (m + 1) y a ∧ FrQ p M M1)) 80 [(0, vR (10, 0)), (2, vI j), (3, vI (nI n)), (4, vI bd), (6, vI a), (7, vL (lxN y i)), (9, vI (nI k)), (10, vI (nI i))] [] M' by
            exact hs _ 0 rfl M' (by omega) sx (fun g hg => absurd hg (Nat.not_lt_zero _))
          intro q
          induction q with
          | zero =>
            intro i hq M' hi sx hv
            have ei : i = cP M p := by omega
            subst ei
            have q2 := hw M' y sx hv
            have e5 : M'.1 (5, p) 2 = nI (cP M p) := by rw [sx.1.P hp.2.1 (pOf_k (by omega))]; exact hP.1
            refine vX10_chance_80 (by omega) M' _ _ _ _ _ _ _ ⟨p, hp.2.1, (sx.r hp.1).1, fun _ => ⟨1 - p, hp.2.2.1, (sx.r hp.1).2, _, q2.waitedBy (by omega) (by omega), fun x4 M5 ⟨a4, t5⟩ x7 e7 x8 e8 x9 e9 => ?_⟩, fun c => absurd (by rw [e5]; exact nI_le (Nat.le_refl _) (by omega)) c⟩
            rw [a4, wEv q2] at e7
            rw [e9, nI_1, e8, e7]
            exact ih (k + 1) M5 (lxN y (cP M p)) _ (by omega) (sx.t t5)
          | succ q ihq =>
            intro i hq M' hi sx hv
            have e5 : M'.1 (5, p) 2 = nI (cP M p) := by rw [sx.1.P hp.2.1 (pOf_k (by omega))]; exact hP.1
            have e0 : M'.1 (0, 15 * p + i) = M.1 (0, 15 * p + i) := sx.1.P hp.2.1 (pOf_0 (by omega))
            refine vX10_chance_80 (by omega) M' _ _ _ _ _ _ _ ⟨p, hp.2.1, (sx.r hp.1).1, fun c => absurd (by rw [e5] at c; exact c) (nI_ge (by omega) (by omega)), fun _ x11 e11 => ⟨nI_in' (by omega) (by omega), by rw [hbe]; exact nj, fun x14 e14 => ⟨1 - p, hp.2.2.1, (sx.r hp.1).2, fun x16 e16 M17 e17 x18 e18 => ?_⟩⟩⟩
            rw [nI_t (by omega)] at e14 e17
            have el : x11 = lxN y (i + 1) := e11
            rw [hbe, e0, e11] at e14
            have ec : (lx (lxN y i) / 65536).toInt32 - (lx (lxN y i) / 65536).toInt32 / b * b = lat b (lx (lxN y i)) := lat_c b (lxN y i) hb
            have e14' : x14 = M.1 (0, 15 * p + i) 1 + lat b (lxN y (i + 1)) := e14.trans (congrArg (fun z => M.1 (0, 15 * p + i) 1 + z) ec)
            rw [e14'] at e16
            rw [e18, nI_1, el, e17, e16]
            refine ihq (i + 1) (by omega) _ (by omega) (sx.I (pOf_0 (by omega)) (by dsimp only; decide) ⟨rfl, rfl⟩ _) (fun g hg => ?_)
            by_cases e : g = i
            · subst e; rw [sI_i, if_pos ⟨rfl, rfl⟩]; rfl
            · rw [sI_ne (pr_ne (by omega))]; exact hv g (by omega)
      refine eg_S.of rfl (Nat.le_of_ble_eq_true rfl) (vX10_chance_0 (by omega) M _ _ _ _ (fun x1 e1 => ⟨fun c => ?_, fun _ x4 e4 => ⟨fun _ x6 e6 => ⟨1 - p, hp.2.2.1, hp.1.2, p, hp.2.1, hp.1.1, _, h.copy (FrQ.rf p M) (by omega), fun M9 c9 => ?_⟩, fun c => ?_⟩⟩))
      · rw [if_neg (by rw [t_lt, t_0]; omega), if_neg (by rw [t_lt, t_0]; omega), if_neg (by rw [t_lt, i6]; omega), if_neg (by rw [t_lt, t_0]; omega), if_pos (by rw [t_le, ib]; omega)] at e1
        exact absurd e1 c
      · rw [e6]
        exact key 10 0 M9 sd.toInt64 0 rfl ((h.sp (FrQ.rf p M) c9).w (fun _ _ q => q.elim))
      · rcases isLength_n M (nI n) with q | q
        · exact absurd hx q.2
        · exact absurd (c.symm.trans (e4.trans q.1)) (by decide)
    · have key : ∀ m k M1 y a, k + m = 10 → mC N M1 → eg_W κ gM mtX11_chance 12 (eQI κ gM (fun r' N1 => r' = chS (fun y => sm (fun g => rF (chQ (fX11_clears (t0 N)) b (cP M p) y) n (20 + 20 * g + 4)) (NM (chQ (fX11_clears (t0 N)) b (cP M p) y))) (cP M p) bd m y a ∧ FrN N N1)) 47 [(0, vR (60, 0)), (2, vI j), (3, vI (nI n)), (4, vI bd), (5, vL y), (7, vI a), (8, vI (nI k))] [] M1 := by
        intro m
        induction m with
        | zero =>
          intro k M1 y a hk m1
          exact vX11_chance_47 (by omega) M1 _ _ _ _ _ _ ⟨fun _ => ⟨rfl, m1.1⟩, fun c => absurd ((nI_le' (a := 10) (by omega) (by omega)).mpr (by omega)) c⟩
        | succ m ih =>
          intro k M1 y a hk m1
          have g1 : gX11_clears M1 := (h.1.2.1.cong (fun _ _ => rfl) m1.1.T).hp
          obtain ⟨_, nm, s, Y, B, eM, hY, eB⟩ := m1
          refine vX11_chance_47 (by omega) M1 _ _ _ _ _ _ ⟨fun c => absurd ((nI_le' (a := 10) (by omega) (by omega)).mp c) (by omega), fun _ => ⟨g1, fun M3 e3 => ?_⟩⟩
          rw [eM, clr_SX, eB] at e3
          rw [e3]
          obtain ⟨Mq, qs⟩ := hQ y
          have f0 := eg_down (P := fun i => eg_W κ gM mtX11_chance 12 (eQI κ gM (fun r' N1 => r' = chS (fun y => sm (fun g => rF (chQ (fX11_clears (t0 N)) b (cP M p) y) n (20 + 20 * g + 4)) (NM (chQ (fX11_clears (t0 N)) b (cP M p) y))) (cP M p) bd (m + 1) y a ∧ FrN N N1)) 61 [(0, vR (60, 0)), (2, vI j), (3, vI (nI n)), (4, vI bd), (5, vL (lxN y i)), (7, vI a), (8, vI (nI k)), (9, vI (nI i))] [] (SX (sW (fX11_clears (t0 N)) (125, 0) (cpT (fun i => lat b (lxN y (i + 1))) ((fX11_clears (t0 N)).1 (125, 0)) i)) nm s Y)) (cP M p) (fun i hi k2 => ?_) ?_
          · rw [cpT_0, sW_self] at f0
            exact f0
          · refine vX11_chance_61 (by omega) _ _ _ _ _ _ _ _ ?_
            rw [SX_f _ _ _ _ (by decide), sW_ne _ _ (by decide), A13]
            refine ⟨fun c => absurd c (nI_ge hi (by omega)), fun _ x11 e11 => ⟨by rw [hbe]; exact nj64, nI_in' (by omega) (by omega), fun M14 e14 x15 e15 => ?_⟩⟩
            have el : x11 = lxN y (i + 1) := e11
            rw [nI_t (by omega), hbe, el, sI_eq, SX_o _ _ _ _ (by decide) (by decide), SX_sW _ _ _ _ _ (by decide) (by decide), sW_sW, sW_at] at e14
            have el2 : (lxN y (i + 1) / 65536 - lxN y (i + 1) / 65536 / b.toInt64 * b.toInt64).toInt32 = lat b (lxN y (i + 1)) := rfl
            rw [el2, cpT_s (fun i => lat b (lxN y (i + 1)))] at e14
            rw [e15, nI_1, el, e14]
            exact k2
          · refine vX11_chance_61 (by omega) _ _ _ _ _ _ _ _ ?_
            rw [SX_f _ _ _ _ (by decide), sW_ne _ _ (by decide), A13]
            refine ⟨fun _ => ⟨_, qs.run (by omega) (by omega) nm s Y hY, fun M7 ⟨nm2, s2, e7⟩ => ?_⟩, fun c => absurd (nI_le (Nat.le_refl _) (by omega)) c⟩
            rw [e7]
            obtain ⟨v1, v2⟩ := waitedOf_n qs.2.2.2.2.1 nm2 s2 (rF (chQ (fX11_clears (t0 N)) b (cP M p) y) n)
            refine ⟨v1, fun x6 e6 x7 e7 x8 e8 x9 e9 => ?_⟩
            rw [e6, v2] at e7
            rw [e9, nI_1, e8, e7]
            exact ih (k + 1) _ (lxN y (cP M p)) _ (by omega) ⟨(FA.tr (chQ_Fr _ _ _ _)).tr (qs.FrX (by omega) nm2 s2), nm2, s2, _, _, rfl, fun j hj => qs.hi (by omega) hj, ce y⟩
      have i1 := isIn_n (t0 N) j 0 600
      rw [t_0, i6] at i1
      refine eg_S.of rfl (Nat.le_of_ble_eq_true rfl) (vX11_chance_0 (by omega) N _ _ _ _ (fun M1 e1 => ⟨fun c => ?_, fun _ x4 e4 => ⟨fun c => ?_, fun _ x7 e7 => ⟨fun c => ?_, fun _ x10 e10 => ⟨fun _ x12 e12 => ?_, fun c => ?_⟩⟩⟩⟩))
      · rw [t_lt, t_0] at c; omega
      · rw [e1] at e4
        rcases i1 with q | q
        · omega
        · exact absurd (c.symm.trans (e4.trans q.1)) (by decide)
      · rcases isTime_n M1 (nI n) with q | q
        · exact absurd hx q.2
        · exact absurd (c.symm.trans (e7.trans q.1)) (by decide)
      · rw [e12, e1]
        refine key 10 0 _ sd.toInt64 0 rfl ⟨F0, (t0 N).2.1 (127, 0), ((t0 N).2.1 (128, 0), (t0 N).1 (60, 0) 68), (t0 N).1 (110, 0), t0 N, (SX_self _).symm, fun j hj => ?_, rfl⟩
        rw [F0.2.2.2 j hj]
        exact h.2.2.2.2.1 j hj
      · rcases isBound_n M1 bd with q | q
        · exact absurd hbd q.2
        · exact absurd (c.symm.trans (e10.trans q.1)) (by decide)
  · refine StI.q h (-1) (fun κ => ?_) (fun κ => ?_)
    · refine eg_S.of rfl (Nat.le_of_ble_eq_true rfl) (vX10_chance_0 (by omega) M _ _ _ _ (fun x1 e1 => ⟨fun c => ⟨rfl, FrQ.rf p M⟩, fun c1 x4 e4 => ⟨fun c4 => ?_, fun c => ⟨rfl, FrQ.rf p M⟩⟩⟩))
      exfalso
      rw [e1] at c1
      by_cases a1 : sd < 0
      · rw [if_pos a1] at c1; exact absurd c1 (by decide)
      · rw [if_neg a1] at c1
        by_cases a2 : j < 0
        · rw [if_pos a2] at c1; exact absurd c1 (by decide)
        · rw [if_neg a2] at c1
          by_cases a3 : (600 : Int32) < j
          · rw [if_pos a3] at c1; exact absurd c1 (by decide)
          · rw [if_neg a3] at c1
            by_cases a4 : bd < 0
            · rw [if_pos a4] at c1; exact absurd c1 (by decide)
            · rw [if_neg a4] at c1
              by_cases a5 : bd ≤ 99999
              · rw [t_lt, t_0] at a1 a2 a4
                rw [t_lt, i6] at a3
                rw [t_le, ib] at a5
                rcases isLength_n M x with z | z
                · exact c4 (e4.trans z.1)
                · exact hx ⟨by omega, by omega, z.2, by omega, by omega⟩
              · rw [if_neg a5] at c1; exact absurd c1 (by decide)
    · have i1 := isIn_n (t0 N) j 0 600
      rw [t_0, i6] at i1
      refine eg_S.of rfl (Nat.le_of_ble_eq_true rfl) (vX11_chance_0 (by omega) N _ _ _ _ (fun M1 e1 => ⟨fun c => ⟨rfl, by rw [e1]; exact F0⟩, fun c1 x4 e4 => ⟨fun c => ⟨rfl, by rw [e1]; exact F0⟩, fun c4 x7 e7 => ⟨fun c => ⟨rfl, by rw [e1]; exact F0⟩, fun c7 x10 e10 => ⟨fun c10 => ?_, fun c => ⟨rfl, by rw [e1]; exact F0⟩⟩⟩⟩⟩))
      exfalso
      rw [t_lt, t_0] at c1
      rw [e1] at e4
      rcases i1 with q | q
      · exact c4 (e4.trans q.1)
      · rcases isTime_n M1 x with z | z
        · exact c7 (e7.trans z.1)
        · rcases isBound_n M1 bd with w | w
          · exact c10 (e10.trans w.1)
          · exact hx ⟨by omega, q.2, z.2, w.2⟩
