/-! QUESTIONS: slow, plates -/
theorem sm_ex {f : Nat → Int32} {n a : Nat} (ha : a < n) (hn : n < 1000) : sm f n - f a = sm (fun k => if nI k = nI a then 0 else f k) n := by
  have e : sm f n = sm (fun k => if nI k = nI a then 0 else f k) n + f a := by
    rw [← sm_one (f := fun k => if nI k = nI a then 0 else f k) (f a) ha]
    refine sm_cong (fun k hk => ?_)
    by_cases c : k = a
    · subst c
      rw [if_pos rfl, if_pos rfl, Int32.zero_add]
    · rw [if_neg c, if_neg (fun q => c ((nI_eq' (by omega) (by omega)).mp q))]
  rw [e, Int32.add_sub_cancel]
theorem sm_ex0 {f : Nat → Int32} {n a : Nat} (h0 : f a = 0) (hn : n < 1000) (ha : a < 1000) : sm f n = sm (fun k => if nI k = nI a then 0 else f k) n := by
  refine sm_cong (fun k hk => ?_)
  by_cases c : nI k = nI a
  · rw [if_pos c, (nI_eq' (by omega) (by omega)).mp c, h0]
  · rw [if_neg c]
theorem PL.co {M Q : eg_H} {p : Nat} (pl : PL M p Q) {g : Nat} (hg : g < (Q.1 (60, 0) 13).toNatClampNeg) (h125 : Q.1 (125, 0) g = 0) : coM Q g = pC M p g 0 ∧ ¬ coM Q g = -1 := by
  have b := (pl.g hg).2.1
  have e0 : pC M p g 0 = Q.1 (91, 0) g := b.2
  have e : coM Q g = pC M p g 0 := by
    rw [pl.c0 hg, h125, Int32.add_zero, if_neg]
    rw [e0, t_lt, show (3599 : Int32).toInt = 3599 by decide]; omega
  refine ⟨e, ?_⟩
  rw [e, e0]
  intro z
  rw [z, t_m1] at b
  omega
theorem PL.sz {M Q : eg_H} {p : Nat} (pl : PL M p Q) {g : Nat} (hg : g < (Q.1 (60, 0) 13).toNatClampNeg) : (1 ≤ (pC M p g 1).toInt ∧ (pC M p g 1).toInt ≤ 20) ∧ ∀ k, k < 5 → 0 ≤ (pM Q g (k + 2)).toInt ∧ (pM Q g (k + 2)).toInt ≤ 9 := by
  obtain ⟨_, b1, b2, b3⟩ := pl.g hg
  refine ⟨?_, fun k hk => ?_⟩
  · show 1 ≤ (M.1 (0, 15 * p + g) 2).toInt ∧ (M.1 (0, 15 * p + g) 2).toInt ≤ 20
    rw [b2.2]; exact b2.1
  · rw [show pM Q g (k + 2) = Q.1 (93, 0) (5 * g + k) from if_pos hk]
    exact (b3 k hk).1
/-- nobody but those told -/
theorem PL.ev {M Q : eg_H} {p : Nat} (pl : PL M p Q) (h61 : Q.1 (60, 0) 61 = 0) : vp_in (fX11_everybody Q) 16 ∧ NM Q = (Q.1 (60, 0) 13).toNatClampNeg := by
  have ev : fX11_everybody Q = Q.1 (60, 0) 13 := by unfold fX11_everybody; rw [h61]; exact Int32.add_zero _
  have g9 := pl.gg
  exact ⟨by rw [ev, g9.1]; exact nI_in' (by omega) (by omega), by unfold NM; rw [ev]⟩
/-- dishes as told -/
theorem spX.d {M M' Q : eg_H} {p : Nat} (n6 : cN M p < 6) {ex : eg_R → Nat → Prop} (sx : spX M p M' ex) (h1 : ∀ r k, ex r k → r.1 ≠ 1) (h53 : Q.1 (60, 0) 53 = -1) (h57 : Q.1 (60, 0) 57 = -1) (h55 : Q.1 (60, 0) 55 = -1) {s : Nat} (hs : s < cN M p) : (∀ k, k ≠ 2 → k ≠ 3 → k ≠ 5 → ¬ ex (1, 5 * (1 - p) + s) k) ∧ dC M' (1 - p) s 1 = (if ¬ nI s = Q.1 (60, 0) 53 then dC M p s 1 else Q.1 (60, 0) 54) ∧ dC M' (1 - p) s 2 = (if dC M p s 2 = 0 then 0 else if ¬ nI s = Q.1 (60, 0) 57 then dC M p s 2 else Q.1 (60, 0) 58) ∧ dC M' (1 - p) s 4 = (if ¬ nI s = Q.1 (60, 0) 55 then dC M p s 4 else Q.1 (60, 0) 56) := by
  have n1 : ∀ k, ¬ ex (1, 5 * (1 - p) + s) k := fun k q => h1 _ _ q rfl
  refine ⟨fun k _ _ _ => n1 k, ?_, ?_, ?_⟩
  · rw [h53, if_pos (m1n (by omega))]
    exact sx.2.2.1 s 2 hs (by omega) (n1 _)
  · rw [h57]
    have e := sx.2.2.1 s 3 hs (by omega) (n1 _)
    by_cases c : dC M p s 2 = 0
    · rw [if_pos c]; exact e.trans c
    · rw [if_neg c]; exact e.trans (if_pos (m1n (by omega))).symm
  · rw [h55, if_pos (m1n (by omega))]
    exact sx.2.2.1 s 5 hs (by omega) (n1 _)
/-! slow -/
abbrev exS (p g : Nat) : eg_R → Nat → Prop := fun r k => r = (0, 15 * (1 - p) + g) ∧ k = 1
theorem qs_slow {M N M' : eg_H} {C p g : Nat} (h : JJ M N C p) (hg : g < cP M p) (sx : spX M p M' (exS p g)) (hv : M'.1 (0, 15 * (1 - p) + g) 1 = -1) : QS M' (1 - p) (sI (fX11_clears (t0 N)) (60, 0) 52 (nI g)) (M'.1 (40, 0)) := by
  have F := FrN_Q1 (N := N) (k1 := 52) (by omega) (nI g)
  have pl : PL M p (sI (fX11_clears (t0 N)) (60, 0) 52 (nI g)) := h.1.2.1.cong (fun _ _ => rfl) F.T
  obtain ⟨ck1, ck2⟩ := h.ck (FrN_f N (k := 2) (by omega) 0)
  have f : ∀ k, k ≠ 52 → (sI (fX11_clears (t0 N)) (60, 0) 52 (nI g)).1 (60, 0) k = (fX11_clears (t0 N)).1 (60, 0) k := fun k hk => by rw [sI_60, if_neg hk]
  have f52 : (sI (fX11_clears (t0 N)) (60, 0) 52 (nI g)).1 (60, 0) 52 = nI g := by rw [sI_60, if_pos rfl]
  have r125 : ∀ b, b < 15 → (sI (fX11_clears (t0 N)) (60, 0) 52 (nI g)).1 (125, 0) b = 0 := fun b hb => by rw [sI_ne (by decide)]; exact clr_125 _ hb
  have r126 : ∀ k, k < cN M p → M.1 (40, 0) k = (sI (fX11_clears (t0 N)) (60, 0) 52 (nI g)).1 (126, 0) k := fun k hk => by rw [sI_ne (by decide)]; exact ck1 k hk
  have r110 : ∀ j, 366 ≤ j → (sI (fX11_clears (t0 N)) (60, 0) 52 (nI g)).1 (110, 0) j = 0 := fun j hj => by rw [sI_ne (by decide)]; exact ck2 j hj
  have cl := clr_n (t0 N)
  have n6 := (cN_e pl.cW).2
  have g9 := pl.gg.2
  generalize sI (fX11_clears (t0 N)) (60, 0) 52 (nI g) = Q at *
  obtain ⟨g1, g2⟩ := pl.ev (by rw [f 61 (by omega)]; exact cl.2.2.2.2.2.2.1)
  have b2 := sx.2.1 2 (by omega) (fun q => kd_ne (by decide) q.1)
  have eP : cP M' (1 - p) = cP M p := by unfold cP; rw [b2]
  refine QS_sp h pl sx (fun r k q => Or.inr (Or.inr (Or.inl (by rw [q.1])))) ⟨fun q => kd_ne (by decide) q.1, fun q => kd_ne (by decide) q.1, fun q => kd_ne (by decide) q.1⟩ ⟨by rw [b2]; exact pl.cW.2.2.1, by rw [eP, g2, pl.g1]⟩ (fun s hs => sx.d n6 (fun r k q => by rw [q.1]; show (0 : Nat) ≠ 1; decide) (by rw [f 53 (by omega)]; exact cl.2.1) (by rw [f 57 (by omega)]; exact cl.2.2.2.1) (by rw [f 55 (by omega)]; exact cl.2.2.1) hs) (fun b hb => ?_) (fun b hb => ?_) ?_ (sx.l pl (fun k q => kd_ne (by decide) q.1) (fun l hl => by rw [f 62 (by omega), cl.2.2.2.2.2.2.2]; exact m1n (by omega))) g1 (fun s hs c => ?_) (fun s hs c => ?_) (fun b hb => ?_) r126 r110
  · rw [g2] at hb
    have hb' : b < cP M p := by rw [pl.g1]; exact hb
    obtain ⟨c1, c2⟩ := sx.2.2.2.1 b hb'
    refine ⟨?_, ?_, fun k hk => ?_⟩
    · show _ = (if nI b = Q.1 (60, 0) 52 then -1 else coM Q b)
      rw [f52]
      by_cases e : b = g
      · subst e; rw [if_pos rfl]; exact hv
      · rw [if_neg (fun q => e ((nI_eq' (by omega) (by rw [pl.g1] at hg; omega)).mp q)), (pl.co hb (r125 b (by omega))).1]
        exact c1 1 (by omega) (fun q => e (by have := congrArg Prod.snd q.1; simp at this; omega))
    · rw [pl.c1 hb, f 59 (by omega), cl.2.2.2.2.1, if_pos (by decide)]
      exact c1 2 (by omega) (fun q => absurd q.2 (by decide))
    · rw [pl.c2 hb k]
      show (if k < 5 then M'.1 (20, 15 * (1 - p) + b) k else 0) = (if k < 5 then M.1 (20, 15 * p + b) k else 0)
      rw [if_pos hk, if_pos hk, c2 k hk]
  · rw [g2] at hb
    rw [pl.c1 hb, f 59 (by omega), cl.2.2.2.2.1, if_pos (by decide)]
    exact pl.sz hb
  · rw [sx.2.1 4 (by omega) (fun q => kd_ne (by decide) q.1), pl.ep, f 60 (by omega), f 16 (by omega), cl.2.2.2.2.2.1]
    exact (clr_Fr (t0 N)).1 16 (by omega) (by omega) (by omega)
  · rw [f 57 (by omega), cl.2.2.2.1] at c; exact absurd c (m1n (by omega))
  · rw [f 55 (by omega), cl.2.2.1] at c; exact absurd c (m1n (by omega))
  · rw [g2] at hb
    exact (pl.co hb (r125 b (by omega))).2
theorem isGuest_n (Q : eg_H) (x : Int32) (h : vp_in (Q.1 (60, 0) 13) 10) : (fX11_isGuest Q x = 0 ∧ ¬ vp_in x (Q.1 (60, 0) 13).toNatClampNeg) ∨ (fX11_isGuest Q x = 1 ∧ vp_in x (Q.1 (60, 0) 13).toNatClampNeg) := by
  obtain ⟨e, he⟩ := nI_of' h (by omega)
  have ei := congrArg Int32.toInt e
  rw [t_nI (by omega)] at ei
  unfold fX11_isGuest
  rw [t_in]
  by_cases c1 : x < 0
  · rw [if_pos c1]; rw [t_lt, t_0] at c1; exact Or.inl ⟨rfl, by omega⟩
  · rw [if_neg c1]
    rw [t_lt, t_0] at c1
    by_cases c2 : Q.1 (60, 0) 13 ≤ x
    · rw [if_pos c2]; rw [t_le] at c2; exact Or.inl ⟨rfl, by omega⟩
    · rw [if_neg c2]; rw [t_le] at c2; exact Or.inr ⟨rfl, by omega⟩
theorem hasGuest_n {M Q : eg_H} {p : Nat} (pl : PL M p Q) (x : Int32) : fX5_hasGuest M p x = fX11_isGuest Q x := by
  unfold fX5_hasGuest fX11_isGuest
  rw [pl.eg]
theorem isStation_n (Q : eg_H) (x : Int32) (h : vp_in (Q.1 (60, 0) 12) 6) : (fX11_isStation Q x = 0 ∧ ¬ vp_in x (Q.1 (60, 0) 12).toNatClampNeg) ∨ (fX11_isStation Q x = 1 ∧ vp_in x (Q.1 (60, 0) 12).toNatClampNeg) := by
  obtain ⟨e, he⟩ := nI_of' h (by omega)
  have ei := congrArg Int32.toInt e
  rw [t_nI (by omega)] at ei
  unfold fX11_isStation
  rw [t_in]
  by_cases c1 : x < 0
  · rw [if_pos c1]; rw [t_lt, t_0] at c1; exact Or.inl ⟨rfl, by omega⟩
  · rw [if_neg c1]
    rw [t_lt, t_0] at c1
    by_cases c2 : Q.1 (60, 0) 12 ≤ x
    · rw [if_pos c2]; rw [t_le] at c2; exact Or.inl ⟨rfl, by omega⟩
    · rw [if_neg c2]; rw [t_le] at c2; exact Or.inr ⟨rfl, by omega⟩
theorem hasStation_n {M Q : eg_H} {p : Nat} (pl : PL M p Q) (x : Int32) : fX5_hasStation M p x = fX11_isStation Q x := by
  unfold fX5_hasStation fX11_isStation
  rw [pl.en]
theorem waitedOf_g {Q : eg_H} (hm : mW Q) (nm : Nat → Int64) (s : (Nat → Int64) × Int32) (Y : Nat → Int32) (x : Int32) : gX11_waitedOf (SX Q nm s Y) x ∧ fX11_waitedOf (SX Q nm s Y) x = sm (fun g => if nI g = x then 0 else Y (20 + 20 * g + 4)) (NM Q) := by
  refine ⟨by unfold gX11_waitedOf; rw [SX_ev]; exact hm.2.1, ?_⟩
  unfold fX11_waitedOf
  rw [SX_ev, SX_Y]
  refine sm_cong (fun g hg => ?_)
  rw [show 24 + 20 * g = 20 + 20 * g + 4 by omega]
/-- who is out has waited nothing -/
theorem QS.out {M : eg_H} {q : Nat} {Q : eg_H} {R : Nat → Int32} (h : QS M q Q R) {n : Nat} (hn : n ≤ 3600) {g : Nat} (hg : g < NM Q) (h52 : Q.1 (60, 0) 52 = nI g) : rF Q n (20 + 20 * g + 4) = 0 := by
  have hN := (NM_le h.2.2.2.2.1).2
  have b := h.bgQ.2.2.2.2 g hg
  have e0 : eC (mE Q) g 0 = -1 := by
    rw [eC_m hg]
    show (if nI g = Q.1 (60, 0) 52 then -1 else coM Q g) = -1
    rw [if_pos h52.symm]
  have st : begM Q (20 + 20 * g) = 3 := by
    rcases b.2.1 with z | z
    · exact absurd e0 z.1
    · exact z.2
  exact ((secN_K h.wE (C := 119) (by omega) (by omega) h.T0.1 h.T0.2.2 g (by omega) 0 n (by rw [h.y0]; omega)).2 ⟨st, b.1.2.2.2.1⟩).2
theorem st_slow {M N : eg_H} {C p : Nat} (h : JJ M N C p) (y x : Int32) : StI mtX10_slow mtX11_slow [vI y, vI x] M N C := by
  have F0 : FrN N (t0 N) := FrN_f N (by omega) 0
  have hp := h.hp
  have hq := h.qs0 F0
  have c2 := F0.tr (clr_Fr (t0 N))
  have pl0 : PL M p (t0 N) := h.1.2.1.cong (fun _ _ => rfl) F0.T
  by_cases hx : vp_in y (cP M p) ∧ vp_in x 3601
  · obtain ⟨hy, hx⟩ := hx
    have hP := (cP_e h.1.2.1.cW).2
    obtain ⟨ey, hg⟩ := nI_of' hy (by omega)
    obtain ⟨ex, hn⟩ := nI_of' hx (by omega)
    generalize x.toNatClampNeg = n at ex hn
    generalize y.toNatClampNeg = g at ey hg
    subst ex ey
    have hw := fun M' sx hv => qs_slow (M' := M') (g := g) h hg sx hv
    have F1 := FrN_Q1 (N := N) (k1 := 52) (by omega) (nI g)
    have Q52 : (sI (fX11_clears (t0 N)) (60, 0) 52 (nI g)).1 (60, 0) 52 = nI g := by rw [sI_60, if_pos rfl]
    obtain ⟨Ms, ss⟩ := h.spE
    have ss := ss.w (ex2 := exS p g) (fun _ _ q => q.elim)
    have q1 := hw _ (ss.I (r := (0, 15 * (1 - p) + g)) (k := 1) (pOf_0 (by omega)) (by dsimp only; decide) ⟨rfl, rfl⟩ (-1)) (by rw [sI_i, if_pos ⟨rfl, rfl⟩])
    generalize hQ : sI (fX11_clears (t0 N)) (60, 0) 52 (nI g) = Q at *
    have ePg : cP M p = NM (fX11_clears (t0 N)) := wEv hq
    have eN2 : NM Q = cP M p := by rw [← wEv q1]; unfold cP; rw [sI_ne (kd_ne (by decide)), ss.2.1 2 (by omega) (fun q => kd_ne (by decide) q.1)]
    refine StI.q h (sm (fun k => if nI k = nI g then 0 else rF (fX11_clears (t0 N)) n (20 + 20 * k + 4)) (cP M p) - sm (fun k => if nI k = nI g then 0 else rF Q n (20 + 20 * k + 4)) (cP M p)) (fun κ => ?_) (fun κ => ?_)
    · refine eg_S.of rfl (Nat.le_of_ble_eq_true rfl) (vX10_slow_0 (by omega) M _ _ ⟨p, hp.2.1, hp.1.1, fun x3 e3 => ⟨fun c => ?_, fun _ x6 e6 => ⟨fun _ => ?_, fun c => ?_⟩⟩⟩)
      · rw [e3, hasGuest_n pl0] at c
        rcases isGuest_n (t0 N) (nI g) pl0.hg with q | q
        · rw [← pl0.g1] at q; exact absurd hy q.2
        · rw [q.1] at c; exact absurd c (by decide)
      · refine ⟨_, hq.waitedBy (by omega) (by omega), fun x8 M9 ⟨a8, t9⟩ => ⟨nI_in' (by omega) (by omega), fun x12 e12 => ?_⟩⟩
        rw [nI_t (by omega), t9.g (f := 4) rfl (by omega) hg (by omega)] at e12
        have F9 := t9.Fr p
        have r9 : M9.2.2 (10, 0) 3 = (5, p) ∧ M9.2.2 (10, 0) 4 = (5, 1 - p) := ⟨by rw [F9.2 _ _ (by decide)]; exact hp.1.1, by rw [F9.2 _ _ (by decide)]; exact hp.1.2⟩
        refine ⟨1 - p, hp.2.2.1, r9.2, p, hp.2.1, r9.1, _, h.copy F9 (by omega), fun M15 c15 => ?_⟩
        have s15 := (h.sp F9 c15).w (ex2 := exS p g) (fun _ _ q => q.elim)
        refine ⟨1 - p, hp.2.2.1, (s15.r hp.1).2, fun M18 e18 => ?_⟩
        rw [nI_t (by omega)] at e18
        have s18 : spX M p M18 (exS p g) := by rw [e18]; exact s15.I (pOf_0 (by omega)) (by dsimp only; decide) ⟨rfl, rfl⟩ _
        have q18 := hw M18 s18 (by rw [e18, sI_i, if_pos ⟨rfl, rfl⟩])
        refine ⟨_, q18.waitedBy (by omega) (by omega), fun x19 M20 ⟨a19, t20⟩ => ⟨?_, (s18.t t20).1⟩⟩
        rw [e12, a8, a19, wEv q18, eN2, sm_ex (f := fun k => rF (fX11_clears (t0 N)) n (20 + 20 * k + 4)) hg (by omega), sm_ex0 (f := fun k => rF Q n (20 + 20 * k + 4)) (a := g) (q1.out (by omega) (by rw [eN2]; exact hg) Q52) (by omega) (by omega)]
      · rcases isLength_n M (nI n) with q | q
        · exact absurd hx q.2
        · exact absurd (c.symm.trans (e6.trans q.1)) (by decide)
    · refine eg_S.of rfl (Nat.le_of_ble_eq_true rfl) (vX11_slow_0 (by omega) N _ _ (fun M1 e1 x3 e3 => ⟨fun c => ?_, fun _ x6 e6 => ⟨fun _ => ?_, fun c => ?_⟩⟩))
      · subst e1
        rw [e3] at c
        rcases isGuest_n (t0 N) (nI g) pl0.hg with q | q
        · rw [← pl0.g1] at q; exact absurd hy q.2
        · rw [q.1] at c; exact absurd c (by decide)
      · subst e1
        refine ⟨pl0.hp, fun M9 e9 => ?_⟩
        subst e9
        refine ⟨_, hq.run0 (by omega) (by omega), fun M11 ⟨nm, s, e11⟩ => ?_⟩
        subst e11
        obtain ⟨w1, w2⟩ := waitedOf_g hq.2.2.2.2.1 nm s (rF (fX11_clears (t0 N)) n) (nI g)
        refine ⟨w1, fun x15 e15 M16 e16 => ?_⟩
        rw [SX_sI _ _ _ _ (by decide), hQ] at e16
        subst e16
        refine ⟨_, q1.run (by omega) (by omega) nm s _ (fun j hj => hq.hi (by omega) hj), fun M17 ⟨nm2, s2, e17⟩ => ?_⟩
        subst e17
        obtain ⟨v1, v2⟩ := waitedOf_g q1.2.2.2.2.1 nm2 s2 (rF Q n) (nI g)
        exact ⟨v1, fun x21 e21 => ⟨by rw [e15, e21, w2, v2, ← ePg, eN2], F1.tr (q1.FrX (by omega) nm2 s2)⟩⟩
      · subst e1
        rcases isTime_n (t0 N) (nI n) with q | q
        · exact absurd hx q.2
        · exact absurd (c.symm.trans (e6.trans q.1)) (by decide)
  · refine StI.q h (-2147483648) (fun κ => ?_) (fun κ => ?_)
    · refine eg_S.of rfl (Nat.le_of_ble_eq_true rfl) (vX10_slow_0 (by omega) M _ _ ⟨p, hp.2.1, hp.1.1, fun x3 e3 => ⟨fun _ => ⟨rfl, FrQ.rf p M⟩, fun c x6 e6 => ⟨fun c6 => ?_, fun _ => ⟨rfl, FrQ.rf p M⟩⟩⟩⟩)
      exfalso
      rw [e3, hasGuest_n pl0] at c
      rcases isGuest_n (t0 N) y pl0.hg with q | q
      · exact c q.1
      · rcases isLength_n M x with z | z
        · exact c6 (e6.trans z.1)
        · exact hx ⟨by rw [pl0.g1]; exact q.2, z.2⟩
    · refine eg_S.of rfl (Nat.le_of_ble_eq_true rfl) (vX11_slow_0 (by omega) N _ _ (fun M1 e1 x3 e3 => ⟨fun _ => ⟨rfl, by rw [e1]; exact F0⟩, fun c x6 e6 => ⟨fun c6 => ?_, fun _ => ⟨rfl, by rw [e1]; exact F0⟩⟩⟩))
      exfalso
      subst e1
      rcases isGuest_n (t0 N) y pl0.hg with q | q
      · exact c (e3.trans q.1)
      · rcases isTime_n (t0 N) x with z | z
        · exact c6 (e6.trans z.1)
        · exact hx ⟨by rw [pl0.g1]; exact q.2, z.2⟩
