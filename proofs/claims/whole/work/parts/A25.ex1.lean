/-! SIGNS LET GO -/
theorem gr_60 (N : eg_H) (k h : Nat) (x y z : Int32) (j : Nat) : (gr N k h x y z).1 (60, 0) j = if j = 22 then nI (k + 1) else if j = 44 then nI (h + 1) else N.1 (60, 0) j := by
  unfold gr
  rw [sI_60, sI_60, sI_ne (by decide), sI_ne (by decide), sI_ne (by decide), sI_ne (by decide)]
theorem gr_99 (N : eg_H) (k h : Nat) (x y z : Int32) (j : Nat) : (gr N k h x y z).1 (99, 0) j = if j = 64 + k then x else N.1 (99, 0) j := by
  unfold gr
  rw [sI_ne (by decide), sI_ne (by decide), sI_ne (by decide), sI_ne (by decide), sI_ne (by decide), sI_rr]
theorem gr_100 (N : eg_H) (k h : Nat) (x y z : Int32) (j : Nat) : (gr N k h x y z).1 (100, 0) j = if j = 64 + k then y else N.1 (100, 0) j := by
  unfold gr
  rw [sI_ne (by decide), sI_ne (by decide), sI_ne (by decide), sI_ne (by decide), sI_rr, sI_ne (by decide)]
theorem gr_101 (N : eg_H) (k h : Nat) (x y z : Int32) (j : Nat) : (gr N k h x y z).1 (101, 0) j = if j = 64 + k then z else N.1 (101, 0) j := by
  unfold gr
  rw [sI_ne (by decide), sI_ne (by decide), sI_ne (by decide), sI_rr, sI_ne (by decide), sI_ne (by decide)]
theorem gr_103 (N : eg_H) (k h : Nat) (x y z : Int32) (j : Nat) : (gr N k h x y z).1 (103, 0) j = if j = h then nI k else N.1 (103, 0) j := by
  unfold gr
  rw [sI_ne (by decide), sI_ne (by decide), sI_rr, sI_ne (by decide), sI_ne (by decide), sI_ne (by decide)]
theorem gr_o (N : eg_H) (k h : Nat) (x y z : Int32) {r : eg_R} (h60 : r ≠ (60, 0)) (hr : r.1 < 99 ∨ r.1 = 102 ∨ 103 < r.1) : (gr N k h x y z).1 r = N.1 r := by
  have n : ∀ c, c = 99 ∨ c = 100 ∨ c = 101 ∨ c = 103 → r ≠ (c, 0) := fun c hc e => by
    rw [e] at hr
    dsimp only at hr
    omega
  unfold gr
  rw [sI_ne h60, sI_ne h60, sI_ne (n 103 (by omega)), sI_ne (n 101 (by omega)), sI_ne (n 100 (by omega)), sI_ne (n 99 (by omega))]
theorem gk_23 (M : eg_H) (q k : Nat) (x : Int32) (j : Nat) : (gk M q k x).1 (23, q) j = if j = k then x else M.1 (23, q) j := by
  unfold gk
  rw [sI_ne (kd_ne (by omega)), sI_rr]
theorem gk_3 (M : eg_H) (q k : Nat) (x : Int32) (j : Nat) : (gk M q k x).1 (3, q) j = if j = 3 then nI (k + 1) else M.1 (3, q) j := by
  unfold gk
  rw [sI_rr, sI_ne (kd_ne (by omega))]
theorem gk_o (M : eg_H) (q k : Nat) (x : Int32) {r : eg_R} (h1 : r ≠ (23, q)) (h2 : r ≠ (3, q)) : (gk M q k x).1 r = M.1 r := by
  unfold gk
  rw [sI_ne h2, sI_ne h1]
theorem core_g {q a k : Nat} {M N : eg_H} {L l0 l1 : List Nat} {x X Y Z : Int32} (h1 : M.1 (6, 0) 10 = nI L.length ∧ N.1 (60, 0) 43 = nI L.length ∧ stk (M.1 (36, 0)) (N.1 (102, 0)) L ∧ lev L ≤ 8) (ha : a ≤ k) (hk : k + 1 + nop L ≤ 64) (hs : skF (M.1 (23, q)) (fun i => N.1 (99, 0) (i + 64)) (fun i => N.1 (100, 0) (i + 64)) (fun i => N.1 (101, 0) (i + 64)) a (k - a) l0) (hh : hst (N.1 (103, 0)) l1) (st : ∀ kc km pt ot : Nat → Int32, kc k = x → km k = X → pt k = Y → ot k = Z → stp kc km pt ot k l0 (k :: l1)) : core q a (gk M q k x) (gr N k l1.length X Y Z) L (k :: l1) (k + 1) := by
  obtain ⟨c1, c2, c3, c4⟩ := h1
  refine ⟨⟨?_, ?_, ?_, c4⟩, ⟨?_, ?_, by omega, hk⟩, ?_, ?_, ?_⟩
  · rw [gk_o _ _ _ _ (kd_ne (by omega)) (kd_ne (by omega))]; exact c1
  · rw [gr_60, if_neg (by omega), if_neg (by omega)]; exact c2
  · rw [gk_o _ _ _ _ (kd_ne (by omega)) (kd_ne (by omega)), gr_o _ _ _ _ _ _ (by decide) (by decide)]; exact c3
  · rw [gk_3, if_pos rfl]
  · rw [gr_60, if_pos rfl]
  · refine grow_sk ha hs (fun i hi => ⟨?_, ?_, ?_, ?_⟩) (st _ _ _ _ ?_ ?_ ?_ ?_)
    · rw [gk_23, if_neg (by omega)]
    · rw [gr_99, if_neg (by omega)]
    · rw [gr_100, if_neg (by omega)]
    · rw [gr_101, if_neg (by omega)]
    · rw [gk_23, if_pos rfl]
    · rw [gr_99, if_pos (by omega)]
    · rw [gr_100, if_pos (by omega)]
    · rw [gr_101, if_pos (by omega)]
  · rw [gr_60, if_neg (by omega), if_pos rfl]; rfl
  · refine ⟨by rw [gr_103, if_pos rfl], hst_cong (fun i hi => ?_) hh⟩
    rw [gr_103, if_neg (by omega)]
def rC (q k : Nat) (M M1 : eg_H) : Prop := (∀ r, r ≠ (6, 0) → r ≠ (23, q) → r ≠ (3, q) → M1.1 r = M.1 r) ∧ (∀ i, i < k → M1.1 (23, q) i = M.1 (23, q) i) ∧ (∀ i, i ≠ 3 → M1.1 (3, q) i = M.1 (3, q) i) ∧ (∀ i, i ≠ 10 → M1.1 (6, 0) i = M.1 (6, 0) i) ∧ M1.2 = M.2
def rM (k : Nat) (N N1 : eg_H) : Prop := (∀ r, r ≠ (60, 0) → r.1 < 99 ∨ r.1 = 102 ∨ 103 < r.1 → N1.1 r = N.1 r) ∧ (∀ i, i < 64 + k → N1.1 (99, 0) i = N.1 (99, 0) i ∧ N1.1 (100, 0) i = N.1 (100, 0) i ∧ N1.1 (101, 0) i = N.1 (101, 0) i) ∧ (∀ i, i ≠ 22 → i ≠ 43 → i ≠ 44 → N1.1 (60, 0) i = N.1 (60, 0) i) ∧ N1.2 = N.2
theorem rC.rf (q k : Nat) (M : eg_H) : rC q k M M := ⟨fun _ _ _ _ => rfl, fun _ _ => rfl, fun _ _ => rfl, fun _ _ => rfl, rfl⟩
theorem rM.rf (k : Nat) (N : eg_H) : rM k N N := ⟨fun _ _ _ => rfl, fun _ _ => ⟨rfl, rfl, rfl⟩, fun _ _ _ _ => rfl, rfl⟩
theorem rC.tr {q k k1 : Nat} {M M1 M2 : eg_H} (h : rC q k M M1) (hk : k ≤ k1) (g : rC q k1 M1 M2) : rC q k M M2 := ⟨fun r a b c => (g.1 r a b c).trans (h.1 r a b c), fun i hi => (g.2.1 i (by omega)).trans (h.2.1 i hi), fun i hi => (g.2.2.1 i hi).trans (h.2.2.1 i hi), fun i hi => (g.2.2.2.1 i hi).trans (h.2.2.2.1 i hi), g.2.2.2.2.trans h.2.2.2.2⟩
theorem rM.tr {k k1 : Nat} {N N1 N2 : eg_H} (h : rM k N N1) (hk : k ≤ k1) (g : rM k1 N1 N2) : rM k N N2 := ⟨fun r a b => (g.1 r a b).trans (h.1 r a b), fun i hi => ⟨(g.2.1 i (by omega)).1.trans (h.2.1 i hi).1, (g.2.1 i (by omega)).2.1.trans (h.2.1 i hi).2.1, (g.2.1 i (by omega)).2.2.trans (h.2.1 i hi).2.2⟩, fun i a b c => (g.2.2.1 i a b c).trans (h.2.2.1 i a b c), g.2.2.2.trans h.2.2.2⟩
theorem gk_r (q k : Nat) (M : eg_H) (v x : Int32) : rC q k M (gk (sI M (6, 0) 10 v) q k x) := by
  refine ⟨fun r a b c => ?_, fun i hi => ?_, fun i hi => ?_, fun i hi => ?_, rfl⟩
  · rw [gk_o _ _ _ _ b c, sI_ne a]
  · rw [gk_23, if_neg (by omega), sI_ne (kd_ne (by omega))]
  · rw [gk_3, if_neg hi, sI_ne (kd_ne (by omega))]
  · rw [gk_o _ _ _ _ (kd_ne (by omega)) (kd_ne (by omega)), sI_rr, if_neg hi]
theorem gr_r (k h : Nat) (N : eg_H) (v w x y z : Int32) : rM k N (gr (sI (sI N (60, 0) 43 v) (60, 0) 44 w) k h x y z) := by
  have o : ∀ r, r ≠ (60, 0) → (sI (sI N (60, 0) 43 v) (60, 0) 44 w).1 r = N.1 r := fun r hr => by rw [sI_ne hr, sI_ne hr]
  refine ⟨fun r a b => ?_, fun i hi => ⟨?_, ?_, ?_⟩, fun i a b c => ?_, rfl⟩
  · rw [gr_o _ _ _ _ _ _ a b, o r a]
  · rw [gr_99, if_neg (by omega), o _ (by decide)]
  · rw [gr_100, if_neg (by omega), o _ (by decide)]
  · rw [gr_101, if_neg (by omega), o _ (by decide)]
  · rw [gr_60, if_neg a, if_neg c, sI_60, if_neg c, sI_60, if_neg b]
theorem drop_e {N : eg_H} {h : Nat} (hh : h < 96) (e : N.1 (60, 0) 44 = nI (h + 1)) : gX11_dropHeld N ∧ fX11_dropHeld N = (N.1 (103, 0) h, sI N (60, 0) 44 (nI h)) := by
  have e1 : nI (h + 1) - 1 = nI h := nI_p h
  unfold gX11_dropHeld fX11_dropHeld
  rw [e, e1, sI_60, if_pos rfl, sI_ne (by decide), nI_t (by omega)]
  exact ⟨nI_in' hh (by omega), rfl⟩
theorem REL {q a rc rm : Nat} (q2 : q < 2) (hrc : 1 ≤ rc ∧ rc ≤ 6) (hrm : 1 ≤ rm ∧ rm ≤ 6) : ∀ (L l : List Nat) (k : Nat) (M N : eg_H), M.2.2 (6, 0) 1 = (5, q) → core q a M N L l k → l.length = bin L + 1 → agr rc rm L → ∃ M1 N1 l1 k1, (∀ (κ : eg_K) (d : Nat), 1 ≤ d → eg_W κ gC mtX6_releaseSigns d (eQV κ gC (fun X => X = M1)) 0 [(0, vR (6, 0)), (1, vI (nI rc))] [] M) ∧ (∀ (κ : eg_K) (d : Nat), 1 ≤ d → eg_W κ gM mtX11_bind d (eQV κ gM (fun X => X = N1)) 0 [(0, vR (60, 0)), (1, vI (nI rm))] [] N) ∧ core q a M1 N1 (drp rc L) l1 k1 ∧ l1.length = bin (drp rc L) + 1 ∧ k1 + nop (drp rc L) = k + nop L ∧ k ≤ k1 ∧ rC q k M M1 ∧ rM k N N1 := by
  intro L
  induction L with
  | nil =>
    intro l k M N eq hc hl _
    have z1 : M.1 (6, 0) 10 ≤ 0 := by rw [hc.1.1]; decide
    have z2 : N.1 (60, 0) 43 ≤ 0 := by rw [hc.1.2.1]; decide
    exact ⟨M, N, l, k, fun κ d hd => vX6_releaseSigns_0 hd M _ ⟨fun _ => rfl, fun y => absurd z1 y⟩, fun κ d hd => vX11_bind_0 hd N _ ⟨fun _ => rfl, fun y => absurd z2 y⟩, hc, hl, rfl, Nat.le_refl _, rC.rf q k M, rM.rf k N⟩
  | cons t L ih =>
    intro l k M N eq hc hl hag
    obtain ⟨⟨c1, c2, c3, c4⟩, ⟨c5, c6, c7, c8⟩, c9, c10, c11⟩ := hc
    have core0 : core q a M N (t :: L) l k := ⟨⟨c1, c2, c3, c4⟩, ⟨c5, c6, c7, c8⟩, c9, c10, c11⟩
    obtain ⟨⟨s1, s2, s3⟩, s4⟩ := c3
    have t35 := vsb_l s3
    have ll := len_e (t :: L)
    have e10 : M.1 (6, 0) 10 = nI (L.length + 1) := c1
    have e43 : N.1 (60, 0) 43 = nI (L.length + 1) := c2
    have lt72 : L.length < 72 := by
      have : (t :: L).length = L.length + 1 := rfl
      omega
    have p1 : ¬ M.1 (6, 0) 10 ≤ 0 := fun z => by
      rw [e10] at z
      have := (nI_le' (b := 0) (by omega) (by omega)).mp z
      omega
    have p2 : ¬ N.1 (60, 0) 43 ≤ 0 := fun z => by
      rw [e43] at z
      have := (nI_le' (b := 0) (by omega) (by omega)).mp z
      omega
    have d1 : M.1 (6, 0) 10 - 1 = nI L.length := by rw [e10]; exact nI_p _
    have d2 : N.1 (60, 0) 43 - 1 = nI L.length := by rw [e43]; exact nI_p _
    obtain ⟨w1, w2, w3, _, w5, w6, w7⟩ := rk_m0 t t35 s3
    by_cases cr : rk t < rc
    · have cm : rk t < rm := hag.1.mp cr
      have ed : drp rc (t :: L) = t :: L := if_pos cr
      rw [ed]
      refine ⟨M, N, l, k, fun κ d hd => vX6_releaseSigns_0 hd M _ ⟨fun y => absurd y p1, fun _ => ?_⟩, fun κ d hd => vX11_bind_0 hd N _ ⟨fun y => absurd y p2, fun _ => ?_⟩, core0, hl, rfl, Nat.le_refl _, rC.rf q k M, rM.rf k N⟩
      · rw [d1, nI_t (show L.length < 2147483648 by omega), s1]
        refine ⟨nI_in' lt72 (by omega), _, rankC M (by omega), fun x X hx => ?_⟩
        rw [hx.1, hx.2]
        exact ⟨fun _ => rfl, fun y => absurd ((nI_lt' (by omega) (by omega)).mpr cr) y⟩
      · rw [d2, nI_t (show L.length < 2147483648 by omega), s2]
        refine ⟨nI_in' (by omega) (by omega), fun x hx => ?_⟩
        rw [rk_m N s3] at hx
        rw [hx]
        exact ⟨fun _ => rfl, fun y => absurd ((nI_lt' (by omega) (by omega)).mpr cm) y⟩
    · have cm : ¬ rk t < rm := fun z => cr (hag.1.mpr z)
      have t34 : t ≠ 34 := fun z => by
        have := w5.mpr z
        omega
      have ed : drp rc (t :: L) = drp rc L := if_neg cr
      have hn : nop (t :: L) = nop L + 1 := by show nop L + (if t = 34 then 0 else 1) = _; rw [if_neg t34]
      have hlv : lev (t :: L) = lev L := by show lev L + (if t = 34 then 1 else 0) = _; rw [if_neg t34]; rfl
      have k64 : k < 64 := by omega
      have i10 : (10000 : Int32) + nI t = nI (10000 + t) := by show nI 10000 + nI t = _; rw [nI_add]
      obtain ⟨lin, lle⟩ := skF_in c9
      have key : ∀ (l1 : List Nat) (Y Z : Int32), l1.length < 96 → hst (N.1 (103, 0)) l1 → l1.length = bin L → (∀ kc km pt ot : Nat → Int32, kc k = nI (10000 + t) → km k = nI (wmt t) → pt k = Y → ot k = Z → stp kc km pt ot k l (k :: l1)) → (∀ (κ : eg_K) (d : Nat), 1 ≤ d → ∀ post : eg_H → Prop, eg_W κ gM mtX11_bind d (eQV κ gM post) 0 [(0, vR (60, 0)), (1, vI (nI rm))] [] (gr (sI (sI N (60, 0) 43 (nI L.length)) (60, 0) 44 (nI l1.length)) k l1.length (nI (wmt t)) Y Z) → eg_W κ gM mtX11_bind d (eQV κ gM post) 0 [(0, vR (60, 0)), (1, vI (nI rm))] [] N) → ∃ M1 N1 l1 k1, (∀ (κ : eg_K) (d : Nat), 1 ≤ d → eg_W κ gC mtX6_releaseSigns d (eQV κ gC (fun X => X = M1)) 0 [(0, vR (6, 0)), (1, vI (nI rc))] [] M) ∧ (∀ (κ : eg_K) (d : Nat), 1 ≤ d → eg_W κ gM mtX11_bind d (eQV κ gM (fun X => X = N1)) 0 [(0, vR (60, 0)), (1, vI (nI rm))] [] N) ∧ core q a M1 N1 (drp rc (t :: L)) l1 k1 ∧ l1.length = bin (drp rc (t :: L)) + 1 ∧ k1 + nop (drp rc (t :: L)) = k + nop (t :: L) ∧ k ≤ k1 ∧ rC q k M M1 ∧ rM k N N1 := by
        intro l1 Y Z hl96 hh hb hst' hm
        have o : ∀ r, r ≠ (60, 0) → (sI (sI N (60, 0) 43 (nI L.length)) (60, 0) 44 (nI l1.length)).1 r = N.1 r := fun r hr => by rw [sI_ne hr, sI_ne hr]
        have cg := core_g (q := q) (a := a) (k := k) (M := sI M (6, 0) 10 (nI L.length)) (N := sI (sI N (60, 0) 43 (nI L.length)) (60, 0) 44 (nI l1.length)) (L := L) (l0 := l) (l1 := l1) (x := nI (10000 + t)) (X := nI (wmt t)) (Y := Y) (Z := Z) ⟨by rw [sI_rr, if_pos rfl], by rw [sI_60, if_neg (by omega), sI_60, if_pos rfl], by rw [sI_ne (by decide), o _ (by decide)]; exact s4, by omega⟩ c7 (by omega) (by rw [sI_ne (kd_ne (by omega)), o _ (by decide), o _ (by decide), o _ (by decide)]; exact c9) (by rw [o _ (by decide)]; exact hh) hst'
        obtain ⟨M1, N1, l2, k1, r1, r2, r3, r4, r5, r6, r7, r8⟩ := ih (k :: l1) (k + 1) _ _ (show (gk (sI M (6, 0) 10 (nI L.length)) q k (nI (10000 + t))).2.2 (6, 0) 1 = (5, q) from eq) cg (by show l1.length + 1 = _; rw [hb]) (hag.2 cr)
        rw [ed]
        refine ⟨M1, N1, l2, k1, fun κ d hd => ?_, fun κ d hd => hm κ d hd _ (r2 κ d hd), r3, r4, by omega, by omega, (gk_r q k M _ _).tr (by omega) r7, (gr_r k _ N _ _ _ _ _).tr (by omega) r8⟩
        refine vX6_releaseSigns_0 hd M _ ⟨fun y => absurd y p1, fun _ => ?_⟩
        rw [d1, nI_t (show L.length < 2147483648 by omega), s1]
        refine ⟨nI_in' lt72 (by omega), _, rankC M (by omega), fun x X hx => ?_⟩
        rw [hx.1, hx.2]
        refine ⟨fun y => absurd ((nI_lt' (by omega) (by omega)).mp y) cr, fun _ M7 e7 => ?_⟩
        rw [d1] at e7
        have f7 : M7.1 (6, 0) 10 = nI L.length := by rw [e7, sI_rr, if_pos rfl]
        have g7 : M7.1 (36, 0) = M.1 (36, 0) := by rw [e7, sI_ne (by decide)]
        have k7 : M7.1 (3, q) 3 = nI k := by rw [e7, sI_ne (kd_ne (by omega))]; exact c5
        obtain ⟨u1, u2⟩ := gk_e (M := M7) (q := q) (nI (10000 + t)) k64 k7
        refine ⟨q, q2, by rw [e7]; exact eq, ?_⟩
        rw [f7, nI_t (show L.length < 2147483648 by omega), g7, s1, i10]
        refine ⟨nI_in' lt72 (by omega), u1, fun M11 e11 => ?_⟩
        rw [e11, u2, e7]
        exact r1 κ d hd
      have hl64 : l.length ≤ 64 := by omega
      by_cases c15 : t = 15
      · have hb : bin (t :: L) = bin L := by show bin L + (if t = 15 ∨ t = 34 then 0 else 1) = _; rw [if_pos (Or.inl c15)]; rfl
        cases l with
        | nil => exact absurd hl (by rw [hb]; show ¬ 0 = _; omega)
        | cons x l1 =>
          have hl1 : l1.length + 1 = bin L + 1 := by rw [← hb]; exact hl
          have l96 : l1.length < 96 := by
            have : (x :: l1).length = l1.length + 1 := rfl
            omega
          have e44 : N.1 (60, 0) 44 = nI (l1.length + 1) := c10
          refine key l1 (nI x) (-1) l96 c11.2 (by omega) (fun kc km pt ot h1 h2 h3 h4 => ?_) (fun κ d hd post W => ?_)
          · refine Or.inr (Or.inr (Or.inl ⟨by rw [h1, c15]; rfl, by rw [h2, c15]; rfl, x, l1, rfl, h3, rfl⟩))
          · refine vX11_bind_0 hd N _ ⟨fun y => absurd y p2, fun _ => ?_⟩
            rw [d2, nI_t (show L.length < 2147483648 by omega), s2]
            refine ⟨nI_in' (by omega) (by omega), fun x4 hx => ?_⟩
            rw [rk_m N s3] at hx
            rw [hx]
            refine ⟨fun y => absurd ((nI_lt' (by omega) (by omega)).mp y) cm, fun _ M6 e6 => ?_⟩
            have f6 : M6.1 (60, 0) 43 = nI L.length := by rw [e6, sI_60, if_pos rfl]
            rw [f6, nI_t (show L.length < 2147483648 by omega)]
            refine ⟨nI_in' (by omega) (by omega), fun x8 e8 => ?_⟩
            rw [e6, sI_ne (by decide), s2] at e8
            have x2 : x8 = 2 := by rw [e8, w3.mpr c15]; rfl
            refine ⟨fun y => absurd x2 y, fun _ => ?_⟩
            have e44' : M6.1 (60, 0) 44 = nI (l1.length + 1) := by rw [e6, sI_60, if_neg (by omega)]; exact e44
            obtain ⟨v1, v2⟩ := drop_e l96 e44'
            refine vX11_bind_58 hd M6 _ _ _ ⟨v1, fun x3 M2 e3 => ?_⟩
            rw [v2] at e3
            have ex3 : x3 = nI x := (congrArg Prod.fst e3).trans (by dsimp only; rw [e6, sI_ne (by decide)]; exact c11.1)
            have eM2 : M2 = sI M6 (60, 0) 44 (nI l1.length) := congrArg Prod.snd e3
            refine ⟨_, gr_e (k := k) (h := l1.length) x8 x3 (-1) k64 l96 ?_ ?_, fun M4 e4 => ?_⟩
            · rw [eM2, sI_60, if_neg (by omega), e6, sI_60, if_neg (by omega)]; exact c6
            · rw [eM2, sI_60, if_pos rfl]
            · rw [e4, eM2, e6, ex3, e8]
              exact W
      · have hb : bin (t :: L) = bin L + 1 := by show bin L + (if t = 15 ∨ t = 34 then 0 else 1) = _; rw [if_neg (by omega)]
        match l, hl, c9, c10, c11, hl64, key with
        | [], hl, _, _, _, _, _ => exact absurd hl (by rw [hb]; show ¬ 0 = _; omega)
        | [_], hl, _, _, _, _, _ => exact absurd hl (by rw [hb]; show ¬ 1 = _; omega)
        | y :: x :: l1, hl, c9, c10, c11, hl64, key =>
          have hl1 : l1.length + 1 + 1 = bin L + 1 + 1 := by rw [← hb]; exact hl
          have l96 : l1.length + 1 < 96 := by
            have : (y :: x :: l1).length = l1.length + 1 + 1 := rfl
            omega
          have e44 : N.1 (60, 0) 44 = nI (l1.length + 1 + 1) := c10
          refine key l1 (nI x) (nI y) (by omega) c11.2.2 (by omega) (fun kc km pt ot h1 h2 h3 h4 => ?_) (fun κ d hd post W => ?_)
          · refine Or.inr (Or.inr (Or.inr ⟨by rw [h1, h2]; exact opm_w s3 c15 t34, y, x, l1, rfl, h3, h4, rfl⟩))
          · refine vX11_bind_0 hd N _ ⟨fun y => absurd y p2, fun _ => ?_⟩
            rw [d2, nI_t (show L.length < 2147483648 by omega), s2]
            refine ⟨nI_in' (by omega) (by omega), fun x4 hx => ?_⟩
            rw [rk_m N s3] at hx
            rw [hx]
            refine ⟨fun y => absurd ((nI_lt' (by omega) (by omega)).mp y) cm, fun _ M6 e6 => ?_⟩
            have f6 : M6.1 (60, 0) 43 = nI L.length := by rw [e6, sI_60, if_pos rfl]
            rw [f6, nI_t (show L.length < 2147483648 by omega)]
            refine ⟨nI_in' (by omega) (by omega), fun x8 e8 => ?_⟩
            rw [e6, sI_ne (by decide), s2] at e8
            have x2 : ¬ x8 = 2 := fun z => by
              have := (nI_eq' (b := 2) (by omega) (by omega)).mp (e8.symm.trans z)
              exact c15 (w3.mp this)
            have e44' : M6.1 (60, 0) 44 = nI (l1.length + 1 + 1) := by rw [e6, sI_60, if_neg (by omega)]; exact e44
            obtain ⟨v1, v2⟩ := drop_e l96 e44'
            refine ⟨fun _ => ⟨v1, fun x12 M11 e11 => ?_⟩, fun y => absurd y x2⟩
            rw [v2] at e11
            have ex12 : x12 = nI y := (congrArg Prod.fst e11).trans (by dsimp only; rw [e6, sI_ne (by decide)]; exact c11.1)
            have eM11 : M11 = sI M6 (60, 0) 44 (nI (l1.length + 1)) := congrArg Prod.snd e11
            obtain ⟨v3, v4⟩ := drop_e (N := M11) (h := l1.length) (by omega) (by rw [eM11, sI_60, if_pos rfl])
            refine vX11_bind_58 hd M11 _ _ _ ⟨v3, fun x3 M2 e3 => ?_⟩
            rw [v4] at e3
            have ex3 : x3 = nI x := (congrArg Prod.fst e3).trans (by dsimp only; rw [eM11, sI_ne (by decide), e6, sI_ne (by decide)]; exact c11.2.1)
            have eM2 : M2 = sI M6 (60, 0) 44 (nI l1.length) := (congrArg Prod.snd e3).trans (by rw [eM11]; exact sI_sI _ _ _ _ _)
            refine ⟨_, gr_e (k := k) (h := l1.length) x8 x3 x12 k64 (by omega) ?_ ?_, fun M4 e4 => ?_⟩
            · rw [eM2, sI_60, if_neg (by omega), e6, sI_60, if_neg (by omega)]; exact c6
            · rw [eM2, sI_60, if_pos rfl]
            · rw [e4, eM2, e6, ex3, ex12, e8]
              exact W
