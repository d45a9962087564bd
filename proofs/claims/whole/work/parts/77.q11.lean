/-! QUESTIONS: seen -/
theorem QS.row {M M' : eg_H} {q : Nat} {Q : eg_H} {R R' f : Nat → Int32} (h : QS M q Q R) (hM : ∀ r, pOf r q → M'.1 r = M.1 r) (hR : oR (cE M q) R') (hk : ∀ k, k < cN M q → R' k = f k) : QS M' q (sW Q (126, 0) f) R' := by
  obtain ⟨w, e2, o, eq, mw, co, r, jk⟩ := h
  have eE : cE M' q = cE M q := cE_cong w hM
  have a5 := hM (5, q) (pOf_k (by omega))
  have en : cN M' q = cN M q := by unfold cN; rw [a5]
  have eM : mE (sW Q (126, 0) f) = mE Q := rfl
  have cw : cW M' q := by
    obtain ⟨w1, w2, w3, w4, w5, w6⟩ := w
    refine ⟨w1, by rw [a5]; exact w2, by rw [a5]; exact w3, fun l hl => ?_, by rw [eE]; exact w5, fun s hs => ?_⟩
    · have a3 := hM (3, q) (pOf_k (by omega))
      have a24 := hM (24, q) (pOf_k (by omega))
      have a25 := hM (25, q) (pOf_k (by omega))
      have a35 := hM (35, q) (pOf_k (by omega))
      unfold gvC
      rw [a3, a24, a25, a35]
      exact w4 l hl
    · rw [eE]; exact w6 s (by rw [← en]; exact hs)
  refine ⟨cw, by rw [eE]; exact e2, by rw [eE]; exact hR, by rw [eE, eM]; exact eq, mw, co, fun k hk2 => ?_, jk⟩
  rw [sW_at]
  exact hk k (by rw [← en]; exact hk2)
/-- one stands first or last, all else in order -/
def snR (row : Nat → Int32) (js : Nat) (x : Int32) (a0 pl : Nat) : Nat → Int32 := fun k => if k = pl then x else row (if k - a0 < js then k - a0 else k - a0 + 1)
theorem row_ix {E : eg_E} {R : Nat → Int32} (hE : wE E) (h : oR E R) {st : Nat} (hst : st < eN E) : ∃ js, js < eN E ∧ R js = nI st := by
  have hn := hE.1
  refine Classical.byContradiction (fun hc => ?_)
  have hne : ∀ i, i < eN E → (R i).toNatClampNeg ≠ st := by
    intro i hi e
    have := (nI_of' (h.1 i hi) (by omega)).1
    rw [e] at this
    exact hc ⟨i, hi, this⟩
  have := fb_holes (eN E - 1) (eN E) (fun i => if (R i).toNatClampNeg < st then (R i).toNatClampNeg else (R i).toNatClampNeg - 1) (fun i hi => by
    have a := vp_lt (h.1 i hi)
    have b := hne i hi
    split <;> omega) (fun i j hij hj e => by
    have a := vp_lt (h.1 i (by omega))
    have b := hne i (by omega)
    have c := vp_lt (h.1 j hj)
    have d := hne j hj
    apply h.2 i j hij hj
    rw [(nI_of' (h.1 i (by omega)) (by omega)).1, (nI_of' (h.1 j hj) (by omega)).1]
    congr 1
    split at e <;> split at e <;> omega)
  omega
theorem snR_o {E : eg_E} {R : Nat → Int32} (hE : wE E) (h : oR E R) {st js a0 pl : Nat} (hst : st < eN E) (hjs : js < eN E) (ej : R js = nI st) (ha : (a0 = 1 ∧ pl = 0) ∨ (a0 = 0 ∧ pl + 1 = eN E)) : oR E (snR R js (nI st) a0 pl) := by
  have hn := hE.1
  have ix : ∀ k, k < eN E → k ≠ pl → (if k - a0 < js then k - a0 else k - a0 + 1) < eN E ∧ (if k - a0 < js then k - a0 else k - a0 + 1) ≠ js := by
    intro k hk hp
    split <;> omega
  refine ⟨fun k hk => ?_, fun a b hab hb => ?_⟩
  · unfold snR
    by_cases c : k = pl
    · rw [if_pos c]; exact nI_in' hst (by omega)
    · rw [if_neg c]; exact h.1 _ (ix k hk c).1
  · have dis : ∀ i j, i < eN E → j < eN E → i ≠ j → R i ≠ R j := by
      intro i j hi hj hij
      by_cases c : i < j
      · exact h.2 i j c hj
      · exact fun e => h.2 j i (by omega) hi e.symm
    unfold snR
    by_cases c1 : a = pl
    · rw [if_pos c1, if_neg (by omega), ← ej]
      exact dis _ _ hjs (ix b hb (by omega)).1 (fun e => (ix b hb (by omega)).2 e.symm)
    · rw [if_neg c1]
      by_cases c2 : b = pl
      · rw [if_pos c2, ← ej]
        exact dis _ _ (ix a (by omega) c1).1 hjs (ix a (by omega) c1).2
      · rw [if_neg c2]
        refine dis _ _ (ix a (by omega) c1).1 (ix b hb c2).1 ?_
        split <;> split <;> omega
/-- how many others stand ahead -/
def cnO (js i : Nat) : Nat := if js < i then i - 1 else i
/-- the model's row asked for -/
def seM (N : eg_H) (js st a0 pl n : Nat) : Nat → Int32 := upd (putR ((fX11_clears (t0 N)).1 (126, 0)) (fun q => N.1 (112, 0) (if q < js then q else q + 1)) a0 (n - 1)) pl (nI st)
theorem clr_126a (N : eg_H) (f : Nat → Int32) (h : ∀ k, 5 ≤ k → f k = N.1 (126, 0) k) : fX11_clears (sW N (126, 0) f) = fX11_clears N := by
  refine eg_ext (fun r j => ?_) (fun _ _ => rfl) (fun _ _ => rfl)
  by_cases c0 : r = (60, 0)
  · subst c0
    rw [clr_f, clr_f, sW_ne _ _ (by decide)]
  · by_cases c1 : r = (125, 0)
    · subst c1
      have e : ∀ A : eg_H, (fX11_clears A).1 (125, 0) = cpT (fun _ => 0) (A.1 (125, 0)) 15 := fun A => by
        unfold fX11_clears
        rw [sW_ne _ _ (by decide), sW_at]
      rw [e, e, sW_ne _ _ (by decide)]
    · by_cases c2 : r = (126, 0)
      · subst c2
        by_cases c : j < 5
        · rw [clr_126 _ c, clr_126 _ c, sW_ne _ _ (by decide)]
        · have e : ∀ A : eg_H, (fX11_clears A).1 (126, 0) j = A.1 (126, 0) j := fun A => by
            unfold fX11_clears
            rw [sW_at, cpT_ge (by omega)]
          rw [e, e, sW_at]
          exact h j (by omega)
      · rw [clr_o _ c0 c1 c2, clr_o _ c0 c1 c2, sW_ne _ _ c2]
theorem FrN_126 (N : eg_H) (f : Nat → Int32) : FrN N (sW N (126, 0) f) := by
  refine ⟨fun j _ _ _ => by rw [sW_ne _ _ (by decide)], fun r _ _ _ h4 _ _ _ _ _ _ => sW_ne _ _ (fun q => h4 (by rw [q])), fun g _ => ?_, fun j _ => by rw [sW_ne _ _ (by decide)]⟩
  rw [sW_ne _ _ (by decide), sW_ne _ _ (by decide), sW_ne _ _ (by decide)]
  exact ⟨rfl, rfl, fun _ _ => rfl⟩
theorem oR_cong {E : eg_E} {R R' : Nat → Int32} (h : oR E R) (e : ∀ k, k < eN E → R' k = R k) : oR E R' := ⟨fun k hk => by rw [e k hk]; exact h.1 k hk, fun a b hab hb => by rw [e a (by omega), e b hb]; exact h.2 a b hab hb⟩
/-- a model that has been run, cleared as at first -/
def mJ (N M : eg_H) : Prop := FrN N M ∧ ∃ nm s Y A, M = SX A nm s Y ∧ (∀ j, 366 ≤ j → Y j = 0) ∧ fX11_clears A = fX11_clears (t0 N)
theorem mJ_0 {M N : eg_H} {C p : Nat} (h : JJ M N C p) : mJ N (t0 N) := by
  have F0 : FrN N (t0 N) := FrN_f N (by omega) 0
  refine ⟨F0, (t0 N).2.1 (127, 0), ((t0 N).2.1 (128, 0), (t0 N).1 (60, 0) 68), (t0 N).1 (110, 0), t0 N, (SX_self _).symm, fun j hj => ?_, rfl⟩
  rw [F0.2.2.2 j hj]
  exact h.2.2.2.2.1 j hj
theorem mJ_g {M N M1 : eg_H} {C p : Nat} (h : JJ M N C p) (m : mJ N M1) : gX11_clears M1 := (h.1.2.1.cong (fun _ _ => rfl) m.1.T).hp
theorem SX_126 (A : eg_H) (nm : Nat → Int64) (s : (Nat → Int64) × Int32) (Y g : Nat → Int32) (k : Nat) (x : Int32) : sI (SX (sW A (126, 0) g) nm s Y) (126, 0) k x = SX (sW A (126, 0) (upd g k x)) nm s Y := by
  rw [sI_eq, SX_o _ _ _ _ (by decide) (by decide), sW_at, SX_sW _ _ _ _ _ (by decide) (by decide), sW_sW]
theorem seM_k {N : eg_H} {js st a0 pl n k : Nat} (hn : n < 6) (hk : k < n) (ha : (a0 = 1 ∧ pl = 0) ∨ (a0 = 0 ∧ pl + 1 = n)) : seM N js st a0 pl n k = snR (N.1 (112, 0)) js (nI st) a0 pl k := by
  unfold seM snR
  by_cases c : k = pl
  · rw [if_pos c, c, pk_us]
  · rw [if_neg c, pk_un c]
    obtain ⟨q, rfl⟩ : ∃ q, k = a0 + q := ⟨k - a0, by omega⟩
    rw [putR_in (by omega), show a0 + q - a0 = q by omega]
theorem seM_hi {N : eg_H} {js st a0 pl n k : Nat} (hn : n < 6) (hp : pl < 5) (ha : a0 ≤ 1) (hk : 5 ≤ k) : seM N js st a0 pl n k = (fX11_clears (t0 N)).1 (126, 0) k := by
  unfold seM
  rw [pk_un (by omega), putR_out (by omega)]
theorem qs_seen {M N M' : eg_H} {C p js st a0 pl : Nat} (h : JJ M N C p) (hst : st < cN M p) (hjs : js < cN M p) (ej : M.1 (40, 0) js = nI st) (ha : (a0 = 1 ∧ pl = 0) ∨ (a0 = 0 ∧ pl + 1 = cN M p)) (F : FrQ p M M') {R' : Nat → Int32} (hR : ∀ k, k < cN M p → R' k = snR (M.1 (40, 0)) js (nI st) a0 pl k) : QS M' p (sW (fX11_clears (t0 N)) (126, 0) (seM N js st a0 pl (cN M p))) R' := by
  have hW := h.1.2.1.cW
  have n6 := (cN_e hW).2
  have row : ∀ k, k < cN M p → M.1 (40, 0) k = N.1 (112, 0) k := fun k hk => by rw [h.1.2.2.2 k (by omega), h.row hk]
  refine (h.qs0 (FrN_f N (k := 2) (by omega) 0)).row (fun r hr => F.P h.hp.2.1 hr) (oR_cong (snR_o hW.2.2.2.2.1 h.oR hst hjs ej ha) hR) (fun k hk => ?_)
  rw [hR k hk, seM_k n6 hk ha]
  unfold snR
  split
  · rfl
  · rw [row _ (by split <;> omega)]
theorem sX10_takenAt {κ : eg_K} {d : Nat} (hd : 7 ≤ d) {M N M' : eg_H} {C p js st a0 pl n : Nat} (h : JJ M N C p) (hst : st < cN M p) (hjs : js < cN M p) (ej : M.1 (40, 0) js = nI st) (ha : (a0 = 1 ∧ pl = 0) ∨ (a0 = 0 ∧ pl + 1 = cN M p)) (F : FrQ p M M') (hn : n ≤ 3600) : eg_S κ gC mtX10_takenAt d [vR (10, 0), vI (nI st), vI (nI pl), vI (nI n)] M' (eQI κ gC (fun r M1 => r = rF (sW (fX11_clears (t0 N)) (126, 0) (seM N js st a0 pl (cN M p))) n (320 + 8 * st + 3) ∧ FrQ p M M1)) := by
  have hp := h.hp
  have hW := h.1.2.1.cW
  have en := cN_e hW
  have o := h.oR
  have e40 : M'.1 (40, 0) = M.1 (40, 0) := F.T (t := 0) (by omega) (Or.inl ⟨Or.inr (Or.inr rfl), rfl⟩)
  have e5 : M'.1 (5, p) = M.1 (5, p) := F.P hp.2.1 (pOf_k (by omega))
  have Fg : ∀ g, FrQ p M (sW M' (52, 0) g) := fun g => F.tr ⟨fun r _ _ h1 _ _ => sW_ne _ _ (fun q => h1 (by rw [q])), fun _ _ _ => rfl⟩
  obtain ⟨ac, hac⟩ : ∃ ac, ac = if pl = 0 then 1 else 0 := ⟨_, rfl⟩
  have ha2 : ac = 1 ∧ pl = 0 ∨ ac = 0 ∧ ¬ pl = 0 := by split at hac <;> omega
  have hne : ∀ i, i < cN M p → i ≠ js → ¬ M.1 (40, 0) i = nI st := by
    intro i hi hij e
    rw [← ej] at e
    by_cases c : i < js
    · exact o.2 i js c hjs e
    · exact o.2 js i (by omega) hi e.symm
  -- the run
  have k76 : ∀ g : Nat → Int32, (∀ q, q < cN M p - 1 → g (ac + q) = M.1 (40, 0) (if q < js then q else q + 1)) → eg_W κ gC mtX10_takenAt d (eQI κ gC (fun r M1 => r = rF (sW (fX11_clears (t0 N)) (126, 0) (seM N js st a0 pl (cN M p))) n (320 + 8 * st + 3) ∧ FrQ p M M1)) 76 [(0, vR (10, 0)), (1, vI (nI st)), (2, vI (nI pl)), (3, vI (nI n))] [] (sW M' (52, 0) g) := by
    intro g hg
    refine vX10_takenAt_76 (by omega) _ _ _ _ ⟨nI_in' (by omega) (by omega), fun M2 e2 => ?_⟩
    rw [nI_t (by omega), sI_sW] at e2
    have F2 : FrQ p M M2 := by rw [e2]; exact Fg _
    have q2 : QS M2 p (sW (fX11_clears (t0 N)) (126, 0) (seM N js st a0 pl (cN M p))) (M2.1 (52, 0)) := by
      refine qs_seen h hst hjs ej ha F2 (fun k hk => ?_)
      rw [e2, sW_at]
      unfold snR
      by_cases c : k = pl
      · rw [if_pos c, c, pk_us]
      · rw [if_neg c, pk_un c]
        obtain ⟨q, rfl⟩ : ∃ q, k = ac + q := ⟨k - ac, by omega⟩
        rw [hg q (by omega), show ac + q - a0 = q by omega]
    refine ⟨p, hp.2.1, by rw [F2.2 _ _ (by decide)]; exact hp.1.1, _, sX7_begin (by omega) (t := 1) (by omega) q2.1 (anC_52 (j := 0) (by decide)) (by omega) (fun k _ => cX_no (nT_k (by omega)) k), fun M4 ⟨Z1, e4, b4⟩ => ?_⟩
    rw [e4]
    refine ⟨_, q2.go (by omega) hn b4, fun M6 t6 => ⟨nI_in' (by omega) (by omega), ?_, F2.tr (t6.Fr p)⟩⟩
    have ecN : cN M2 p = cN M p := by unfold cN; rw [F2.P hp.2.1 (pOf_k (by omega))]
    rw [nI_t (by omega), t6.s (k := 3) (by omega) (by omega) (by omega)]
  refine eg_S.of rfl (Nat.le_of_ble_eq_true rfl) (vX10_takenAt_0 (by omega) M' _ _ _ (fun M1 e1 x3 e3 => ?_))
  have ex3 : x3 = nI ac := by
    rw [e3, hac]
    by_cases c : pl = 0
    · rw [if_pos c, c, if_neg (fun q => q rfl)]; rfl
    · have c' : ¬ nI pl = 0 := fun q => c ((nI_eq' (b := 0) (by omega) (by omega)).mp q)
      rw [if_neg c, if_pos c']; rfl
  rw [e1, ex3]
  unfold fX10_orderByNumbers
  suffices key : ∀ m i (g : Nat → Int32), i + m = cN M p → (∀ q, q < cnO js i → g (ac + q) = M.1 (40, 0) (if q < js then q else q + 1)) → eg_W κ gC mtX10_takenAt d (eQI κ gC (fun r M1 => r = rF (sW (fX11_clears (t0 N)) (126, 0) (seM N js st a0 pl (cN M p))) n (320 + 8 * st + 3) ∧ FrQ p M M1)) 18 [(0, vR (10, 0)), (1, vI (nI st)), (2, vI (nI pl)), (3, vI (nI n)), (4, vI (nI (ac + cnO js i))), (5, vI (nI i))] [] (sW M' (52, 0) g) by
    exact key (cN M p) 0 _ (by omega) (fun q hq => absurd hq (by unfold cnO; split <;> omega))
  intro m
  induction m with
  | zero =>
    intro i g hi hg
    have : cnO js i = cN M p - 1 := by unfold cnO; split <;> omega
    rw [this] at hg
    refine vX10_takenAt_18 _ _ _ _ _ _ ⟨p, hp.2.1, by rw [(Fg g).2 _ _ (by decide)]; exact hp.1.1, fun _ => k76 g hg, fun c => ?_⟩
    rw [sW_ne _ _ (kd_ne (by decide)), e5, en.1] at c
    exact absurd ((nI_le' (by omega) (by omega)).mpr (by omega)) c
  | succ m ih =>
    intro i g hi hg
    have cn1 : cnO js i ≤ cN M p - 1 := by unfold cnO; split <;> omega
    refine vX10_takenAt_18 _ _ _ _ _ _ ⟨p, hp.2.1, by rw [(Fg g).2 _ _ (by decide)]; exact hp.1.1, fun c => ?_, fun _ => ⟨fun c => k76 g (fun q hq => hg q ?_), fun _ => ⟨nI_in' (by omega) (by omega), fun c x6 e6 => ?_, fun c => ?_⟩⟩⟩
    · rw [sW_ne _ _ (kd_ne (by decide)), e5, en.1] at c
      exact absurd ((nI_le' (by omega) (by omega)).mp c) (by omega)
    · have := (nI_le' (a := 5) (by omega) (by omega)).mp c
      omega
    · rw [nI_t (by omega), sW_ne _ _ (kd_ne (by decide)), e40] at c
      have eij : i = js := Classical.byContradiction (fun q => hne i (by omega) q c)
      rw [e6, nI_1]
      have ec : cnO js (i + 1) = cnO js i := by unfold cnO; split <;> split <;> omega
      rw [← ec]
      rw [← ec] at hg
      exact ih (i + 1) g (by omega) hg
    · rw [nI_t (by omega), sW_ne _ _ (kd_ne (by decide)), e40] at c ⊢
      have eij : i ≠ js := fun q => c (by rw [q]; exact ej)
      have c5 : ac + cnO js i < 5 := by unfold cnO; split <;> omega
      refine ⟨nI_in' c5 (by omega), fun M8 e8 x9 e9 x10 e10 => ?_⟩
      rw [nI_t (by omega), sI_sW] at e8
      rw [e8, e9, e10, nI_1, nI_1]
      have ec : cnO js (i + 1) = cnO js i + 1 := by unfold cnO; split <;> split <;> omega
      rw [show ac + cnO js i + 1 = ac + cnO js (i + 1) by omega]
      refine ih (i + 1) _ (by omega) (fun q hq => ?_)
      by_cases cq : q = cnO js i
      · have ecn : (js < i ∧ cnO js i = i - 1) ∨ (¬ js < i ∧ cnO js i = i) := by unfold cnO; split <;> omega
        have ei : (if cnO js i < js then cnO js i else cnO js i + 1) = i := by
          rcases ecn with z | z
          · rw [z.2, if_neg (by omega)]; omega
          · rw [z.2, if_pos (by omega)]
        rw [cq, pk_us, ei]
      · rw [pk_un (by omega)]
        exact hg q (by omega)
theorem sX11_takenAt {κ : eg_K} {d : Nat} (hd : 9 ≤ d) {M N M1 : eg_H} {C p js st a0 pl n : Nat} (h : JJ M N C p) (hst : st < cN M p) (hjs : js < cN M p) (ej : M.1 (40, 0) js = nI st) (ha : (a0 = 1 ∧ pl = 0) ∨ (a0 = 0 ∧ pl + 1 = cN M p)) (hm : mJ N M1) (hn : n ≤ 3600) : eg_S κ gM mtX11_takenAt d [vR (60, 0), vI (nI st), vI (nI a0), vI (nI n)] M1 (eQI κ gM (fun r M2 => r = rF (sW (fX11_clears (t0 N)) (126, 0) (seM N js st a0 pl (cN M p))) n (320 + 8 * st + 3) ∧ mJ N M2)) := by
  have hW := h.1.2.1.cW
  have n6 := (cN_e hW).2
  have o := h.oR
  have g0 := mJ_g h hm
  have row : ∀ k, k < cN M p → M.1 (40, 0) k = N.1 (112, 0) k := fun k hk => by rw [h.1.2.2.2 k (by omega), h.row hk]
  have hne : ∀ i, i < cN M p → i ≠ js → ¬ N.1 (112, 0) i = nI st := by
    intro i hi hij e
    rw [← row i hi, ← ej] at e
    by_cases c : i < js
    · exact o.2 i js c hjs e
    · exact o.2 js i (by omega) hi e.symm
  obtain ⟨Fm, nm, s, Y, A, eA, hY, hA⟩ := hm
  have pl0 : PL M p (t0 N) := h.1.2.1.cong (fun _ _ => rfl) (FrN_f N (k := 2) (by omega) 0).T
  have B12 : (fX11_clears (t0 N)).1 (60, 0) 12 = nI (cN M p) := by
    rw [(clr_Fr (t0 N)).1 12 (by omega) (by omega) (by omega), ← pl0.en]
    exact (cN_e hW).1
  have B112 : (fX11_clears (t0 N)).1 (112, 0) = N.1 (112, 0) := by rw [clr_o _ (by decide) (by decide) (by decide), sI_ne (by decide)]
  have q := qs_seen (M' := M) (R' := snR (M.1 (40, 0)) js (nI st) a0 pl) h hst hjs ej ha (FrQ.rf p M) (fun _ _ => rfl)
  refine eg_S.of rfl (Nat.le_of_ble_eq_true rfl) (vX11_takenAt_0 (by omega) M1 _ _ _ ⟨g0, fun M2 e2 x4 e4 => ?_⟩)
  have ex4 : x4 = nI a0 := by
    rw [e4]
    rcases ha with z | z
    · rw [z.1, if_neg (by decide)]; rfl
    · rw [z.1, if_pos (show nI 0 = 0 from rfl)]; rfl
  rw [eA, clr_SX, hA] at e2
  rw [ex4, e2]
  suffices key : ∀ m i, i + m = cN M p → eg_W κ gM mtX11_takenAt d (eQI κ gM (fun r M2 => r = rF (sW (fX11_clears (t0 N)) (126, 0) (seM N js st a0 pl (cN M p))) n (320 + 8 * st + 3) ∧ mJ N M2)) 18 [(0, vR (60, 0)), (1, vI (nI st)), (2, vI (nI a0)), (3, vI (nI n)), (4, vI (nI (a0 + cnO js i))), (5, vI (nI i))] [] (SX (sW (fX11_clears (t0 N)) (126, 0) (putR ((fX11_clears (t0 N)).1 (126, 0)) (fun q => N.1 (112, 0) (if q < js then q else q + 1)) a0 (cnO js i))) nm s Y) by
    have k0 := key (cN M p) 0 (by omega)
    have c0 : cnO js 0 = 0 := by unfold cnO; split <;> omega
    rw [c0, putR_0, sW_self] at k0
    exact k0
  intro m
  induction m with
  | zero =>
    intro i hi
    have ec : cnO js i = cN M p - 1 := by unfold cnO; split <;> omega
    rw [ec]
    refine vX11_takenAt_18 (by omega) _ _ _ _ _ _ ⟨fun _ x2 ex2 => ?_, fun c => ?_⟩
    · have e2' : x2 = nI pl := by
        rw [ex2, SX_f _ _ _ _ (by decide), sW_ne _ _ (by decide), B12]
        rcases ha with z | z
        · rw [z.1, z.2, if_neg (by decide)]; rfl
        · rw [z.1, if_pos (show nI 0 = 0 from rfl), ← z.2]; exact nI_p pl
      rw [e2']
      refine ⟨nI_in' (by omega) (by omega), fun M4 e4 => ?_⟩
      rw [nI_t (by omega), SX_126] at e4
      rw [e4]
      refine ⟨_, q.run (by omega) hn nm s Y hY, fun M5 ⟨nm2, s2, e5⟩ => ?_⟩
      rw [e5]
      simp (disch := omega) only [forall_eq, pan_n, nAl, nI_t, vpi, SX_Y]
      refine ⟨by omega, trivial, (((FrN_f N (k := 2) (by omega) 0).tr (clr_Fr _)).tr (FrN_126 _ _)).tr (q.FrX hn nm2 s2), nm2, s2, _, _, rfl, fun j hj => q.hi hn hj, ?_⟩
      rw [clr_126a _ _ (fun k hk => seM_hi n6 (by omega) (by omega) hk), clr_clr]
    · rw [SX_f _ _ _ _ (by decide), sW_ne _ _ (by decide), B12] at c
      exact absurd ((nI_le' (by omega) (by omega)).mpr (by omega)) c
  | succ m ih =>
    intro i hi
    have ih' := ih (i + 1) (by omega)
    refine vX11_takenAt_18 (by omega) _ _ _ _ _ _ ⟨fun c => ?_, fun _ => ⟨nI_in' (by omega) (by omega), fun c => ?_, fun c x17 e17 => ?_⟩⟩
    · rw [SX_f _ _ _ _ (by decide), sW_ne _ _ (by decide), B12] at c
      exact absurd ((nI_le' (by omega) (by omega)).mp c) (by omega)
    · rw [nI_t (by omega), SX_o _ _ _ _ (by decide) (by decide), sW_ne _ _ (by decide), B112] at c
      have eij : i ≠ js := fun z => c (by rw [z, ← row js hjs]; exact ej)
      have ecn : (js < i ∧ cnO js i = i - 1) ∨ (¬ js < i ∧ cnO js i = i) := by unfold cnO; split <;> omega
      have c5 : a0 + cnO js i < 5 := by unfold cnO; split <;> omega
      have ec : cnO js (i + 1) = cnO js i + 1 := by unfold cnO; split <;> split <;> omega
      refine ⟨nI_in' c5 (by omega), fun M14 e14 x15 e15 x16 e16 => ?_⟩
      rw [nI_t (n := a0 + cnO js i) (by omega), nI_t (n := i) (by omega), SX_o _ _ _ _ (r := (112, 0)) (by decide) (by decide), sW_ne _ _ (show ((112, 0) : eg_R) ≠ (126, 0) by decide), B112, SX_126] at e14
      rw [e14, e15, e16, nI_1, nI_1, show a0 + cnO js i + 1 = a0 + (cnO js i + 1) by omega]
      have er : N.1 (112, 0) i = (fun q => N.1 (112, 0) (if q < js then q else q + 1)) (cnO js i) := by
        show N.1 (112, 0) i = N.1 (112, 0) (if cnO js i < js then cnO js i else cnO js i + 1)
        have ei : (if cnO js i < js then cnO js i else cnO js i + 1) = i := by
          rcases ecn with z | z
          · rw [z.2, if_neg (by omega)]; omega
          · rw [z.2, if_pos (by omega)]
        rw [ei]
      rw [er, putR_s (f := fun q => N.1 (112, 0) (if q < js then q else q + 1)), ← ec]
      exact ih'
    · rw [nI_t (by omega), SX_o _ _ _ _ (by decide) (by decide), sW_ne _ _ (by decide), B112] at c
      have eij : i = js := Classical.byContradiction (fun z => hne i (by omega) z c)
      have ec : cnO js (i + 1) = cnO js i := by unfold cnO; split <;> split <;> omega
      rw [e17, nI_1]
      rw [ec] at ih'
      exact ih'
theorem st_seen {M N : eg_H} {C p : Nat} (h : JJ M N C p) (y x : Int32) : StI mtX10_seen mtX11_seen [vI y, vI x] M N C := by
  have F0 : FrN N (t0 N) := FrN_f N (by omega) 0
  have hp := h.hp
  have hW := h.1.2.1.cW
  have en := cN_e hW
  have pl0 : PL M p (t0 N) := h.1.2.1.cong (fun _ _ => rfl) F0.T
  by_cases hx : vp_in y (cN M p) ∧ vp_in x 3601
  · obtain ⟨hy, hx⟩ := hx
    obtain ⟨ey, hst⟩ := nI_of' hy (by omega)
    obtain ⟨ex, hn⟩ := nI_of' hx (by omega)
    generalize x.toNatClampNeg = n at ex hn
    generalize y.toNatClampNeg = st at ey hst
    subst ex ey
    obtain ⟨js, hjs, ej⟩ := row_ix hW.2.2.2.2.1 h.oR hst
    have hjs' : js < cN M p := hjs
    have ha1 : (1 = 1 ∧ 0 = 0) ∨ (1 = 0 ∧ 0 + 1 = cN M p) := Or.inl ⟨rfl, rfl⟩
    have ha0 : (0 = 1 ∧ cN M p - 1 = 0) ∨ (0 = 0 ∧ cN M p - 1 + 1 = cN M p) := Or.inr ⟨rfl, by omega⟩
    refine StI.q h (rF (sW (fX11_clears (t0 N)) (126, 0) (seM N js st 1 0 (cN M p))) n (320 + 8 * st + 3) - rF (sW (fX11_clears (t0 N)) (126, 0) (seM N js st 0 (cN M p - 1) (cN M p))) n (320 + 8 * st + 3)) (fun κ => ?_) (fun κ => ?_)
    · refine eg_S.of rfl (Nat.le_of_ble_eq_true rfl) (vX10_seen_0 (by omega) M _ _ ⟨p, hp.2.1, hp.1.1, fun x3 e3 => ⟨fun c => ?_, fun _ x6 e6 => ⟨fun _ => ⟨_, sX10_takenAt (pl := 0) (by omega) h hst hjs' ej ha1 (FrQ.rf p M) (by omega), fun x8 M9 ⟨a8, F9⟩ => ?_⟩, fun c => ?_⟩⟩⟩)
      · rw [e3, hasStation_n pl0] at c
        rcases isStation_n (t0 N) (nI st) pl0.hn with z | z
        · rw [← pl0.n1] at z; exact absurd hy z.2
        · rw [z.1] at c; exact absurd c (by decide)
      · have e9 : M9.1 (5, p) 0 - 1 = nI (cN M p - 1) := by
          rw [F9.P hp.2.1 (pOf_k (by omega)), en.1]
          have e : cN M p = cN M p - 1 + 1 := by omega
          rw [e]
          exact nI_p _
        refine ⟨p, hp.2.1, by rw [F9.2 _ _ (by decide)]; exact hp.1.1, ?_⟩
        rw [e9]
        exact ⟨_, sX10_takenAt (by omega) h hst hjs' ej ha0 F9 (by omega), fun x12 M13 ⟨a12, F13⟩ => ⟨by rw [a8, a12], F13⟩⟩
      · rcases isLength_n M (nI n) with z | z
        · exact absurd hx z.2
        · exact absurd (c.symm.trans (e6.trans z.1)) (by decide)
    · refine eg_S.of rfl (Nat.le_of_ble_eq_true rfl) (vX11_seen_0 (by omega) N _ _ (fun M1 e1 x3 e3 => ?_))
      rw [e1] at e3 ⊢
      refine ⟨fun c => ?_, fun _ x6 e6 => ⟨fun _ => ⟨_, sX11_takenAt (a0 := 1) (pl := 0) (by omega) h hst hjs' ej ha1 (mJ_0 h) (by omega), fun x8 M9 ⟨a8, m9⟩ => ⟨_, sX11_takenAt (a0 := 0) (by omega) h hst hjs' ej ha0 m9 (by omega), fun x11 M12 ⟨a11, m12⟩ => ⟨by rw [a8, a11], m12.1⟩⟩⟩, fun c => ?_⟩⟩
      · rcases isStation_n (t0 N) (nI st) pl0.hn with z | z
        · rw [← pl0.n1] at z; exact absurd hy z.2
        · exact absurd (c.symm.trans (e3.trans z.1)) (by decide)
      · rcases isTime_n (t0 N) (nI n) with z | z
        · exact absurd hx z.2
        · exact absurd (c.symm.trans (e6.trans z.1)) (by decide)
  · refine StI.q h (-2147483648) (fun κ => ?_) (fun κ => ?_)
    · refine eg_S.of rfl (Nat.le_of_ble_eq_true rfl) (vX10_seen_0 (by omega) M _ _ ⟨p, hp.2.1, hp.1.1, fun x3 e3 => ⟨fun _ => ⟨rfl, FrQ.rf p M⟩, fun c x6 e6 => ⟨fun c6 => ?_, fun _ => ⟨rfl, FrQ.rf p M⟩⟩⟩⟩)
      exfalso
      rw [e3, hasStation_n pl0] at c
      rcases isStation_n (t0 N) y pl0.hn with z | z
      · exact c z.1
      · rcases isLength_n M x with z2 | z2
        · exact c6 (e6.trans z2.1)
        · exact hx ⟨by rw [pl0.n1]; exact z.2, z2.2⟩
    · refine eg_S.of rfl (Nat.le_of_ble_eq_true rfl) (vX11_seen_0 (by omega) N _ _ (fun M1 e1 x3 e3 => ?_))
      rw [e1] at e3 ⊢
      refine ⟨fun _ => ⟨rfl, F0⟩, fun c x6 e6 => ⟨fun c6 => ?_, fun _ => ⟨rfl, F0⟩⟩⟩
      exfalso
      rcases isStation_n (t0 N) y pl0.hn with z | z
      · exact c (e3.trans z.1)
      · rcases isTime_n (t0 N) x with z2 | z2
        · exact c6 (e6.trans z2.1)
        · exact hx ⟨by rw [pl0.n1]; exact z.2, z2.2⟩
