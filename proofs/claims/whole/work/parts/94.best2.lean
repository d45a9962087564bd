/-! BEST IN THE MODEL -/
theorem clr_sW (N : eg_H) {k : Nat} (g : Nat → Int32) (h : k = 132 ∨ k = 133) : fX11_clears (sW N (k, 0) g) = sW (fX11_clears N) (k, 0) g := by
  have o : ∀ j, j ≠ k → (sW N (k, 0) g).1 (j, 0) = N.1 (j, 0) := fun j hj => sW_ne _ _ (kd_ne hj)
  refine eg_ext (fun r j => ?_) (fun _ _ => rfl) (fun _ _ => rfl)
  by_cases c : r = (k, 0)
  · rw [c, sW_at, clr_o _ (kd_ne (by omega)) (kd_ne (by omega)) (kd_ne (by omega)), sW_at]
  · rw [sW_ne _ _ c]
    by_cases c0 : r = (60, 0)
    · rw [c0, clr_f, clr_f, sW_ne _ _ (kd_ne (by omega))]
    · by_cases c1 : r = (125, 0)
      · rw [c1]
        unfold fX11_clears
        rw [o 125 (by omega), sW_ne _ _ (show ((125, 0) : eg_R) ≠ (126, 0) by decide), sW_at, sW_ne _ _ (show ((125, 0) : eg_R) ≠ (126, 0) by decide), sW_at]
      · by_cases c2 : r = (126, 0)
        · rw [c2]
          unfold fX11_clears
          rw [o 112 (by omega), o 126 (by omega), sW_at, sW_at]
        · rw [clr_o _ c0 c1 c2, clr_o _ c0 c1 c2, sW_ne _ _ c]
theorem QS.w2 {M Q : eg_H} {q : Nat} {R : Nat → Int32} (h : QS M q Q R) (g b : Nat → Int32) : QS M q (sW (sW Q (132, 0) g) (133, 0) b) R := by
  obtain ⟨w, e2, o, eq, mw, co, r, jk⟩ := h
  exact ⟨w, e2, o, eq, mw, co, r, jk⟩
theorem rF_w2 (Q : eg_H) (g b : Nat → Int32) (n : Nat) : rF (sW (sW Q (132, 0) g) (133, 0) b) n = rF Q n := rfl
theorem FrN_w (N : eg_H) {k : Nat} (hk : k = 132 ∨ k = 133) (f : Nat → Int32) : FrN N (sW N (k, 0) f) := by
  refine ⟨fun j _ _ _ => by rw [sW_ne _ _ (kd_ne (by omega))], fun r _ _ _ _ h5 h6 _ _ _ _ => sW_ne _ _ (fun q => ?_), fun g _ => ?_, fun j _ => by rw [sW_ne _ _ (kd_ne (by omega))]⟩
  · rw [q] at h5 h6
    rcases hk with z | z
    · exact h5 z
    · exact h6 z
  · rw [sW_ne _ _ (kd_ne (by omega)), sW_ne _ _ (kd_ne (by omega)), sW_ne _ _ (kd_ne (by omega))]
    exact ⟨rfl, rfl, fun _ _ => rfl⟩
/-- the heap of the model's search -/
abbrev bH (A : eg_H) (g b : Nat → Int32) (nm : Nat → Int64) (s : (Nat → Int64) × Int32) (Y : Nat → Int32) : eg_H := SX (sW (sW A (132, 0) g) (133, 0) b) nm s Y
theorem bH_126 (A : eg_H) (f g b : Nat → Int32) (nm : Nat → Int64) (s : (Nat → Int64) × Int32) (Y : Nat → Int32) (i : Nat) (v : Int32) : sI (bH (sW A (126, 0) f) g b nm s Y) (126, 0) i v = bH (sW A (126, 0) (upd f i v)) g b nm s Y := by
  unfold bH
  rw [sI_eq, SX_o _ _ _ _ (by decide) (by decide), sW_ne _ _ (by decide), sW_ne _ _ (by decide), sW_at, SX_sW _ _ _ _ _ (by decide) (by decide), sW_comm _ _ _ (show ((133, 0) : eg_R) ≠ (126, 0) by decide), sW_comm _ _ _ (show ((132, 0) : eg_R) ≠ (126, 0) by decide), sW_sW]
theorem bH_133 (A : eg_H) (g b : Nat → Int32) (nm : Nat → Int64) (s : (Nat → Int64) × Int32) (Y : Nat → Int32) (i : Nat) (v : Int32) : sI (bH A g b nm s Y) (133, 0) i v = bH A g (upd b i v) nm s Y := by
  unfold bH
  rw [sI_eq, SX_o _ _ _ _ (by decide) (by decide), sW_at, SX_sW _ _ _ _ _ (by decide) (by decide), sW_sW]
theorem bH_132 (A : eg_H) (g b : Nat → Int32) (nm : Nat → Int64) (s : (Nat → Int64) × Int32) (Y : Nat → Int32) : bH A g b nm s Y = sW (SX (sW A (133, 0) b) nm s Y) (132, 0) g := by
  unfold bH
  rw [SX_sW _ _ _ _ _ (by decide) (by decide), sW_comm _ _ _ (show ((133, 0) : eg_R) ≠ (132, 0) by decide)]
theorem bH_r (A : eg_H) (g b : Nat → Int32) (nm : Nat → Int64) (s : (Nat → Int64) × Int32) (Y : Nat → Int32) : (bH A g b nm s Y).1 (132, 0) = g ∧ (bH A g b nm s Y).1 (133, 0) = b := by
  unfold bH
  refine ⟨?_, ?_⟩
  · rw [SX_o _ _ _ _ (by decide) (by decide), sW_ne _ _ (by decide), sW_at]
  · rw [SX_o _ _ _ _ (by decide) (by decide), sW_at]
theorem bs_m {M N : eg_H} {C p m y : Nat} (h : JJ M N C p) (hm : m ≤ 3600) (n1 : 1 ≤ cN M p) (hy : y ≤ cN M p) {κ : eg_K} {d : Nat} (hd : 9 ≤ d) : ∀ (l : List Nat) (x : Nat) (s : Int32 × Nat) (A : eg_H) (g b : Nat → Int32) (nm : Nat → Int64) (σ : (Nat → Int64) × Int32) (Y : Nat → Int32), rwC (cN M p) (x :: l) = true → fX11_clears A = fX11_clears (t0 N) → FrN N (bH A g b nm σ Y) → (∀ j, 366 ≤ j → Y j = 0) → rwL g (rwD x) → (s.1 = -1 ∨ (rwL b (rwD s.2) ∧ 0 ≤ s.1.toInt)) → eg_W κ gM mtX11_best d (eQI κ gM (fun r M1 => r = bsA y ((x :: l).foldl (bsF (bvM N (cP M p) m)) s) ∧ FrN N M1)) 58 [(0, vR (60, 0)), (1, vI (nI m)), (2, vI (nI y)), (3, vI s.1), (4, vI 1)] [] (bH A g b nm σ Y) := by
  have n6 := (cN_e h.1.2.1.cW).2
  have hyI : ¬ nI y = 0 ↔ ¬ y = 0 := not_congr (nI_eq' (b := 0) (by omega) (by omega))
  have fin : ∀ (s : Int32 × Nat) (M' : eg_H), FrN N M' → rwL (M'.1 (133, 0)) (rwD s.2) → eg_W κ gM mtX11_best d (eQI κ gM (fun r M1 => r = bsA y s ∧ FrN N M1)) 58 [(0, vR (60, 0)), (1, vI (nI m)), (2, vI (nI y)), (3, vI s.1), (4, vI 0)] [] M' := by
    intro s M' F r
    refine vX11_best_58 (by omega) _ _ _ _ _ ⟨fun _ => ⟨fun c => ?_, fun x3 e => ⟨?_, F⟩⟩, fun c => absurd rfl c⟩
    · have c' := hyI.mp c
      obtain ⟨q, hq⟩ : ∃ q, y = q + 1 := ⟨y - 1, by omega⟩
      rw [hq, nI_p]; exact nI_in' (by omega) (by omega)
    · unfold bsA
      rw [e]
      by_cases c : y = 0
      · rw [if_neg (fun q => hyI.mp q c), if_pos c]
      · rw [if_pos (hyI.mpr c), if_neg c]
        obtain ⟨q, hq⟩ : ∃ q, y = q + 1 := ⟨y - 1, by omega⟩
        rw [hq, nI_p, nI_t (by omega), Nat.add_sub_cancel]
        exact (r q (by omega)).1
  have one : ∀ (x : Nat) (s : Int32 × Nat) (A : eg_H) (g b : Nat → Int32) (nm : Nat → Int64) (σ : (Nat → Int64) × Int32) (Y : Nat → Int32) (post : Int32 → eg_H → Prop), rwK (cN M p) x = true → fX11_clears A = fX11_clears (t0 N) → FrN N (bH A g b nm σ Y) → (∀ j, 366 ≤ j → Y j = 0) → rwL g (rwD x) → (s.1 = -1 ∨ (rwL b (rwD s.2) ∧ 0 ≤ s.1.toInt)) → (∀ b1 nm1 σ1, rwL b1 (rwD (bsF (bvM N (cP M p) m) s x).2) → 0 ≤ (bsF (bvM N (cP M p) m) s x).1.toInt → (∀ g1, FrN N (bH (rqM N x) g1 b1 nm1 σ1 (rF (rqM N x) m))) → eCI κ gM mtX11_nextOrder d [vR (132, 0), vI (nI (cN M p))] (bH (rqM N x) g b1 nm1 σ1 (rF (rqM N x) m)) (fun x9 M10 => eg_W κ gM mtX11_best d (eQI κ gM post) 58 [(0, vR (60, 0)), (1, vI (nI m)), (2, vI (nI y)), (3, vI (bsF (bvM N (cP M p) m) s x).1), (4, vI x9)] [] M10)) → eg_W κ gM mtX11_best d (eQI κ gM post) 58 [(0, vR (60, 0)), (1, vI (nI m)), (2, vI (nI y)), (3, vI s.1), (4, vI 1)] [] (bH A g b nm σ Y) := by
    intro x s A g b nm σ Y post hk hA F hY rg hs nx
    have q2 := qs_row h (FrQ.rf p M) hk (R' := fun k => nI (rwD x k)) (fun _ _ => rfl)
    have ecP : NM (rqM N x) = cP M p := q2.2.2.2.1.2.1.symm
    have hv0 : 0 ≤ (bvM N (cP M p) m x).toInt := by
      have := q2.w0 hm
      rw [ecP] at this
      exact this
    have FF : ∀ g1 b1 nm1 σ1, FrN N (bH (rqM N x) g1 b1 nm1 σ1 (rF (rqM N x) m)) := fun g1 b1 nm1 σ1 => by
      have a := ((FrN_f N (k := 2) (by omega) 0).tr (clr_Fr _)).tr (FrN_126 _ (cpT (fun k => nI (rwD x k)) ((fX11_clears (t0 N)).1 (126, 0)) 5))
      exact ((a.tr (FrN_w _ (k := 132) (by omega) g1)).tr (FrN_w _ (k := 133) (by omega) b1)).tr ((q2.w2 g1 b1).FrX hm nm1 σ1)
    have B12 : ∀ b1 nm1 σ1, (bH (rqM N x) g b1 nm1 σ1 (rF (rqM N x) m)).1 (60, 0) 12 = nI (cN M p) := fun b1 nm1 σ1 => by
      rw [(FF g b1 nm1 σ1).1 12 (by omega) (by omega) (by omega), ← h.1.2.1.en]
      exact (cN_e h.1.2.1.cW).1
    refine vX11_best_58 (by omega) _ _ _ _ _ ⟨fun c => absurd c (by decide), fun _ => ⟨(h.1.2.1.cong (fun _ _ => rfl) F.T).hp, fun M7 e7 => ?_⟩⟩
    have e7' : M7 = bH (fX11_clears (t0 N)) g b nm σ Y := by
      rw [e7, clr_SX, clr_sW _ _ (by omega), clr_sW _ _ (by omega), hA]
    rw [e7']
    suffices key : ∀ r i, i + r = 5 → eg_W κ gM mtX11_best d (eQI κ gM post) 70 [(0, vR (60, 0)), (1, vI (nI m)), (2, vI (nI y)), (3, vI s.1), (5, vI (nI i))] [] (bH (sW (fX11_clears (t0 N)) (126, 0) (cpT (fun k => nI (rwD x k)) ((fX11_clears (t0 N)).1 (126, 0)) i)) g b nm σ Y) by
      have k := key 5 0 (by omega)
      rw [cpT_0, sW_self] at k
      exact k
    intro r
    induction r with
    | zero =>
      intro i hi
      have ei : i = 5 := by omega
      rw [ei]
      refine vX11_best_70 (by omega) _ _ _ _ _ ⟨fun _ => ⟨_, (q2.w2 g b).run (by omega) hm nm σ Y hY, fun M2 ⟨nm1, σ1, e2⟩ => ?_⟩, fun c => absurd (by decide) c⟩
      rw [rF_w2] at e2
      obtain ⟨g1, g2⟩ := waitedOf_n (q2.w2 g b).2.2.2.2.1 nm1 σ1 (rF (rqM N x) m)
      rw [e2]
      refine ⟨g1, fun x6 e6 => ?_⟩
      rw [g2] at e6
      have e6 : x6 = bvM N (cP M p) m x := by
        rw [e6]
        show sm _ (NM (rqM N x)) = _
        rw [ecP]
        rfl
      rw [e6]
      have k124 : bsF (bvM N (cP M p) m) s x = (bvM N (cP M p) m x, x) → eg_W κ gM mtX11_best d (eQI κ gM post) 124 [(0, vR (60, 0)), (1, vI (nI m)), (2, vI (nI y)), (3, vI (bvM N (cP M p) m x)), (6, vI (0 : Int32))] [] (bH (rqM N x) g b nm1 σ1 (rF (rqM N x) m)) := by
        intro eb
        suffices k2 : ∀ r i, i + r = 5 → eg_W κ gM mtX11_best d (eQI κ gM post) 124 [(0, vR (60, 0)), (1, vI (nI m)), (2, vI (nI y)), (3, vI (bvM N (cP M p) m x)), (6, vI (nI i))] [] (bH (rqM N x) g (cpT g b i) nm1 σ1 (rF (rqM N x) m)) by
          have k := k2 5 0 (by omega)
          rw [cpT_0] at k
          exact k
        intro r
        induction r with
        | zero =>
          intro i hi
          have ei : i = 5 := by omega
          rw [ei]
          refine vX11_best_124 (by omega) _ _ _ _ _ ⟨fun _ => ?_, fun c => absurd (by decide) c⟩
          rw [B12]
          have := nx (cpT g b 5) nm1 σ1 (by rw [eb]; exact fun k hk => by rw [cpT_lt hk]; exact rg k hk) (by rw [eb]; exact hv0) (fun g1 => FF g1 _ _ _)
          rw [eb] at this
          exact this
        | succ r ih =>
          intro i hi
          refine vX11_best_124 (by omega) _ _ _ _ _ ⟨fun c => absurd ((nI_le' (a := 5) (by omega) (by omega)).mp c) (by omega), fun _ => ⟨nI_in' (by omega) (by omega), fun M6 e6 x7 e7 => ?_⟩⟩
          rw [nI_t (by omega), (bH_r _ _ _ _ _ _).1, bH_133, cpT_s] at e6
          rw [e6, e7, nI_1]
          exact ih (i + 1) (by omega)
      refine ⟨fun c => k124 (if_pos ?_), fun c => ⟨fun le => ?_, fun gt => k124 (if_pos (Or.inr gt))⟩⟩
      · rcases hs with w | w
        · exact Or.inl w
        · rw [t_lt, t_0] at c; omega
      · have c1 : ¬ s.1 = -1 := fun q => c (by rw [q]; decide)
        have eb : bsF (bvM N (cP M p) m) s x = s := if_neg (fun q => q.elim c1 (fun q => q le))
        have hs' := hs.resolve_left c1
        have b12 := B12 b nm1 σ1
        rw [b12]
        have := nx b nm1 σ1 (by rw [eb]; exact hs'.1) (by rw [eb]; exact hs'.2) (fun g1 => FF g1 _ _ _)
        rw [eb] at this
        exact this
    | succ r ih =>
      intro i hi
      refine vX11_best_70 (by omega) _ _ _ _ _ ⟨fun c => absurd ((nI_le' (a := 5) (by omega) (by omega)).mp c) (by omega), fun _ => ⟨nI_in' (by omega) (by omega), fun M13 e13 x14 e14 => ?_⟩⟩
      rw [nI_t (by omega), (bH_r _ _ _ _ _ _).1, (rg i (by omega)).1, bH_126, cpT_s (fun k => nI (rwD x k))] at e13
      rw [e13, e14, nI_1]
      exact ih (i + 1) (by omega)
  have cl : ∀ x, fX11_clears (rqM N x) = fX11_clears (t0 N) := fun x => by
    unfold rqM
    rw [clr_126a _ _ (fun k hk => cpT_ge hk), clr_clr]
  have hi0 : ∀ x, rwK (cN M p) x = true → ∀ j, 366 ≤ j → rF (rqM N x) m j = 0 := fun x hk j hj => (qs_row h (FrQ.rf p M) hk (R' := fun k => nI (rwD x k)) (fun _ _ => rfl)).hi hm hj
  intro l
  induction l with
  | nil =>
    intro x s A g b nm σ Y hc hA F hY rg hs
    simp only [rwC, Bool.and_eq_true, Option.isNone_iff_eq_none] at hc
    refine one x s A g b nm σ Y _ hc.1 hA F hY rg hs (fun b1 nm1 σ1 a1 a0 F1 => ?_)
    have no := sX11_nextOrder (κ := κ) (d := d - 1) (SX (sW (rqM N x) (133, 0) b1) nm1 σ1 (rF (rqM N x) m)) rg n1 (by omega)
    rw [← bH_132] at no
    refine ⟨_, no, fun x9 M10 q => ?_⟩
    rcases q with q | ⟨B, g1, q, _⟩
    · rw [q.2.1, q.2.2]
      exact fin _ _ (F1 g) (by rw [(bH_r _ _ _ _ _ _).2]; exact a1)
    · exact absurd (q.symm.trans hc.2) (fun w => nomatch w)
  | cons x' l ih =>
    intro x s A g b nm σ Y hc hA F hY rg hs
    have hc' : (rwK (cN M p) x && (match nxB (rwD x) (cN M p) with | none => false | some B => rwE B (rwD x')) && rwC (cN M p) (x' :: l)) = true := hc
    simp only [Bool.and_eq_true] at hc'
    refine one x s A g b nm σ Y _ hc'.1.1 hA F hY rg hs (fun b1 nm1 σ1 a1 a0 F1 => ?_)
    have no := sX11_nextOrder (κ := κ) (d := d - 1) (SX (sW (rqM N x) (133, 0) b1) nm1 σ1 (rF (rqM N x) m)) rg n1 (by omega)
    rw [← bH_132] at no
    refine ⟨_, no, fun x9 M10 q => ?_⟩
    rcases q with q | ⟨B, g1, q, q1, q2, q3⟩
    · have := hc'.1.2
      rw [q.1] at this
      exact nomatch this
    · have e := hc'.1.2
      rw [q] at e
      rw [q1, q2, ← bH_132]
      have k := ih x' (bsF (bvM N (cP M p) m) s x) (rqM N x) g1 b1 nm1 σ1 (rF (rqM N x) m) hc'.2 (cl x) (F1 g1) (hi0 x hc'.1.1) (rwL_of q3 (rwE_v e)) (Or.inr ⟨a1, a0⟩)
      rw [List.foldl_cons]
      exact k
