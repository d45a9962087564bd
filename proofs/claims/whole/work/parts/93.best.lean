/-! BEST -/
theorem rwK_v {n x : Nat} (h : rwK n x = true) : (∀ a, a < n → rwD x a < n ∧ ∀ b, b < a → rwD x b ≠ rwD x a) ∧ ∀ a, a < 5 → rwD x a < 5 := by
  simp only [rwK, Bool.and_eq_true, List.all_eq_true, List.mem_range, decide_eq_true_eq] at h
  exact h
theorem rwE_v {A B : Nat → Nat} (h : rwE A B = true) : ∀ k, k < 5 → A k = B k := by
  simp only [rwE, List.all_eq_true, List.mem_range, decide_eq_true_eq] at h
  exact h
def rqM (N : eg_H) (x : Nat) : eg_H := sW (fX11_clears (t0 N)) (126, 0) (cpT (fun k => nI (rwD x k)) ((fX11_clears (t0 N)).1 (126, 0)) 5)
def bvM (N : eg_H) (c m x : Nat) : Int32 := sm (fun g => rF (rqM N x) m (20 + 20 * g + 4)) c
theorem qs_row {M N M' : eg_H} {C p x : Nat} (h : JJ M N C p) (F : FrQ p M M') (hk : rwK (cN M p) x = true) {R' : Nat → Int32} (hR : ∀ k, k < 5 → R' k = nI (rwD x k)) : QS M' p (rqM N x) R' := by
  have n6 := (cN_e h.1.2.1.cW).2
  obtain ⟨v1, v2⟩ := rwK_v hk
  refine (h.qs0 (FrN_f N (k := 2) (by omega) 0)).row (fun r hr => F.P h.hp.2.1 hr) ⟨fun k hk => ?_, fun a b hab hb => ?_⟩ (fun k hk => ?_)
  · have hk' : k < cN M p := hk
    rw [hR k (by omega)]
    exact nI_in' (v1 k hk').1 (by have : eN (cE M p) = cN M p := rfl; omega)
  · have hb' : b < cN M p := hb
    have a1 := v2 a (by omega)
    have b1 := v2 b (by omega)
    rw [hR a (by omega), hR b (by omega)]
    exact fun e => (v1 b hb').2 a hab ((nI_eq' (by omega) (by omega)).mp e)
  · have hk' : k < cN M p := hk
    rw [hR k (by omega), cpT_lt (by omega)]
/-- the better one -/
def bsF (v : Nat → Int32) (s : Int32 × Nat) (x : Nat) : Int32 × Nat := if s.1 = -1 ∨ ¬ s.1 ≤ v x then (v x, x) else s
def bsA (y : Nat) (s : Int32 × Nat) : Int32 := if y = 0 then s.1 else nI (rwD s.2 (y - 1))
theorem rwL_of {g : Nat → Int32} {A : Nat → Nat} {x : Nat} (h : rwL g A) (e : ∀ k, k < 5 → A k = rwD x k) : rwL g (rwD x) := fun k hk => by rw [← e k hk]; exact h k hk
theorem bs_c {M N : eg_H} {C p m y : Nat} (h : JJ M N C p) (hm : m ≤ 3600) (n1 : 1 ≤ cN M p) (hy : y ≤ cN M p) {κ : eg_K} {d : Nat} (hd : 7 ≤ d) : ∀ (l : List Nat) (x t : Nat) (s : Int32 × Nat) (M' : eg_H), rwC (cN M p) (x :: l) = true → t + l.length < 120 → FrQ p M M' → rwL (M'.1 (52, 0)) (rwD x) → (s.1 = -1 ∨ (rwL (M'.1 (53, 0)) (rwD s.2) ∧ 0 ≤ s.1.toInt)) → eg_W κ gC mtX10_best d (eQI κ gC (fun r M1 => r = bsA y ((x :: l).foldl (bsF (bvM N (cP M p) m)) s) ∧ FrQ p M M1)) 46 [(0, vR (10, 0)), (1, vI (nI m)), (2, vI (nI y)), (3, vI s.1), (4, vI 1), (5, vI (nI t))] [] M' := by
  have hp := h.hp
  have n6 := (cN_e h.1.2.1.cW).2
  have hyI : ¬ nI y = 0 ↔ ¬ y = 0 := not_congr (nI_eq' (b := 0) (by omega) (by omega))
  -- the end
  have fin : ∀ (s : Int32 × Nat) (t : Nat) (M' : eg_H) , t ≤ 120 → FrQ p M M' → rwL (M'.1 (53, 0)) (rwD s.2) → eg_W κ gC mtX10_best d (eQI κ gC (fun r M1 => r = bsA y s ∧ FrQ p M M1)) 46 [(0, vR (10, 0)), (1, vI (nI m)), (2, vI (nI y)), (3, vI s.1), (4, vI 0), (5, vI (nI t))] [] M' := by
    intro s t M' ht F r
    have gd : ¬ nI y = 0 → vp_in (nI y - 1) 5 := fun c => by
      have c' := hyI.mp c
      obtain ⟨q, hq⟩ : ∃ q, y = q + 1 := ⟨y - 1, by omega⟩
      rw [hq, nI_p]; exact nI_in' (by omega) (by omega)
    have an : ∀ x3, x3 = (if (¬ nI y = 0) then (M'.1 (53, 0) (nI y - 1).toNatClampNeg) else s.1) → x3 = bsA y s ∧ FrQ p M M' := fun x3 e => by
      refine ⟨?_, F⟩
      unfold bsA
      rw [e]
      by_cases c : y = 0
      · rw [if_neg (fun q => hyI.mp q c), if_pos c]
      · rw [if_pos (hyI.mpr c), if_neg c]
        obtain ⟨q, hq⟩ : ∃ q, y = q + 1 := ⟨y - 1, by omega⟩
        rw [hq, nI_p, nI_t (by omega), Nat.add_sub_cancel]
        exact (r q (by omega)).1
    exact vX10_best_46 (by omega) _ _ _ _ _ _ ⟨fun _ => ⟨gd, an⟩, fun _ => ⟨fun _ => ⟨gd, an⟩, fun c => absurd rfl c⟩⟩
  -- one row
  have one : ∀ (x t : Nat) (s : Int32 × Nat) (M' : eg_H) (post : Int32 → eg_H → Prop), rwK (cN M p) x = true → t < 120 → FrQ p M M' → rwL (M'.1 (52, 0)) (rwD x) → (s.1 = -1 ∨ (rwL (M'.1 (53, 0)) (rwD s.2) ∧ 0 ≤ s.1.toInt)) → (∀ M2, FrQ p M M2 → rwL (M2.1 (52, 0)) (rwD x) → rwL (M2.1 (53, 0)) (rwD (bsF (bvM N (cP M p) m) s x).2) → 0 ≤ (bsF (bvM N (cP M p) m) s x).1.toInt → eCI κ gC mtX10_nextOrder d [vR (10, 0), vI (nI (cN M p))] M2 (fun x22 M23 => ∀ x25 : Int32, x25 = nI t + 1 → eg_W κ gC mtX10_best d (eQI κ gC post) 46 [(0, vR (10, 0)), (1, vI (nI m)), (2, vI (nI y)), (3, vI (bsF (bvM N (cP M p) m) s x).1), (4, vI x22), (5, vI x25)] [] M23)) → eg_W κ gC mtX10_best d (eQI κ gC post) 46 [(0, vR (10, 0)), (1, vI (nI m)), (2, vI (nI y)), (3, vI s.1), (4, vI 1), (5, vI (nI t))] [] M' := by
    intro x t s M' post hk ht F r52 hs nx
    have e5 : M'.1 (5, p) = M.1 (5, p) := F.P hp.2.1 (pOf_k (by omega))
    have ecP : cP M' p = cP M p := by unfold cP; rw [e5]
    have q2 := qs_row h F hk (R' := M'.1 (52, 0)) (fun k hk => (r52 k hk).1)
    refine vX10_best_46 (by omega) _ _ _ _ _ _ ⟨fun c => absurd ((nI_le' (a := 120) (by omega) (by omega)).mp c) (by omega), fun _ => ⟨fun c => absurd c (by decide), fun _ => ⟨p, hp.2.1, by rw [F.2 _ _ (by decide)]; exact hp.1.1, _, sX7_begin (by omega) (t := 1) (by omega) q2.1 (anC_52 (j := 0) (by decide)) (by omega) (fun k _ => cX_no (nT_k (by omega)) k), fun M12 ⟨Z1, e12, b12⟩ => ?_⟩⟩⟩
    rw [e12]
    refine ⟨_, q2.go (by omega) hm b12, fun M14 t14 => ?_⟩
    obtain ⟨g14, w14⟩ := t14.wt q2.1
    have F14 : FrQ p M M14 := F.tr (t14.Fr p)
    have o52 : M14.1 (52, 0) = M'.1 (52, 0) := t14.o (nT_k (by omega))
    have o53 : M14.1 (53, 0) = M'.1 (53, 0) := t14.o (nT_k (by omega))
    have n14 : M14.1 (5, p) 0 = nI (cN M p) := by rw [F14.P hp.2.1 (pOf_k (by omega))]; exact (cN_e h.1.2.1.cW).1
    have hv0 : 0 ≤ (bvM N (cP M p) m x).toInt := by
      have := q2.w0 hm
      rw [show NM (rqM N x) = cP M' p from q2.2.2.2.1.2.1.symm, ecP] at this
      exact this
    have p14 : M14.2.2 (10, 0) 3 = (5, p) := by rw [F14.2 _ _ (by decide)]; exact hp.1.1
    refine ⟨g14, fun x18 e18 => ?_⟩
    rw [w14, ecP] at e18
    have e18 : x18 = bvM N (cP M p) m x := e18
    have k101 : bsF (bvM N (cP M p) m) s x = (bvM N (cP M p) m x, x) → eg_W κ gC mtX10_best d (eQI κ gC post) 101 [(0, vR (10, 0)), (1, vI (nI m)), (2, vI (nI y)), (5, vI (nI t)), (6, vI x18)] [] M14 := by
      intro eb
      refine vX10_best_101 (by omega) _ _ _ _ _ (fun M1 e1 => ?_)
      have e1 : M1 = sC M14 (52, 0) (53, 0) 0 0 5 := e1
      rw [sC_cp] at e1
      have F1 : FrQ p M M1 := by rw [e1]; exact F14.tr ⟨fun r _ _ _ h2 _ => sW_ne _ _ (fun q => h2 (by rw [q])), fun _ _ _ => rfl⟩
      have a52 : M1.1 (52, 0) = M'.1 (52, 0) := by rw [e1, sW_ne _ _ (by decide), o52]
      have a53 : rwL (M1.1 (53, 0)) (rwD x) := fun k hk => by rw [e1, sW_at, cpT_lt hk, o52]; exact r52 k hk
      refine ⟨p, hp.2.1, by rw [F1.2 _ _ (by decide)]; exact hp.1.1, ?_⟩
      have n1' : M1.1 (5, p) 0 = nI (cN M p) := by rw [F1.P hp.2.1 (pOf_k (by omega))]; exact (cN_e h.1.2.1.cW).1
      rw [n1']
      have := nx M1 F1 (by rw [a52]; exact r52) (by rw [eb]; exact a53) (by rw [eb]; exact hv0)
      rw [eb] at this
      rw [e18]
      exact this
    refine ⟨fun c => k101 (if_pos (Or.inl c)), fun c => ⟨fun le => ?_, fun gt => k101 (if_pos (Or.inr (by rw [← e18]; exact gt)))⟩⟩
    have eb : bsF (bvM N (cP M p) m) s x = s := if_neg (fun q => q.elim c (fun q => q (by rw [← e18]; exact le)))
    have hs' := hs.resolve_left c
    refine ⟨p, hp.2.1, p14, ?_⟩
    rw [n14]
    have := nx M14 F14 (by rw [o52]; exact r52) (by rw [eb, o53]; exact hs'.1) (by rw [eb]; exact hs'.2)
    rw [eb] at this
    exact this
  intro l
  induction l with
  | nil =>
    intro x t s M' hc ht F r52 hs
    simp only [rwC, Bool.and_eq_true, Option.isNone_iff_eq_none] at hc
    refine one x t s M' _ hc.1 (by simp only [List.length_nil] at ht; omega) F r52 hs (fun M2 F2 a52 a53 a0 => ?_)
    have no := sX10_nextOrder (κ := κ) (d := d - 1) (by omega) M2 a52 n1 (by omega)
    rw [sW_self] at no
    refine ⟨_, no, fun x22 M23 q x25 e25 => ?_⟩
    rcases q with q | ⟨B, g1, q, _⟩
    · rw [q.2.1, q.2.2, e25, nI_1]
      exact fin _ (t + 1) M2 (by simp only [List.length_nil] at ht; omega) F2 a53
    · exact absurd (q.symm.trans hc.2) (fun w => nomatch w)
  | cons x' l ih =>
    intro x t s M' hc ht F r52 hs
    simp only [List.length_cons] at ht
    have hc' : (rwK (cN M p) x && (match nxB (rwD x) (cN M p) with | none => false | some B => rwE B (rwD x')) && rwC (cN M p) (x' :: l)) = true := hc
    simp only [Bool.and_eq_true] at hc'
    refine one x t s M' _ hc'.1.1 (by omega) F r52 hs (fun M2 F2 a52 a53 a0 => ?_)
    have no := sX10_nextOrder (κ := κ) (d := d - 1) (by omega) M2 a52 n1 (by omega)
    rw [sW_self] at no
    refine ⟨_, no, fun x22 M23 q x25 e25 => ?_⟩
    rcases q with q | ⟨B, g1, q, q1, q2, q3⟩
    · have := hc'.1.2
      rw [q.1] at this
      exact nomatch this
    · have e := hc'.1.2
      rw [q] at e
      rw [q1, q2, e25, nI_1]
      have F3 : FrQ p M (sW M2 (52, 0) g1) := F2.tr ⟨fun r _ _ h1 _ _ => sW_ne _ _ (fun w => h1 (by rw [w])), fun _ _ _ => rfl⟩
      have b52 : rwL ((sW M2 (52, 0) g1).1 (52, 0)) (rwD x') := by rw [sW_at]; exact rwL_of q3 (rwE_v e)
      have b53 : rwL ((sW M2 (52, 0) g1).1 (53, 0)) (rwD (bsF (bvM N (cP M p) m) s x).2) := by rw [sW_ne _ _ (by decide)]; exact a53
      have k := ih x' (t + 1) (bsF (bvM N (cP M p) m) s x) (sW M2 (52, 0) g1) hc'.2 (by omega) F3 b52 (Or.inr ⟨b53, a0⟩)
      rw [List.foldl_cons]
      exact k
