/-! SMALL LOOPS, AS FUNCTIONS -/
def fX2_wantsLeft (M : eg_H) (g : Nat) : Int32 := sm (fun k => M.1 (22, g) k) 5
theorem sX2_wantsLeft {κ : eg_K} {d : Nat} (hd : 0 ≤ d) (M : eg_H) (l0 : Nat) (hl0 : l0 < 60) : eg_S κ gC mtX2_wantsLeft d [vR (2, l0)] M (eQI κ gC (fun r M1 => r = fX2_wantsLeft M l0 ∧ M1 = M)) := by
  refine eg_S.of rfl (Nat.le_of_ble_eq_true rfl) (vX2_wantsLeft_0 M hl0 ?_)
  refine eg_down (P := fun i => eg_W κ gC mtX2_wantsLeft d (eQI κ gC (fun r M1 => r = fX2_wantsLeft M l0 ∧ M1 = M)) 4 [(0, vR (2, l0)), (1, vI (sm (fun k => M.1 (22, l0) k) i)), (2, vI (nI i))] [] M) 5 (fun i hi k => ?_) ?_
  · refine vX2_wantsLeft_4 M hl0 _ _ ⟨fun c => absurd (show nI 5 ≤ nI i from c) (nI_ge hi (by decide)), fun _ => ⟨nI_in' hi (by omega), fun x e y e2 => ?_⟩⟩
    subst e; subst e2
    rw [nI_t (by omega), nI_1]
    exact k
  · exact vX2_wantsLeft_4 M hl0 _ _ ⟨fun _ => ⟨rfl, rfl⟩, fun c => absurd (by decide) c⟩
/-- Caller.clear: the wants are 0 -/
def fX0_clear (M : eg_H) (c : Nat) : eg_H := itr (fun i M => sI M (20, c) i 0) 5 M
theorem sX0_clear {κ : eg_K} {d : Nat} (hd : 0 ≤ d) (M : eg_H) (l0 : Nat) (hl0 : l0 < 30) : eg_S κ gC mtX0_clear d [vR (0, l0)] M (eQV κ gC (fun M1 => M1 = fX0_clear M l0)) := by
  refine eg_S.of rfl (Nat.le_of_ble_eq_true rfl) (vX0_clear_0 M hl0 ?_)
  refine eg_down (P := fun i => eg_W κ gC mtX0_clear d (eQV κ gC (fun M1 => M1 = fX0_clear M l0)) 2 [(0, vR (0, l0)), (1, vI (nI i))] [] (itr (fun i M => sI M (20, l0) i 0) i M)) 5 (fun i hi k => ?_) ?_
  · refine vX0_clear_2 _ hl0 _ ⟨fun c => absurd (show nI 5 ≤ nI i from c) (nI_ge hi (by decide)), fun _ => ⟨nI_in' hi (by omega), fun x e y e2 => ?_⟩⟩
    subst e; subst e2
    rw [nI_t (by omega), nI_1]
    exact k
  · exact vX0_clear_2 _ hl0 _ ⟨fun _ => rfl, fun c => absurd (by decide) c⟩
/-- the first of a plan's names -/
def fX5_stationOf (M : eg_H) (p : Nat) (x : Int32) : Int32 := fst1 (fun k => decide (M.1 (1, 5 * p + k) 0 = x)) 0 (M.1 (5, p) 0).toNatClampNeg
def gX5_stationOf (M : eg_H) (p : Nat) (x : Int32) : Prop := vp_in (M.1 (5, p) 0) 6
theorem eg_find {P : Nat → Prop} {p : Nat → Bool} {R : Int32 → Prop} (n : Nat) (hr : R (fst1 p 0 n)) (hs : ∀ i, i < n → (p i = true → R (nI i) → P i) ∧ (p i = false → P (i + 1) → P i)) (hn : R (-1) → P n) : P 0 := by
  have key : ∀ k i, i + k = n → R (fst1 p i k) → P i := by
    intro k
    induction k with
    | zero =>
      intro i hi hR
      have : i = n := by omega
      subst this
      exact hn hR
    | succ k ih =>
      intro i hi hR
      by_cases hp : p i = true
      · have e : fst1 p i (k + 1) = nI i := by show (if p i then nI i else _) = _; rw [if_pos hp]
        rw [e] at hR
        exact (hs i (by omega)).1 hp hR
      · have e : fst1 p i (k + 1) = fst1 p (i + 1) k := by show (if p i then nI i else _) = _; rw [if_neg hp]
        rw [e] at hR
        exact (hs i (by omega)).2 (by simpa using hp) (ih (i + 1) (by omega) hR)
  exact key n 0 (by omega) hr
theorem sX5_stationOf {κ : eg_K} {d : Nat} (hd : 0 ≤ d) (M : eg_H) (l0 : Nat) (l1 : Int32) (hl0 : l0 < 2) (hg : gX5_stationOf M l0 l1) : eg_S κ gC mtX5_stationOf d [vR (5, l0), vI l1] M (eQI κ gC (fun r M1 => r = fX5_stationOf M l0 l1 ∧ M1 = M)) := by
  obtain ⟨hn, hlt⟩ := nI_of' hg (by omega)
  refine eg_S.of rfl (Nat.le_of_ble_eq_true rfl) (vX5_stationOf_0 M hl0 l1 ?_)
  unfold fX5_stationOf
  generalize (M.1 (5, l0) 0).toNatClampNeg = n at hn hlt
  refine eg_find (P := fun i => eg_W κ gC mtX5_stationOf d (eQI κ gC (fun r M1 => r = fst1 (fun k => decide (M.1 (1, 5 * l0 + k) 0 = l1)) 0 n ∧ M1 = M)) 2 [(0, vR (5, l0)), (1, vI l1), (2, vI (nI i))] [] M) (R := fun x => x = fst1 (fun k => decide (M.1 (1, 5 * l0 + k) 0 = l1)) 0 n) (p := fun k => decide (M.1 (1, 5 * l0 + k) 0 = l1)) n rfl (fun i hi => ⟨fun hp hR => ?_, fun hp k => ?_⟩) (fun hR => ?_)
  · refine vX5_stationOf_2 M hl0 l1 _ ⟨fun c => absurd (hn ▸ c) (nI_ge hi (by omega)), fun _ => ⟨fun c => absurd (show nI 5 ≤ nI i from c) (nI_ge (by omega) (by decide)), fun _ => ⟨nI_in' (by omega) (by omega), fun c => ?_, fun _ => ⟨hR, rfl⟩⟩⟩⟩
    rw [nI_t (by omega)] at c
    exact absurd (by simpa using hp) c
  · refine vX5_stationOf_2 M hl0 l1 _ ⟨fun c => absurd (hn ▸ c) (nI_ge hi (by omega)), fun _ => ⟨fun c => absurd (show nI 5 ≤ nI i from c) (nI_ge (by omega) (by decide)), fun _ => ⟨nI_in' (by omega) (by omega), fun _ y e => ?_, fun c => ?_⟩⟩⟩
    · subst e
      rw [nI_1]
      exact k
    · rw [nI_t (by omega)] at c
      simp [c] at hp
  · exact vX5_stationOf_2 M hl0 l1 _ ⟨fun _ => ⟨hR, rfl⟩, fun c => absurd (hn ▸ nI_le (Nat.le_refl n) (by omega)) c⟩
/-! the model's -/
def fX11_wantsOf (M : eg_H) (g : Int32) : Int32 := sm (fun k => M.1 (110, 0) (34 + 20 * g.toNatClampNeg + k)) 5
def gX11_wantsOf (M : eg_H) (g : Int32) : Prop := vp_in g 15
theorem sX11_wantsOf {κ : eg_K} {d : Nat} (hd : 1 ≤ d) (M : eg_H) (l1 : Int32) (hg : gX11_wantsOf M l1) : eg_S κ gM mtX11_wantsOf d [vR (60, 0), vI l1] M (eQI κ gM (fun r M1 => r = fX11_wantsOf M l1 ∧ M1 = M)) := by
  obtain ⟨e, hlt⟩ := nI_of' hg (by omega)
  unfold fX11_wantsOf
  generalize l1.toNatClampNeg = g at e hlt ⊢
  subst e
  refine eg_S.of rfl (Nat.le_of_ble_eq_true rfl) (vX11_wantsOf_0 M _ ?_)
  refine eg_down (P := fun i => eg_W κ gM mtX11_wantsOf d (eQI κ gM (fun r M1 => r = sm (fun k => M.1 (110, 0) (34 + 20 * g + k)) 5 ∧ M1 = M)) 4 [(0, vR (60, 0)), (1, vI (nI g)), (2, vI (sm (fun k => M.1 (110, 0) (34 + 20 * g + k)) i)), (3, vI (nI i))] [] M) 5 (fun i hi k => ?_) ?_
  · refine vX11_wantsOf_4 hd M _ _ _ ⟨fun c => absurd (show nI 5 ≤ nI i from c) (nI_ge hi (by decide)), fun _ x3 e3 => ?_⟩
    rw [at_n] at e3
    subst e3
    simp only [nAl, nI_add]
    refine ⟨nI_in' (by omega) (by omega), fun x e y e2 => ?_⟩
    subst e; subst e2
    rw [nI_t (by omega), show 20 + 20 * g + 14 + i = 34 + 20 * g + i by omega]
    exact k
  · exact vX11_wantsOf_4 hd M _ _ _ ⟨fun _ => ⟨rfl, rfl⟩, fun c => absurd (by decide) c⟩
/-- the line of an array of 366: how many, and who -/
def qW (Y : Nat → Int32) : Prop := vp_in (Y 1) 16 ∧ ∀ k, k < (Y 1).toNatClampNeg → vp_in (Y (2 + k)) 15
def tkF (Y : Nat → Int32) (p : Int32) (k : Nat) : Int32 := if 0 < Y (23 + 20 * (Y (2 + k)).toNatClampNeg) ∧ Y (21 + 20 * (Y (2 + k)).toNatClampNeg) = p then 1 else 0
def fX11_takersAt (M : eg_H) (p : Int32) : Int32 := sm (tkF (M.1 (110, 0)) p) (M.1 (110, 0) 1).toNatClampNeg
def gX11_takersAt (M : eg_H) (p : Int32) : Prop := qW (M.1 (110, 0))
theorem one_t : (1 : Int32).toNatClampNeg = 1 := by decide
theorem one_in {n : Nat} (h : 1 < n) : vp_in (1 : Int32) n := by
  refine fun q => ?_
  rcases q with q | q
  · exact absurd q (by decide)
  · rw [one_t] at q; omega
theorem sX11_takersAt {κ : eg_K} {d : Nat} (hd : 1 ≤ d) (M : eg_H) (l1 : Int32) (hg : gX11_takersAt M l1) : eg_S κ gM mtX11_takersAt d [vR (60, 0), vI l1] M (eQI κ gM (fun r M1 => r = fX11_takersAt M l1 ∧ M1 = M)) := by
  obtain ⟨h1, h2⟩ := hg
  obtain ⟨e, hlt⟩ := nI_of' h1 (by omega)
  unfold fX11_takersAt
  generalize (M.1 (110, 0) 1).toNatClampNeg = q at e hlt h2 ⊢
  refine eg_S.of rfl (Nat.le_of_ble_eq_true rfl) (vX11_takersAt_0 M _ ?_)
  refine eg_down (P := fun i => eg_W κ gM mtX11_takersAt d (eQI κ gM (fun r M1 => r = sm (tkF (M.1 (110, 0)) l1) q ∧ M1 = M)) 4 [(0, vR (60, 0)), (1, vI l1), (2, vI (sm (tkF (M.1 (110, 0)) l1) i)), (3, vI (nI i))] [] M) q (fun i hi k => ?_) ?_
  · have hk := h2 i hi
    obtain ⟨e4, hlt4⟩ := nI_of' hk (by omega)
    refine vX11_takersAt_4 hd M _ _ _ ?_
    rw [one_t, e]
    refine ⟨one_in (by omega), fun c => absurd c (nI_ge hi (by omega)), fun _ => ?_⟩
    simp only [nAr]
    rw [nI_t (by omega)]
    refine ⟨nI_in' (by omega) (by omega), fun x5 e5 => ?_⟩
    have kk : ∀ z, z = tkF (M.1 (110, 0)) l1 i → eg_W κ gM mtX11_takersAt d (eQI κ gM (fun r M1 => r = sm (tkF (M.1 (110, 0)) l1) q ∧ M1 = M)) 4 [(0, vR (60, 0)), (1, vI l1), (2, vI (sm (tkF (M.1 (110, 0)) l1) i + z)), (3, vI (nI (i + 1)))] [] M := by
      intro z hz
      subst hz
      exact k
    have ev : tkF (M.1 (110, 0)) l1 i = if 0 < M.1 (110, 0) (23 + 20 * (M.1 (110, 0) (2 + i)).toNatClampNeg) ∧ M.1 (110, 0) (21 + 20 * (M.1 (110, 0) (2 + i)).toNatClampNeg) = l1 then 1 else 0 := rfl
    generalize (M.1 (110, 0) (2 + i)).toNatClampNeg = g at e4 hlt4 ev
    rw [e4] at e5 ⊢
    rw [at_n] at e5 ⊢
    subst e5
    simp only [nAl]
    rw [nI_t (by omega)]
    refine ⟨nI_in' (by omega) (by omega), fun c x8 e8 x9 e9 => ?_, fun c x11 e11 => ?_⟩
    · subst e8; subst e9
      refine kk _ ?_
      rw [ev, if_neg (fun h => ?_)]
      rw [show 20 + 20 * g + 3 = 23 + 20 * g by omega] at c
      exact absurd h.1 (Int32.not_lt.mpr c)
    · subst e11
      simp only [nAl]
      rw [nI_t (by omega)]
      refine ⟨nI_in' (by omega) (by omega), fun x13 e13 x14 e14 x15 e15 => ?_⟩
      subst e14; subst e15
      refine kk _ ?_
      rw [show 20 + 20 * g + 3 = 23 + 20 * g by omega] at c
      rw [show 20 + 20 * g + 1 = 21 + 20 * g by omega] at e13
      subst e13
      rw [ev]
      by_cases hc : M.1 (110, 0) (21 + 20 * g) = l1
      · rw [if_neg (fun h => h hc), if_pos ⟨Int32.not_le.mp c, hc⟩]
      · rw [if_pos hc, if_neg (fun h => hc h.2)]
  · refine vX11_takersAt_4 hd M _ _ _ ?_
    rw [one_t, e]
    exact ⟨one_in (by omega), fun _ => ⟨rfl, rfl⟩, fun c => absurd (nI_le (Nat.le_refl q) (by omega)) c⟩
/-- where a guest goes next: the first place from s on, below n -/
def nxS (Y : Nat → Int32) (g : Nat) : Int32 := if Y (30 + 20 * g) = 1 then Y (21 + 20 * g) else Y (21 + 20 * g) + 1
def nxF (Y : Nat → Int32) (n g : Nat) : Int32 := if Y (22 + 20 * g) = 0 then -1 else fst1 (fun p => decide (0 < Y (34 + 20 * g + (Y (360 + p)).toNatClampNeg))) (nxS Y g).toNatClampNeg (n - (nxS Y g).toNatClampNeg)
def fX11_nextOf (M : eg_H) (g : Int32) : Int32 := nxF (M.1 (110, 0)) (M.1 (60, 0) 12).toNatClampNeg g.toNatClampNeg
def gX11_nextOf (M : eg_H) (g : Int32) : Prop := vp_in g 15 ∧ vp_in (M.1 (60, 0) 12) 6 ∧ vp_in (nxS (M.1 (110, 0)) g.toNatClampNeg) 6 ∧ ∀ p, p < (M.1 (60, 0) 12).toNatClampNeg → vp_in (M.1 (110, 0) (360 + p)) 5
theorem sX11_nextOf {κ : eg_K} {d : Nat} (hd : 1 ≤ d) (M : eg_H) (l1 : Int32) (hg : gX11_nextOf M l1) : eg_S κ gM mtX11_nextOf d [vR (60, 0), vI l1] M (eQI κ gM (fun r M1 => r = fX11_nextOf M l1 ∧ M1 = M)) := by
  obtain ⟨h1, h2, h3, h4⟩ := hg
  obtain ⟨e, hlt⟩ := nI_of' h1 (by omega)
  obtain ⟨en, hn⟩ := nI_of' h2 (by omega)
  obtain ⟨es, hs⟩ := nI_of' h3 (by omega)
  unfold fX11_nextOf
  generalize l1.toNatClampNeg = g at e hlt h3 es hs ⊢
  generalize (M.1 (60, 0) 12).toNatClampNeg = n at en hn h4 ⊢
  subst e
  generalize hQ : (eQI κ gM (fun r M1 => r = nxF (M.1 (110, 0)) n g ∧ M1 = M)) = Q
  refine eg_S.of rfl (Nat.le_of_ble_eq_true rfl) ?_
  show eg_W κ gM mtX11_nextOf d Q 0 [(0, vR (60, 0)), (1, vI (nI g))] [] M
  subst hQ
  refine vX11_nextOf_0 hd M _ (fun x2 e2 => ?_)
  rw [at_n] at e2
  subst e2
  simp only [nAl]
  simp (disch := omega) only [nI_t]
  rw [show 20 + 20 * g + 2 = 22 + 20 * g by omega, show 20 + 20 * g + 10 = 30 + 20 * g by omega, show 20 + 20 * g + 1 = 21 + 20 * g by omega]
  refine ⟨nI_in' (by omega) (by omega), fun c => ⟨nI_in' (by omega) (by omega), fun _ => nI_in' (by omega) (by omega), fun _ => nI_in' (by omega) (by omega), fun x8 e8 => ?_⟩, fun c => ⟨by unfold nxF; rw [if_pos c], by trivial⟩⟩
  have e8' : x8 = nI (nxS (M.1 (110, 0)) g).toNatClampNeg := by
    rw [← es, e8]
    unfold nxS
    by_cases hc : M.1 (110, 0) (30 + 20 * g) = 1
    · rw [if_neg (fun h => h hc), if_pos hc]
    · rw [if_pos hc, if_neg hc]
  clear e8
  subst e8'
  refine eg_findk (P := fun i => eg_W κ gM mtX11_nextOf d (eQI κ gM (fun r M1 => r = nxF (M.1 (110, 0)) n g ∧ M1 = M)) 53 [(0, vR (60, 0)), (2, vI (nI (20 + 20 * g))), (3, vI (nI i))] [] M) (p := fun p => decide (0 < M.1 (110, 0) (34 + 20 * g + (M.1 (110, 0) (360 + p)).toNatClampNeg))) (R := fun x => x = nxF (M.1 (110, 0)) n g) n (fun i hi => ?_) 6 (by omega) (fun i hi hb hR => ?_) (n - (nxS (M.1 (110, 0)) g).toNatClampNeg) _ rfl (by omega) (by unfold nxF; rw [if_neg c])
  · obtain ⟨e5, h5⟩ := nI_of' (h4 i hi) (by omega)
    have key : (0 < M.1 (110, 0) (34 + 20 * g + (M.1 (110, 0) (360 + i)).toNatClampNeg) → nI i = nxF (M.1 (110, 0)) n g) → (M.1 (110, 0) (34 + 20 * g + (M.1 (110, 0) (360 + i)).toNatClampNeg) ≤ 0 → eg_W κ gM mtX11_nextOf d (eQI κ gM (fun r M1 => r = nxF (M.1 (110, 0)) n g ∧ M1 = M)) 53 [(0, vR (60, 0)), (2, vI (nI (20 + 20 * g))), (3, vI (nI (i + 1)))] [] M) → eg_W κ gM mtX11_nextOf d (eQI κ gM (fun r M1 => r = nxF (M.1 (110, 0)) n g ∧ M1 = M)) 53 [(0, vR (60, 0)), (2, vI (nI (20 + 20 * g))), (3, vI (nI i))] [] M := by
      intro k1 k2
      refine vX11_nextOf_53 M _ _ ⟨fun c1 => absurd (en ▸ c1) (nI_ge hi (by omega)), fun _ => ?_⟩
      simp only [nAr, nAl]
      rw [nI_t (n := 360 + i) (by omega)]
      generalize hw : (M.1 (110, 0) (360 + i)) = w at e5 h5 k1 k2 ⊢
      generalize w.toNatClampNeg = s at e5 h5 k1 k2
      subst e5
      simp only [nI_add]
      rw [nI_t (by omega), show 20 + 20 * g + 14 + s = 34 + 20 * g + s by omega]
      refine ⟨nI_in' (by omega) (by omega), nI_in' (by omega) (by omega), fun c1 x5 e5 => ?_, fun c1 => ⟨k1 (Int32.not_le.mp c1), by trivial⟩⟩
      subst e5
      exact k2 c1
    refine ⟨fun hp hR => key (fun _ => hR) (fun c1 => absurd (of_decide_eq_true hp) (Int32.not_lt.mpr c1)), fun hp k => key (fun c1 => absurd c1 (of_decide_eq_false hp)) (fun _ => k)⟩
  · exact vX11_nextOf_53 M _ _ ⟨fun _ => ⟨hR, rfl⟩, fun c1 => absurd (en ▸ nI_le hi (by omega)) c1⟩
/-- out of the line -/
def ool (Y : Nat → Int32) (i : Nat) : Nat → Int32 := fun j => if j = 1 then Y 1 - 1 else if 2 + i ≤ j ∧ j + 1 < 2 + (Y 1).toNatClampNeg then Y (j + 1) else Y j
def fX11_outOfLine (M : eg_H) (i : Int32) : eg_H := sW M (110, 0) (ool (M.1 (110, 0)) i.toNatClampNeg)
def gX11_outOfLine (M : eg_H) (i : Int32) : Prop := vp_in (M.1 (110, 0) 1) 16 ∧ vp_in i (M.1 (110, 0) 1).toNatClampNeg
def shl (Y : Nat → Int32) (i k : Nat) : Nat → Int32 := fun j => if 2 + i ≤ j ∧ j < 2 + i + k then Y (j + 1) else Y j
theorem shl_s (Y : Nat → Int32) (i k : Nat) : upd (shl Y i k) (2 + (i + k)) (shl Y i k (3 + (i + k))) = shl Y i (k + 1) := by
  funext j
  unfold upd shl
  by_cases h : j = 2 + (i + k)
  · rw [if_pos h, if_neg (by omega), if_pos (by omega), h]
    congr 1; omega
  · rw [if_neg h]
    by_cases h2 : 2 + i ≤ j ∧ j < 2 + i + k
    · rw [if_pos h2, if_pos (by omega)]
    · rw [if_neg h2, if_neg (by omega)]
theorem sX11_outOfLine {κ : eg_K} {d : Nat} (hd : 0 ≤ d) (M : eg_H) (l1 : Int32) (hg : gX11_outOfLine M l1) : eg_S κ gM mtX11_outOfLine d [vR (60, 0), vI l1] M (eQV κ gM (fun M1 => M1 = fX11_outOfLine M l1)) := by
  obtain ⟨h1, h2⟩ := hg
  obtain ⟨e, hlt⟩ := nI_of' h1 (by omega)
  obtain ⟨ei, hi⟩ := nI_of' h2 (by omega)
  unfold fX11_outOfLine
  generalize hii : l1.toNatClampNeg = i at ei hi ⊢
  generalize hq : (M.1 (110, 0) 1).toNatClampNeg = q at e hlt hi h2
  subst ei
  refine eg_S.of rfl (Nat.le_of_ble_eq_true rfl) (vX11_outOfLine_0 M _ ?_)
  have st : ∀ k, i + k < q → (i + k + 1 < q → eg_W κ gM mtX11_outOfLine d (eQV κ gM (fun M1 => M1 = sW M (110, 0) (ool (M.1 (110, 0)) i))) 2 [(0, vR (60, 0)), (2, vI (nI (i + (k + 1))))] [] (sW M (110, 0) (shl (M.1 (110, 0)) i (k + 1)))) → eg_W κ gM mtX11_outOfLine d (eQV κ gM (fun M1 => M1 = sW M (110, 0) (ool (M.1 (110, 0)) i))) 2 [(0, vR (60, 0)), (2, vI (nI (i + k)))] [] (sW M (110, 0) (shl (M.1 (110, 0)) i k)) := by
    intro k hk kk
    have e1 : (shl (M.1 (110, 0)) i k) 1 = nI q := by
      unfold shl
      rw [if_neg (by omega)]
      exact e
    refine vX11_outOfLine_2 _ _ ?_
    rw [one_t, sW_at, e1]
    simp only [nAl, nAr]
    rw [nI_leI (by omega) (by omega)]
    refine ⟨one_in (by omega), fun c M3 e3 => ?_, fun c => ⟨nI_in' (by omega) (by omega), nI_in' (by omega) (by omega), fun M6 e6 x7 e7 => ?_⟩⟩
    · subst e3
      show _ = _
      rw [sI_sW]
      congr 1
      funext j
      unfold upd ool
      by_cases hj : j = 1
      · rw [if_pos hj, if_pos hj, e]
      · rw [if_neg hj, if_neg hj]
        unfold shl
        rw [hq]
        by_cases h3 : 2 + i ≤ j ∧ j < 2 + i + k
        · rw [if_pos h3, if_pos (by omega)]
        · rw [if_neg h3, if_neg (by omega)]
    · subst e6; subst e7
      rw [sI_sW, nI_t (by omega), nI_t (by omega), shl_s]
      exact kk (by omega)
  have fin : ∀ m k, i + k + m + 1 = q → eg_W κ gM mtX11_outOfLine d (eQV κ gM (fun M1 => M1 = sW M (110, 0) (ool (M.1 (110, 0)) i))) 2 [(0, vR (60, 0)), (2, vI (nI (i + k)))] [] (sW M (110, 0) (shl (M.1 (110, 0)) i k)) := by
    intro m
    induction m with
    | zero => intro k hk; exact st k (by omega) (fun h => by omega)
    | succ m ih => intro k hk; exact st k (by omega) (fun h => ih (k + 1) (by omega))
  have f0 := fin (q - i - 1) 0 (by omega)
  have e0 : shl (M.1 (110, 0)) i 0 = M.1 (110, 0) := by
    funext j
    unfold shl
    rw [if_neg (by omega)]
  rw [e0, sW_self] at f0
  exact f0
/-! sums over the guests -/
def fX11_waitedOf (M : eg_H) (e : Int32) : Int32 := sm (fun g => if nI g = e then 0 else M.1 (110, 0) (24 + 20 * g)) (fX11_everybody M).toNatClampNeg
def gX11_waitedOf (M : eg_H) (e : Int32) : Prop := vp_in (fX11_everybody M) 16
theorem sX11_waitedOf {κ : eg_K} {d : Nat} (hd : 1 ≤ d) (M : eg_H) (l1 : Int32) (hg : gX11_waitedOf M l1) : eg_S κ gM mtX11_waitedOf d [vR (60, 0), vI l1] M (eQI κ gM (fun r M1 => r = fX11_waitedOf M l1 ∧ M1 = M)) := by
  obtain ⟨e, hlt⟩ := nI_of' hg (by omega)
  unfold fX11_waitedOf
  generalize (fX11_everybody M).toNatClampNeg = N at e hlt ⊢
  refine eg_S.of rfl (Nat.le_of_ble_eq_true rfl) (vX11_waitedOf_0 M _ ?_)
  refine eg_down (P := fun i => eg_W κ gM mtX11_waitedOf d (eQI κ gM (fun r M1 => r = sm (fun g => if nI g = l1 then 0 else M.1 (110, 0) (24 + 20 * g)) N ∧ M1 = M)) 4 [(0, vR (60, 0)), (1, vI l1), (2, vI (sm (fun g => if nI g = l1 then 0 else M.1 (110, 0) (24 + 20 * g)) i)), (3, vI (nI i))] [] M) N (fun i hi k => ?_) ?_
  · refine vX11_waitedOf_4 hd M _ _ _ (fun x2 e2 => ?_)
    rw [e] at e2
    subst e2
    refine ⟨fun c => absurd c (nI_ge hi (by omega)), fun _ => ⟨fun c x6 e6 => ?_, fun c x10 e10 x11 e11 => ?_⟩⟩
    · rw [at_n] at e6
      subst e6
      simp only [nAl]
      rw [nI_t (by omega), show 20 + 20 * i + 4 = 24 + 20 * i by omega]
      refine ⟨nI_in' (by omega) (by omega), fun x8 e8 x9 e9 => ?_⟩
      subst e8; subst e9
      have e3 : sm (fun g => if nI g = l1 then 0 else M.1 (110, 0) (24 + 20 * g)) (i + 1) = sm (fun g => if nI g = l1 then 0 else M.1 (110, 0) (24 + 20 * g)) i + M.1 (110, 0) (24 + 20 * i) := by
        show _ + (if nI i = l1 then 0 else M.1 (110, 0) (24 + 20 * i)) = _
        rw [if_neg c]
      rw [e3] at k
      exact k
    · subst e10; subst e11
      rw [nI_1]
      have e3 : sm (fun g => if nI g = l1 then 0 else M.1 (110, 0) (24 + 20 * g)) (i + 1) = sm (fun g => if nI g = l1 then 0 else M.1 (110, 0) (24 + 20 * g)) i + 0 := by
        show _ + (if nI i = l1 then 0 else M.1 (110, 0) (24 + 20 * i)) = _
        rw [if_pos c]
      rw [e3] at k
      exact k
  · refine vX11_waitedOf_4 hd M _ _ _ (fun x2 e2 => ?_)
    rw [e] at e2
    subst e2
    exact ⟨fun _ => ⟨rfl, rfl⟩, fun c => absurd (nI_le (Nat.le_refl N) (by omega)) c⟩
def fX11_sumBy (M : eg_H) (f : Int32) : Int32 := sm (fun g => M.1 (110, 0) (20 + 20 * g + f.toNatClampNeg)) (fX11_everybody M).toNatClampNeg
def gX11_sumBy (M : eg_H) (f : Int32) : Prop := vp_in (fX11_everybody M) 16 ∧ vp_in f 20
theorem sX11_sumBy {κ : eg_K} {d : Nat} (hd : 1 ≤ d) (M : eg_H) (l1 : Int32) (hg : gX11_sumBy M l1) : eg_S κ gM mtX11_sumBy d [vR (60, 0), vI l1] M (eQI κ gM (fun r M1 => r = fX11_sumBy M l1 ∧ M1 = M)) := by
  obtain ⟨h1, h2⟩ := hg
  obtain ⟨e, hlt⟩ := nI_of' h1 (by omega)
  obtain ⟨ef, hf⟩ := nI_of' h2 (by omega)
  unfold fX11_sumBy
  generalize (fX11_everybody M).toNatClampNeg = N at e hlt ⊢
  generalize l1.toNatClampNeg = f at ef hf ⊢
  subst ef
  refine eg_S.of rfl (Nat.le_of_ble_eq_true rfl) (vX11_sumBy_0 M _ ?_)
  refine eg_down (P := fun i => eg_W κ gM mtX11_sumBy d (eQI κ gM (fun r M1 => r = sm (fun g => M.1 (110, 0) (20 + 20 * g + f)) N ∧ M1 = M)) 4 [(0, vR (60, 0)), (1, vI (nI f)), (2, vI (sm (fun g => M.1 (110, 0) (20 + 20 * g + f)) i)), (3, vI (nI i))] [] M) N (fun i hi k => ?_) ?_
  · refine vX11_sumBy_4 hd M _ _ _ (fun x2 e2 => ?_)
    rw [e] at e2
    subst e2
    refine ⟨fun c => absurd c (nI_ge hi (by omega)), fun _ x5 e5 => ?_⟩
    rw [at_n] at e5
    subst e5
    simp only [nI_add]
    rw [nI_t (by omega)]
    refine ⟨nI_in' (by omega) (by omega), fun x8 e8 x9 e9 => ?_⟩
    subst e8; subst e9
    rw [nI_1]
    exact k
  · refine vX11_sumBy_4 hd M _ _ _ (fun x2 e2 => ?_)
    rw [e] at e2
    subst e2
    exact ⟨fun _ => ⟨rfl, rfl⟩, fun c => absurd (nI_le (Nat.le_refl N) (by omega)) c⟩
def fX11_truthSum (M : eg_H) (f : Int32) : Int32 := sm (fun g => M.1 (111, 0) (20 + 20 * g + f.toNatClampNeg)) (M.1 (60, 0) 13).toNatClampNeg
def gX11_truthSum (M : eg_H) (f : Int32) : Prop := vp_in (M.1 (60, 0) 13) 16 ∧ vp_in f 20
theorem sX11_truthSum {κ : eg_K} {d : Nat} (hd : 1 ≤ d) (M : eg_H) (l1 : Int32) (hg : gX11_truthSum M l1) : eg_S κ gM mtX11_truthSum d [vR (60, 0), vI l1] M (eQI κ gM (fun r M1 => r = fX11_truthSum M l1 ∧ M1 = M)) := by
  obtain ⟨h1, h2⟩ := hg
  obtain ⟨e, hlt⟩ := nI_of' h1 (by omega)
  obtain ⟨ef, hf⟩ := nI_of' h2 (by omega)
  unfold fX11_truthSum
  generalize (M.1 (60, 0) 13).toNatClampNeg = N at e hlt ⊢
  generalize l1.toNatClampNeg = f at ef hf ⊢
  subst ef
  refine eg_S.of rfl (Nat.le_of_ble_eq_true rfl) (vX11_truthSum_0 M _ ?_)
  refine eg_down (P := fun i => eg_W κ gM mtX11_truthSum d (eQI κ gM (fun r M1 => r = sm (fun g => M.1 (111, 0) (20 + 20 * g + f)) N ∧ M1 = M)) 4 [(0, vR (60, 0)), (1, vI (nI f)), (2, vI (sm (fun g => M.1 (111, 0) (20 + 20 * g + f)) i)), (3, vI (nI i))] [] M) N (fun i hi k => ?_) ?_
  · refine vX11_truthSum_4 hd M _ _ _ ?_
    rw [e]
    refine ⟨fun c => absurd c (nI_ge hi (by omega)), fun _ x5 e5 => ?_⟩
    rw [at_n] at e5
    subst e5
    simp only [nI_add]
    rw [nI_t (by omega)]
    refine ⟨nI_in' (by omega) (by omega), fun x8 e8 x9 e9 => ?_⟩
    subst e8; subst e9
    rw [nI_1]
    exact k
  · refine vX11_truthSum_4 hd M _ _ _ ?_
    rw [e]
    exact ⟨fun _ => ⟨rfl, rfl⟩, fun c => absurd (nI_le (Nat.le_refl N) (by omega)) c⟩
/-! rows: find, copies, lays, layRow -/
def fX11_find (M : eg_H) (r : eg_R) (a n x : Int32) : Int32 := fst1 (fun k => decide (M.1 r (a.toNatClampNeg + k) = x)) 0 n.toNatClampNeg
def gX11_find (M : eg_H) (r : eg_R) (a n x : Int32) : Prop := vp_in a 100 ∧ vp_in n 100 ∧ a.toNatClampNeg + n.toNatClampNeg ≤ (gM.2.1 r).2
theorem sX11_find {κ : eg_K} {d : Nat} (hd : 0 ≤ d) (M : eg_H) (l0 : eg_R) (l1 l2 l3 : Int32) {nl : Nat} (hl0 : l0 ∈ gM.1 ∧ gM.2.1 l0 = (1, nl)) (hg : gX11_find M l0 l1 l2 l3) : eg_S κ gM mtX11_find d [vR l0, vI l1, vI l2, vI l3] M (eQI κ gM (fun r M1 => r = fX11_find M l0 l1 l2 l3 ∧ M1 = M)) := by
  obtain ⟨h1, h2, h3⟩ := hg
  rw [hl0.2] at h3
  obtain ⟨ea, ha⟩ := nI_of' h1 (by omega)
  obtain ⟨en, hn⟩ := nI_of' h2 (by omega)
  unfold fX11_find
  generalize l1.toNatClampNeg = a at ea ha h3 ⊢
  generalize l2.toNatClampNeg = n at en hn h3 ⊢
  subst ea; subst en
  refine eg_S.of rfl (Nat.le_of_ble_eq_true rfl) (vX11_find_0 M hl0 _ _ _ ?_)
  refine eg_find (P := fun i => eg_W κ gM mtX11_find d (eQI κ gM (fun r M1 => r = fst1 (fun k => decide (M.1 l0 (a + k) = l3)) 0 n ∧ M1 = M)) 3 [(0, vR l0), (1, vI (nI a)), (2, vI (nI n)), (3, vI l3), (4, vI (nI i))] [] M) (R := fun x => x = fst1 (fun k => decide (M.1 l0 (a + k) = l3)) 0 n) (p := fun k => decide (M.1 l0 (a + k) = l3)) n rfl (fun i hi => ?_) (fun hR => vX11_find_3 M hl0 _ _ _ _ ⟨fun _ => ⟨hR, rfl⟩, fun c => absurd (nI_le (Nat.le_refl n) (by omega)) c⟩)
  have key : (M.1 l0 (a + i) = l3 → nI i = fst1 (fun k => decide (M.1 l0 (a + k) = l3)) 0 n) → (¬ M.1 l0 (a + i) = l3 → eg_W κ gM mtX11_find d (eQI κ gM (fun r M1 => r = fst1 (fun k => decide (M.1 l0 (a + k) = l3)) 0 n ∧ M1 = M)) 3 [(0, vR l0), (1, vI (nI a)), (2, vI (nI n)), (3, vI l3), (4, vI (nI (i + 1)))] [] M) → eg_W κ gM mtX11_find d (eQI κ gM (fun r M1 => r = fst1 (fun k => decide (M.1 l0 (a + k) = l3)) 0 n ∧ M1 = M)) 3 [(0, vR l0), (1, vI (nI a)), (2, vI (nI n)), (3, vI l3), (4, vI (nI i))] [] M := by
    intro k1 k2
    refine vX11_find_3 M hl0 _ _ _ _ ⟨fun c => absurd c (nI_ge hi (by omega)), fun _ => ?_⟩
    rw [nI_add, nI_t (by omega)]
    refine ⟨nI_in2 (by omega) (by omega), fun c x e => ?_, fun c => ⟨k1 c, rfl⟩⟩
    subst e
    rw [nI_1]
    exact k2 c
  exact ⟨fun hp hR => key (fun _ => hR) (fun c => absurd (of_decide_eq_true hp) c), fun hp k => key (fun c => absurd c (of_decide_eq_false hp)) (fun _ => k)⟩
def fX11_copies (M : eg_H) (r : eg_R) (n : Int32) : eg_H := sW M r (cpT (fun j => M.1 r (n.toNatClampNeg + j)) (M.1 r) n.toNatClampNeg)
def gX11_copies (M : eg_H) (r : eg_R) (n : Int32) : Prop := vp_in n 100 ∧ 2 * n.toNatClampNeg ≤ (gM.2.1 r).2
theorem sX11_copies {κ : eg_K} {d : Nat} (hd : 0 ≤ d) (M : eg_H) (l0 : eg_R) (l1 : Int32) {nl : Nat} (hl0 : l0 ∈ gM.1 ∧ gM.2.1 l0 = (1, nl)) (hg : gX11_copies M l0 l1) : eg_S κ gM mtX11_copies d [vR l0, vI l1] M (eQV κ gM (fun M1 => M1 = fX11_copies M l0 l1)) := by
  obtain ⟨h2, h3⟩ := hg
  rw [hl0.2] at h3
  obtain ⟨en, hn⟩ := nI_of' h2 (by omega)
  unfold fX11_copies
  generalize l1.toNatClampNeg = n at en hn h3 ⊢
  subst en
  refine eg_S.of rfl (Nat.le_of_ble_eq_true rfl) (vX11_copies_0 M hl0 _ ?_)
  have f0 := eg_down (P := fun i => eg_W κ gM mtX11_copies d (eQV κ gM (fun M1 => M1 = sW M l0 (cpT (fun j => M.1 l0 (n + j)) (M.1 l0) n))) 2 [(0, vR l0), (1, vI (nI n)), (2, vI (nI i))] [] (sW M l0 (cpT (fun j => M.1 l0 (n + j)) (M.1 l0) i))) n (fun i hi k => ?_) ?_
  · rw [cpT_0, sW_self] at f0
    exact f0
  · refine vX11_copies_2 _ hl0 _ _ ⟨fun c => absurd c (nI_ge hi (by omega)), fun _ => ?_⟩
    rw [nI_add, nI_t (by omega), nI_t (by omega), sW_at]
    refine ⟨nI_in2 (by omega) (by omega), nI_in2 (by omega) (by omega), fun M4 e4 x5 e5 => ?_⟩
    subst e4; subst e5
    rw [nI_1, sI_sW, cpT_ge (j := n + i) (by omega), cpT_s (fun j => M.1 l0 (n + j))]
    exact k
  · exact vX11_copies_2 _ hl0 _ _ ⟨fun _ => rfl, fun c => absurd (nI_le (Nat.le_refl n) (by omega)) c⟩
def fX11_lays (M : eg_H) (a b : eg_R) : eg_H := sW M a (cpT (M.1 b) (M.1 a) 366)
def gX11_lays (M : eg_H) (a b : eg_R) : Prop := a ≠ b ∧ (gM.2.1 a).2 = 366 ∧ (gM.2.1 b).2 = 366
theorem sX11_lays {κ : eg_K} {d : Nat} (hd : 0 ≤ d) (M : eg_H) (l0 l1 : eg_R) {n0 n1 : Nat} (hl0 : l0 ∈ gM.1 ∧ gM.2.1 l0 = (1, n0)) (hl1 : l1 ∈ gM.1 ∧ gM.2.1 l1 = (1, n1)) (hg : gX11_lays M l0 l1) : eg_S κ gM mtX11_lays d [vR l0, vR l1] M (eQV κ gM (fun M1 => M1 = fX11_lays M l0 l1)) := by
  obtain ⟨hne, h2, h3⟩ := hg
  rw [hl0.2] at h2
  rw [hl1.2] at h3
  subst h2; subst h3
  unfold fX11_lays
  refine eg_S.of rfl (Nat.le_of_ble_eq_true rfl) (vX11_lays_0 M hl0 hl1 ?_)
  have f0 := eg_down (P := fun i => eg_W κ gM mtX11_lays d (eQV κ gM (fun M1 => M1 = sW M l0 (cpT (M.1 l1) (M.1 l0) 366))) 2 [(0, vR l0), (1, vR l1), (2, vI (nI i))] [] (sW M l0 (cpT (M.1 l1) (M.1 l0) i))) 366 (fun i hi k => ?_) ?_
  · rw [cpT_0, sW_self] at f0
    exact f0
  · refine vX11_lays_2 _ hl0 hl1 _ ⟨fun c => absurd (show nI 366 ≤ nI i from c) (nI_ge hi (by decide)), fun _ => ?_⟩
    rw [nI_t (by omega), sW_ne _ _ (fun e => hne e.symm)]
    refine ⟨nI_in' (by omega) (by omega), nI_in' (by omega) (by omega), fun M4 e4 x5 e5 => ?_⟩
    subst e4; subst e5
    rw [nI_1, sI_sW, cpT_s]
    exact k
  · exact vX11_lays_2 _ hl0 hl1 _ ⟨fun _ => rfl, fun c => absurd (by decide) c⟩
def fX11_layRow (M : eg_H) : eg_H := sW M (112, 0) (cpT (fun j => M.1 (111, 0) (360 + j)) (M.1 (112, 0)) 5)
theorem sX11_layRow {κ : eg_K} {d : Nat} (hd : 0 ≤ d) (M : eg_H) : eg_S κ gM mtX11_layRow d [vR (60, 0)] M (eQV κ gM (fun M1 => M1 = fX11_layRow M)) := by
  unfold fX11_layRow
  refine eg_S.of rfl (Nat.le_of_ble_eq_true rfl) (vX11_layRow_0 M ?_)
  have f0 := eg_down (P := fun i => eg_W κ gM mtX11_layRow d (eQV κ gM (fun M1 => M1 = sW M (112, 0) (cpT (fun j => M.1 (111, 0) (360 + j)) (M.1 (112, 0)) 5))) 2 [(0, vR (60, 0)), (1, vI (nI i))] [] (sW M (112, 0) (cpT (fun j => M.1 (111, 0) (360 + j)) (M.1 (112, 0)) i))) 5 (fun i hi k => ?_) ?_
  · rw [cpT_0, sW_self] at f0
    exact f0
  · refine vX11_layRow_2 _ _ ⟨fun c => absurd (show nI 5 ≤ nI i from c) (nI_ge hi (by decide)), fun _ => ?_⟩
    simp only [nAr]
    rw [nI_t (by omega), nI_t (by omega), sW_ne _ _ (by decide)]
    refine ⟨nI_in' (by omega) (by omega), nI_in' (by omega) (by omega), fun M4 e4 x5 e5 => ?_⟩
    subst e4; subst e5
    rw [nI_1, sI_sW, cpT_s (fun j => M.1 (111, 0) (360 + j))]
    exact k
  · exact vX11_layRow_2 _ _ ⟨fun _ => rfl, fun c => absurd (by decide) c⟩
/-- the truth is remembered: the oldest of 20 goes -/
def rmU (M : eg_H) : Nat → Int32 := if M.1 (60, 0) 69 = 20 then cpT (fun j => M.1 (131, 0) (j + 366)) (M.1 (131, 0)) 6954 else M.1 (131, 0)
def rmN (M : eg_H) : Nat := if M.1 (60, 0) 69 = 20 then 19 else (M.1 (60, 0) 69).toNatClampNeg
def putR (U f : Nat → Int32) (a n : Nat) : Nat → Int32 := fun j => if a ≤ j ∧ j < a + n then f (j - a) else U j
def fX11_remembers (M : eg_H) : eg_H := sI (sW M (131, 0) (putR (rmU M) (M.1 (111, 0)) (366 * rmN M) 366)) (60, 0) 69 (nI (rmN M + 1))
def gX11_remembers (M : eg_H) : Prop := vp_in (M.1 (60, 0) 69) 21
theorem putR_s (U f : Nat → Int32) (a i : Nat) : upd (putR U f a i) (a + i) (f i) = putR U f a (i + 1) := by
  funext j
  unfold upd putR
  by_cases hj : j = a + i
  · rw [if_pos hj, if_pos (by omega), hj]
    congr 1; omega
  · rw [if_neg hj]
    by_cases h4 : a ≤ j ∧ j < a + i
    · rw [if_pos h4, if_pos (by omega)]
    · rw [if_neg h4, if_neg (by omega)]
theorem putR_0 (U f : Nat → Int32) (a : Nat) : putR U f a 0 = U := by
  funext j
  exact if_neg (by omega)
theorem sX11_rem2 {κ : eg_K} {d : Nat} {post : eg_H → Prop} (M : eg_H) (u : Nat) (hu : u < 20) (he : M.1 (60, 0) 69 = nI u) (hp : post (sI (sW M (131, 0) (putR (M.1 (131, 0)) (M.1 (111, 0)) (366 * u) 366)) (60, 0) 69 (nI (u + 1)))) : eg_W κ gM mtX11_remembers d (eQV κ gM post) 52 [(0, vR (60, 0)), (1, vI (0 : Int32))] [] M := by
  have f0 := eg_down (P := fun i => eg_W κ gM mtX11_remembers d (eQV κ gM post) 52 [(0, vR (60, 0)), (1, vI (nI i))] [] (sW M (131, 0) (putR (M.1 (131, 0)) (M.1 (111, 0)) (366 * u) i))) 366 (fun i hi k => ?_) ?_
  · rw [putR_0, sW_self] at f0
    exact f0
  · refine vX11_remembers_52 _ _ ⟨fun c => absurd (show nI 366 ≤ nI i from c) (nI_ge hi (by decide)), fun _ => ?_⟩
    rw [sW_ne _ _ (by decide), sW_ne _ _ (by decide), he]
    simp only [nMl, nI_add]
    rw [nI_t (by omega), nI_t (by omega)]
    refine ⟨nI_in' (by omega) (by omega), nI_in' (by omega) (by omega), fun M4 e4 x5 e5 => ?_⟩
    subst e4; subst e5
    rw [nI_1, sI_sW, putR_s]
    exact k
  · refine vX11_remembers_52 _ _ ⟨fun _ M2 e2 => ?_, fun c => absurd (by decide) c⟩
    subst e2
    rw [sW_ne _ _ (by decide), he, nI_1]
    exact hp
theorem sX11_remembers {κ : eg_K} {d : Nat} (hd : 0 ≤ d) (M : eg_H) (hg : gX11_remembers M) : eg_S κ gM mtX11_remembers d [vR (60, 0)] M (eQV κ gM (fun M1 => M1 = fX11_remembers M)) := by
  obtain ⟨eu, hu⟩ := nI_of' hg (by omega)
  refine eg_S.of rfl (Nat.le_of_ble_eq_true rfl) (vX11_remembers_0 M ⟨fun c => ?_, fun c => ?_⟩)
  · have h20 : (M.1 (60, 0) 69).toNatClampNeg ≠ 20 := fun e => c (by rw [eu, e]; rfl)
    refine sX11_rem2 M (M.1 (60, 0) 69).toNatClampNeg (by omega) eu ?_
    show _ = _
    unfold fX11_remembers rmU rmN
    rw [if_neg c, if_neg c]
  · have f0 := eg_down (P := fun i => eg_W κ gM mtX11_remembers d (eQV κ gM (fun M1 => M1 = fX11_remembers M)) 11 [(0, vR (60, 0)), (1, vI (nI i))] [] (sW M (131, 0) (cpT (fun j => M.1 (131, 0) (j + 366)) (M.1 (131, 0)) i))) 6954 (fun i hi k => ?_) ?_
    · rw [cpT_0, sW_self] at f0
      exact f0
    · refine vX11_remembers_11 _ _ ⟨fun c => absurd (show nI 6954 ≤ nI i from c) (nI_ge hi (by decide)), fun _ => ?_⟩
      simp only [nAl]
      rw [nI_t (by omega), nI_t (by omega), sW_at, cpT_ge (by omega)]
      refine ⟨nI_in' (by omega) (by omega), nI_in' (by omega) (by omega), fun M4 e4 x5 e5 => ?_⟩
      subst e4; subst e5
      rw [sI_sW, cpT_s (fun j => M.1 (131, 0) (j + 366))]
      exact k
    · refine vX11_remembers_11 _ _ ⟨fun _ M2 e2 => ?_, fun c => absurd (by decide) c⟩
      subst e2
      rw [sW_ne _ _ (by decide), c]
      refine sX11_rem2 _ 19 (by omega) ?_ ?_
      · show (sI _ _ _ _).1 _ _ = _
        rw [sI_i, if_pos ⟨rfl, rfl⟩]
        decide
      · show _ = _
        unfold fX11_remembers rmU rmN
        rw [if_pos c, if_pos c]
        rw [sI_ne (z := (131, 0)) (by decide), sI_ne (z := (111, 0)) (by decide), sW_at, sW_ne (z := (111, 0)) _ _ (by decide)]
        refine eg_ext (fun r j => ?_) (fun _ _ => rfl) (fun _ _ => rfl)
        rw [sI_i, sI_i]
        by_cases h1 : r = (60, 0) ∧ j = 69
        · rw [if_pos h1, if_pos h1]
        · rw [if_neg h1, if_neg h1]
          by_cases h2 : r = (131, 0)
          · subst h2
            rw [sW_at, sW_at]
          · rw [sW_ne _ _ h2, sW_ne _ _ h2, sI_i, if_neg h1, sW_ne _ _ h2]
