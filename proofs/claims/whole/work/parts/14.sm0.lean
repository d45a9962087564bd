/-! SMALL LOOPS, AS FUNCTIONS -/
def fX2_wantsLeft (M : eg_H) (g : Nat) : Int32 := sm (fun k => M.1 (22, g) k) 5
theorem sX2_wantsLeft {κ : eg_K} {d : Nat} (hd : 0 ≤ d) (M : eg_H) (l0 : Nat) (hl0 : l0 < 60) : eg_S κ gC mtX2_wantsLeft d [vR (2, l0)] M (eQI κ gC (fun r M1 => r = fX2_wantsLeft M l0 ∧ M1 = M)) := by
  refine eg_S.of rfl (Nat.le_of_ble_eq_true rfl) (vX2_wantsLeft_0 M hl0 ?_)
  refine eg_down (P := fun i => eg_W κ gC mtX2_wantsLeft d (eQI κ gC (fun r M1 => r = fX2_wantsLeft M l0 ∧ M1 = M)) 4 [(0, vR (2, l0)), (1, vI (sm (fun k => M.1 (22, l0) k) i)), (2, vI (nI i))] [] M) 5 (fun i hi k => ?_) ?_
  · refine vX2_wantsLeft_4 M hl0 _ _ ⟨fun c => absurd (show nI 5 ≤ nI i from c) (nI_ge hi (by decide)), fun _ => ⟨nI_in' hi (by omega), fun x e y e2 => ?_⟩⟩
    subst e; subst e2
    rw [nI_t (by omega), nI_1]
    exact k
  · exact vX2_wantsLeft_4 M hl0 _ _ ⟨fun _ => ⟨rfl, rfl⟩, fun c => absurd (by decide) c⟩
/-- Caller.clear: the wants are 0 -/
def fX0_clear (M : eg_H) (c : Nat) : eg_H := itr (fun i M => sI M (20, c) i 0) 5 M
theorem sX0_clear {κ : eg_K} {d : Nat} (hd : 0 ≤ d) (M : eg_H) (l0 : Nat) (hl0 : l0 < 30) : eg_S κ gC mtX0_clear d [vR (0, l0)] M (eQV κ gC (fun M1 => M1 = fX0_clear M l0)) := by
  refine eg_S.of rfl (Nat.le_of_ble_eq_true rfl) (vX0_clear_0 M hl0 ?_)
  refine eg_down (P := fun i => eg_W κ gC mtX0_clear d (eQV κ gC (fun M1 => M1 = fX0_clear M l0)) 2 [(0, vR (0, l0)), (1, vI (nI i))] [] (itr (fun i M => sI M (20, l0) i 0) i M)) 5 (fun i hi k => ?_) ?_
  · refine vX0_clear_2 _ hl0 _ ⟨fun c => absurd (show nI 5 ≤ nI i from c) (nI_ge hi (by decide)), fun _ => ⟨nI_in' hi (by omega), fun x e y e2 => ?_⟩⟩
    subst e; subst e2
    rw [nI_t (by omega), nI_1]
    exact k
  · exact vX0_clear_2 _ hl0 _ ⟨fun _ => rfl, fun c => absurd (by decide) c⟩
/-- the first of a plan's names -/
def fX5_stationOf (M : eg_H) (p : Nat) (x : Int32) : Int32 := fst1 (fun k => decide (M.1 (1, 5 * p + k) 0 = x)) 0 (M.1 (5, p) 0).toNatClampNeg
def gX5_stationOf (M : eg_H) (p : Nat) (x : Int32) : Prop := vp_in (M.1 (5, p) 0) 6
theorem eg_find {P : Nat → Prop} {p : Nat → Bool} {R : Int32 → Prop} (n : Nat) (hr : R (fst1 p 0 n)) (hs : ∀ i, i < n → (p i = true → R (nI i) → P i) ∧ (p i = false → P (i + 1) → P i)) (hn : R (-1) → P n) : P 0 := by
  have key : ∀ k i, i + k = n → R (fst1 p i k) → P i := by
    intro k
    induction k with
    | zero =>
      intro i hi hR
      have : i = n := by omega
      subst this
      exact hn hR
    | succ k ih =>
      intro i hi hR
      by_cases hp : p i = true
      · have e : fst1 p i (k + 1) = nI i := by show (if p i then nI i else _) = _; rw [if_pos hp]
        rw [e] at hR
        exact (hs i (by omega)).1 hp hR
      · have e : fst1 p i (k + 1) = fst1 p (i + 1) k := by show (if p i then nI i else _) = _; rw [if_neg hp]
        rw [e] at hR
        exact (hs i (by omega)).2 (by simpa using hp) (ih (i + 1) (by omega) hR)
  exact key n 0 (by omega) hr
theorem sX5_stationOf {κ : eg_K} {d : Nat} (hd : 0 ≤ d) (M : eg_H) (l0 : Nat) (l1 : Int32) (hl0 : l0 < 2) (hg : gX5_stationOf M l0 l1) : eg_S κ gC mtX5_stationOf d [vR (5, l0), vI l1] M (eQI κ gC (fun r M1 => r = fX5_stationOf M l0 l1 ∧ M1 = M)) := by
  obtain ⟨hn, hlt⟩ := nI_of' hg (by omega)
  refine eg_S.of rfl (Nat.le_of_ble_eq_true rfl) (vX5_stationOf_0 M hl0 l1 ?_)
  unfold fX5_stationOf
  generalize (M.1 (5, l0) 0).toNatClampNeg = n at hn hlt
  refine eg_find (P := fun i => eg_W κ gC mtX5_stationOf d (eQI κ gC (fun r M1 => r = fst1 (fun k => decide (M.1 (1, 5 * l0 + k) 0 = l1)) 0 n ∧ M1 = M)) 2 [(0, vR (5, l0)), (1, vI l1), (2, vI (nI i))] [] M) (R := fun x => x = fst1 (fun k => decide (M.1 (1, 5 * l0 + k) 0 = l1)) 0 n) (p := fun k => decide (M.1 (1, 5 * l0 + k) 0 = l1)) n rfl (fun i hi => ⟨fun hp hR => ?_, fun hp k => ?_⟩) (fun hR => ?_)
  · refine vX5_stationOf_2 M hl0 l1 _ ⟨fun c => absurd (hn ▸ c) (nI_ge hi (by omega)), fun _ => ⟨fun c => absurd (show nI 5 ≤ nI i from c) (nI_ge (by omega) (by decide)), fun _ => ⟨nI_in' (by omega) (by omega), fun c => ?_, fun _ => ⟨hR, rfl⟩⟩⟩⟩
    rw [nI_t (by omega)] at c
    exact absurd (by simpa using hp) c
  · refine vX5_stationOf_2 M hl0 l1 _ ⟨fun c => absurd (hn ▸ c) (nI_ge hi (by omega)), fun _ => ⟨fun c => absurd (show nI 5 ≤ nI i from c) (nI_ge (by omega) (by decide)), fun _ => ⟨nI_in' (by omega) (by omega), fun _ y e => ?_, fun c => ?_⟩⟩⟩
    · subst e
      rw [nI_1]
      exact k
    · rw [nI_t (by omega)] at c
      simp [c] at hp
  · exact vX5_stationOf_2 M hl0 l1 _ ⟨fun _ => ⟨hR, rfl⟩, fun c => absurd (hn ▸ nI_le (Nat.le_refl n) (by omega)) c⟩
