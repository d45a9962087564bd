/-! THE CLASS'S SUMS AND FINDS -/
/-- the plan of table t -/
def gTb (M : eg_H) (t k b : Nat) : Prop := (M.2.2 (7, t) 0).2 < 2 ∧ M.2.2 (7, t) 0 = (5, (M.2.2 (7, t) 0).2) ∧ vp_in (M.1 (5, (M.2.2 (7, t) 0).2) k) b
def fX7_waitedByAll (M : eg_H) (l0 : Nat) : Int32 := sm (fun g => M.1 (2, 15 * l0 + g) 7) (M.1 (5, (M.2.2 (7, l0) 0).2) 2).toNatClampNeg
def gX7_waitedByAll (M : eg_H) (l0 : Nat) : Prop := gTb M l0 2 16
theorem sX7_waitedByAll {κ : eg_K} {d : Nat} (hd : 0 ≤ d) (M : eg_H) (l0 : Nat) (hl0 : l0 < 4) (hg : gX7_waitedByAll M l0) : eg_S κ gC mtX7_waitedByAll d [vR (7, l0)] M (eQI κ gC (fun r M1 => r = fX7_waitedByAll M l0 ∧ M1 = M)) := by
  obtain ⟨h1, h2, h3⟩ := hg
  unfold fX7_waitedByAll
  generalize hp : (M.2.2 (7, l0) 0).2 = p at *
  obtain ⟨hn, hlt⟩ := nI_of' h3 (by omega)
  generalize (M.1 (5, p) 2).toNatClampNeg = n at hn hlt ⊢
  refine eg_S.of rfl (Nat.le_of_ble_eq_true rfl) (vX7_waitedByAll_0 M hl0 ?_)
  refine eg_down (P := fun i => eg_W κ gC mtX7_waitedByAll d (eQI κ gC (fun r M1 => r = sm (fun g => M.1 (2, 15 * l0 + g) 7) n ∧ M1 = M)) 4 [(0, vR (7, l0)), (1, vI (sm (fun g => M.1 (2, 15 * l0 + g) 7) i)), (2, vI (nI i))] [] M) n (fun i hi k => ?_) ?_
  · refine vX7_waitedByAll_4 M hl0 _ _ ⟨p, h1, h2, fun c => absurd (hn ▸ c) (nI_ge hi (by omega)), fun _ => ⟨nI_in' (by omega) (by omega), fun x e y e2 => ?_⟩⟩
    subst e; subst e2
    rw [nI_t (by omega), nI_1]
    exact k
  · exact vX7_waitedByAll_4 M hl0 _ _ ⟨p, h1, h2, fun _ => ⟨rfl, rfl⟩, fun c => absurd (hn ▸ nI_le (Nat.le_refl n) (by omega)) c⟩
def fX7_takenInAll (M : eg_H) (l0 : Nat) : Int32 := sm (fun g => M.1 (4, 5 * l0 + g) 3) (M.1 (5, (M.2.2 (7, l0) 0).2) 0).toNatClampNeg
def gX7_takenInAll (M : eg_H) (l0 : Nat) : Prop := gTb M l0 0 6
theorem sX7_takenInAll {κ : eg_K} {d : Nat} (hd : 0 ≤ d) (M : eg_H) (l0 : Nat) (hl0 : l0 < 4) (hg : gX7_takenInAll M l0) : eg_S κ gC mtX7_takenInAll d [vR (7, l0)] M (eQI κ gC (fun r M1 => r = fX7_takenInAll M l0 ∧ M1 = M)) := by
  obtain ⟨h1, h2, h3⟩ := hg
  unfold fX7_takenInAll
  generalize hp : (M.2.2 (7, l0) 0).2 = p at *
  obtain ⟨hn, hlt⟩ := nI_of' h3 (by omega)
  generalize (M.1 (5, p) 0).toNatClampNeg = n at hn hlt ⊢
  refine eg_S.of rfl (Nat.le_of_ble_eq_true rfl) (vX7_takenInAll_0 M hl0 ?_)
  refine eg_down (P := fun i => eg_W κ gC mtX7_takenInAll d (eQI κ gC (fun r M1 => r = sm (fun g => M.1 (4, 5 * l0 + g) 3) n ∧ M1 = M)) 4 [(0, vR (7, l0)), (1, vI (sm (fun g => M.1 (4, 5 * l0 + g) 3) i)), (2, vI (nI i))] [] M) n (fun i hi k => ?_) ?_
  · refine vX7_takenInAll_4 M hl0 _ _ ⟨p, h1, h2, fun c => absurd (hn ▸ c) (nI_ge hi (by omega)), fun _ => ⟨nI_in' (by omega) (by omega), fun x e y e2 => ?_⟩⟩
    subst e; subst e2
    rw [nI_t (by omega), nI_1]
    exact k
  · exact vX7_takenInAll_4 M hl0 _ _ ⟨p, h1, h2, fun _ => ⟨rfl, rfl⟩, fun c => absurd (hn ▸ nI_le (Nat.le_refl n) (by omega)) c⟩
def fX7_leftInAll (M : eg_H) (l0 : Nat) : Int32 := sm (fun g => M.1 (2, 15 * l0 + g) 10) (M.1 (5, (M.2.2 (7, l0) 0).2) 2).toNatClampNeg
def gX7_leftInAll (M : eg_H) (l0 : Nat) : Prop := gTb M l0 2 16
theorem sX7_leftInAll {κ : eg_K} {d : Nat} (hd : 0 ≤ d) (M : eg_H) (l0 : Nat) (hl0 : l0 < 4) (hg : gX7_leftInAll M l0) : eg_S κ gC mtX7_leftInAll d [vR (7, l0)] M (eQI κ gC (fun r M1 => r = fX7_leftInAll M l0 ∧ M1 = M)) := by
  obtain ⟨h1, h2, h3⟩ := hg
  unfold fX7_leftInAll
  generalize hp : (M.2.2 (7, l0) 0).2 = p at *
  obtain ⟨hn, hlt⟩ := nI_of' h3 (by omega)
  generalize (M.1 (5, p) 2).toNatClampNeg = n at hn hlt ⊢
  refine eg_S.of rfl (Nat.le_of_ble_eq_true rfl) (vX7_leftInAll_0 M hl0 ?_)
  refine eg_down (P := fun i => eg_W κ gC mtX7_leftInAll d (eQI κ gC (fun r M1 => r = sm (fun g => M.1 (2, 15 * l0 + g) 10) n ∧ M1 = M)) 4 [(0, vR (7, l0)), (1, vI (sm (fun g => M.1 (2, 15 * l0 + g) 10) i)), (2, vI (nI i))] [] M) n (fun i hi k => ?_) ?_
  · refine vX7_leftInAll_4 M hl0 _ _ ⟨p, h1, h2, fun c => absurd (hn ▸ c) (nI_ge hi (by omega)), fun _ => ⟨nI_in' (by omega) (by omega), fun x e y e2 => ?_⟩⟩
    subst e; subst e2
    rw [nI_t (by omega), nI_1]
    exact k
  · exact vX7_leftInAll_4 M hl0 _ _ ⟨p, h1, h2, fun _ => ⟨rfl, rfl⟩, fun c => absurd (hn ▸ nI_le (Nat.le_refl n) (by omega)) c⟩
def fX7_cameAgain (M : eg_H) (l0 : Nat) : Int32 := sm (fun g => (if M.1 (2, 15 * l0 + g) 12 ≤ 1 then 0 else M.1 (2, 15 * l0 + g) 12 - 1)) (M.1 (5, (M.2.2 (7, l0) 0).2) 2).toNatClampNeg
def gX7_cameAgain (M : eg_H) (l0 : Nat) : Prop := gTb M l0 2 16
theorem sX7_cameAgain {κ : eg_K} {d : Nat} (hd : 0 ≤ d) (M : eg_H) (l0 : Nat) (hl0 : l0 < 4) (hg : gX7_cameAgain M l0) : eg_S κ gC mtX7_cameAgain d [vR (7, l0)] M (eQI κ gC (fun r M1 => r = fX7_cameAgain M l0 ∧ M1 = M)) := by
  obtain ⟨h1, h2, h3⟩ := hg
  unfold fX7_cameAgain
  generalize hp : (M.2.2 (7, l0) 0).2 = p at *
  obtain ⟨hn, hlt⟩ := nI_of' h3 (by omega)
  generalize (M.1 (5, p) 2).toNatClampNeg = n at hn hlt ⊢
  refine eg_S.of rfl (Nat.le_of_ble_eq_true rfl) (vX7_cameAgain_0 M hl0 ?_)
  refine eg_down (P := fun i => eg_W κ gC mtX7_cameAgain d (eQI κ gC (fun r M1 => r = sm (fun g => (if M.1 (2, 15 * l0 + g) 12 ≤ 1 then 0 else M.1 (2, 15 * l0 + g) 12 - 1)) n ∧ M1 = M)) 4 [(0, vR (7, l0)), (1, vI (sm (fun g => (if M.1 (2, 15 * l0 + g) 12 ≤ 1 then 0 else M.1 (2, 15 * l0 + g) 12 - 1)) i)), (2, vI (nI i))] [] M) n (fun i hi k => ?_) ?_
  · refine vX7_cameAgain_4 M hl0 _ _ ⟨p, h1, h2, fun c => absurd (hn ▸ c) (nI_ge hi (by omega)), fun _ => ⟨nI_in' (by omega) (by omega), fun x9 e9 x e y e2 => ?_⟩⟩
    subst e9; subst e; subst e2
    rw [nI_t (by omega), nI_1]
    exact k
  · exact vX7_cameAgain_4 M hl0 _ _ ⟨p, h1, h2, fun _ => ⟨rfl, rfl⟩, fun c => absurd (hn ▸ nI_le (Nat.le_refl n) (by omega)) c⟩
def fX7_portionsInAll (M : eg_H) (l0 : Nat) : Int32 := sm (fun g => M.1 (4, 5 * l0 + g) 0) (M.1 (5, (M.2.2 (7, l0) 0).2) 0).toNatClampNeg
def gX7_portionsInAll (M : eg_H) (l0 : Nat) : Prop := gTb M l0 0 6
theorem sX7_portionsInAll {κ : eg_K} {d : Nat} (hd : 0 ≤ d) (M : eg_H) (l0 : Nat) (hl0 : l0 < 4) (hg : gX7_portionsInAll M l0) : eg_S κ gC mtX7_portionsInAll d [vR (7, l0)] M (eQI κ gC (fun r M1 => r = fX7_portionsInAll M l0 ∧ M1 = M)) := by
  obtain ⟨h1, h2, h3⟩ := hg
  unfold fX7_portionsInAll
  generalize hp : (M.2.2 (7, l0) 0).2 = p at *
  obtain ⟨hn, hlt⟩ := nI_of' h3 (by omega)
  generalize (M.1 (5, p) 0).toNatClampNeg = n at hn hlt ⊢
  refine eg_S.of rfl (Nat.le_of_ble_eq_true rfl) (vX7_portionsInAll_0 M hl0 ?_)
  refine eg_down (P := fun i => eg_W κ gC mtX7_portionsInAll d (eQI κ gC (fun r M1 => r = sm (fun g => M.1 (4, 5 * l0 + g) 0) n ∧ M1 = M)) 4 [(0, vR (7, l0)), (1, vI (sm (fun g => M.1 (4, 5 * l0 + g) 0) i)), (2, vI (nI i))] [] M) n (fun i hi k => ?_) ?_
  · refine vX7_portionsInAll_4 M hl0 _ _ ⟨p, h1, h2, fun c => absurd (hn ▸ c) (nI_ge hi (by omega)), fun _ => ⟨nI_in' (by omega) (by omega), fun x e y e2 => ?_⟩⟩
    subst e; subst e2
    rw [nI_t (by omega), nI_1]
    exact k
  · exact vX7_portionsInAll_4 M hl0 _ _ ⟨p, h1, h2, fun _ => ⟨rfl, rfl⟩, fun c => absurd (hn ▸ nI_le (Nat.le_refl n) (by omega)) c⟩
def fX5_guestOf (M : eg_H) (l0 : Nat) (x : Int32) : Int32 := fst1 (fun k => decide (M.1 (0, 15 * l0 + k) 0 = x)) 0 (M.1 (5, l0) 2).toNatClampNeg
def gX5_guestOf (M : eg_H) (l0 : Nat) (x : Int32) : Prop := vp_in (M.1 (5, l0) 2) 10
theorem sX5_guestOf {κ : eg_K} {d : Nat} (hd : 0 ≤ d) (M : eg_H) (l0 : Nat) (l1 : Int32) (hl0 : l0 < 2) (hg : gX5_guestOf M l0 l1) : eg_S κ gC mtX5_guestOf d [vR (5, l0), vI l1] M (eQI κ gC (fun r M1 => r = fX5_guestOf M l0 l1 ∧ M1 = M)) := by
  obtain ⟨hn, hlt⟩ := nI_of' hg (by omega)
  refine eg_S.of rfl (Nat.le_of_ble_eq_true rfl) (vX5_guestOf_0 M hl0 l1 ?_)
  unfold fX5_guestOf
  generalize (M.1 (5, l0) 2).toNatClampNeg = n at hn hlt
  refine eg_find (P := fun i => eg_W κ gC mtX5_guestOf d (eQI κ gC (fun r M1 => r = fst1 (fun k => decide (M.1 (0, 15 * l0 + k) 0 = l1)) 0 n ∧ M1 = M)) 2 [(0, vR (5, l0)), (1, vI l1), (2, vI (nI i))] [] M) (R := fun x => x = fst1 (fun k => decide (M.1 (0, 15 * l0 + k) 0 = l1)) 0 n) (p := fun k => decide (M.1 (0, 15 * l0 + k) 0 = l1)) n rfl (fun i hi => ⟨fun hp hR => ?_, fun hp k => ?_⟩) (fun hR => ?_)
  · refine vX5_guestOf_2 M hl0 l1 _ ⟨fun c => absurd (hn ▸ c) (nI_ge hi (by omega)), fun _ => ⟨fun c => absurd (show nI 9 ≤ nI i from c) (nI_ge (by omega) (by decide)), fun _ => ⟨nI_in' (by omega) (by omega), fun c => ?_, fun _ => ⟨hR, rfl⟩⟩⟩⟩
    rw [nI_t (by omega)] at c
    exact absurd (by simpa using hp) c
  · refine vX5_guestOf_2 M hl0 l1 _ ⟨fun c => absurd (hn ▸ c) (nI_ge hi (by omega)), fun _ => ⟨fun c => absurd (show nI 9 ≤ nI i from c) (nI_ge (by omega) (by decide)), fun _ => ⟨nI_in' (by omega) (by omega), fun _ y e => ?_, fun c => ?_⟩⟩⟩
    · subst e
      rw [nI_1]
      exact k
    · rw [nI_t (by omega)] at c
      simp [c] at hp
  · exact vX5_guestOf_2 M hl0 l1 _ ⟨fun _ => ⟨hR, rfl⟩, fun c => absurd (hn ▸ nI_le (Nat.le_refl n) (by omega)) c⟩
def fX5_mayOf (M : eg_H) (l0 : Nat) (x : Int32) : Int32 := fst1 (fun k => decide (M.1 (32, l0) k = x)) 0 (M.1 (5, l0) 7).toNatClampNeg
def gX5_mayOf (M : eg_H) (l0 : Nat) (x : Int32) : Prop := vp_in (M.1 (5, l0) 7) 5
theorem sX5_mayOf {κ : eg_K} {d : Nat} (hd : 0 ≤ d) (M : eg_H) (l0 : Nat) (l1 : Int32) (hl0 : l0 < 2) (hg : gX5_mayOf M l0 l1) : eg_S κ gC mtX5_mayOf d [vR (5, l0), vI l1] M (eQI κ gC (fun r M1 => r = fX5_mayOf M l0 l1 ∧ M1 = M)) := by
  obtain ⟨hn, hlt⟩ := nI_of' hg (by omega)
  refine eg_S.of rfl (Nat.le_of_ble_eq_true rfl) (vX5_mayOf_0 M hl0 l1 ?_)
  unfold fX5_mayOf
  generalize (M.1 (5, l0) 7).toNatClampNeg = n at hn hlt
  refine eg_find (P := fun i => eg_W κ gC mtX5_mayOf d (eQI κ gC (fun r M1 => r = fst1 (fun k => decide (M.1 (32, l0) k = l1)) 0 n ∧ M1 = M)) 2 [(0, vR (5, l0)), (1, vI l1), (2, vI (nI i))] [] M) (R := fun x => x = fst1 (fun k => decide (M.1 (32, l0) k = l1)) 0 n) (p := fun k => decide (M.1 (32, l0) k = l1)) n rfl (fun i hi => ⟨fun hp hR => ?_, fun hp k => ?_⟩) (fun hR => ?_)
  · refine vX5_mayOf_2 M hl0 l1 _ ⟨fun c => absurd (hn ▸ c) (nI_ge hi (by omega)), fun _ => ⟨fun c => absurd (show nI 4 ≤ nI i from c) (nI_ge (by omega) (by decide)), fun _ => ⟨nI_in' (by omega) (by omega), fun c => ?_, fun _ => ⟨hR, rfl⟩⟩⟩⟩
    rw [nI_t (by omega)] at c
    exact absurd (by simpa using hp) c
  · refine vX5_mayOf_2 M hl0 l1 _ ⟨fun c => absurd (hn ▸ c) (nI_ge hi (by omega)), fun _ => ⟨fun c => absurd (show nI 4 ≤ nI i from c) (nI_ge (by omega) (by decide)), fun _ => ⟨nI_in' (by omega) (by omega), fun _ y e => ?_, fun c => ?_⟩⟩⟩
    · subst e
      rw [nI_1]
      exact k
    · rw [nI_t (by omega)] at c
      simp [c] at hp
  · exact vX5_mayOf_2 M hl0 l1 _ ⟨fun _ => ⟨hR, rfl⟩, fun c => absurd (hn ▸ nI_le (Nat.le_refl n) (by omega)) c⟩
def fX7_placeOf (M : eg_H) (l0 : Nat) (x : Int32) : Int32 := fst1 (fun k => decide (M.1 (40, l0) k = x)) 0 (M.1 (5, (M.2.2 (7, l0) 0).2) 0).toNatClampNeg
def gX7_placeOf (M : eg_H) (l0 : Nat) (x : Int32) : Prop := gTb M l0 0 6
theorem sX7_placeOf {κ : eg_K} {d : Nat} (hd : 0 ≤ d) (M : eg_H) (l0 : Nat) (l1 : Int32) (hl0 : l0 < 4) (hg : gX7_placeOf M l0 l1) : eg_S κ gC mtX7_placeOf d [vR (7, l0), vI l1] M (eQI κ gC (fun r M1 => r = fX7_placeOf M l0 l1 ∧ M1 = M)) := by
  obtain ⟨h1, h2, h3⟩ := hg
  unfold fX7_placeOf
  generalize hp : (M.2.2 (7, l0) 0).2 = p at *
  obtain ⟨hn, hlt⟩ := nI_of' h3 (by omega)
  refine eg_S.of rfl (Nat.le_of_ble_eq_true rfl) (vX7_placeOf_0 M hl0 l1 ?_)
  generalize (M.1 (5, p) 0).toNatClampNeg = n at hn hlt ⊢
  refine eg_find (P := fun i => eg_W κ gC mtX7_placeOf d (eQI κ gC (fun r M1 => r = fst1 (fun k => decide (M.1 (40, l0) k = l1)) 0 n ∧ M1 = M)) 2 [(0, vR (7, l0)), (1, vI l1), (2, vI (nI i))] [] M) (R := fun x => x = fst1 (fun k => decide (M.1 (40, l0) k = l1)) 0 n) (p := fun k => decide (M.1 (40, l0) k = l1)) n rfl (fun i hi => ⟨fun hp hR => ?_, fun hp k => ?_⟩) (fun hR => ?_)
  · refine vX7_placeOf_2 M hl0 l1 _ ⟨p, h1, h2, fun c => absurd (hn ▸ c) (nI_ge hi (by omega)), fun _ => ⟨nI_in' (by omega) (by omega), fun c => ?_, fun _ => ⟨hR, rfl⟩⟩⟩
    rw [nI_t (by omega)] at c
    exact absurd (by simpa using hp) c
  · refine vX7_placeOf_2 M hl0 l1 _ ⟨p, h1, h2, fun c => absurd (hn ▸ c) (nI_ge hi (by omega)), fun _ => ⟨nI_in' (by omega) (by omega), fun _ y e => ?_, fun c => ?_⟩⟩
    · subst e
      rw [nI_1]
      exact k
    · rw [nI_t (by omega)] at c
      simp [c] at hp
  · exact vX7_placeOf_2 M hl0 l1 _ ⟨p, h1, h2, fun _ => ⟨hR, rfl⟩, fun c => absurd (hn ▸ nI_le (Nat.le_refl n) (by omega)) c⟩
def fX10_orderByNumbers (M : eg_H) : eg_H := sW M (52, 0) (cpT nI (M.1 (52, 0)) 5)
theorem sX10_orderByNumbers {κ : eg_K} {d : Nat} (hd : 0 ≤ d) (M : eg_H) : eg_S κ gC mtX10_orderByNumbers d [vR (10, 0)] M (eQV κ gC (fun M1 => M1 = fX10_orderByNumbers M)) := by
  unfold fX10_orderByNumbers
  refine eg_S.of rfl (Nat.le_of_ble_eq_true rfl) (vX10_orderByNumbers_0 M ?_)
  have f0 := eg_down (P := fun i => eg_W κ gC mtX10_orderByNumbers d (eQV κ gC (fun M1 => M1 = sW M (52, 0) (cpT nI (M.1 (52, 0)) 5))) 2 [(0, vR (10, 0)), (1, vI (nI i))] [] (sW M (52, 0) (cpT nI (M.1 (52, 0)) i))) 5 (fun i hi k => ?_) ?_
  · rw [cpT_0, sW_self] at f0
    exact f0
  · refine vX10_orderByNumbers_2 _ _ ⟨fun c => absurd (show nI 5 ≤ nI i from c) (nI_ge hi (by decide)), fun _ => ?_⟩
    rw [nI_t (by omega)]
    refine ⟨nI_in' (by omega) (by omega), fun M4 e4 x5 e5 => ?_⟩
    subst e4; subst e5
    rw [nI_1, sI_sW, cpT_s nI]
    exact k
  · exact vX10_orderByNumbers_2 _ _ ⟨fun _ => rfl, fun c => absurd (by decide) c⟩
