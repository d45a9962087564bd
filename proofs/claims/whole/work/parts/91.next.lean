/-! THE NEXT ROW -/
def nxI (A : Nat → Nat) : Nat → Option Nat
  | 0 => none
  | k + 1 => if A k ≤ A (k + 1) then some k else nxI A k
def nxJ (A : Nat → Nat) (i : Nat) : Nat → Nat
  | 0 => 0
  | k + 1 => if A i ≤ A (k + 1) then k + 1 else nxJ A i k
def nwS (A : Nat → Nat) (i j : Nat) : Nat → Nat := fun k => if k = j then A i else if k = i then A j else A k
def nxR : Nat → (Nat → Nat) → Nat → Nat → (Nat → Nat)
  | 0, A, _, _ => A
  | f + 1, A, l, r => if r ≤ l then A else nxR f (nwS A l r) (l + 1) (r - 1)
def nxB (A : Nat → Nat) (n : Nat) : Option (Nat → Nat) := (nxI A (n - 1)).map (fun i => nxR 5 (nwS A i (nxJ A i (n - 1))) (i + 1) (n - 1))
def rwL (g : Nat → Int32) (A : Nat → Nat) : Prop := ∀ k, k < 5 → g k = nI (A k) ∧ A k < 5
theorem nxI_v {A : Nat → Nat} : ∀ {k i : Nat}, nxI A k = some i → i < k ∧ A i ≤ A (i + 1)
  | 0, _, h => nomatch h
  | k + 1, i, h => by
    unfold nxI at h
    by_cases c : A k ≤ A (k + 1)
    · rw [if_pos c] at h
      rw [← Option.some.inj h]
      exact ⟨by omega, c⟩
    · rw [if_neg c] at h
      have := nxI_v h
      exact ⟨by omega, this.2⟩
theorem nxJ_v {A : Nat → Nat} {i : Nat} (hi : A i ≤ A (i + 1)) : ∀ {k : Nat}, i < k → i < nxJ A i k ∧ nxJ A i k ≤ k
  | 0, h => absurd h (by omega)
  | k + 1, h => by
    unfold nxJ
    by_cases c : A i ≤ A (k + 1)
    · rw [if_pos c]; omega
    · rw [if_neg c]
      by_cases e : i = k
      · rw [e] at hi c; exact absurd hi c
      · have := nxJ_v hi (k := k) (by omega)
        omega
theorem rwL_s {g : Nat → Int32} {A : Nat → Nat} (h : rwL g A) {i j : Nat} (hi : i < 5) (hj : j < 5) : rwL (upd (upd g i (g j)) j (g i)) (nwS A i j) := by
  intro k hk
  unfold nwS
  by_cases c : k = j
  · rw [if_pos c, c, pk_us]; exact h i hi
  · rw [if_neg c, pk_un c]
    by_cases c2 : k = i
    · rw [if_pos c2, c2, pk_us]; exact h j hj
    · rw [if_neg c2, pk_un c2]; exact h k hk
theorem rwL_le {g : Nat → Int32} {A : Nat → Nat} (h : rwL g A) {i j : Nat} (hi : i < 5) (hj : j < 5) : g i ≤ g j ↔ A i ≤ A j := by
  obtain ⟨a, b⟩ := h i hi
  obtain ⟨c, d⟩ := h j hj
  rw [a, c]
  exact nI_le' (by omega) (by omega)
/-- the model's next row -/
theorem sX11_nextOrder {κ : eg_K} {d : Nat} (M : eg_H) {g : Nat → Int32} {A : Nat → Nat} (h : rwL g A) {n : Nat} (n1 : 1 ≤ n) (n5 : n ≤ 5) : eg_S κ gM mtX11_nextOrder d [vR (132, 0), vI (nI n)] (sW M (132, 0) g) (eQI κ gM (fun r M1 => (nxB A n = none ∧ r = 0 ∧ M1 = sW M (132, 0) g) ∨ ∃ B g1, nxB A n = some B ∧ r = 1 ∧ M1 = sW M (132, 0) g1 ∧ rwL g1 B)) := by
  have hl0 : ((132, 0) : eg_R) ∈ gM.1 ∧ gM.2.1 (132, 0) = (1, 5) := ⟨by decide +kernel, rfl⟩
  -- turning the rest round
  have k76 : ∀ f l r g1 A1, rwL g1 A1 → l ≤ 5 → r < 5 → r ≤ l + 2 * f → nxB A n = some (nxR f A1 l r) → eg_W κ gM mtX11_nextOrder d (eQI κ gM (fun r M1 => (nxB A n = none ∧ r = 0 ∧ M1 = sW M (132, 0) g) ∨ ∃ B g1, nxB A n = some B ∧ r = 1 ∧ M1 = sW M (132, 0) g1 ∧ rwL g1 B)) 76 [(0, vR (132, 0)), (5, vI (nI l)), (6, vI (nI r))] [] (sW M (132, 0) g1) := by
    intro f
    induction f with
    | zero =>
      intro l r g1 A1 h1 hl hr hf e
      refine vX11_nextOrder_76 _ hl0 _ _ ⟨fun _ => Or.inr ⟨_, g1, e, rfl, rfl, h1⟩, fun c => ?_⟩
      exact absurd ((nI_le' (by omega) (by omega)).mpr (by omega)) c
    | succ f ih =>
      intro l r g1 A1 h1 hl hr hf e
      unfold nxR at e
      by_cases c : r ≤ l
      · rw [if_pos c] at e
        refine vX11_nextOrder_76 _ hl0 _ _ ⟨fun _ => Or.inr ⟨_, g1, e, rfl, rfl, h1⟩, fun c2 => ?_⟩
        exact absurd ((nI_le' (by omega) (by omega)).mpr c) c2
      · rw [if_neg c] at e
        refine vX11_nextOrder_76 _ hl0 _ _ ⟨fun c2 => absurd ((nI_le' (by omega) (by omega)).mp c2) c, fun _ => ?_⟩
        rw [nI_t (by omega), nI_t (by omega), sW_at]
        refine ⟨nI_in' (by omega) (by omega), fun x3 e3 => ⟨nI_in' (by omega) (by omega), fun M5 e5 M6 e6 x7 e7 x8 e8 => ?_⟩⟩
        rw [sI_sW] at e5
        rw [e5, sI_sW, e3] at e6
        obtain ⟨q, hq⟩ : ∃ q, r = q + 1 := ⟨r - 1, by omega⟩
        have e8' : x8 = nI (r - 1) := by rw [e8, hq]; exact nI_p2 q
        rw [e6, e7, e8', nI_1]
        exact ih (l + 1) (r - 1) _ _ (rwL_s h1 (by omega) (by omega)) (by omega) (by omega) (by omega) e
  -- who changes with the pivot
  have k35 : ∀ j i, i < j → j < n → nxI A (n - 1) = some i → A i ≤ A (i + 1) → nxJ A i (n - 1) = nxJ A i j → eg_W κ gM mtX11_nextOrder d (eQI κ gM (fun r M1 => (nxB A n = none ∧ r = 0 ∧ M1 = sW M (132, 0) g) ∨ ∃ B g1, nxB A n = some B ∧ r = 1 ∧ M1 = sW M (132, 0) g1 ∧ rwL g1 B)) 35 [(0, vR (132, 0)), (1, vI (nI n)), (2, vI (nI i)), (3, vI (nI j))] [] (sW M (132, 0) g) := by
    intro j
    induction j with
    | zero => intro i hi; exact absurd hi (by omega)
    | succ j ih =>
      intro i hi hj eI hA eJ
      have le := rwL_le h (i := i) (j := j + 1) (by omega) (by omega)
      refine vX11_nextOrder_35 _ hl0 _ _ _ ?_
      rw [nI_t (by omega), nI_t (by omega), sW_at]
      refine ⟨nI_in' (by omega) (by omega), nI_in' (by omega) (by omega), fun c x4 e4 M5 e5 M6 e6 x7 e7 x8 e8 => ?_, fun c x9 e9 => ?_⟩
      · have c' := le.mp c
        rw [sI_sW] at e5
        rw [e5, sI_sW, e4] at e6
        obtain ⟨q, hq⟩ : ∃ q, n = q + 1 := ⟨n - 1, by omega⟩
        have e8' : x8 = nI (n - 1) := by rw [e8, hq]; exact nI_p q
        rw [e6, e7, e8', nI_1]
        have ej : nxJ A i (n - 1) = j + 1 := by rw [eJ]; unfold nxJ; rw [if_pos c']
        refine k76 5 (i + 1) (n - 1) _ _ (rwL_s h (by omega) (by omega)) (by omega) (by omega) (by omega) ?_
        unfold nxB
        rw [eI, ← ej]
        rfl
      · have c' : ¬ A i ≤ A (j + 1) := fun q => c (le.mpr q)
        have ij : i ≠ j := fun q => c' (by rw [← q]; exact hA)
        have e9' : x9 = nI j := by rw [e9]; exact nI_p2 j
        rw [e9']
        refine ih i (by omega) (by omega) eI hA ?_
        rw [eJ]
        conv => lhs; unfold nxJ
        rw [if_neg c']
  refine eg_S.of rfl (Nat.le_of_ble_eq_true rfl) (vX11_nextOrder_0 _ hl0 _ (fun x1 e1 => ?_))
  -- the pivot
  suffices key : ∀ k, k < n → nxI A (n - 1) = nxI A k → eg_W κ gM mtX11_nextOrder d (eQI κ gM (fun r M1 => (nxB A n = none ∧ r = 0 ∧ M1 = sW M (132, 0) g) ∨ ∃ B g1, nxB A n = some B ∧ r = 1 ∧ M1 = sW M (132, 0) g1 ∧ rwL g1 B)) 4 [(0, vR (132, 0)), (1, vI (nI n)), (2, vI (nI k - 1))] [] (sW M (132, 0) g) by
    have e : x1 = nI (n - 1) - 1 := by
      obtain ⟨q, hq⟩ : ∃ q, n = q + 1 := ⟨n - 1, by omega⟩
      rw [e1, hq, Nat.add_sub_cancel, ← nI_p q, Int32.sub_sub]
      rfl
    rw [e]
    exact key (n - 1) (by omega) rfl
  intro k
  induction k with
  | zero =>
    intro _ eI
    have nb : nxB A n = none := by
      unfold nxB
      rw [eI]
      rfl
    exact vX11_nextOrder_4 _ hl0 _ _ ⟨fun _ => ⟨fun c => absurd c (by decide), fun _ => Or.inl ⟨nb, rfl, rfl⟩⟩, fun c => absurd (by decide) c⟩
  | succ k ih =>
    intro hk eI
    rw [nI_p]
    have le := rwL_le h (i := k) (j := k + 1) (by omega) (by omega)
    have n0 : ¬ nI k < 0 := fun q => by rw [t_lt, t_0, t_nI (by omega)] at q; omega
    refine vX11_nextOrder_4 _ hl0 _ _ ⟨fun c => absurd c n0, fun _ => ?_⟩
    rw [nI_1, nI_t (by omega), nI_t (by omega), sW_at]
    refine ⟨nI_in' (by omega) (by omega), nI_in' (by omega) (by omega), fun c => ⟨fun _ x8 e8 => ?_, fun q => ?_⟩, fun c x9 e9 => ?_⟩
    · have c' := le.mp c
      have eI' : nxI A (n - 1) = some k := by rw [eI]; unfold nxI; rw [if_pos c']
      obtain ⟨q, hq⟩ : ∃ q, n = q + 1 := ⟨n - 1, by omega⟩
      have e8' : x8 = nI (n - 1) := by rw [e8, hq]; exact nI_p q
      rw [e8']
      exact k35 (n - 1) k (by omega) (by omega) eI' c' rfl
    · exact absurd (by rw [t_le, t_0, t_nI (by omega)]; omega) q
    · have c' : ¬ A k ≤ A (k + 1) := fun q => c (le.mpr q)
      have e9' : x9 = nI k - 1 := by
        rw [e9, Int32.sub_eq_add_neg]
      rw [e9']
      refine ih (by omega) ?_
      rw [eI]
      conv => lhs; unfold nxI
      rw [if_neg c']
