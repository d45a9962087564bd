/-! THE NEXT ROW IN THE CLASS, AND THE ROWS IN THEIR ORDER -/
theorem sX10_nextOrder {κ : eg_K} {d : Nat} (hd : 1 ≤ d) (M : eg_H) {g : Nat → Int32} {A : Nat → Nat} (h : rwL g A) {n : Nat} (n1 : 1 ≤ n) (n5 : n ≤ 5) : eg_S κ gC mtX10_nextOrder d [vR (10, 0), vI (nI n)] (sW M (52, 0) g) (eQI κ gC (fun r M1 => (nxB A n = none ∧ r = 0 ∧ M1 = sW M (52, 0) g) ∨ ∃ B g1, nxB A n = some B ∧ r = 1 ∧ M1 = sW M (52, 0) g1 ∧ rwL g1 B)) := by
  have k83 : ∀ f l r g1 A1, rwL g1 A1 → l ≤ 5 → r < 5 → r ≤ l + 2 * f → nxB A n = some (nxR f A1 l r) → eg_W κ gC mtX10_nextOrder d (eQI κ gC (fun r M1 => (nxB A n = none ∧ r = 0 ∧ M1 = sW M (52, 0) g) ∨ ∃ B g1, nxB A n = some B ∧ r = 1 ∧ M1 = sW M (52, 0) g1 ∧ rwL g1 B)) 83 [(0, vR (10, 0)), (4, vI (nI l)), (5, vI (nI r))] [] (sW M (52, 0) g1) := by
    intro f
    induction f with
    | zero =>
      intro l r g1 A1 h1 hl hr hf e
      refine vX10_nextOrder_83 (by omega) _ _ _ ⟨fun _ => Or.inr ⟨_, g1, e, rfl, rfl, h1⟩, fun c => ?_⟩
      exact absurd ((nI_le' (by omega) (by omega)).mpr (by omega)) c
    | succ f ih =>
      intro l r g1 A1 h1 hl hr hf e
      unfold nxR at e
      by_cases c : r ≤ l
      · rw [if_pos c] at e
        refine vX10_nextOrder_83 (by omega) _ _ _ ⟨fun _ => Or.inr ⟨_, g1, e, rfl, rfl, h1⟩, fun c2 => ?_⟩
        exact absurd ((nI_le' (by omega) (by omega)).mpr c) c2
      · rw [if_neg c] at e
        refine vX10_nextOrder_83 (by omega) _ _ _ ⟨fun c2 => absurd ((nI_le' (by omega) (by omega)).mp c2) c, fun _ => ⟨⟨nI_in' (by omega) (by omega), nI_in' (by omega) (by omega)⟩, fun M3 e3 x5 e5 x6 e6 => ?_⟩⟩
        unfold fX10_swapInOrder at e3
        rw [nI_t (by omega), nI_t (by omega), sW_at, sI_sW, sI_sW] at e3
        obtain ⟨q, hq⟩ : ∃ q, r = q + 1 := ⟨r - 1, by omega⟩
        have e6' : x6 = nI (r - 1) := by rw [e6, hq]; exact nI_p2 q
        rw [e3, e5, e6', nI_1]
        exact ih (l + 1) (r - 1) _ _ (rwL_s h1 (by omega) (by omega)) (by omega) (by omega) (by omega) e
  have k67 : ∀ i j, i < j → j < n → nxI A (n - 1) = some i → nxJ A i (n - 1) = j → eg_W κ gC mtX10_nextOrder d (eQI κ gC (fun r M1 => (nxB A n = none ∧ r = 0 ∧ M1 = sW M (52, 0) g) ∨ ∃ B g1, nxB A n = some B ∧ r = 1 ∧ M1 = sW M (52, 0) g1 ∧ rwL g1 B)) 67 [(0, vR (10, 0)), (1, vI (nI n)), (2, vI (nI i)), (3, vI (nI j))] [] (sW M (52, 0) g) := by
    intro i j hi hj eI eJ
    refine vX10_nextOrder_67 (by omega) _ _ _ _ ⟨⟨nI_in' (by omega) (by omega), nI_in' (by omega) (by omega)⟩, fun M2 e2 x4 e4 x5 e5 => ?_⟩
    unfold fX10_swapInOrder at e2
    rw [nI_t (by omega), nI_t (by omega), sW_at, sI_sW, sI_sW] at e2
    obtain ⟨q, hq⟩ : ∃ q, n = q + 1 := ⟨n - 1, by omega⟩
    have e5' : x5 = nI (n - 1) := by rw [e5, hq]; exact nI_p q
    rw [e2, e4, e5', nI_1]
    refine k83 5 (i + 1) (n - 1) _ _ (rwL_s h (by omega) (by omega)) (by omega) (by omega) (by omega) ?_
    unfold nxB
    rw [eI, ← eJ]
    rfl
  have k41 : ∀ j i, i < j → j < n → nxI A (n - 1) = some i → A i ≤ A (i + 1) → nxJ A i (n - 1) = nxJ A i j → eg_W κ gC mtX10_nextOrder d (eQI κ gC (fun r M1 => (nxB A n = none ∧ r = 0 ∧ M1 = sW M (52, 0) g) ∨ ∃ B g1, nxB A n = some B ∧ r = 1 ∧ M1 = sW M (52, 0) g1 ∧ rwL g1 B)) 41 [(0, vR (10, 0)), (1, vI (nI n)), (2, vI (nI i)), (3, vI (nI j))] [] (sW M (52, 0) g) := by
    intro j
    induction j with
    | zero => intro i hi; exact absurd hi (by omega)
    | succ j ih =>
      intro i hi hj eI hA eJ
      have le := rwL_le h (i := i) (j := j + 1) (by omega) (by omega)
      refine vX10_nextOrder_41 _ _ _ _ ⟨fun c => absurd ((nI_le' (by omega) (by omega)).mp c) (by omega), fun _ => ?_⟩
      rw [nI_t (by omega), nI_t (by omega), sW_at]
      refine ⟨nI_in' (by omega) (by omega), nI_in' (by omega) (by omega), fun c => ?_, fun c x5 e5 => ?_⟩
      · have c' := le.mp c
        exact k67 i (j + 1) hi hj eI (by rw [eJ]; unfold nxJ; rw [if_pos c'])
      · have c' : ¬ A i ≤ A (j + 1) := fun q => c (le.mpr q)
        have ij : i ≠ j := fun q => c' (by rw [← q]; exact hA)
        have e5' : x5 = nI j := by rw [e5]; exact nI_p2 j
        rw [e5']
        refine ih i (by omega) (by omega) eI hA ?_
        rw [eJ]
        conv => lhs; unfold nxJ
        rw [if_neg c']
  refine eg_S.of rfl (Nat.le_of_ble_eq_true rfl) (vX10_nextOrder_0 _ _ (fun x1 e1 => ?_))
  suffices key : ∀ k, k < n → nxI A (n - 1) = nxI A k → eg_W κ gC mtX10_nextOrder d (eQI κ gC (fun r M1 => (nxB A n = none ∧ r = 0 ∧ M1 = sW M (52, 0) g) ∨ ∃ B g1, nxB A n = some B ∧ r = 1 ∧ M1 = sW M (52, 0) g1 ∧ rwL g1 B)) 4 [(0, vR (10, 0)), (1, vI (nI n)), (2, vI (nI k - 1))] [] (sW M (52, 0) g) by
    have e : x1 = nI (n - 1) - 1 := by
      obtain ⟨q, hq⟩ : ∃ q, n = q + 1 := ⟨n - 1, by omega⟩
      rw [e1, hq, Nat.add_sub_cancel, ← nI_p q, Int32.sub_sub]
      rfl
    rw [e]
    exact key (n - 1) (by omega) rfl
  intro k
  induction k with
  | zero =>
    intro _ eI
    have nb : nxB A n = none := by
      unfold nxB
      rw [eI]
      rfl
    exact vX10_nextOrder_4 _ _ _ ⟨fun _ => ⟨fun c => absurd c (by decide), fun _ => Or.inl ⟨nb, rfl, rfl⟩⟩, fun c => absurd (by decide) c⟩
  | succ k ih =>
    intro hk eI
    rw [nI_p]
    have le := rwL_le h (i := k) (j := k + 1) (by omega) (by omega)
    have n0 : ¬ nI k < 0 := fun q => by rw [t_lt, t_0, t_nI (by omega)] at q; omega
    refine vX10_nextOrder_4 _ _ _ ⟨fun c => absurd c n0, fun _ => ?_⟩
    rw [nI_1, nI_t (by omega), nI_t (by omega), sW_at]
    refine ⟨nI_in' (by omega) (by omega), nI_in' (by omega) (by omega), fun c => ⟨fun _ x8 e8 => ?_, fun q => ?_⟩, fun c x9 e9 => ?_⟩
    · have c' := le.mp c
      have eI' : nxI A (n - 1) = some k := by rw [eI]; unfold nxI; rw [if_pos c']
      obtain ⟨q, hq⟩ : ∃ q, n = q + 1 := ⟨n - 1, by omega⟩
      have e8' : x8 = nI (n - 1) := by rw [e8, hq]; exact nI_p q
      rw [e8']
      exact k41 (n - 1) k (by omega) (by omega) eI' c' rfl
    · exact absurd (by rw [t_le, t_0, t_nI (by omega)]; omega) q
    · have c' : ¬ A k ≤ A (k + 1) := fun q => c (le.mpr q)
      have e9' : x9 = nI k - 1 := by
        rw [e9, Int32.sub_eq_add_neg]
      rw [e9']
      refine ih (by omega) ?_
      rw [eI]
      conv => lhs; unfold nxI
      rw [if_neg c']
/-- a row of five by its digits -/
def rwD (x : Nat) : Nat → Nat := fun k => x / 10 ^ k % 10
/-- a good row: the first n are a row of n -/
def rwK (n x : Nat) : Bool := (List.range n).all (fun a => decide (rwD x a < n) && (List.range a).all (fun b => decide (rwD x b ≠ rwD x a))) && (List.range 5).all (fun a => decide (rwD x a < 5))
def rwE (A B : Nat → Nat) : Bool := (List.range 5).all (fun k => decide (A k = B k))
def rwC (n : Nat) : List Nat → Bool
  | [] => false
  | [x] => rwK n x && (nxB (rwD x) n).isNone
  | x :: y :: l => rwK n x && (match nxB (rwD x) n with | none => false | some B => rwE B (rwD y)) && rwC n (y :: l)
def rwT1 : List Nat := [43210]
def rwT2 : List Nat := [43210, 43201]
def rwT3 : List Nat := [43210, 43120, 43201, 43021, 43102, 43012]
def rwT4 : List Nat := [43210, 42310, 43120, 41320, 42130, 41230, 43201, 42301, 43021, 40321, 42031, 40231, 43102, 41302, 43012, 40312, 41032, 40132, 42103, 41203, 42013, 40213, 41023, 40123]
def rwT5 : List Nat := [43210, 34210, 42310, 24310, 32410, 23410, 43120, 34120, 41320, 14320, 31420, 13420, 42130, 24130, 41230, 14230, 21430, 12430, 32140, 23140, 31240, 13240, 21340, 12340, 43201, 34201, 42301, 24301, 32401, 23401, 43021, 34021, 40321, 4321, 30421, 3421, 42031, 24031, 40231, 4231, 20431, 2431, 32041, 23041, 30241, 3241, 20341, 2341, 43102, 34102, 41302, 14302, 31402, 13402, 43012, 34012, 40312, 4312, 30412, 3412, 41032, 14032, 40132, 4132, 10432, 1432, 31042, 13042, 30142, 3142, 10342, 1342, 42103, 24103, 41203, 14203, 21403, 12403, 42013, 24013, 40213, 4213, 20413, 2413, 41023, 14023, 40123, 4123, 10423, 1423, 21043, 12043, 20143, 2143, 10243, 1243, 32104, 23104, 31204, 13204, 21304, 12304, 32014, 23014, 30214, 3214, 20314, 2314, 31024, 13024, 30124, 3124, 10324, 1324, 21034, 12034, 20134, 2134, 10234, 1234]
theorem rwT1_ok : rwC 1 rwT1 = true := by decide +kernel
theorem rwT2_ok : rwC 2 rwT2 = true := by decide +kernel
theorem rwT3_ok : rwC 3 rwT3 = true := by decide +kernel
theorem rwT4_ok : rwC 4 rwT4 = true := by decide +kernel
theorem rwT5_ok : rwC 5 rwT5 = true := by decide +kernel
theorem rwT_ex {n : Nat} (n1 : 1 ≤ n) (n5 : n ≤ 5) : ∃ l, rwC n (43210 :: l) = true ∧ l.length ≤ 119 := by
  have : n = 1 ∨ n = 2 ∨ n = 3 ∨ n = 4 ∨ n = 5 := by omega
  rcases this with z | z | z | z | z <;> rw [z]
  · exact ⟨_, rwT1_ok, by decide⟩
  · exact ⟨_, rwT2_ok, by decide⟩
  · exact ⟨_, rwT3_ok, by decide⟩
  · exact ⟨_, rwT4_ok, by decide⟩
  · exact ⟨_, rwT5_ok, by decide⟩
