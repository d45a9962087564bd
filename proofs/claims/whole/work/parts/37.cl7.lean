theorem cP_TX (M : eg_H) (t p : Nat) (nm st : Nat → Int64) (Z : Nat → Int32) {g : Nat} (hg : g < 15) (c : Nat) : fX2_clearPlate (TX M t p nm st Z) (15 * t + g) c = TX M t p nm st (upd (upd (upd (upd Z (20 + 20 * g + 1) (-1)) (20 + 20 * g + 2) (M.1 (0, c) 2)) (20 + 20 * g + 3) 0) (20 + 20 * g + 10) 0) := by
  unfold fX2_clearPlate
  rw [W2_1 _ _ _ _ _ _ hg, T0, W2_2 _ _ _ _ _ _ hg, W2_4 _ _ _ _ _ _ hg, W2_5 _ _ _ _ _ _ hg]
/-- the i-th steps out of the line: the class's array -/
def stZ (Z : Nat → Int32) (i g : Nat) (z : Int32) : Nat → Int32 := upd (upd (upd (upd (ool Z i) (20 + 20 * g + 1) (-1)) (20 + 20 * g + 2) z) (20 + 20 * g + 3) 0) (20 + 20 * g + 10) 0
section
variable {κ : eg_K} {d : Nat} {M : eg_H} {t p : Nat} {nm st : Nat → Int64} {Z : Nat → Int32}
theorem sX7_stepOut (hd : 1 ≤ d) (ht : t < 4) (hp2 : p < 2) (hT : M.2.2 (7, t) 0 = (5, p)) {q i g : Nat} (hq : q < 16) (eq : Z 1 = nI q) (hi : i < q) (hg : g < 15) (eg : Z (2 + i) = nI g) : eg_S κ gC mtX7_stepOut d [vR (7, t), vI (nI i)] (TX M t p nm st Z) (eQV κ gC (fun M1 => M1 = TX M t p nm st (stZ Z i g (M.1 (0, 15 * p + g) 2)))) := by
  refine eg_S.of rfl (Nat.le_of_ble_eq_true rfl) (vX7_stepOut_0 _ ht _ ⟨nI_in' (by omega) (by omega), fun x2 e2 => ?_⟩)
  rw [nI_t (by omega), T43 _ _ _ _ _ _ (by omega), eg] at e2
  rw [e2]
  -- shifted up to j
  have shq : ∀ j, i ≤ j → j + 1 ≤ q → ∀ Z1, Z1 = (fun a => if 2 + i ≤ a ∧ a < 2 + j then Z (a + 1) else Z a) → eg_W κ gC mtX7_stepOut d (eQV κ gC (fun M1 => M1 = TX M t p nm st (stZ Z i g (M.1 (0, 15 * p + g) 2)))) 9 [(0, vR (7, t)), (2, vI (nI g)), (3, vI (nI j))] [] (TX M t p nm st Z1) := by
    have : ∀ k j, k = q - 1 - j → i ≤ j → j + 1 ≤ q → ∀ Z1, Z1 = (fun a => if 2 + i ≤ a ∧ a < 2 + j then Z (a + 1) else Z a) → eg_W κ gC mtX7_stepOut d (eQV κ gC (fun M1 => M1 = TX M t p nm st (stZ Z i g (M.1 (0, 15 * p + g) 2)))) 9 [(0, vR (7, t)), (2, vI (nI g)), (3, vI (nI j))] [] (TX M t p nm st Z1) := by
      intro k
      induction k with
      | zero =>
        intro j hj hij hjq Z1 eZ
        have e1 : Z1 1 = nI q := by rw [eZ]; show (if 2 + i ≤ 1 ∧ 1 < 2 + j then _ else _) = _; rw [if_neg (by omega), eq]
        refine vX7_stepOut_9 hd _ ht _ _ ⟨fun _ M2 e2 => ?_, fun c => ?_⟩
        · rw [T7_6, e1, W7_6] at e2
          subst e2
          refine ⟨nI_in' (by omega) (by omega), p, hp2, hT, fun M5 e5 => ?_⟩
          rw [nI_t (by omega), cP_TX _ _ _ _ _ _ (by omega)] at e5
          rw [e5]
          unfold stZ
          have : upd Z1 1 (nI q - 1) = ool Z i := by
            funext a
            unfold ool
            by_cases c1 : a = 1
            · rw [c1, if_pos rfl, eq]; exact pk_us
            · rw [pk_un c1, if_neg c1, eZ, eq, nI_t (by omega)]
              show (if 2 + i ≤ a ∧ a < 2 + j then Z (a + 1) else Z a) = _
              by_cases c2 : 2 + i ≤ a ∧ a < 2 + j
              · rw [if_pos c2, if_pos (by omega)]
              · rw [if_neg c2, if_neg (by omega)]
          rw [this]
        · rw [T7_6, e1, (nAl j).2.1] at c
          exact absurd ((nI_le' (by omega) (by omega)).mpr (by omega)) c
      | succ k ih =>
        intro j hj hij hjq Z1 eZ
        have e1 : Z1 1 = nI q := by rw [eZ]; show (if 2 + i ≤ 1 ∧ 1 < 2 + j then _ else _) = _; rw [if_neg (by omega), eq]
        refine vX7_stepOut_9 hd _ ht _ _ ⟨fun c => ?_, fun c => ?_⟩
        · rw [T7_6, e1, (nAl j).2.1] at c
          exact absurd ((nI_le' (by omega) (by omega)).mp c) (by omega)
        · rw [(nAl j).2.1, nI_t (by omega), nI_t (by omega), T43 _ _ _ _ _ _ (by omega), W43 _ _ _ _ _ _ (by omega)]
          refine ⟨nI_in' (by omega) (by omega), nI_in' (by omega) (by omega), fun M9 e9 x10 e10 => ?_⟩
          rw [e9, e10]
          refine ih (j + 1) (by omega) (by omega) (by omega) _ ?_
          funext a
          by_cases c1 : a = 2 + j
          · rw [c1, pk_us, eZ]
            show (if 2 + i ≤ 2 + (j + 1) ∧ 2 + (j + 1) < 2 + j then Z (2 + (j + 1) + 1) else Z (2 + (j + 1))) = (if 2 + i ≤ 2 + j ∧ 2 + j < 2 + (j + 1) then Z (2 + j + 1) else Z (2 + j))
            rw [if_neg (by omega), if_pos (by omega)]
            rfl
          · rw [pk_un c1, eZ]
            show (if 2 + i ≤ a ∧ a < 2 + j then Z (a + 1) else Z a) = (if 2 + i ≤ a ∧ a < 2 + (j + 1) then Z (a + 1) else Z a)
            by_cases c2 : 2 + i ≤ a ∧ a < 2 + j
            · rw [if_pos c2, if_pos (by omega)]
            · rw [if_neg c2, if_neg (by omega)]
    intro j hij hjq Z1 eZ
    exact this _ j rfl hij hjq Z1 eZ
  refine shq i (Nat.le_refl _) (by omega) Z ?_
  funext a
  exact (if_neg (by omega)).symm
end
