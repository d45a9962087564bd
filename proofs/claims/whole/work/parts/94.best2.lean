/-! BEST IN THE MODEL -/
theorem clr_sW (N : eg_H) {k : Nat} (g : Nat → Int32) (h : k = 132 ∨ k = 133) : fX11_clears (sW N (k, 0) g) = sW (fX11_clears N) (k, 0) g := by
  have o : ∀ j, j ≠ k → (sW N (k, 0) g).1 (j, 0) = N.1 (j, 0) := fun j hj => sW_ne _ _ (kd_ne hj)
  refine eg_ext (fun r j => ?_) (fun _ _ => rfl) (fun _ _ => rfl)
  by_cases c : r = (k, 0)
  · rw [c, sW_at, clr_o _ (kd_ne (by omega)) (kd_ne (by omega)) (kd_ne (by omega)), sW_at]
  · rw [sW_ne _ _ c]
    by_cases c0 : r = (60, 0)
    · rw [c0, clr_f, clr_f, sW_ne _ _ (kd_ne (by omega))]
    · by_cases c1 : r = (125, 0)
      · rw [c1]
        unfold fX11_clears
        rw [o 125 (by omega), sW_ne _ _ (show ((125, 0) : eg_R) ≠ (126, 0) by decide), sW_at, sW_ne _ _ (show ((125, 0) : eg_R) ≠ (126, 0) by decide), sW_at]
      · by_cases c2 : r = (126, 0)
        · rw [c2]
          unfold fX11_clears
          rw [o 112 (by omega), o 126 (by omega), sW_at, sW_at]
        · rw [clr_o _ c0 c1 c2, clr_o _ c0 c1 c2, sW_ne _ _ c]
theorem QS.w2 {M Q : eg_H} {q : Nat} {R : Nat → Int32} (h : QS M q Q R) (g b : Nat → Int32) : QS M q (sW (sW Q (132, 0) g) (133, 0) b) R := by
  obtain ⟨w, e2, o, eq, mw, co, r, jk⟩ := h
  exact ⟨w, e2, o, eq, mw, co, r, jk⟩
theorem rF_w2 (Q : eg_H) (g b : Nat → Int32) (n : Nat) : rF (sW (sW Q (132, 0) g) (133, 0) b) n = rF Q n := rfl
