section
variable {κ : eg_K} {d : Nat} {M : eg_H} {t p : Nat} {nm st : Nat → Int64} {Z : Nat → Int32}
/-- so far a second may be like the one before -/
def clP (M : eg_H) (p : Nat) (Z : Nat → Int32) (most r : Int32) : Prop :=
  r.toInt ≤ most.toInt ∧ (∀ s, s < cN M p → Z (320 + 8 * s + 2) = -1 ∨ r.toInt ≤ (Z (320 + 8 * s + 2)).toInt - (Z 0).toInt) ∧ ∀ g, g < cP M p → (Z (20 + 20 * g) = 1 → Z (20 + 20 * g + 3) ≤ 0 ∨ r.toInt ≤ (Z (20 + 20 * g + 3)).toInt) ∧ (¬ Z (20 + 20 * g) = 1 → (if Z (20 + 20 * g) = 0 then eC (cE M p) g 0 else Z (20 + 20 * g + 11)).toInt < (Z 0).toInt ∨ r.toInt ≤ (if Z (20 + 20 * g) = 0 then eC (cE M p) g 0 else Z (20 + 20 * g + 11)).toInt - (Z 0).toInt)
theorem min_I (x y : Int32) : (if x < y then x else y).toInt ≤ x.toInt ∧ (if x < y then x else y).toInt ≤ y.toInt := by
  by_cases c : x < y
  · rw [if_pos c]
    rw [t_lt] at c
    omega
  · rw [if_neg c]
    rw [t_lt] at c
    omega
theorem sX7_calmSeconds (hd : 1 ≤ d) (ht : t < 4) (hW : cW M p) (hT : M.2.2 (7, t) 0 = (5, p)) (h0 : 0 ≤ (Z 0).toInt ∧ (Z 0).toInt ≤ 3600) (hdue : ∀ s, s < cN M p → -1 ≤ (Z (320 + 8 * s + 2)).toInt) (most : Int32) : eg_S κ gC mtX7_calmSeconds d [vR (7, t), vI most] (TX M t p nm st Z) (eQI κ gC (fun r M1 => clP M p Z most r ∧ M1 = TX M t p nm st Z)) := by
  obtain ⟨en, hn⟩ := cN_e hW
  obtain ⟨eP', hP⟩ := cP_e hW
  have hp2 := hW.1
  refine eg_S.of rfl (Nat.le_of_ble_eq_true rfl) (vX7_calmSeconds_0 _ ht _ ?_)
  -- the guests
  have k52 : ∀ x : Int32, x.toInt ≤ most.toInt → (∀ s, s < cN M p → Z (320 + 8 * s + 2) = -1 ∨ x.toInt ≤ (Z (320 + 8 * s + 2)).toInt - (Z 0).toInt) → eg_W κ gC mtX7_calmSeconds d (eQI κ gC (fun r M1 => clP M p Z most r ∧ M1 = TX M t p nm st Z)) 52 [(0, vR (7, t)), (2, vI x), (3, vI (0 : Int32))] [] (TX M t p nm st Z) := by
    intro x hx hs
    refine eg_down (P := fun i => ∀ y : Int32, y.toInt ≤ x.toInt → (∀ g, g < i → (Z (20 + 20 * g) = 1 → Z (20 + 20 * g + 3) ≤ 0 ∨ y.toInt ≤ (Z (20 + 20 * g + 3)).toInt) ∧ (¬ Z (20 + 20 * g) = 1 → (if Z (20 + 20 * g) = 0 then eC (cE M p) g 0 else Z (20 + 20 * g + 11)).toInt < (Z 0).toInt ∨ y.toInt ≤ (if Z (20 + 20 * g) = 0 then eC (cE M p) g 0 else Z (20 + 20 * g + 11)).toInt - (Z 0).toInt)) → eg_W κ gC mtX7_calmSeconds d (eQI κ gC (fun r M1 => clP M p Z most r ∧ M1 = TX M t p nm st Z)) 52 [(0, vR (7, t)), (2, vI y), (3, vI (nI i))] [] (TX M t p nm st Z)) (cP M p) (fun i hi k y hy hg => ?_) (fun y hy hg => ?_) x (Int.le_refl _) (fun g hg => absurd hg (Nat.not_lt_zero _))
    · have ec0 : eC (cE M p) i 0 = M.1 (0, 15 * p + i) 1 := eC_c hi 0
      -- on with z
      have on : ∀ z w : Int32, w = nI i + 1 → z.toInt ≤ y.toInt → ((Z (20 + 20 * i) = 1 → Z (20 + 20 * i + 3) ≤ 0 ∨ z.toInt ≤ (Z (20 + 20 * i + 3)).toInt) ∧ (¬ Z (20 + 20 * i) = 1 → (if Z (20 + 20 * i) = 0 then eC (cE M p) i 0 else Z (20 + 20 * i + 11)).toInt < (Z 0).toInt ∨ z.toInt ≤ (if Z (20 + 20 * i) = 0 then eC (cE M p) i 0 else Z (20 + 20 * i + 11)).toInt - (Z 0).toInt)) → eg_W κ gC mtX7_calmSeconds d (eQI κ gC (fun r M1 => clP M p Z most r ∧ M1 = TX M t p nm st Z)) 52 [(0, vR (7, t)), (2, vI z), (3, vI w)] [] (TX M t p nm st Z) := by
        intro z w ew hz hz2
        rw [ew, (nAl i).2.1]
        refine k z (by omega) (fun g hg2 => ?_)
        by_cases e : g = i
        · rw [e]; exact hz2
        · have := hg g (by omega)
          refine ⟨fun q => (this.1 q).imp_right (fun r => by omega), fun q => (this.2 q).imp_right (fun r => by omega)⟩
      have k131 : ∀ l5 : Int32, l5 = (if Z (20 + 20 * i) = 0 then eC (cE M p) i 0 else Z (20 + 20 * i + 11)) → (Z (20 + 20 * i) = 1 → Z (20 + 20 * i + 3) ≤ 0) → eg_W κ gC mtX7_calmSeconds d (eQI κ gC (fun r M1 => clP M p Z most r ∧ M1 = TX M t p nm st Z)) 131 [(0, vR (7, t)), (2, vI y), (3, vI (nI i)), (4, vR (2, 15 * t + i)), (5, vI l5)] [] (TX M t p nm st Z) := by
        intro l5 e5 hl
        refine vX7_calmSeconds_131 hd _ ht _ _ (by omega) _ ?_
        rw [T2_0 _ _ _ _ _ _ (by omega), T7_1]
        refine ⟨fun c x2 e2 => on y x2 e2 (Int.le_refl _) ⟨fun q => Or.inl (hl q), fun q => absurd c q⟩, fun c => ⟨fun c2 x4 e4 => on y x4 e4 (Int.le_refl _) ⟨fun q => absurd q c, fun _ => Or.inl ?_⟩, fun c2 x5 e6 x6 e7 => on x5 x6 e7 ?_ ⟨fun q => absurd q c, fun _ => Or.inr ?_⟩⟩⟩
        · rw [← e5]; exact t_lt.mp c2
        · rw [e6]; exact (min_I _ _).2
        · rw [← e5, e6]
          have c3 : (Z 0).toInt ≤ l5.toInt := by rw [t_lt] at c2; omega
          have l5' := Int32.toInt_lt l5
          have l5'' : l5.toInt < 2147483648 := by omega
          have := (min_I (l5 - Z 0) y).1
          rw [t_sub (by omega) (by omega)] at this
          exact this
      have k99 : ∀ s0 : Int32, s0 = (if Z (20 + 20 * i) = 0 then eC (cE M p) i 0 else Z (20 + 20 * i + 11)) → eg_W κ gC mtX7_calmSeconds d (eQI κ gC (fun r M1 => clP M p Z most r ∧ M1 = TX M t p nm st Z)) 99 [(0, vR (7, t)), (2, vI y), (3, vI (nI i)), (4, vR (2, 15 * t + i))] [vI s0] (TX M t p nm st Z) := by
        intro s0 e0
        refine vX7_calmSeconds_99 hd _ ht _ _ (by omega) _ ?_
        rw [T2_0 _ _ _ _ _ _ (by omega), T2_4 _ _ _ _ _ _ (by omega)]
        refine ⟨fun c => k131 _ e0 (fun q => absurd q c), fun c => ⟨fun c2 => k131 _ e0 (fun _ => c2), fun c2 x3 e3 x4 e4 => on x3 x4 e4 ?_ ⟨fun _ => Or.inr ?_, fun q => absurd c q⟩⟩⟩
        · rw [e3]; exact (min_I _ _).2
        · rw [e3]; exact (min_I _ _).1
      refine vX7_calmSeconds_52 _ ht _ _ ⟨p, hp2, hT, fun c => ?_, fun c => ?_⟩
      · rw [T5, eP'] at c
        exact absurd c (nI_ge hi (by omega))
      · rw [nI_t (by omega), T2_0 _ _ _ _ _ _ (by omega), T2_6 _ _ _ _ _ _ (by omega), T0]
        refine ⟨nI_in' (by omega) (by omega), fun c2 => k99 _ (by rw [if_neg c2]), fun c2 => k99 _ (by rw [if_pos c2, ec0])⟩
    · refine vX7_calmSeconds_52 _ ht _ _ ⟨p, hp2, hT, fun _ => ⟨⟨by omega, fun s hs2 => (hs s hs2).imp_right (fun r => by omega), hg⟩, rfl⟩, fun c => ?_⟩
      rw [T5, eP'] at c
      exact absurd (Int32.le_refl _) c
  refine eg_down (P := fun i => ∀ y : Int32, y.toInt ≤ most.toInt → (∀ s, s < i → Z (320 + 8 * s + 2) = -1 ∨ y.toInt ≤ (Z (320 + 8 * s + 2)).toInt - (Z 0).toInt) → eg_W κ gC mtX7_calmSeconds d (eQI κ gC (fun r M1 => clP M p Z most r ∧ M1 = TX M t p nm st Z)) 4 [(0, vR (7, t)), (2, vI y), (3, vI (nI i))] [] (TX M t p nm st Z)) (cN M p) (fun i hi k y hy hg => ?_) (fun y hy hg => ?_) most (Int.le_refl _) (fun g hg => absurd hg (Nat.not_lt_zero _))
  · have on : ∀ z w : Int32, w = nI i + 1 → z.toInt ≤ y.toInt → (Z (320 + 8 * i + 2) = -1 ∨ z.toInt ≤ (Z (320 + 8 * i + 2)).toInt - (Z 0).toInt) → eg_W κ gC mtX7_calmSeconds d (eQI κ gC (fun r M1 => clP M p Z most r ∧ M1 = TX M t p nm st Z)) 4 [(0, vR (7, t)), (2, vI z), (3, vI w)] [] (TX M t p nm st Z) := by
      intro z w ew hz hz2
      rw [ew, (nAl i).2.1]
      refine k z (by omega) (fun g hg2 => ?_)
      by_cases e : g = i
      · rw [e]; exact hz2
      · exact (hg g (by omega)).imp_right (fun r => by omega)
    refine vX7_calmSeconds_4 hd _ ht _ _ ⟨p, hp2, hT, fun c => ?_, fun c => ?_⟩
    · rw [T5, en] at c
      exact absurd c (nI_ge hi (by omega))
    · rw [nI_t (by omega), T4_2 _ _ _ _ _ _ (by omega), T7_1]
      refine ⟨nI_in' (by omega) (by omega), fun x4 e4 => ⟨fun c2 x6 e6 => on y x6 e6 (Int.le_refl _) (Or.inl (e4 ▸ c2)), fun c2 x7 e7 x8 e8 => on x7 x8 e8 ?_ (Or.inr ?_)⟩⟩
      · rw [e7]; exact (min_I _ _).2
      · have h1 := hdue i hi
        rw [← e4] at h1 ⊢
        have := (min_I (x4 - Z 0) y).1
        have l5' := Int32.toInt_lt x4
        rw [← e7, t_sub (by omega) (by omega)] at this
        exact this
  · refine vX7_calmSeconds_4 hd _ ht _ _ ⟨p, hp2, hT, fun _ => k52 y hy hg, fun c => ?_⟩
    rw [T5, en] at c
    exact absurd (Int32.le_refl _) c
end
