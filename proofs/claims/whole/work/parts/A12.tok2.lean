/-! SIGNS READ -/
def sgK (b x : Int32) : Int32 := if b = 40 then 34 else if b = 41 then 35 else if b = 42 then 26 else if b = 43 then 24 else if b = 45 then 25 else if b = 47 then 27 else if b = 59 then 36 else if b = 60 then (if ¬ x = 61 then (if ¬ x = 62 then 28 else 31) else 29) else if b = 61 then 30 else if b = 62 then (if ¬ x = 61 then 33 else 32) else 40
def twK (k : Int32) : Nat := if k = 29 ∨ k = 31 ∨ k = 32 then 2 else 1
theorem sX9_readSign {κ : eg_K} {d : Nat} (M : eg_H) {n p : Nat} (h1 : M.1 (9, 0) 1 = nI n) (hn : n ≤ 800) (h2 : M.1 (9, 0) 2 = nI p) (hp : p < n) {x : Int32} (hx : x = if n ≤ p + 1 then 0 else M.1 (50, 0) (p + 1)) : eg_S κ gC mtX9_readSign d [vR (9, 0)] M (eQV κ gC (fun X => X = sI (sI M (9, 0) 3 (nI (p + twK (sgK (M.1 (50, 0) p) x)))) (9, 0) 4 (sgK (M.1 (50, 0) p) x))) := by
  have k285 : ∀ k : Int32, sgK (M.1 (50, 0) p) x = k → eg_W κ gC mtX9_readSign d (eQV κ gC (fun X => X = sI (sI M (9, 0) 3 (nI (p + twK (sgK (M.1 (50, 0) p) x)))) (9, 0) 4 (sgK (M.1 (50, 0) p) x))) 285 [(0, vR (9, 0))] [] (sI (sI M (9, 0) 3 (nI (p + 1))) (9, 0) 4 k) := by
    intro k hk
    rw [hk]
    have g2 : (sI (sI M (9, 0) 3 (nI (p + 1))) (9, 0) 4 k).1 (9, 0) 2 = nI p := by rw [sI_9, if_neg (by decide), sI_9, if_neg (by decide), h2]
    have two : (k = 29 ∨ k = 31 ∨ k = 32) → eg_W κ gC mtX9_readSign d (eQV κ gC (fun X => X = sI (sI M (9, 0) 3 (nI (p + twK k))) (9, 0) 4 k)) 312 [(0, vR (9, 0))] [] (sI (sI M (9, 0) 3 (nI (p + 1))) (9, 0) 4 k) := by
      intro h
      refine vX9_readSign_312 _ (fun M1 e1 => ?_)
      show M1 = _
      have et : twK k = 2 := if_pos h
      rw [e1, g2, (nAl p).2.2.1, et, sI_comm _ _ (show (4 : Nat) ≠ 3 by decide), sI_sI]
    refine vX9_readSign_285 _ ?_
    rw [sI_9, if_pos rfl]
    refine ⟨fun c => two (Or.inl c), fun c => ⟨fun c2 => two (Or.inr (Or.inl c2)), fun c2 => ⟨fun c3 => ?_, fun c3 => two (Or.inr (Or.inr c3))⟩⟩⟩
    have et : twK k = 1 := if_neg (by rintro (z | z | z); exact c z; exact c2 z; exact c3 z)
    rw [et]
  refine eg_S.of rfl (Nat.le_of_ble_eq_true rfl) (vX9_readSign_0 M ?_)
  rw [h1, h2, nI_1, nI_t (by omega)]
  refine ⟨fun c => ?_, fun x2 e2 M3 e3 => ?_⟩
  · have : ¬ n ≤ p + 1 := fun z => c (nI_le z (by omega))
    exact nI_in' (by omega) (by omega)
  · have ex : x2 = x := by
      rw [e2, hx]
      by_cases c : n ≤ p + 1
      · rw [if_pos c, if_pos (nI_le c (by omega))]
      · rw [if_neg c, if_neg (fun z => c ((nI_le' (by omega) (by omega)).mp z))]
    have g2 : M3.1 (9, 0) 2 = nI p := by rw [e3, sI_9, if_neg (by decide), h2]
    have g50 : M3.1 (50, 0) = M.1 (50, 0) := by rw [e3, sI_ne (by decide)]
    rw [ex, g2, nI_t (by omega), g50]
    refine ⟨nI_in' (by omega) (by omega), fun c0 c1 c2 c3 c4 c5 c6 c7 c8 c9 => ?_, fun c M5 e5 => ?_, fun c M5 e5 => ?_, fun c M5 e5 => ?_, fun c M5 e5 => ?_, fun c M5 e5 => ?_, fun c M5 e5 => ?_, fun c M5 e5 => ?_, fun c x12 e12 M5 e5 => ?_, fun c M5 e5 => ?_, fun c x12 e12 M5 e5 => ?_⟩
    · refine vX9_readSign_279 _ (fun M1 e1 => ?_)
      rw [e1, e3]
      exact k285 40 (by unfold sgK; rw [if_neg c0, if_neg c1, if_neg c2, if_neg c3, if_neg c4, if_neg c5, if_neg c6, if_neg c7, if_neg c8, if_neg c9])
    · rw [e5, e3]; exact k285 34 (by unfold sgK; rw [c]; rfl)
    · rw [e5, e3]; exact k285 35 (by unfold sgK; rw [c]; rfl)
    · rw [e5, e3]; exact k285 26 (by unfold sgK; rw [c]; rfl)
    · rw [e5, e3]; exact k285 24 (by unfold sgK; rw [c]; rfl)
    · rw [e5, e3]; exact k285 25 (by unfold sgK; rw [c]; rfl)
    · rw [e5, e3]; exact k285 27 (by unfold sgK; rw [c]; rfl)
    · rw [e5, e3]; exact k285 36 (by unfold sgK; rw [c]; rfl)
    · rw [e5, e3]; exact k285 x12 (by unfold sgK; rw [c, e12]; rfl)
    · rw [e5, e3]; exact k285 30 (by unfold sgK; rw [c]; rfl)
    · rw [e5, e3]; exact k285 x12 (by unfold sgK; rw [c, e12]; rfl)
def sgC (m x : Int32) : Int32 := if ¬ m = 61 then (if ¬ m = 60 then (if ¬ x = 61 then 5 else 4) else (if ¬ x = 61 then (if ¬ x = 62 then 0 else 3) else 1)) else 2
def sgB (m : Int32) : Bool := m = 59 || m = 40 || m = 41 || m = 43 || m = 45 || m = 42 || m = 47
def sgT (m x : Int32) : Nat := if m = 60 then (if x = 61 ∨ x = 62 then 2 else 1) else if m = 62 then (if x = 61 then 2 else 1) else 1
theorem sX11_signToken {κ : eg_K} {d : Nat} (B : eg_H) {n p : Nat} (h6 : B.1 (60, 0) 6 = nI n) (hn : n ≤ 800) (h7 : B.1 (60, 0) 7 = nI p) (hp : p < n) {m x : Int32} (hm : B.1 (61, 0) p = m) (hx : x = if n ≤ p + 1 then 0 else B.1 (61, 0) (p + 1)) : eg_S κ gM mtX11_signToken d [vR (60, 0)] B (eQV κ gM (fun X => X = if m = 60 ∨ m = 62 ∨ m = 61 then sI (sI (sI B (60, 0) 7 (nI (p + sgT m x))) (60, 0) 8 5) (60, 0) 9 (sgC m x) else sI (sI (sI B (60, 0) 7 (nI (p + 1))) (60, 0) 8 (if sgB m = true then 4 else 6)) (60, 0) 9 m)) := by
  have k50 : (m = 60 ∨ m = 62 ∨ m = 61) → eg_W κ gM mtX11_signToken d (eQV κ gM (fun X => X = if m = 60 ∨ m = 62 ∨ m = 61 then sI (sI (sI B (60, 0) 7 (nI (p + sgT m x))) (60, 0) 8 5) (60, 0) 9 (sgC m x) else sI (sI (sI B (60, 0) 7 (nI (p + 1))) (60, 0) 8 (if sgB m = true then 4 else 6)) (60, 0) 9 m)) 50 [(0, vR (60, 0))] [] (sI (sI B (60, 0) 9 m) (60, 0) 7 (nI (p + 1))) := by
    intro h
    rw [if_pos h]
    refine vX11_signToken_50 _ ?_
    have q6 : (sI (sI B (60, 0) 9 m) (60, 0) 7 (nI (p + 1))).1 (60, 0) 6 = nI n := by rw [sI_60, if_neg (by decide), sI_60, if_neg (by decide), h6]
    have q7 : (sI (sI B (60, 0) 9 m) (60, 0) 7 (nI (p + 1))).1 (60, 0) 7 = nI (p + 1) := by rw [sI_60, if_pos rfl]
    have q9 : (sI (sI B (60, 0) 9 m) (60, 0) 7 (nI (p + 1))).1 (60, 0) 9 = m := by rw [sI_60, if_neg (by decide), sI_60, if_pos rfl]
    have q61 : (sI (sI B (60, 0) 9 m) (60, 0) 7 (nI (p + 1))).1 (61, 0) = B.1 (61, 0) := by rw [sI_ne (by decide), sI_ne (by decide)]
    rw [q6, q7, q9, q61, nI_t (by omega)]
    refine ⟨fun c => ?_, fun x2 e2 x3 e3 x4 e4 => ?_⟩
    · have : ¬ n ≤ p + 1 := fun z => c (nI_le z (by omega))
      exact nI_in' (by omega) (by omega)
    · have ex : x2 = x := by
        rw [e2, hx]
        by_cases c : n ≤ p + 1
        · rw [if_pos c, if_pos (nI_le c (by omega))]
        · rw [if_neg c, if_neg (fun z => c ((nI_le' (by omega) (by omega)).mp z))]
      rw [ex] at e3 e4
      have one : x3 = 0 → x4 = 0 → sgT m x = 1 ∧ ∀ x8 : Int32, x8 = (if (¬ m = (61 : Int32)) then (if (¬ m = (60 : Int32)) then (if x3 = 0 then (5 : Int32) else (4 : Int32)) else (if x3 = 0 then (if x4 = 0 then (0 : Int32) else (3 : Int32)) else (1 : Int32))) else (2 : Int32)) → x8 = sgC m x := by
        intro z3 z4
        rw [z3] at e3
        rw [z4] at e4
        rw [z3, z4]
        rcases h with h | h | h <;> subst h
        · rw [if_neg (by decide)] at e3
          rw [if_neg (by decide)] at e4
          have a1 : ¬ x = 61 := fun z => by rw [if_neg (fun w => w z)] at e3; exact absurd e3 (by decide)
          have a2 : ¬ x = 62 := fun z => by rw [if_neg (fun w => w z)] at e4; exact absurd e4 (by decide)
          refine ⟨by unfold sgT; rw [if_pos rfl, if_neg (by rintro (z | z); exact a1 z; exact a2 z)], fun x8 e8 => ?_⟩
          rw [e8]; unfold sgC; rw [if_pos (by decide), if_neg (by decide), if_pos rfl, if_pos rfl, if_pos (by decide), if_neg (by decide), if_pos a1, if_pos a2]
        · rw [if_neg (by decide)] at e3
          have a1 : ¬ x = 61 := fun z => by rw [if_neg (fun w => w z)] at e3; exact absurd e3 (by decide)
          refine ⟨by unfold sgT; rw [if_neg (by decide), if_pos rfl, if_neg a1], fun x8 e8 => ?_⟩
          rw [e8]; unfold sgC; rw [if_pos (by decide), if_pos (by decide), if_pos rfl, if_pos (by decide), if_pos (by decide), if_pos a1]
        · exact ⟨by unfold sgT; rw [if_neg (by decide), if_neg (by decide)], fun x8 e8 => by rw [e8]; unfold sgC; rw [if_neg (by decide), if_neg (by decide)]⟩
      have k125 : (¬ x3 = 0 ∨ ¬ x4 = 0) → eg_W κ gM mtX11_signToken d (eQV κ gM (fun X => X = sI (sI (sI B (60, 0) 7 (nI (p + sgT m x))) (60, 0) 8 5) (60, 0) 9 (sgC m x))) 125 [(0, vR (60, 0)), (2, vI x3), (3, vI x4)] [] (sI (sI B (60, 0) 9 m) (60, 0) 7 (nI (p + 1))) := by
        intro hz
        have tw : sgT m x = 2 ∧ ∀ x8 : Int32, x8 = (if (¬ m = (61 : Int32)) then (if (¬ m = (60 : Int32)) then (if x3 = 0 then (5 : Int32) else (4 : Int32)) else (if x3 = 0 then (if x4 = 0 then (0 : Int32) else (3 : Int32)) else (1 : Int32))) else (2 : Int32)) → x8 = sgC m x := by
          rcases h with h | h | h <;> subst h
          · rw [if_neg (by decide)] at e3
            rw [if_neg (by decide)] at e4
            by_cases a1 : x = 61
            · rw [if_neg (fun w => w a1)] at e3
              refine ⟨by unfold sgT; rw [if_pos rfl, if_pos (Or.inl a1)], fun x8 e8 => ?_⟩
              rw [e8, e3]; unfold sgC; rw [if_pos (by decide), if_neg (by decide), if_neg (by decide), if_pos (by decide), if_neg (by decide), if_neg (fun w => w a1)]
            · rw [if_pos a1] at e3
              by_cases a2 : x = 62
              · rw [if_neg (fun w => w a2)] at e4
                refine ⟨by unfold sgT; rw [if_pos rfl, if_pos (Or.inr a2)], fun x8 e8 => ?_⟩
                rw [e8, e3, e4]; unfold sgC; rw [if_pos (by decide), if_neg (by decide), if_pos rfl, if_neg (by decide), if_pos (by decide), if_neg (by decide), if_pos a1, if_neg (fun w => w a2)]
              · rw [if_pos a2] at e4
                rcases hz with hz | hz
                · exact absurd e3 hz
                · exact absurd e4 hz
          · rw [if_neg (by decide)] at e3
            rw [if_pos (by decide)] at e4
            by_cases a1 : x = 61
            · rw [if_neg (fun w => w a1)] at e3
              refine ⟨by unfold sgT; rw [if_neg (by decide), if_pos rfl, if_pos a1], fun x8 e8 => ?_⟩
              rw [e8, e3]; unfold sgC; rw [if_pos (by decide), if_pos (by decide), if_neg (by decide), if_pos (by decide), if_pos (by decide), if_neg (fun w => w a1)]
            · rw [if_pos a1] at e3
              rcases hz with hz | hz
              · exact absurd e3 hz
              · exact absurd e4 hz
          · rw [if_pos rfl] at e3
            rw [if_pos (by decide)] at e4
            rcases hz with hz | hz
            · exact absurd e3 hz
            · exact absurd e4 hz
        refine vX11_signToken_125 _ _ _ (fun M1 e1 M2 e2' x8 e8 M4 e4' => ?_)
        show M4 = _
        have f9 : M2.1 (60, 0) 9 = m := by rw [e2', sI_60, if_neg (by decide), e1, sI_60, if_neg (by decide), sI_60, if_neg (by decide), sI_60, if_pos rfl]
        rw [f9] at e8
        rw [e4', tw.2 x8 e8, e2', e1, sI_60, if_pos rfl, nI_1, sI_sI, tw.1, sI_comm _ _ (show (9 : Nat) ≠ 7 by decide), sI_comm _ _ (show (9 : Nat) ≠ 8 by decide), sI_sI]
      refine ⟨fun c => k125 (Or.inl c), fun c => ⟨fun c2 M7 e7 x8 e8 M9 e9 => ?_, fun c2 => k125 (Or.inr c2)⟩⟩
      obtain ⟨o1, o2⟩ := one c c2
      have f9 : M7.1 (60, 0) 9 = m := by rw [e7, sI_60, if_neg (by decide), sI_60, if_neg (by decide), sI_60, if_pos rfl]
      rw [f9] at e8
      show M9 = _
      rw [e9, o2 x8 e8, e7, o1, sI_comm _ _ (show (9 : Nat) ≠ 7 by decide), sI_comm _ _ (show (9 : Nat) ≠ 8 by decide), sI_sI]
  refine eg_S.of rfl (Nat.le_of_ble_eq_true rfl) (vX11_signToken_0 B ?_)
  rw [h7, nI_t (by omega), hm]
  refine ⟨nI_in' (by omega) (by omega), fun M2 e2 M3 e3 => ?_⟩
  have g7 : M2.1 (60, 0) 7 = nI p := by rw [e2, sI_60, if_neg (by decide), h7]
  rw [g7, nI_1, e2] at e3
  have g9 : M3.1 (60, 0) 9 = m := by rw [e3, sI_60, if_neg (by decide), sI_60, if_pos rfl]
  rw [g9]
  refine ⟨fun c => by rw [e3]; exact k50 (Or.inl c), fun c => ⟨fun c2 => by rw [e3]; exact k50 (Or.inr (Or.inl c2)), fun c2 => ⟨fun c3 x7 e7 x8 e8 M9 e9 => ?_, fun c3 => by rw [e3]; exact k50 (Or.inr (Or.inr c3))⟩⟩⟩
  show M9 = _
  rw [if_neg (by rintro (z | z | z); exact c z; exact c2 z; exact c3 z)]
  have ek : x8 = if sgB m = true then 4 else 6 := by
    rw [e8, e7]
    unfold sgB
    by_cases a1 : m = 59
    · subst a1; decide
    · by_cases a2 : m = 40
      · subst a2; decide
      · by_cases a3 : m = 41
        · subst a3; decide
        · by_cases a4 : m = 43
          · subst a4; decide
          · by_cases a5 : m = 45
            · subst a5; decide
            · by_cases a6 : m = 42
              · subst a6; decide
              · by_cases a7 : m = 47
                · subst a7; decide
                · rw [if_neg a1, if_neg a2, if_neg a3, if_neg a4, if_neg a5, if_neg a6, if_pos a7, if_pos rfl]
                  simp [a1, a2, a3, a4, a5, a6, a7]
  rw [e9, ek, e3, sI_comm _ _ (show (9 : Nat) ≠ 7 by decide), sI_comm _ _ (show (9 : Nat) ≠ 8 by decide)]
