/-! THE CLASS'S TABLE t AS AN ARRAY: the model's layout; 18 the calm flag -/
def gfX (k : Nat) : Nat := match k with
  | 0 => 1 | 1 => 2 | 2 => 3 | 4 => 4 | 5 => 11 | 6 => 12 | 7 => 5 | 8 => 6 | 9 => 7 | 10 => 8 | 11 => 9 | 12 => 10 | _ => 0
def cX (t : Nat) (r : eg_R) (k : Nat) : Nat :=
  if r.1 = 7 then (if r.2 = t then (if k = 1 then 1 else if k = 6 then 2 else if k = 7 then 19 else 0) else 0)
  else if r.1 = 43 then (if r.2 = t ∧ k < 15 then 3 + k else 0)
  else if r.1 = 40 then (if r.2 = t ∧ k < 5 then 361 + k else 0)
  else if r.1 = 4 then (if r.2 / 5 = t ∧ k < 7 then 321 + 8 * (r.2 % 5) + k else 0)
  else if r.1 = 2 then (if r.2 / 15 = t then (if gfX k = 0 then 0 else 20 + 20 * (r.2 % 15) + gfX k) else 0)
  else if r.1 = 22 then (if r.2 / 15 = t ∧ k < 5 then 35 + 20 * (r.2 % 15) + k else 0)
  else 0
theorem gfX_lt (k : Nat) : gfX k < 13 := by
  unfold gfX
  split <;> omega
theorem gfX_inj {j k : Nat} (h : gfX j = gfX k) (h0 : gfX j ≠ 0) : j = k := by
  by_cases hj : j < 13
  · by_cases hk : k < 13
    · have : ∀ a, a < 13 → ∀ b, b < 13 → gfX a = gfX b → gfX a ≠ 0 → a = b := by decide
      exact this j hj k hk h h0
    · exfalso
      apply h0
      rw [h]
      unfold gfX
      split <;> first | rfl | omega
  · exfalso
    apply h0
    unfold gfX
    split <;> first | rfl | omega
theorem cX_inj {t i : Nat} {r z : eg_R} {k j : Nat} (h1 : cX t r k = i + 1) (h2 : cX t z j = i + 1) : z = r ∧ j = k := by
  obtain ⟨a, b⟩ := r
  obtain ⟨c, d⟩ := z
  have g1 := gfX_lt k
  have g2 := gfX_lt j
  have g3 : gfX j = gfX k → gfX j ≠ 0 → j = k := gfX_inj
  suffices h : (c = a ∧ d = b) ∧ j = k by exact ⟨by rw [h.1.1, h.1.2], h.2⟩
  unfold cX at h1 h2
  simp only [] at h1 h2
  generalize gfX k = x at *
  generalize gfX j = y at *
  repeat' split at h1
  all_goals first | (exfalso; omega) | skip
  all_goals (repeat' split at h2)
  all_goals first | (exfalso; omega) | omega | skip
  all_goals (refine ⟨⟨by omega, by omega⟩, g3 (by omega) (by omega)⟩)
def TX (M : eg_H) (t p : Nat) (nm st : Nat → Int64) (Z : Nat → Int32) : eg_H :=
  (fun r k => if cX t r k = 0 then M.1 r k else Z (cX t r k - 1), fun r => if r = (26, p) then nm else if r = (27, p) then st else M.2.1 r, M.2.2)
theorem TX_rd {M : eg_H} {t p : Nat} {nm st : Nat → Int64} {Z : Nat → Int32} {r : eg_R} {k i : Nat} (h : cX t r k = i + 1) : (TX M t p nm st Z).1 r k = Z i := by
  show (if cX t r k = 0 then M.1 r k else Z (cX t r k - 1)) = Z i
  rw [h, if_neg (by omega)]
  rfl
theorem TX_o {M : eg_H} {t p : Nat} {nm st : Nat → Int64} {Z : Nat → Int32} {r : eg_R} {k : Nat} (h : cX t r k = 0) : (TX M t p nm st Z).1 r k = M.1 r k := if_pos h
theorem TX_wr {M : eg_H} {t p : Nat} {nm st : Nat → Int64} {Z : Nat → Int32} {r : eg_R} {k i : Nat} {x : Int32} (h : cX t r k = i + 1) : sI (TX M t p nm st Z) r k x = TX M t p nm st (upd Z i x) := by
  refine eg_ext (fun z j => ?_) (fun _ _ => rfl) (fun _ _ => rfl)
  rw [sI_i]
  by_cases c : z = r ∧ j = k
  · rw [if_pos c, c.1, c.2, TX_rd h]
    exact (pk_us).symm
  · rw [if_neg c]
    show (if cX t z j = 0 then M.1 z j else Z (cX t z j - 1)) = (if cX t z j = 0 then M.1 z j else upd Z i x (cX t z j - 1))
    by_cases c2 : cX t z j = 0
    · rw [if_pos c2, if_pos c2]
    · rw [if_neg c2, if_neg c2, pk_un]
      intro e
      exact c (cX_inj h (by omega))
theorem TX_nm (M : eg_H) (t p : Nat) (nm st : Nat → Int64) (Z : Nat → Int32) : (TX M t p nm st Z).2.1 (26, p) = nm := if_pos rfl
theorem TX_st (M : eg_H) (t p : Nat) (nm st : Nat → Int64) (Z : Nat → Int32) : (TX M t p nm st Z).2.1 (27, p) = st := by
  show (if ((27, p) : eg_R) = (26, p) then nm else if ((27, p) : eg_R) = (27, p) then st else _) = st
  rw [if_neg (by intro e; cases e), if_pos rfl]
theorem TX_nw (M : eg_H) (t p : Nat) (nm st : Nat → Int64) (Z : Nat → Int32) (k : Nat) (x : Int64) : sL (TX M t p nm st Z) (26, p) k x = TX M t p (vp_updL nm k x) st Z := by
  refine eg_ext (fun _ _ => rfl) (fun z j => ?_) (fun _ _ => rfl)
  show (if z = (26, p) ∧ j = k then x else (if z = (26, p) then nm else if z = (27, p) then st else M.2.1 z) j) = (if z = (26, p) then vp_updL nm k x else if z = (27, p) then st else M.2.1 z) j
  by_cases c : z = (26, p)
  · simp only [c, true_and, if_true]
    rfl
  · simp only [c, false_and, if_false]
theorem TX_sw (M : eg_H) (t p : Nat) (nm st : Nat → Int64) (Z : Nat → Int32) (k : Nat) (x : Int64) : sL (TX M t p nm st Z) (27, p) k x = TX M t p nm (vp_updL st k x) Z := by
  refine eg_ext (fun _ _ => rfl) (fun z j => ?_) (fun _ _ => rfl)
  show (if z = (27, p) ∧ j = k then x else (if z = (26, p) then nm else if z = (27, p) then st else M.2.1 z) j) = (if z = (26, p) then nm else if z = (27, p) then vp_updL st k x else M.2.1 z) j
  have n1 : ¬ (((27, p) : eg_R) = (26, p)) := by intro e; cases e
  by_cases c : z = (27, p)
  · subst c
    rw [if_neg n1, if_pos rfl, if_neg n1, if_pos rfl]
    simp only [true_and]
    rfl
  · simp only [c, false_and, if_false]
theorem TX_r (M : eg_H) (t p : Nat) (nm st : Nat → Int64) (Z : Nat → Int32) : (TX M t p nm st Z).2.2 = M.2.2 := rfl
/-- the array of a table -/
def aT (M : eg_H) (t : Nat) : Nat → Int32 := fun i =>
  if i = 0 then M.1 (7, t) 1 else if i = 1 then M.1 (7, t) 6 else if i < 17 then M.1 (43, t) (i - 2) else if i = 18 then M.1 (7, t) 7
  else if 360 ≤ i then M.1 (40, t) (i - 360) else if 320 ≤ i then M.1 (4, 5 * t + (i - 320) / 8) ((i - 320) % 8)
  else (match (i - 20) % 20 with
    | 0 => M.1 (2, 15 * t + (i - 20) / 20) 0 | 1 => M.1 (2, 15 * t + (i - 20) / 20) 1 | 2 => M.1 (2, 15 * t + (i - 20) / 20) 2 | 3 => M.1 (2, 15 * t + (i - 20) / 20) 4
    | 4 => M.1 (2, 15 * t + (i - 20) / 20) 7 | 5 => M.1 (2, 15 * t + (i - 20) / 20) 8 | 6 => M.1 (2, 15 * t + (i - 20) / 20) 9 | 7 => M.1 (2, 15 * t + (i - 20) / 20) 10
    | 8 => M.1 (2, 15 * t + (i - 20) / 20) 11 | 9 => M.1 (2, 15 * t + (i - 20) / 20) 12 | 10 => M.1 (2, 15 * t + (i - 20) / 20) 5 | 11 => M.1 (2, 15 * t + (i - 20) / 20) 6
    | 12 => 0 | 13 => 0 | 19 => 0 | k + 14 => M.1 (22, 15 * t + (i - 20) / 20) k)
theorem aT_g (M : eg_H) (t g k f : Nat) (hg : g < 15) (hf : gfX k = f + 1) : aT M t (20 + 20 * g + f) = M.1 (2, 15 * t + g) k := by
  have h1 := gfX_lt k
  unfold aT
  rw [if_neg (by omega), if_neg (by omega), if_neg (by omega), if_neg (by omega), if_neg (by omega), if_neg (by omega), show (20 + 20 * g + f - 20) % 20 = f by omega, show (20 + 20 * g + f - 20) / 20 = g by omega]
  have e : ∀ j, gfX j = f + 1 → k = j := fun j hj => gfX_inj (by rw [hf, hj]) (by omega)
  rcases (by omega : f = 0 ∨ f = 1 ∨ f = 2 ∨ f = 3 ∨ f = 4 ∨ f = 5 ∨ f = 6 ∨ f = 7 ∨ f = 8 ∨ f = 9 ∨ f = 10 ∨ f = 11) with rfl | rfl | rfl | rfl | rfl | rfl | rfl | rfl | rfl | rfl | rfl | rfl
  · rw [e 0 rfl]
  · rw [e 1 rfl]
  · rw [e 2 rfl]
  · rw [e 4 rfl]
  · rw [e 7 rfl]
  · rw [e 8 rfl]
  · rw [e 9 rfl]
  · rw [e 10 rfl]
  · rw [e 11 rfl]
  · rw [e 12 rfl]
  · rw [e 5 rfl]
  · rw [e 6 rfl]
theorem aT_w (M : eg_H) (t g k : Nat) (hg : g < 15) (hk : k < 5) : aT M t (34 + 20 * g + k) = M.1 (22, 15 * t + g) k := by
  unfold aT
  rw [if_neg (by omega), if_neg (by omega), if_neg (by omega), if_neg (by omega), if_neg (by omega), if_neg (by omega), show (34 + 20 * g + k - 20) % 20 = k + 14 by omega, show (34 + 20 * g + k - 20) / 20 = g by omega]
  rcases (by omega : k = 0 ∨ k = 1 ∨ k = 2 ∨ k = 3 ∨ k = 4) with rfl | rfl | rfl | rfl | rfl <;> rfl
theorem TX_self (M : eg_H) (t p : Nat) : TX M t p (M.2.1 (26, p)) (M.2.1 (27, p)) (aT M t) = M := by
  refine eg_ext (fun r k => ?_) (fun r j => ?_) (fun _ _ => rfl)
  · show (if cX t r k = 0 then M.1 r k else aT M t (cX t r k - 1)) = M.1 r k
    by_cases c : cX t r k = 0
    · rw [if_pos c]
    · rw [if_neg c]
      obtain ⟨a, b⟩ := r
      have g1 := gfX_lt k
      unfold cX at c ⊢
      simp only [] at c ⊢
      by_cases q7 : a = 7
      · subst q7
        simp only [if_true] at c ⊢
        by_cases hb : b = t
        · subst hb
          simp only [if_true] at c ⊢
          by_cases k1 : k = 1
          · subst k1; rfl
          · rw [if_neg k1] at c ⊢
            by_cases k6 : k = 6
            · subst k6; rfl
            · rw [if_neg k6] at c ⊢
              by_cases k7 : k = 7
              · subst k7; rfl
              · rw [if_neg k7] at c; exact absurd rfl c
        · rw [if_neg hb] at c; exact absurd rfl c
      · rw [if_neg q7] at c ⊢
        by_cases q43 : a = 43
        · rw [if_pos q43] at c ⊢
          by_cases hb : b = t ∧ k < 15
          · rw [if_pos hb, q43, hb.1]
            unfold aT
            rw [if_neg (by omega), if_neg (by omega), if_pos (by omega), show 3 + k - 1 - 2 = k by omega]
          · rw [if_neg hb] at c; exact absurd rfl c
        · rw [if_neg q43] at c ⊢
          by_cases q40 : a = 40
          · rw [if_pos q40] at c ⊢
            by_cases hb : b = t ∧ k < 5
            · rw [if_pos hb, q40, hb.1]
              unfold aT
              rw [if_neg (by omega), if_neg (by omega), if_neg (by omega), if_neg (by omega), if_pos (by omega), show 361 + k - 1 - 360 = k by omega]
            · rw [if_neg hb] at c; exact absurd rfl c
          · rw [if_neg q40] at c ⊢
            by_cases q4 : a = 4
            · rw [if_pos q4] at c ⊢
              by_cases hb : b / 5 = t ∧ k < 7
              · rw [if_pos hb, q4]
                unfold aT
                rw [if_neg (by omega), if_neg (by omega), if_neg (by omega), if_neg (by omega), if_neg (by omega), if_pos (by omega), show (321 + 8 * (b % 5) + k - 1 - 320) % 8 = k by omega, show 5 * t + (321 + 8 * (b % 5) + k - 1 - 320) / 8 = b by omega]
              · rw [if_neg hb] at c; exact absurd rfl c
            · rw [if_neg q4] at c ⊢
              by_cases q2 : a = 2
              · rw [if_pos q2] at c ⊢
                by_cases hb : b / 15 = t
                · rw [if_pos hb] at c ⊢
                  by_cases hk : gfX k = 0
                  · rw [if_pos hk] at c; exact absurd rfl c
                  · rw [if_neg hk, q2, show 20 + 20 * (b % 15) + gfX k - 1 = 20 + 20 * (b % 15) + (gfX k - 1) by omega, aT_g M t (b % 15) k (gfX k - 1) (by omega) (by omega), show 15 * t + b % 15 = b by omega]
                · rw [if_neg hb] at c; exact absurd rfl c
              · rw [if_neg q2] at c ⊢
                by_cases q22 : a = 22
                · rw [if_pos q22] at c ⊢
                  by_cases hb : b / 15 = t ∧ k < 5
                  · rw [if_pos hb, q22, show 35 + 20 * (b % 15) + k - 1 = 34 + 20 * (b % 15) + k by omega, aT_w M t (b % 15) k (by omega) hb.2, show 15 * t + b % 15 = b by omega]
                  · rw [if_neg hb] at c; exact absurd rfl c
                · rw [if_neg q22] at c; exact absurd rfl c
  · show (if r = (26, p) then M.2.1 (26, p) else if r = (27, p) then M.2.1 (27, p) else M.2.1 r) j = _
    by_cases c : r = (26, p)
    · rw [if_pos c, c]
    · rw [if_neg c]
      by_cases c2 : r = (27, p)
      · rw [if_pos c2, c2]
      · rw [if_neg c2]
/-! the cells of table t, one lemma a kind -/
theorem cX_7_1 (t : Nat) : cX t (7, t) 1 = 0 + 1 := by simp [cX]
theorem cX_7_6 (t : Nat) : cX t (7, t) 6 = 1 + 1 := by simp [cX]
theorem cX_7_7 (t : Nat) : cX t (7, t) 7 = 18 + 1 := by simp [cX]
theorem cX_43 (t : Nat) {k : Nat} (h : k < 15) : cX t (43, t) k = (2 + k) + 1 := by simp [cX, h]; omega
theorem cX_40 (t : Nat) {k : Nat} (h : k < 5) : cX t (40, t) k = (360 + k) + 1 := by simp [cX, h]; omega
theorem cX_4 (t : Nat) {s k : Nat} (hs : s < 5) (h : k < 7) : cX t (4, 5 * t + s) k = (320 + 8 * s + k) + 1 := by
  have e1 : (5 * t + s) / 5 = t := by omega
  have e2 : (5 * t + s) % 5 = s := by omega
  simp only [cX, e1, e2]
  simp [h]; omega
theorem cX_2 (t : Nat) {g k f : Nat} (hg : g < 15) (h : gfX k = f + 1) : cX t (2, 15 * t + g) k = (20 + 20 * g + f) + 1 := by
  have e1 : (15 * t + g) / 15 = t := by omega
  have e2 : (15 * t + g) % 15 = g := by omega
  simp only [cX, e1, e2, h]
  simp; omega
theorem cX_22 (t : Nat) {g k : Nat} (hg : g < 15) (h : k < 5) : cX t (22, 15 * t + g) k = (20 + 20 * g + 14 + k) + 1 := by
  have e1 : (15 * t + g) / 15 = t := by omega
  have e2 : (15 * t + g) % 15 = g := by omega
  simp only [cX, e1, e2]
  simp [h]; omega
/-! reads -/
section
variable (M : eg_H) (t p : Nat) (nm st : Nat → Int64) (Z : Nat → Int32)
theorem T7_1 : (TX M t p nm st Z).1 (7, t) 1 = Z 0 := TX_rd (cX_7_1 t)
theorem T7_6 : (TX M t p nm st Z).1 (7, t) 6 = Z 1 := TX_rd (cX_7_6 t)
theorem T7_7 : (TX M t p nm st Z).1 (7, t) 7 = Z 18 := TX_rd (cX_7_7 t)
theorem T43 {k : Nat} (h : k < 15) : (TX M t p nm st Z).1 (43, t) k = Z (2 + k) := TX_rd (cX_43 t h)
theorem T40 {k : Nat} (h : k < 5) : (TX M t p nm st Z).1 (40, t) k = Z (360 + k) := TX_rd (cX_40 t h)
theorem T4_0 {s : Nat} (h : s < 5) : (TX M t p nm st Z).1 (4, 5 * t + s) 0 = Z (320 + 8 * s) := TX_rd (cX_4 t h (by decide))
theorem T4_1 {s : Nat} (h : s < 5) : (TX M t p nm st Z).1 (4, 5 * t + s) 1 = Z (320 + 8 * s + 1) := TX_rd (cX_4 t h (by decide))
theorem T4_2 {s : Nat} (h : s < 5) : (TX M t p nm st Z).1 (4, 5 * t + s) 2 = Z (320 + 8 * s + 2) := TX_rd (cX_4 t h (by decide))
theorem T4_3 {s : Nat} (h : s < 5) : (TX M t p nm st Z).1 (4, 5 * t + s) 3 = Z (320 + 8 * s + 3) := TX_rd (cX_4 t h (by decide))
theorem T4_4 {s : Nat} (h : s < 5) : (TX M t p nm st Z).1 (4, 5 * t + s) 4 = Z (320 + 8 * s + 4) := TX_rd (cX_4 t h (by decide))
theorem T4_5 {s : Nat} (h : s < 5) : (TX M t p nm st Z).1 (4, 5 * t + s) 5 = Z (320 + 8 * s + 5) := TX_rd (cX_4 t h (by decide))
theorem T4_6 {s : Nat} (h : s < 5) : (TX M t p nm st Z).1 (4, 5 * t + s) 6 = Z (320 + 8 * s + 6) := TX_rd (cX_4 t h (by decide))
theorem T2_0 {g : Nat} (h : g < 15) : (TX M t p nm st Z).1 (2, 15 * t + g) 0 = Z (20 + 20 * g) := TX_rd (cX_2 t (f := 0) h rfl)
theorem T2_1 {g : Nat} (h : g < 15) : (TX M t p nm st Z).1 (2, 15 * t + g) 1 = Z (20 + 20 * g + 1) := TX_rd (cX_2 t h rfl)
theorem T2_2 {g : Nat} (h : g < 15) : (TX M t p nm st Z).1 (2, 15 * t + g) 2 = Z (20 + 20 * g + 2) := TX_rd (cX_2 t h rfl)
theorem T2_4 {g : Nat} (h : g < 15) : (TX M t p nm st Z).1 (2, 15 * t + g) 4 = Z (20 + 20 * g + 3) := TX_rd (cX_2 t h rfl)
theorem T2_5 {g : Nat} (h : g < 15) : (TX M t p nm st Z).1 (2, 15 * t + g) 5 = Z (20 + 20 * g + 10) := TX_rd (cX_2 t h rfl)
theorem T2_6 {g : Nat} (h : g < 15) : (TX M t p nm st Z).1 (2, 15 * t + g) 6 = Z (20 + 20 * g + 11) := TX_rd (cX_2 t h rfl)
theorem T2_7 {g : Nat} (h : g < 15) : (TX M t p nm st Z).1 (2, 15 * t + g) 7 = Z (20 + 20 * g + 4) := TX_rd (cX_2 t h rfl)
theorem T2_8 {g : Nat} (h : g < 15) : (TX M t p nm st Z).1 (2, 15 * t + g) 8 = Z (20 + 20 * g + 5) := TX_rd (cX_2 t h rfl)
theorem T2_9 {g : Nat} (h : g < 15) : (TX M t p nm st Z).1 (2, 15 * t + g) 9 = Z (20 + 20 * g + 6) := TX_rd (cX_2 t h rfl)
theorem T2_10 {g : Nat} (h : g < 15) : (TX M t p nm st Z).1 (2, 15 * t + g) 10 = Z (20 + 20 * g + 7) := TX_rd (cX_2 t h rfl)
theorem T2_11 {g : Nat} (h : g < 15) : (TX M t p nm st Z).1 (2, 15 * t + g) 11 = Z (20 + 20 * g + 8) := TX_rd (cX_2 t h rfl)
theorem T2_12 {g : Nat} (h : g < 15) : (TX M t p nm st Z).1 (2, 15 * t + g) 12 = Z (20 + 20 * g + 9) := TX_rd (cX_2 t h rfl)
theorem T22 {g k : Nat} (h : g < 15) (hk : k < 5) : (TX M t p nm st Z).1 (22, 15 * t + g) k = Z (20 + 20 * g + 14 + k) := TX_rd (cX_22 t h hk)
theorem T5 (n k : Nat) : (TX M t p nm st Z).1 (5, n) k = M.1 (5, n) k := TX_o rfl
theorem T1 (n k : Nat) : (TX M t p nm st Z).1 (1, n) k = M.1 (1, n) k := TX_o rfl
theorem T0 (n k : Nat) : (TX M t p nm st Z).1 (0, n) k = M.1 (0, n) k := TX_o rfl
theorem T20 (n k : Nat) : (TX M t p nm st Z).1 (20, n) k = M.1 (20, n) k := TX_o rfl
theorem T35 (n k : Nat) : (TX M t p nm st Z).1 (35, n) k = M.1 (35, n) k := TX_o rfl
theorem T3 (n k : Nat) : (TX M t p nm st Z).1 (3, n) k = M.1 (3, n) k := TX_o rfl
theorem T23 (n k : Nat) : (TX M t p nm st Z).1 (23, n) k = M.1 (23, n) k := TX_o rfl
theorem T24 (n k : Nat) : (TX M t p nm st Z).1 (24, n) k = M.1 (24, n) k := TX_o rfl
theorem T25 (n k : Nat) : (TX M t p nm st Z).1 (25, n) k = M.1 (25, n) k := TX_o rfl
/-! writes -/
theorem W7_1 (x : Int32) : sI (TX M t p nm st Z) (7, t) 1 x = TX M t p nm st (upd Z 0 x) := TX_wr (cX_7_1 t)
theorem W7_6 (x : Int32) : sI (TX M t p nm st Z) (7, t) 6 x = TX M t p nm st (upd Z 1 x) := TX_wr (cX_7_6 t)
theorem W7_7 (x : Int32) : sI (TX M t p nm st Z) (7, t) 7 x = TX M t p nm st (upd Z 18 x) := TX_wr (cX_7_7 t)
theorem W43 {k : Nat} (h : k < 15) (x : Int32) : sI (TX M t p nm st Z) (43, t) k x = TX M t p nm st (upd Z (2 + k) x) := TX_wr (cX_43 t h)
theorem W40 {k : Nat} (h : k < 5) (x : Int32) : sI (TX M t p nm st Z) (40, t) k x = TX M t p nm st (upd Z (360 + k) x) := TX_wr (cX_40 t h)
theorem W4_0 {s : Nat} (h : s < 5) (x : Int32) : sI (TX M t p nm st Z) (4, 5 * t + s) 0 x = TX M t p nm st (upd Z (320 + 8 * s) x) := TX_wr (cX_4 t h (by decide))
theorem W4_1 {s : Nat} (h : s < 5) (x : Int32) : sI (TX M t p nm st Z) (4, 5 * t + s) 1 x = TX M t p nm st (upd Z (320 + 8 * s + 1) x) := TX_wr (cX_4 t h (by decide))
theorem W4_2 {s : Nat} (h : s < 5) (x : Int32) : sI (TX M t p nm st Z) (4, 5 * t + s) 2 x = TX M t p nm st (upd Z (320 + 8 * s + 2) x) := TX_wr (cX_4 t h (by decide))
theorem W4_3 {s : Nat} (h : s < 5) (x : Int32) : sI (TX M t p nm st Z) (4, 5 * t + s) 3 x = TX M t p nm st (upd Z (320 + 8 * s + 3) x) := TX_wr (cX_4 t h (by decide))
theorem W4_4 {s : Nat} (h : s < 5) (x : Int32) : sI (TX M t p nm st Z) (4, 5 * t + s) 4 x = TX M t p nm st (upd Z (320 + 8 * s + 4) x) := TX_wr (cX_4 t h (by decide))
theorem W4_5 {s : Nat} (h : s < 5) (x : Int32) : sI (TX M t p nm st Z) (4, 5 * t + s) 5 x = TX M t p nm st (upd Z (320 + 8 * s + 5) x) := TX_wr (cX_4 t h (by decide))
theorem W4_6 {s : Nat} (h : s < 5) (x : Int32) : sI (TX M t p nm st Z) (4, 5 * t + s) 6 x = TX M t p nm st (upd Z (320 + 8 * s + 6) x) := TX_wr (cX_4 t h (by decide))
theorem W2_0 {g : Nat} (h : g < 15) (x : Int32) : sI (TX M t p nm st Z) (2, 15 * t + g) 0 x = TX M t p nm st (upd Z (20 + 20 * g) x) := TX_wr (cX_2 t (f := 0) h rfl)
theorem W2_1 {g : Nat} (h : g < 15) (x : Int32) : sI (TX M t p nm st Z) (2, 15 * t + g) 1 x = TX M t p nm st (upd Z (20 + 20 * g + 1) x) := TX_wr (cX_2 t h rfl)
theorem W2_2 {g : Nat} (h : g < 15) (x : Int32) : sI (TX M t p nm st Z) (2, 15 * t + g) 2 x = TX M t p nm st (upd Z (20 + 20 * g + 2) x) := TX_wr (cX_2 t h rfl)
theorem W2_4 {g : Nat} (h : g < 15) (x : Int32) : sI (TX M t p nm st Z) (2, 15 * t + g) 4 x = TX M t p nm st (upd Z (20 + 20 * g + 3) x) := TX_wr (cX_2 t h rfl)
theorem W2_5 {g : Nat} (h : g < 15) (x : Int32) : sI (TX M t p nm st Z) (2, 15 * t + g) 5 x = TX M t p nm st (upd Z (20 + 20 * g + 10) x) := TX_wr (cX_2 t h rfl)
theorem W2_6 {g : Nat} (h : g < 15) (x : Int32) : sI (TX M t p nm st Z) (2, 15 * t + g) 6 x = TX M t p nm st (upd Z (20 + 20 * g + 11) x) := TX_wr (cX_2 t h rfl)
theorem W2_7 {g : Nat} (h : g < 15) (x : Int32) : sI (TX M t p nm st Z) (2, 15 * t + g) 7 x = TX M t p nm st (upd Z (20 + 20 * g + 4) x) := TX_wr (cX_2 t h rfl)
theorem W2_8 {g : Nat} (h : g < 15) (x : Int32) : sI (TX M t p nm st Z) (2, 15 * t + g) 8 x = TX M t p nm st (upd Z (20 + 20 * g + 5) x) := TX_wr (cX_2 t h rfl)
theorem W2_9 {g : Nat} (h : g < 15) (x : Int32) : sI (TX M t p nm st Z) (2, 15 * t + g) 9 x = TX M t p nm st (upd Z (20 + 20 * g + 6) x) := TX_wr (cX_2 t h rfl)
theorem W2_10 {g : Nat} (h : g < 15) (x : Int32) : sI (TX M t p nm st Z) (2, 15 * t + g) 10 x = TX M t p nm st (upd Z (20 + 20 * g + 7) x) := TX_wr (cX_2 t h rfl)
theorem W2_11 {g : Nat} (h : g < 15) (x : Int32) : sI (TX M t p nm st Z) (2, 15 * t + g) 11 x = TX M t p nm st (upd Z (20 + 20 * g + 8) x) := TX_wr (cX_2 t h rfl)
theorem W2_12 {g : Nat} (h : g < 15) (x : Int32) : sI (TX M t p nm st Z) (2, 15 * t + g) 12 x = TX M t p nm st (upd Z (20 + 20 * g + 9) x) := TX_wr (cX_2 t h rfl)
theorem W22 {g k : Nat} (h : g < 15) (hk : k < 5) (x : Int32) : sI (TX M t p nm st Z) (22, 15 * t + g) k x = TX M t p nm st (upd Z (20 + 20 * g + 14 + k) x) := TX_wr (cX_22 t h hk)
end
