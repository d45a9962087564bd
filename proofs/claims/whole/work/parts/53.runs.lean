/-! THE MODEL'S RUNS -/
theorem putR_in {U f : Nat → Int32} {a n k : Nat} (h : k < n) : putR U f a n (a + k) = f k := by
  unfold putR
  rw [if_pos (by omega), show a + k - a = k by omega]
theorem putR_out {U f : Nat → Int32} {a n j : Nat} (h : j < a ∨ a + n ≤ j) : putR U f a n j = U j := if_neg (by omega)
def clrB (M : eg_H) : eg_H := sI (sI (sI (sI (sI (sI (sI (sI M (60, 0) 52 (-1)) (60, 0) 53 (-1)) (60, 0) 55 (-1)) (60, 0) 57 (-1)) (60, 0) 59 0) (60, 0) 60 (M.1 (60, 0) 16)) (60, 0) 61 0) (60, 0) 62 (-1)
def fX11_clears (M : eg_H) : eg_H := sW (sW (clrB M) (125, 0) (cpT (fun _ => 0) (M.1 (125, 0)) 15)) (126, 0) (cpT (M.1 (112, 0)) (M.1 (126, 0)) 5)
def gX11_clears (M : eg_H) : Prop := M.1 (60, 0) 16 = 0 ∨ M.1 (60, 0) 16 = 1
theorem clrB_o (M : eg_H) {r : eg_R} (h : r ≠ (60, 0)) : (clrB M).1 r = M.1 r := by
  unfold clrB
  rw [sI_ne h, sI_ne h, sI_ne h, sI_ne h, sI_ne h, sI_ne h, sI_ne h, sI_ne h]
theorem sX11_clears {κ : eg_K} {d : Nat} (hd : 0 ≤ d) (M : eg_H) (hg : gX11_clears M) : eg_S κ gM mtX11_clears d [vR (60, 0)] M (eQV κ gM (fun M1 => M1 = fX11_clears M)) := by
  have e16 : (sI (sI (sI (sI (sI M (60, 0) 52 (-1)) (60, 0) 53 (-1)) (60, 0) 55 (-1)) (60, 0) 57 (-1)) (60, 0) 59 0).1 (60, 0) 16 = M.1 (60, 0) 16 := by simp only [sI_i]; rfl
  refine eg_S.of rfl (Nat.le_of_ble_eq_true rfl) (vX11_clears_0 M ?_)
  intro M1 e1 M2 e2 M3 e3 M4 e4 M5 e5
  subst e1 e2 e3 e4 e5
  rw [e16]
  refine ⟨hg, fun M6 e6 M8 e8 M9 e9 => ?_⟩
  have eB : M9 = clrB M := by rw [e9, e8, e6]; rfl
  clear e6 e8 e9
  subst eB
  have f66 : eg_W κ gM mtX11_clears d (eQV κ gM (fun M1 => M1 = fX11_clears M)) 66 [(0, vR (60, 0)), (1, vI (0 : Int32))] [] (sW (clrB M) (125, 0) (cpT (fun _ => 0) (M.1 (125, 0)) 15)) := by
    have f0 := eg_down (P := fun i => eg_W κ gM mtX11_clears d (eQV κ gM (fun M1 => M1 = fX11_clears M)) 66 [(0, vR (60, 0)), (1, vI (nI i))] [] (sW (sW (clrB M) (125, 0) (cpT (fun _ => 0) (M.1 (125, 0)) 15)) (126, 0) (cpT (M.1 (112, 0)) (M.1 (126, 0)) i))) 5 (fun i hi k => ?_) ?_
    · have e : sW (sW (clrB M) (125, 0) (cpT (fun _ => 0) (M.1 (125, 0)) 15)) (126, 0) (cpT (M.1 (112, 0)) (M.1 (126, 0)) 0) = sW (clrB M) (125, 0) (cpT (fun _ => 0) (M.1 (125, 0)) 15) := by
        rw [cpT_0]
        have := sW_self (sW (clrB M) (125, 0) (cpT (fun _ => 0) (M.1 (125, 0)) 15)) (126, 0)
        rw [sW_ne _ _ (by decide), clrB_o _ (by decide)] at this
        exact this
      rw [e] at f0
      exact f0
    · refine vX11_clears_66 _ _ ⟨fun c => absurd (show nI 5 ≤ nI i from c) (nI_ge hi (by decide)), fun _ => ?_⟩
      rw [nI_t (by omega), sW_ne _ _ (by decide), sW_ne _ _ (by decide), clrB_o _ (by decide)]
      refine ⟨nI_in' (by omega) (by omega), fun M4 e4 x5 e5 => ?_⟩
      subst e4; subst e5
      rw [nI_1, sI_sW, cpT_s]
      exact k
    · exact vX11_clears_66 _ _ ⟨fun _ => rfl, fun c => absurd (by decide) c⟩
  have f0 := eg_down (P := fun i => eg_W κ gM mtX11_clears d (eQV κ gM (fun M1 => M1 = fX11_clears M)) 45 [(0, vR (60, 0)), (1, vI (nI i))] [] (sW (clrB M) (125, 0) (cpT (fun _ => 0) (M.1 (125, 0)) i))) 15 (fun i hi k => ?_) ?_
  · have e : sW (clrB M) (125, 0) (cpT (fun _ => 0) (M.1 (125, 0)) 0) = clrB M := by
      rw [cpT_0]
      have := sW_self (clrB M) (125, 0)
      rw [clrB_o _ (by decide)] at this
      exact this
    rw [e] at f0
    exact f0
  · refine vX11_clears_45 _ _ ⟨fun c => absurd (show nI 15 ≤ nI i from c) (nI_ge hi (by decide)), fun _ => ?_⟩
    rw [nI_t (by omega)]
    refine ⟨nI_in' (by omega) (by omega), fun M4 e4 x5 e5 => ?_⟩
    subst e4; subst e5
    rw [nI_1, sI_sW, cpT_s (fun _ => 0)]
    exact k
  · exact vX11_clears_45 _ _ ⟨fun _ => f66, fun c => absurd (by decide) c⟩
/-- a run's beginning -/
def pB (M : eg_H) (s : Nat) (Y : Nat → Int32) : Nat → Int32 := upd (upd Y (320 + 8 * s) (dM M s 2)) (320 + 8 * s + 2) (-1)
def gB (M : eg_H) (g : Nat) (Y : Nat → Int32) : Nat → Int32 :=
  putR (upd (upd (upd (upd (upd Y (20 + 20 * g) (if ¬ nI g = M.1 (60, 0) 52 then 0 else 3)) (20 + 20 * g + 1) (-1)) (20 + 20 * g + 2) (fX11_sizeOf M (nI g))) (20 + 20 * g + 11) (coM M g)) (20 + 20 * g + 12) (coM M g)) (fun k => M.1 (93, 0) (5 * g + k)) (20 + 20 * g + 14) 5
def begM (M : eg_H) : Nat → Int32 := putR (itr (pB M) (nM M) (itr (gB M) (NM M) (cpT (fun _ => 0) (M.1 (110, 0)) 366))) (M.1 (126, 0)) 360 5
def fX11_begins (M : eg_H) : eg_H := sW M (110, 0) (begM M)
def gX11_begins (M : eg_H) : Prop := vp_in (M.1 (60, 0) 12) 6 ∧ vp_in (fX11_everybody M) 16
theorem co_e (x : Int32) : (if x ≤ (3599 : Int32) then x else 3599) = if 3599 < x then 3599 else x := by
  by_cases c : x ≤ 3599
  · rw [if_pos c, if_neg]
    rw [t_lt]
    rw [t_le] at c
    omega
  · rw [if_neg c, if_pos]
    rw [t_lt]
    rw [t_le] at c
    omega
theorem sX11_begins {κ : eg_K} {d : Nat} (hd : 2 ≤ d) (M : eg_H) (hg : gX11_begins M) : eg_S κ gM mtX11_begins d [vR (60, 0)] M (eQV κ gM (fun M1 => M1 = fX11_begins M)) := by
  obtain ⟨h12, hev⟩ := hg
  obtain ⟨en, hn⟩ : M.1 (60, 0) 12 = nI (nM M) ∧ nM M < 6 := nI_of' h12 (by omega)
  obtain ⟨eN2, hN⟩ : fX11_everybody M = nI (NM M) ∧ NM M < 16 := nI_of' hev (by omega)
  have ev : ∀ Y, fX11_everybody (sW M (110, 0) Y) = fX11_everybody M := fun Y => by unfold fX11_everybody; rw [(sYo M Y).1]
  have k234 : ∀ Y, putR Y (M.1 (126, 0)) 360 5 = begM M → eg_W κ gM mtX11_begins d (eQV κ gM (fun M1 => M1 = fX11_begins M)) 234 [(0, vR (60, 0)), (1, vI (0 : Int32))] [] (sW M (110, 0) Y) := by
    intro Y eY
    have f0 := eg_down (P := fun i => eg_W κ gM mtX11_begins d (eQV κ gM (fun M1 => M1 = fX11_begins M)) 234 [(0, vR (60, 0)), (1, vI (nI i))] [] (sW M (110, 0) (putR Y (M.1 (126, 0)) 360 i))) 5 (fun i hi k => ?_) ?_
    · rw [putR_0] at f0
      exact f0
    · refine vX11_begins_234 _ _ ⟨fun c => absurd (show nI 5 ≤ nI i from c) (nI_ge hi (by decide)), fun _ => ?_⟩
      simp only [nAr]
      rw [nI_t (by omega), nI_t (by omega), sW_ne _ _ (by decide)]
      refine ⟨nI_in' (by omega) (by omega), nI_in' (by omega) (by omega), fun M4 e4 x5 e5 => ?_⟩
      subst e4; subst e5
      rw [nI_1, sI_sW, putR_s]
      exact k
    · refine vX11_begins_234 _ _ ⟨fun _ => ?_, fun c => absurd (by decide) c⟩
      show sW M (110, 0) _ = fX11_begins M
      rw [eY]
      rfl
  have k179 : ∀ Y, putR (itr (pB M) (nM M) Y) (M.1 (126, 0)) 360 5 = begM M → eg_W κ gM mtX11_begins d (eQV κ gM (fun M1 => M1 = fX11_begins M)) 179 [(0, vR (60, 0)), (1, vI (0 : Int32))] [] (sW M (110, 0) Y) := by
    intro Y eY
    refine eg_down (P := fun i => eg_W κ gM mtX11_begins d (eQV κ gM (fun M1 => M1 = fX11_begins M)) 179 [(0, vR (60, 0)), (1, vI (nI i))] [] (sW M (110, 0) (itr (pB M) i Y))) (nM M) (fun i hi k => ?_) ?_
    · rw [itr_s] at k
      generalize itr (pB M) i Y = Z at k ⊢
      refine vX11_begins_179 hd _ _ ?_
      rw [(sYo M Z).1, en]
      refine ⟨fun c => absurd c (nI_ge hi (by omega)), fun _ => ?_⟩
      have k213 : ∀ s0, s0 = dM M i 2 → eg_W κ gM mtX11_begins d (eQV κ gM (fun M1 => M1 = fX11_begins M)) 213 [(0, vR (60, 0)), (1, vI (nI i))] [vI s0, vI (nI (320 + 8 * i)), vR (110, 0)] (sW M (110, 0) Z) := by
        intro s0 es
        subst es
        refine vX11_begins_213 (by omega) _ _ _ _ ?_
        simp (disch := omega) only [forall_eq, pan_n, nAl, nI_t, vpi, sI_sW]
        exact ⟨by omega, by omega, k⟩
      have eh : fX11_has (sW M (110, 0) Z) (nI i) 2 = M.1 (89, 0) (6 * i + 2) := by
        have := has_n (sW M (110, 0) Z) i 2 (by omega) (by omega)
        rw [(sYo M Z).2.1] at this
        exact this
      have gh : gX11_has (sW M (110, 0) Z) (nI i) 2 := ghas_n _ i 2 (by omega)
      have ed : dM M i 2 = if M.1 (89, 0) (6 * i + 2) < 0 then 0 else if ¬ nI i = M.1 (60, 0) 57 then M.1 (89, 0) (6 * i + 2) else M.1 (60, 0) 58 := rfl
      simp only [forall_eq, pan_n]
      rw [eh]
      refine ⟨gh, fun c => ⟨fun _ => gh, k213 _ ?_⟩, fun c => k213 _ ?_⟩
      · unfold fX11_portionsOf
        have hng : ¬ M.1 (89, 0) (6 * i + 2) < 0 := by
          rw [t_lt]
          rw [t_le] at c
          omega
        rw [eh, (sYo M Z).1, ed, if_neg hng]
      · rw [ed, if_pos]
        rw [t_lt]
        rw [t_le] at c
        omega
    · refine vX11_begins_179 hd _ _ ?_
      rw [(sYo M _).1, en]
      exact ⟨fun _ => k234 _ eY, fun c => absurd (nI_le (Nat.le_refl _) (by omega)) c⟩
  have k24 : ∀ Y, putR (itr (pB M) (nM M) (itr (gB M) (NM M) Y)) (M.1 (126, 0)) 360 5 = begM M → eg_W κ gM mtX11_begins d (eQV κ gM (fun M1 => M1 = fX11_begins M)) 24 [(0, vR (60, 0)), (1, vI (0 : Int32))] [] (sW M (110, 0) Y) := by
    intro Y eY
    refine eg_down (P := fun i => eg_W κ gM mtX11_begins d (eQV κ gM (fun M1 => M1 = fX11_begins M)) 24 [(0, vR (60, 0)), (1, vI (nI i))] [] (sW M (110, 0) (itr (gB M) i Y))) (NM M) (fun i hi k => ?_) ?_
    · rw [itr_s] at k
      generalize itr (gB M) i Y = Z at k ⊢
      refine vX11_begins_24 (by omega) _ _ ?_
      rw [ev, eN2]
      simp (disch := omega) only [forall_eq, at_n, nAl, nI_t, vpi, sI_sW, sW_at, pk_us]
      refine ⟨fun c => absurd c (nI_ge hi (by omega)), fun _ => ⟨by omega, by omega, by omega, by omega, fun _ => nI_in' (by omega) (by omega), by omega, by omega, by omega, ?_⟩⟩
      rw [sz_Y, (sYo M Z).1, (sYo M Z).2.2.1, (sYo M Z).2.2.2.2.2.2.2.1, co_e]
      have f0 := eg_down (P := fun j => eg_W κ gM mtX11_begins d (eQV κ gM (fun M1 => M1 = fX11_begins M)) 136 [(0, vR (60, 0)), (1, vI (nI i)), (2, vI (nI (20 + 20 * i))), (4, vI (nI j))] [] (sW M (110, 0) (putR (upd (upd (upd (upd (upd Z (20 + 20 * i) (if ¬ nI i = M.1 (60, 0) 52 then 0 else 3)) (20 + 20 * i + 1) (-1)) (20 + 20 * i + 2) (fX11_sizeOf M (nI i))) (20 + 20 * i + 11) (coM M i)) (20 + 20 * i + 12) (coM M i)) (fun k => M.1 (93, 0) (5 * i + k)) (20 + 20 * i + 14) j))) 5 (fun j hj k2 => ?_) ?_
      · rw [putR_0] at f0
        exact f0
      · refine vX11_begins_136 _ _ _ _ ⟨fun c => absurd (show nI 5 ≤ nI j from c) (nI_ge hj (by decide)), fun _ => ?_⟩
        simp (disch := omega) only [forall_eq, nAl, nMl, nI_add, nI_t, vpi, sI_sW]
        refine ⟨by omega, by omega, ?_⟩
        rw [sW_ne _ _ (by decide), putR_s (f := fun k => M.1 (93, 0) (5 * i + k))]
        exact k2
      · refine vX11_begins_136 _ _ _ _ ⟨fun _ x2 e2 => ?_, fun c => absurd (by decide) c⟩
        rw [e2, nI_1]
        exact k
    · refine vX11_begins_24 (by omega) _ _ (fun x2 e2 => ?_)
      rw [ev, eN2] at e2
      subst e2
      exact ⟨fun _ => k179 _ eY, fun c => absurd (nI_le (Nat.le_refl _) (by omega)) c⟩
  refine eg_S.of rfl (Nat.le_of_ble_eq_true rfl) (vX11_begins_0 _ ?_)
  have f0 := eg_down (P := fun i => eg_W κ gM mtX11_begins d (eQV κ gM (fun M1 => M1 = fX11_begins M)) 2 [(0, vR (60, 0)), (1, vI (nI i))] [] (sW M (110, 0) (cpT (fun _ => 0) (M.1 (110, 0)) i))) 366 (fun i hi k => ?_) ?_
  · rw [cpT_0, sW_self] at f0
    exact f0
  · refine vX11_begins_2 _ _ ⟨fun c => absurd (show nI 366 ≤ nI i from c) (nI_ge hi (by decide)), fun _ => ?_⟩
    rw [nI_t (by omega)]
    refine ⟨nI_in' (by omega) (by omega), fun M4 e4 x5 e5 => ?_⟩
    subst e4; subst e5
    rw [nI_1, sI_sW, cpT_s (fun _ => 0)]
    exact k
  · exact vX11_begins_2 _ _ ⟨fun _ => k24 _ rfl, fun c => absurd (by decide) c⟩
/-! what it holds -/
def gv (M : eg_H) (g f : Nat) (y : Int32) : Int32 := if f = 0 then (if ¬ nI g = M.1 (60, 0) 52 then 0 else 3) else if f = 1 then -1 else if f = 2 then fX11_sizeOf M (nI g) else if f = 11 then coM M g else if f = 12 then coM M g else if 14 ≤ f ∧ f < 19 then M.1 (93, 0) (5 * g + (f - 14)) else y
theorem gB_in (M : eg_H) (g : Nat) (Y : Nat → Int32) {f : Nat} (hf : f < 20) : gB M g Y (20 + 20 * g + f) = gv M g f (Y (20 + 20 * g + f)) := by
  unfold gB gv
  by_cases h14 : 14 ≤ f ∧ f < 19
  · obtain ⟨k, rfl⟩ : ∃ k, f = 14 + k := ⟨f - 14, by omega⟩
    rw [← Nat.add_assoc, putR_in (by omega), if_neg (by omega), if_neg (by omega), if_neg (by omega), if_neg (by omega), if_neg (by omega), if_pos (by omega), show 14 + k - 14 = k by omega]
  · rw [putR_out (by omega), if_neg h14]
    by_cases e12 : f = 12
    · subst e12; rw [pk_us, if_neg (by omega), if_neg (by omega), if_neg (by omega), if_neg (by omega), if_pos rfl]
    · rw [pk_un (by omega), if_neg e12]
      by_cases e11 : f = 11
      · subst e11; rw [pk_us, if_neg (by omega), if_neg (by omega), if_neg (by omega), if_pos rfl]
      · rw [pk_un (by omega), if_neg e11]
        by_cases e2 : f = 2
        · subst e2; rw [pk_us, if_neg (by omega), if_neg (by omega), if_pos rfl]
        · rw [pk_un (by omega), if_neg e2]
          by_cases e1 : f = 1
          · subst e1; rw [pk_us, if_neg (by omega), if_pos rfl]
          · rw [pk_un (by omega), if_neg e1]
            by_cases e0 : f = 0
            · subst e0; rw [Nat.add_zero, pk_us, if_pos rfl]
            · rw [pk_un (by omega), if_neg e0]
theorem gB_out (M : eg_H) (g : Nat) (Y : Nat → Int32) {j : Nat} (h : j < 20 + 20 * g ∨ 40 + 20 * g ≤ j) : gB M g Y j = Y j := by
  unfold gB
  rw [putR_out (by omega), pk_un (by omega), pk_un (by omega), pk_un (by omega), pk_un (by omega), pk_un (by omega)]
theorem gB_at (M : eg_H) (Y : Nat → Int32) : ∀ m, (∀ j, j < 20 ∨ 20 + 20 * m ≤ j → itr (gB M) m Y j = Y j) ∧ ∀ g f, g < m → f < 20 → itr (gB M) m Y (20 + 20 * g + f) = gv M g f (Y (20 + 20 * g + f))
  | 0 => ⟨fun _ _ => rfl, fun g f hg => absurd hg (Nat.not_lt_zero _)⟩
  | m + 1 => by
    obtain ⟨a, b⟩ := gB_at M Y m
    rw [itr_s]
    refine ⟨fun j hj => ?_, fun g f hg hf => ?_⟩
    · rw [gB_out _ _ _ (by omega), a j (by omega)]
    · by_cases e : g = m
      · subst e
        rw [gB_in _ _ _ hf, a _ (by omega)]
      · rw [gB_out _ _ _ (by omega), b g f (by omega) hf]
theorem pB_at (M : eg_H) (Y : Nat → Int32) : ∀ m, (∀ j, j < 320 ∨ 320 + 8 * m ≤ j → itr (pB M) m Y j = Y j) ∧ ∀ s f, s < m → f < 8 → itr (pB M) m Y (320 + 8 * s + f) = if f = 0 then dM M s 2 else if f = 2 then -1 else Y (320 + 8 * s + f)
  | 0 => ⟨fun _ _ => rfl, fun g f hg => absurd hg (Nat.not_lt_zero _)⟩
  | m + 1 => by
    obtain ⟨a, b⟩ := pB_at M Y m
    rw [itr_s]
    unfold pB at a b ⊢
    refine ⟨fun j hj => ?_, fun s f hs hf => ?_⟩
    · rw [pk_un (by omega), pk_un (by omega), a j (by omega)]
    · by_cases e : s = m
      · subst e
        by_cases f2 : f = 2
        · subst f2; rw [pk_us, if_neg (by omega), if_pos rfl]
        · rw [pk_un (by omega), if_neg f2]
          by_cases f0 : f = 0
          · subst f0; rw [Nat.add_zero, pk_us, if_pos rfl]
          · rw [pk_un (by omega), if_neg f0, a _ (by omega)]
      · rw [pk_un (by omega), pk_un (by omega), b s f (by omega) hf]
theorem begM_bg {M : eg_H} (hn : nM M < 6) (hN : NM M < 16) (hco : ∀ g, g < NM M → ¬ coM M g = -1) : bgY (mE M) (M.1 (126, 0)) (begM M) := by
  have z0 : ∀ j, j < 366 → cpT (fun _ => (0 : Int32)) (M.1 (110, 0)) 366 j = 0 := fun j hj => cpT_lt hj
  generalize hZ : cpT (fun _ => (0 : Int32)) (M.1 (110, 0)) 366 = Z at z0
  obtain ⟨a1, a2⟩ := gB_at M Z (NM M)
  obtain ⟨b1, b2⟩ := pB_at M (itr (gB M) (NM M) Z) (nM M)
  have lo : ∀ j, j < 20 → begM M j = 0 := fun j hj => by
    unfold begM
    rw [hZ, putR_out (by omega), b1 j (by omega), a1 j (by omega), z0 j (by omega)]
  have gu : ∀ g f, g < NM M → f < 20 → begM M (20 + 20 * g + f) = gv M g f 0 := fun g f hg hf => by
    unfold begM
    rw [hZ, putR_out (by omega), b1 _ (by omega), a2 g f hg hf, z0 _ (by omega)]
  have pa : ∀ s f, s < nM M → f < 8 → begM M (320 + 8 * s + f) = if f = 0 then dM M s 2 else if f = 2 then -1 else 0 := fun s f hs hf => by
    unfold begM
    rw [hZ, putR_out (by omega), b2 s f hs hf, a1 _ (by omega), z0 _ (by omega)]
  refine ⟨lo 0 (by omega), lo 1 (by omega), fun k hk => ?_, fun s hs => ?_, fun g hg => ?_⟩
  · have hk' : k < nM M := hk
    unfold begM
    exact putR_in (by omega)
  · have hs' : s < nM M := hs
    have e2 : eD (mE M) s 2 = dM M s 2 := eD_m hs' 2
    have p0 := pa s 0 hs' (by omega)
    rw [Nat.add_zero] at p0
    exact ⟨p0.trans e2.symm, pa s 1 hs' (by omega), pa s 2 hs' (by omega), pa s 3 hs' (by omega), pa s 4 hs' (by omega), pa s 5 hs' (by omega), pa s 6 hs' (by omega)⟩
  · have hg' : g < NM M := hg
    have e1 : eC (mE M) g 1 = fX11_sizeOf M (nI g) := eC_m hg' 1
    have e0 : eC (mE M) g 0 = if nI g = M.1 (60, 0) 52 then -1 else coM M g := eC_m hg' 0
    have g0 := gu g 0 hg' (by omega)
    rw [Nat.add_zero] at g0
    refine ⟨⟨gu g 1 hg' (by omega), (gu g 2 hg' (by omega)).trans e1.symm, gu g 3 hg' (by omega), gu g 4 hg' (by omega), gu g 5 hg' (by omega), gu g 6 hg' (by omega), gu g 7 hg' (by omega), gu g 8 hg' (by omega), gu g 9 hg' (by omega), fun k hk => ?_⟩, ?_, gu g 10 hg' (by omega)⟩
    · have := gu g (14 + k) hg' (by omega)
      rw [← Nat.add_assoc] at this
      rw [this, show eC (mE M) g (2 + k) = if k < 5 then M.1 (93, 0) (5 * g + k) else 0 from by rw [eC_m hg', Nat.add_comm]; rfl, if_pos hk]
      unfold gv
      rw [if_neg (by omega), if_neg (by omega), if_neg (by omega), if_neg (by omega), if_neg (by omega), if_pos (by omega), show 14 + k - 14 = k by omega]
    · rw [e0]
      by_cases c : nI g = M.1 (60, 0) 52
      · rw [if_pos c]
        right
        refine ⟨rfl, g0.trans ?_⟩
        unfold gv
        rw [if_pos rfl, if_neg (fun q => q c)]
      · rw [if_neg c]
        left
        refine ⟨hco g hg', g0.trans ?_, gu g 11 hg' (by omega), gu g 12 hg' (by omega)⟩
        unfold gv
        rw [if_pos rfl, if_pos c]
theorem sX11_runs {κ : eg_K} {d : Nat} (hd : 8 ≤ d) {M : eg_H} (hW : mW M) (hE : wE (mE M)) (hE2 : wE2 (mE M)) (hR : oR (mE M) (M.1 (126, 0))) (hco : ∀ g, g < NM M → ¬ coM M g = -1) {n : Nat} (hn : n ≤ 3600) : eg_S κ gM mtX11_runs d [vR (60, 0), vI (nI n)] M (eQV κ gM (fun M1 => ∃ nm1 s1, M1 = SX M nm1 s1 (secN (mE M) n (begM M)))) := by
  have hb := begM_bg (nM_le hW).2 (NM_le hW).2 hco
  have hI : yI (mE M) 119 (begM M) := bg_I hE hE2 hR (by omega) hb
  have y0 : (begM M 0).toInt = 0 := by rw [hb.1]; decide
  refine eg_S.of rfl (Nat.le_of_ble_eq_true rfl) (vX11_runs_0 (by omega) _ _ ⟨_, sX11_begins (by omega) M ⟨hW.1, hW.2.1⟩, fun M1 e1 => ?_⟩)
  have e2 : M1 = SX M (M.2.1 (127, 0)) (M.2.1 (128, 0), M.1 (60, 0) 68) (secN (mE M) 0 (begM M)) := by
    rw [e1]
    show sW M (110, 0) (begM M) = SX M (M.2.1 (127, 0)) (M.2.1 (128, 0), M.1 (60, 0) 68) (begM M)
    rw [← SX_W _ _ _ (M.1 (110, 0)), SX_self]
  subst e2
  clear e1
  suffices key : ∀ (k m : Nat) (nm : Nat → Int64) (s : (Nat → Int64) × Int32), k = n - m → m ≤ n → eg_W κ gM mtX11_runs d (eQV κ gM (fun M1 => ∃ nm1 s1, M1 = SX M nm1 s1 (secN (mE M) n (begM M)))) 4 [(0, vR (60, 0)), (1, vI (nI n))] [] (SX M nm s (secN (mE M) m (begM M))) by
    exact key _ 0 _ _ rfl (Nat.zero_le _)
  intro k
  induction k with
  | zero =>
    intro m nm s hk hm
    have : m = n := by omega
    subst this
    refine vX11_runs_4 (by omega) _ _ ⟨(vpL 366).1.mpr (by omega), fun _ => ⟨nm, s, rfl⟩, fun c => ?_⟩
    exfalso
    apply c
    rw [SX_Y, show (0 : Int32).toNatClampNeg = 0 by decide, t_le, (secN_I hE (by omega) (by omega) hI m (by omega)).2, t_nI (by omega)]
    omega
  | succ k ih =>
    intro m nm s hk hm
    obtain ⟨im, i0⟩ := secN_I hE (by omega) (by omega) hI m (by omega)
    refine vX11_runs_4 (by omega) _ _ ⟨(vpL 366).1.mpr (by omega), fun c => ?_, fun _ => ⟨_, sX11_second (by omega) hW hE (by omega) (by omega) nm s _ im, fun M3 ⟨nm1, s1, e3⟩ => ?_⟩⟩
    · exfalso
      rw [SX_Y, show (0 : Int32).toNatClampNeg = 0 by decide, t_le, i0, t_nI (by omega)] at c
      omega
    · subst e3
      exact ih (m + 1) nm1 s1 (by omega) (by omega)
