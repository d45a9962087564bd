/-! BEYOND THE ARRAY nothing changes -/
theorem goToF_j (E : eg_E) {g p : Nat} (hg : g < 15) (Y : Nat → Int32) (hs : (Y (360 + p)).toNatClampNeg < 5) {j : Nat} (hj : 360 ≤ j) : goToF E g p Y j = Y j := by
  unfold goToF skipF
  generalize (Y (360 + p)).toNatClampNeg = s at *
  split
  · simp (disch := omega) only [pk_un]
  · split
    · unfold heapF
      simp (disch := omega) only [pk_un]
    · split
      · simp (disch := omega) only [pk_un]
      · simp (disch := omega) only [pk_un]
theorem goF_j {E : eg_E} {C : Nat} {Y : Nat → Int32} (hE : wE E) (hY : yI E C Y) {i : Nat} (hi : i < (Y 1).toNatClampNeg) {j : Nat} (hj : 360 ≤ j) : (goF E i Y).2 j = Y j := by
  have hN := hE.2.1
  have hn := hE.1
  have hq := hY.q16 hE
  have hg := vp_lt (hY.1.2.1 i hi).1
  have so : sitF E i Y j = Y j := sitF_o hq (by omega) (by omega) (by omega)
  unfold goF
  dsimp only
  split
  · dsimp only; simp (disch := omega) only [pk_un]
  · split
    · exact so
    · rename_i c1 c2
      obtain ⟨p, ep, hp, _, _⟩ := nxF_r c2
      rw [ep, nI_t (by omega)]
      have hs : (Y (360 + p)).toNatClampNeg < 5 := by have := vp_lt (hY.2.1.1 p hp); omega
      exact goToF_j E (by omega) Y hs hj
theorem walkF_j {E : eg_E} {C : Nat} (hE : wE E) (hC : C < 1000000) {j : Nat} (hj : 360 ≤ j) : ∀ (n i : Nat) (Y : Nat → Int32), yI E C Y → walkF E n i Y j = Y j
  | 0, _, _, _ => rfl
  | n + 1, i, Y, hY => by
    unfold walkF
    by_cases c : i < (Y 1).toNatClampNeg
    · rw [if_pos c]
      have h1 := (goF_I hE hC hY c).1
      have h2 := goF_j hE hY c hj
      split
      · split
        · rw [walkF_j hE hC hj n i _ h1, h2]
        · rw [walkF_j hE hC hj n (i + 1) _ h1, h2]
      · exact walkF_j hE hC hj n (i + 1) _ hY
    · rw [if_neg c]
theorem secF_j {E : eg_E} {C : Nat} {Y : Nat → Int32} (hE : wE E) (hC : C < 1000000) (hY : yI E C Y) {j : Nat} (hj : 360 ≤ j) : secF E Y j = Y j := by
  have hN := hE.2.1
  have hn := hE.1
  have I1 := fillA_I hE hC hY (eN E) (Nat.le_refl _)
  have F : ∀ n, n ≤ eN E → itr (fillF E) n Y j = Y j := by
    intro n
    induction n with
    | zero => exact fun _ => rfl
    | succ n ih =>
      intro hn2
      rw [itr_s]
      have ih' := ih (by omega)
      generalize itr (fillF E) n Y = Z at *
      unfold fillF
      split
      · exact ih'
      · simp (disch := omega) only [pk_un]; exact ih'
  have F0 := F _ (Nat.le_refl _)
  unfold secF
  generalize itr (fillF E) (eN E) Y = Y0 at *
  have A : ∀ n, n ≤ eP E → itr (admF E) n Y0 j = Y0 j := by
    intro n
    induction n with
    | zero => exact fun _ => rfl
    | succ n ih =>
      intro hn2
      rw [itr_s]
      have ih' := ih (by omega)
      have hq := (admA_I hE I1 n (by omega)).q16 hE
      generalize itr (admF E) n Y0 = Z at *
      unfold admF comeF
      split
      · simp (disch := omega) only [pk_un]; exact ih'
      · exact ih'
  have I2 := admA_I hE I1 (eP E) (Nat.le_refl _)
  have A0 := A _ (Nat.le_refl _)
  generalize itr (admF E) (eP E) Y0 = Y1 at *
  have I3 := (walkF_I hE hC (Y1 1).toNatClampNeg 0 Y1 I2).1
  have W0 := walkF_j hE hC hj (Y1 1).toNatClampNeg 0 Y1 I2
  generalize walkF E (Y1 1).toNatClampNeg 0 Y1 = Y2 at *
  have T : ∀ n, n ≤ (Y2 1).toNatClampNeg → itr tkoF n Y2 j = Y2 j := by
    intro n
    induction n with
    | zero => exact fun _ => rfl
    | succ n ih =>
      intro hn2
      have ih' := ih (by omega)
      obtain ⟨I, i1⟩ := tkoA_I hE I3 n (by omega)
      rw [itr_s]
      have hb := vp_lt (I.1.2.1 n (by rw [i1]; omega)).1
      generalize itr tkoF n Y2 = Z at *
      unfold tkoF
      simp (disch := omega) only [pk_un]; exact ih'
  have T0 := T _ (Nat.le_refl _)
  generalize itr tkoF (Y2 1).toNatClampNeg Y2 = Y3 at *
  have pp : ∀ n, n ≤ eN E → itr (pansF E) n Y3 j = Y3 j := by
    intro n
    induction n with
    | zero => exact fun _ => rfl
    | succ n ih =>
      intro hn2
      rw [itr_s]
      have ih' := ih (by omega)
      generalize itr (pansF E) n Y3 = Z at *
      unfold pansF
      split
      · exact ih'
      · dsimp only
        rw [pk_un (by omega), pk_un (by omega)]
        split
        · rw [pk_un (by omega)]; exact ih'
        · exact ih'
  rw [pk_un (by omega), pp _ (Nat.le_refl _), T0, W0, A0, F0]
theorem secN_r {E : eg_E} {C : Nat} {Y : Nat → Int32} (hE : wE E) (hC : C < 1000000) (hC2 : 119 ≤ C) (hY : yI E C Y) {j : Nat} (hj : 360 ≤ j) : ∀ n : Nat, (Y 0).toInt + n ≤ 3600 → secN E n Y j = Y j := by
  intro n
  induction n with
  | zero => intro _; rw [secN_0]
  | succ n ih =>
    intro hn
    rw [secN_s, secF_j hE hC (secN_I hE hC hC2 hY n (by omega)).1 hj, ih (by omega)]
theorem secN_j {E : eg_E} {C : Nat} {Y : Nat → Int32} (hE : wE E) (hC : C < 1000000) (hC2 : 119 ≤ C) (hY : yI E C Y) {j : Nat} (hj : 366 ≤ j) (n : Nat) (h : (Y 0).toInt + n ≤ 3600) : secN E n Y j = Y j := secN_r hE hC hC2 hY (by omega) n h
/-! the model asked: clearing, overriding, running -/
theorem begM_hi (N : eg_H) (hn : nM N < 6) (hN : NM N < 16) {j : Nat} (hj : 366 ≤ j) : begM N j = N.1 (110, 0) j := by
  unfold begM
  rw [putR_out (by omega), (pB_at N _ _).1 j (by omega), (gB_at N _ _).1 j (by omega), cpT_ge hj]
theorem SX_sI (N : eg_H) (nm : Nat → Int64) (s : (Nat → Int64) × Int32) (Y : Nat → Int32) {k : Nat} (hk : k ≠ 68) (x : Int32) : sI (SX N nm s Y) (60, 0) k x = SX (sI N (60, 0) k x) nm s Y := by
  refine eg_ext (fun r j => ?_) (fun _ _ => rfl) (fun _ _ => rfl)
  rw [sI_i]
  by_cases c : r = (60, 0) ∧ j = k
  · rw [if_pos c, c.1, c.2, SX_f _ _ _ _ hk, sI_i, if_pos ⟨rfl, rfl⟩]
  · rw [if_neg c]
    by_cases c1 : r = (110, 0)
    · rw [c1, SX_Y, SX_Y]
    · by_cases c2 : r = (60, 0)
      · subst c2
        by_cases c3 : j = 68
        · subst c3
          show (SX N nm s Y).1 (60, 0) 68 = (SX (sI N (60, 0) k x) nm s Y).1 (60, 0) 68
          unfold SX sVE
          rw [sW_ne _ _ (by decide), sW_ne _ _ (by decide), sI_i, if_pos ⟨rfl, rfl⟩, sI_i, if_pos ⟨rfl, rfl⟩]
        · rw [SX_f _ _ _ _ c3, SX_f _ _ _ _ c3, sI_i, if_neg c]
      · rw [SX_o _ _ _ _ c1 c2, SX_o _ _ _ _ c1 c2, sI_ne c2]
theorem SX_sW (N : eg_H) (nm : Nat → Int64) (s : (Nat → Int64) × Int32) (Y f : Nat → Int32) {r : eg_R} (h1 : r ≠ (110, 0)) (h2 : r ≠ (60, 0)) : sW (SX N nm s Y) r f = SX (sW N r f) nm s Y := by
  refine eg_ext (fun z j => ?_) (fun _ _ => rfl) (fun _ _ => rfl)
  by_cases c : z = r
  · subst c
    rw [sW_at, SX_o _ _ _ _ h1 h2, sW_at]
  · rw [sW_ne _ _ c]
    by_cases c1 : z = (110, 0)
    · rw [c1, SX_Y, SX_Y]
    · by_cases c2 : z = (60, 0)
      · subst c2
        by_cases c3 : j = 68
        · subst c3
          unfold SX sVE
          rw [sW_ne _ _ (by decide), sW_ne _ _ (by decide), sI_i, if_pos ⟨rfl, rfl⟩, sI_i, if_pos ⟨rfl, rfl⟩]
        · rw [SX_f _ _ _ _ c3, SX_f _ _ _ _ c3, sW_ne _ _ c]
      · rw [SX_o _ _ _ _ c1 c2, SX_o _ _ _ _ c1 c2, sW_ne _ _ c]
theorem clr_SX (N : eg_H) (nm : Nat → Int64) (s : (Nat → Int64) × Int32) (Y : Nat → Int32) : fX11_clears (SX N nm s Y) = SX (fX11_clears N) nm s Y := by
  unfold fX11_clears clrB
  rw [SX_f _ _ _ _ (by decide), SX_o _ _ _ _ (r := (125, 0)) (by decide) (by decide), SX_o _ _ _ _ (r := (112, 0)) (by decide) (by decide), SX_o _ _ _ _ (r := (126, 0)) (by decide) (by decide), SX_sI _ _ _ _ (by decide), SX_sI _ _ _ _ (by decide), SX_sI _ _ _ _ (by decide), SX_sI _ _ _ _ (by decide), SX_sI _ _ _ _ (by decide), SX_sI _ _ _ _ (by decide), SX_sI _ _ _ _ (by decide), SX_sI _ _ _ _ (by decide), SX_sW _ _ _ _ _ (by decide) (by decide), SX_sW _ _ _ _ _ (by decide) (by decide)]
theorem clr_f (N : eg_H) (k : Nat) : (fX11_clears N).1 (60, 0) k = if k = 62 then -1 else if k = 61 then 0 else if k = 60 then N.1 (60, 0) 16 else if k = 59 then 0 else if k = 57 then -1 else if k = 55 then -1 else if k = 53 then -1 else if k = 52 then -1 else N.1 (60, 0) k := by
  unfold fX11_clears clrB
  rw [sW_ne _ _ (by decide), sW_ne _ _ (by decide)]
  simp only [sI_i, true_and]
theorem clr_o (N : eg_H) {r : eg_R} (h0 : r ≠ (60, 0)) (h1 : r ≠ (125, 0)) (h2 : r ≠ (126, 0)) : (fX11_clears N).1 r = N.1 r := by
  unfold fX11_clears
  rw [sW_ne _ _ h2, sW_ne _ _ h1, clrB_o _ h0]
theorem clr_125 (N : eg_H) {g : Nat} (hg : g < 15) : (fX11_clears N).1 (125, 0) g = 0 := by
  unfold fX11_clears
  rw [sW_ne _ _ (by decide), sW_at, cpT_lt hg]
theorem clr_126 (N : eg_H) {k : Nat} (hk : k < 5) : (fX11_clears N).1 (126, 0) k = N.1 (112, 0) k := by
  unfold fX11_clears
  rw [sW_at, cpT_lt hk]
theorem clr_Fr (N : eg_H) : FrN N (fX11_clears N) := by
  refine ⟨fun k h1 h2 h3 => ?_, fun r h1 h2 h3 h4 _ _ _ _ _ _ => ?_, fun g hg => ?_, fun j _ => ?_⟩
  · rw [clr_f, if_neg (by omega), if_neg (by omega), if_neg (by omega), if_neg (by omega), if_neg (by omega), if_neg (by omega), if_neg (by omega), if_neg (by omega)]
  · exact clr_o N (fun e => h1 (by rw [e])) (fun e => h3 (by rw [e])) (fun e => h4 (by rw [e]))
  · rw [clr_o N (by decide) (by decide) (by decide), clr_o N (by decide) (by decide) (by decide), clr_o N (by decide) (by decide) (by decide)]
    exact ⟨rfl, rfl, fun _ _ => rfl⟩
  · rw [clr_o N (by decide) (by decide) (by decide)]
theorem sI_60 (N : eg_H) (k j : Nat) (x : Int32) : (sI N (60, 0) k x).1 (60, 0) j = if j = k then x else N.1 (60, 0) j := by
  rw [sI_i]
  by_cases c : j = k
  · rw [if_pos ⟨rfl, c⟩, if_pos c]
  · rw [if_neg (fun q => c q.2), if_neg c]
/-- one more clearing -/
theorem clr_again (N : eg_H) {k : Nat} (hk : k = 52 ∨ k = 53 ∨ k = 55 ∨ k = 57 ∨ k = 59 ∨ k = 60 ∨ k = 61 ∨ k = 62) (x : Int32) : fX11_clears (sI N (60, 0) k x) = fX11_clears N := by
  have e : ∀ r : eg_R, r ≠ (60, 0) → (sI N (60, 0) k x).1 r = N.1 r := fun r hr => sI_ne hr
  refine eg_ext (fun r j => ?_) (fun _ _ => rfl) (fun _ _ => rfl)
  by_cases c0 : r = (60, 0)
  · subst c0
    rw [clr_f, clr_f, sI_60 N k 16, if_neg (show ¬ 16 = k by omega), sI_60]
    by_cases c : j = k
    · rcases hk with q | q | q | q | q | q | q | q <;> subst q <;> subst c <;> simp
    · rw [if_neg c]
  · by_cases c1 : r = (125, 0)
    · subst c1
      unfold fX11_clears
      rw [sW_ne _ _ (by decide), sW_at, sW_ne _ _ (by decide), sW_at, e _ (by decide)]
    · by_cases c2 : r = (126, 0)
      · subst c2
        unfold fX11_clears
        rw [sW_at, sW_at, e _ (by decide), e _ (by decide)]
      · rw [clr_o _ c0 c1 c2, clr_o _ c0 c1 c2, e _ c0]
theorem clr_keep (N : eg_H) {k : Nat} (hk : k = 54 ∨ k = 56 ∨ k = 58 ∨ k = 63 ∨ k = 2) (x : Int32) : fX11_clears (sI N (60, 0) k x) = sI (fX11_clears N) (60, 0) k x := by
  have e : ∀ r : eg_R, r ≠ (60, 0) → (sI N (60, 0) k x).1 r = N.1 r := fun r hr => sI_ne hr
  refine eg_ext (fun r j => ?_) (fun _ _ => rfl) (fun _ _ => rfl)
  by_cases c0 : r = (60, 0)
  · subst c0
    rw [clr_f, sI_60 N k 16, if_neg (show ¬ 16 = k by omega), sI_60, sI_60, clr_f]
    by_cases c : j = k
    · subst c
      rw [if_pos rfl, if_neg (show ¬ j = 62 by omega), if_neg (show ¬ j = 61 by omega), if_neg (show ¬ j = 60 by omega), if_neg (show ¬ j = 59 by omega), if_neg (show ¬ j = 57 by omega), if_neg (show ¬ j = 55 by omega), if_neg (show ¬ j = 53 by omega), if_neg (show ¬ j = 52 by omega), if_pos rfl]
    · rw [if_neg c]
      rw [if_neg c]
  · rw [sI_ne c0]
    by_cases c1 : r = (125, 0)
    · subst c1
      unfold fX11_clears
      rw [sW_ne _ _ (by decide), sW_at, sW_ne _ _ (by decide), sW_at, e _ (by decide)]
    · by_cases c2 : r = (126, 0)
      · subst c2
        unfold fX11_clears
        rw [sW_at, sW_at, e _ (by decide), e _ (by decide)]
      · rw [clr_o _ c0 c1 c2, clr_o _ c0 c1 c2, e _ c0]
theorem clr_clr (N : eg_H) : fX11_clears (fX11_clears N) = fX11_clears N := by
  refine eg_ext (fun r j => ?_) (fun _ _ => rfl) (fun _ _ => rfl)
  by_cases c0 : r = (60, 0)
  · subst c0
    have h16 : (fX11_clears N).1 (60, 0) 16 = N.1 (60, 0) 16 := (clr_Fr N).1 16 (by omega) (by omega) (by omega)
    rw [clr_f (fX11_clears N) j, h16, clr_f N j]
    by_cases a1 : j = 62
    · rw [if_pos a1, if_pos a1]
    · rw [if_neg a1, if_neg a1]
      by_cases a2 : j = 61
      · rw [if_pos a2, if_pos a2]
      · rw [if_neg a2, if_neg a2]
        by_cases a3 : j = 60
        · rw [if_pos a3, if_pos a3]
        · rw [if_neg a3, if_neg a3]
          by_cases a4 : j = 59
          · rw [if_pos a4, if_pos a4]
          · rw [if_neg a4, if_neg a4]
            by_cases a5 : j = 57
            · rw [if_pos a5, if_pos a5]
            · rw [if_neg a5, if_neg a5]
              by_cases a6 : j = 55
              · rw [if_pos a6, if_pos a6]
              · rw [if_neg a6, if_neg a6]
                by_cases a7 : j = 53
                · rw [if_pos a7, if_pos a7]
                · rw [if_neg a7, if_neg a7]
                  by_cases a8 : j = 52
                  · rw [if_pos a8, if_pos a8]
                  · rw [if_neg a8, if_neg a8]
  · by_cases c1 : r = (125, 0)
    · subst c1
      by_cases c : j < 15
      · rw [clr_125 _ c, clr_125 _ c]
      · have h : ∀ N : eg_H, (fX11_clears N).1 (125, 0) j = N.1 (125, 0) j := fun N => by
          unfold fX11_clears
          rw [sW_ne _ _ (by decide), sW_at, cpT_ge (by omega)]
        rw [h, h]
    · by_cases c2 : r = (126, 0)
      · subst c2
        by_cases c : j < 5
        · rw [clr_126 _ c, clr_126 _ c, clr_o _ (by decide) (by decide) (by decide)]
        · have h : ∀ N : eg_H, (fX11_clears N).1 (126, 0) j = N.1 (126, 0) j := fun N => by
            unfold fX11_clears
            rw [sW_at, cpT_ge (by omega)]
          rw [h, h]
      · rw [clr_o _ c0 c1 c2]
theorem begM_SX (N : eg_H) (nm : Nat → Int64) (s : (Nat → Int64) × Int32) (Y : Nat → Int32) (h : ∀ j, 366 ≤ j → Y j = N.1 (110, 0) j) : begM (SX N nm s Y) = begM N := by
  have e1 : nM (SX N nm s Y) = nM N := by unfold nM; rw [SX_f _ _ _ _ (by decide)]
  have e2 : NM (SX N nm s Y) = NM N := by unfold NM; rw [SX_ev]
  have e3 : pB (SX N nm s Y) = pB N := by
    funext t Z
    unfold pB dM
    rw [SX_o _ _ _ _ (by decide) (by decide), SX_f _ _ _ _ (by decide), SX_f _ _ _ _ (by decide), SX_f _ _ _ _ (by decide), SX_f _ _ _ _ (by decide), SX_f _ _ _ _ (by decide), SX_f _ _ _ _ (by decide)]
  have e4 : gB (SX N nm s Y) = gB N := by
    funext t Z
    unfold gB coM
    rw [SX_sz, SX_f _ _ _ _ (by decide), SX_o _ _ _ _ (r := (91, 0)) (by decide) (by decide), SX_o _ _ _ _ (r := (125, 0)) (by decide) (by decide), SX_o _ _ _ _ (r := (93, 0)) (by decide) (by decide)]
  unfold begM
  rw [e1, e2, e3, e4, SX_Y, SX_o _ _ _ _ (r := (126, 0)) (by decide) (by decide)]
  congr 3
  funext j
  unfold cpT
  split
  · rfl
  · rename_i c
    exact h j (by omega)
