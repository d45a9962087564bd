/-! SITS, GOES TO, GOES: the model's -/
theorem SX_ln (M : eg_H) (nm : Nat → Int64) (s : (Nat → Int64) × Int32) (Y : Nat → Int32) {g : Nat} (hg : g < 100) (w h a : Int64) : fX11_layNames (SX M nm s Y) (nI g) w h a = SX M (nmY nm Y (fX11_sizeOf M (nI g)) g w h a) s Y := by
  unfold fX11_layNames
  rw [SX_N, SX_nm, SX_Y, SX_sz, nI_t (by omega)]
theorem SX_gsz {M : eg_H} (nm : Nat → Int64) (s : (Nat → Int64) × Int32) (Y : Nat → Int32) {g : Nat} (hg : g < 24) : gX11_sizeOf (SX M nm s Y) (nI g) := fun _ => nI_in' (by omega) (by omega)
theorem sm_upd {Y : Nat → Int32} {a k n : Nat} {x : Int32} (h : k < a ∨ a + n ≤ k) : sm (fun j => upd Y k x (a + j)) n = sm (fun j => Y (a + j)) n := by
  refine sm_cong (fun j hj => ?_)
  exact pk_un (by omega)
theorem ool_g {Y : Nat → Int32} {i : Nat} (hq : vp_in (Y 1) 16) (hi : i < (Y 1).toNatClampNeg) (M : eg_H) (nm : Nat → Int64) (s : (Nat → Int64) × Int32) : gX11_outOfLine (SX M nm s Y) (nI i) := by
  have h := vp_lt hq
  unfold gX11_outOfLine
  rw [SX_Y]
  exact ⟨hq, nI_in' (by omega) (by omega)⟩
theorem sX11_sits {κ : eg_K} {d : Nat} (hd : 4 ≤ d) {M : eg_H} (hW : mW M) (nm : Nat → Int64) (s : (Nat → Int64) × Int32) (Y : Nat → Int32) {i : Nat} (hq : vp_in (Y 1) 16) (hi : i < (Y 1).toNatClampNeg) (hg : vp_in (Y (2 + i)) (NM M)) : eg_S κ gM mtX11_sits d [vR (60, 0), vI (nI i)] (SX M nm s Y) (eQV κ gM (fun M1 => ∃ nm1 s1, M1 = SX M nm1 s1 (sitF (mE M) i Y))) := by
  have hN := (NM_le hW).2
  have hq2 := vp_lt hq
  obtain ⟨eg, hlt⟩ := nI_of' hg (by omega)
  refine eg_S.of rfl (Nat.le_of_ble_eq_true rfl) (vX11_sits_0 (by omega) _ _ ?_)
  unfold sitF
  generalize (Y (2 + i)).toNatClampNeg = g at eg hlt ⊢
  have esz : eC (mE M) g 1 = fX11_sizeOf M (nI g) := eC_m hlt 1
  have ewant : ∀ nm s Z, fX11_wantsOf (SX M nm s Z) (nI g) = sm (fun k => Z (34 + 20 * g + k)) 5 := by
    intro nm s Z
    unfold fX11_wantsOf
    rw [SX_Y, nI_t (by omega)]
  have gwant : ∀ nm s Z, gX11_wantsOf (SX M nm s Z) (nI g) := fun _ _ _ => nI_in' (by omega) (by omega)
  have gplate : gX11_plateOf (SX M nm s Y) (nI g) := by
    refine ⟨SX_gsz _ _ _ (by omega), ?_⟩
    rw [at_n]
    simp only [nAl]
    exact nI_in' (by omega) (by omega)
  have eplate : fX11_plateOf (SX M nm s Y) (nI g) = eC (mE M) g 1 - Y (20 + 20 * g + 2) := by
    unfold fX11_plateOf
    rw [SX_sz, SX_Y, at_n, esz]
    simp (disch := omega) only [nAl, nI_t]
  simp (disch := omega) only [forall_eq, nAr, nI_t, vpi, SX_Y, eg, at_n, eplate, ewant]
  refine ⟨by omega, gplate, gwant _ _ _, nI_in' (by omega) (by omega), ?_⟩
  rw [SX_ln _ _ _ _ (by omega)]
  refine ⟨_, sX11_lawOf (by omega) _ 2 _ (lwW_SX (hW.2.2.2 2 (by omega)) _ _ _), fun v N ⟨ev, s1, eN⟩ => ?_⟩
  rw [SX_E] at eN
  rw [SX_nm, ← esz, law_m hW (by omega) _ (nmY nm Y (eC (mE M) g 1) g (sm (fun k => Y (34 + 20 * g + k)) 5).toInt64 0 0) (nmY nm0 Y (eC (mE M) g 1) g (sm (fun k => Y (34 + 20 * g + k)) 5).toInt64 0 0) _ _ (fun j hj => nmC_8 _ _ _ _ _ _ _ _ _ _ j hj)] at ev
  subst eN
  have e17 : ∀ nm s Z, (SX M nm s Z).1 (60, 0) 17 = eO (mE M) 1 := fun nm s Z => SX_f _ _ _ _ (by decide)
  simp (disch := omega) only [forall_eq, nAl, nI_t, vpi, SX_Y, SX_i, litT, vpL, ewant, e17, SX_sz, pk_un, pk_us, sm_upd]
  refine ⟨by omega, by omega, gwant _ _ _, by omega, by omega, by omega, by omega, SX_gsz _ _ _ (by omega), by omega, ?_, ?_⟩
  · refine ool_g ?_ ?_ _ _ _
    · simp (disch := omega) only [pk_un]; exact hq
    · simp (disch := omega) only [pk_un]; exact hi
  · unfold fX11_outOfLine
    rw [SX_Y, SX_W, nI_t (by omega), ← esz, ev]
    exact ⟨_, _, rfl⟩
theorem sX11_goesTo {κ : eg_K} {d : Nat} (hd : 5 ≤ d) {M : eg_H} (hW : mW M) (nm : Nat → Int64) (s : (Nat → Int64) × Int32) (Y : Nat → Int32) {g p : Nat} (hg : g < NM M) (hp : p < nM M) (hr : vp_in (Y (360 + p)) (nM M)) (hq : qW Y) : eg_S κ gM mtX11_goesTo d [vR (60, 0), vI (nI g), vI (nI p)] (SX M nm s Y) (eQV κ gM (fun M1 => ∃ nm1 s1, M1 = SX M nm1 s1 (goToF (mE M) g p Y))) := by
  have hn := (nM_le hW).2
  have hN := (NM_le hW).2
  obtain ⟨es, hs⟩ := nI_of' hr (by omega)
  refine eg_S.of rfl (Nat.le_of_ble_eq_true rfl) (vX11_goesTo_0 (by omega) _ _ _ ?_)
  unfold goToF
  generalize (Y (360 + p)).toNatClampNeg = st at es hs ⊢
  simp (disch := omega) only [forall_eq, nAr, nAl, nI_t, vpi, SX_Y, SX_i, at_n, es, pan_n, SX_hp hW _ _ _ hs]
  have hq1 : qW (upd (upd Y (20 + 20 * g + 1) (nI p)) (20 + 20 * g + 10) 0) := by
    have h1 := vp_lt hq.1
    unfold qW
    simp (disch := omega) only [pk_un]
    refine ⟨hq.1, fun k hk => ?_⟩
    have := hq.2 k hk
    simp (disch := omega) only [pk_un]
    exact this
  generalize upd (upd Y (20 + 20 * g + 1) (nI p)) (20 + 20 * g + 10) 0 = Y1 at hq1 ⊢
  have k113 : ∀ pl : Int32, pl = eD (mE M) st 1 → ¬ (¬ eD (mE M) st 2 = 0 ∧ Y1 (320 + 8 * st) = 0) → eg_W κ gM mtX11_goesTo d (eQV κ gM (fun M1 => ∃ nm1 s1, M1 = SX M nm1 s1 (if ¬ eD (mE M) st 2 = 0 ∧ Y1 (320 + 8 * st) = 0 then skipF g st Y1 else if ¬ eD (mE M) st 1 ≤ sm (tkF Y1 (nI p)) (Y1 1).toNatClampNeg then upd (heapF (mE M) g st Y1) (20 + 20 * g + 3) (eD (mE M) st 0) else if lg_cmp (lawD (mE M) 1 (nmA (mE M) Y1 g st) 0) 0 = 0 then upd (upd Y1 (20 + 20 * g + 10) 1) (20 + 20 * g + 4) (Y1 (20 + 20 * g + 4) + 1) else skipF g st Y1))) 113 [(0, vR (60, 0)), (1, vI (nI g)), (3, vI (nI (20 + 20 * g))), (4, vI (nI st))] [vI pl, vI (sm (tkF Y1 (nI p)) (Y1 1).toNatClampNeg)] (SX M nm s Y1) := by
    intro pl epl hne
    rw [if_neg hne]
    refine vX11_goesTo_113 (by omega) _ _ _ _ _ _ ⟨fun c => ⟨⟨nI_in' (by omega) (by omega), nI_in' (by omega) (by omega)⟩, fun M3 e3 => ?_⟩, fun c => ?_⟩
    · rw [epl] at c
      rw [if_neg (fun q => q c)]
      rw [SX_lna _ _ _ _ (by omega) (by omega)] at e3
      subst e3
      refine ⟨_, sX11_lawOf (by omega) _ 1 _ (lwW_SX (hW.2.2.2 1 (by omega)) _ _ _), fun v N ⟨ev, s1, eN⟩ => ?_⟩
      rw [SX_E] at eN
      rw [SX_nm, law_m hW (by omega) _ _ _ _ _ (nmA_m hW nm Y1 hg hs)] at ev
      have ev1 : v = lawD (mE M) 1 (nmA (mE M) Y1 g st) 0 := ev
      subst eN
      simp (disch := omega) only [forall_eq, nAl, nI_add, nI_t, vpi, SX_Y, SX_i, pk_un, pk_us]
      rw [ev1]
      refine ⟨fun c2 => ⟨by omega, by omega, _, s1, by rw [if_pos c2]⟩, fun c2 => ⟨by omega, by omega, _, s1, by rw [if_neg c2]; rfl⟩⟩
    · rw [epl] at c
      rw [if_pos c]
      refine ⟨_, sX11_heaps (by omega) hW nm s Y1 hg hs, fun N ⟨nm1, s1, eN⟩ => ?_⟩
      subst eN
      refine ⟨ghas_n _ _ 0 (by omega), fun x21 e21 => ?_⟩
      rw [show fX11_has (SX M nm1 s1 (heapF (mE M) g st Y1)) (nI st) 0 = M.1 (89, 0) (6 * st) from SX_has _ _ _ _ (w := 0) (by omega) (by omega)] at e21
      subst e21
      simp (disch := omega) only [forall_eq, nAl, nI_t, vpi, SX_i]
      refine ⟨by omega, nm1, s1, ?_⟩
      rw [show eD (mE M) st 0 = M.1 (89, 0) (6 * st) from eD_m hs 0]
  have k85 : ¬ (¬ eD (mE M) st 2 = 0 ∧ Y1 (320 + 8 * st) = 0) → eg_W κ gM mtX11_goesTo d (eQV κ gM (fun M1 => ∃ nm1 s1, M1 = SX M nm1 s1 (if ¬ eD (mE M) st 2 = 0 ∧ Y1 (320 + 8 * st) = 0 then skipF g st Y1 else if ¬ eD (mE M) st 1 ≤ sm (tkF Y1 (nI p)) (Y1 1).toNatClampNeg then upd (heapF (mE M) g st Y1) (20 + 20 * g + 3) (eD (mE M) st 0) else if lg_cmp (lawD (mE M) 1 (nmA (mE M) Y1 g st) 0) 0 = 0 then upd (upd Y1 (20 + 20 * g + 10) 1) (20 + 20 * g + 4) (Y1 (20 + 20 * g + 4) + 1) else skipF g st Y1))) 85 [(0, vR (60, 0)), (1, vI (nI g)), (2, vI (nI p)), (3, vI (nI (20 + 20 * g))), (4, vI (nI st))] [] (SX M nm s Y1) := by
    intro hne
    have etk : fX11_takersAt (SX M nm s Y1) (nI p) = sm (tkF Y1 (nI p)) (Y1 1).toNatClampNeg := by
      unfold fX11_takersAt
      rw [SX_Y]
    refine vX11_goesTo_85 (by omega) _ _ _ _ _ ⟨by unfold gX11_takersAt; rw [SX_Y]; exact hq1, fun x3 e3 => ?_⟩
    rw [etk] at e3
    subst e3
    rw [SX_f _ _ _ _ (by decide), SX_f _ _ _ _ (by decide)]
    have e1 : eD (mE M) st 1 = if ¬ nI st = M.1 (60, 0) 53 then M.1 (89, 0) (6 * st + 1) else M.1 (60, 0) 54 := eD_m hs 1
    refine ⟨fun c => ⟨ghas_n _ _ 1 (by omega), fun x7 e7 => k113 _ ?_ hne⟩, fun c => k113 _ ?_ hne⟩
    · rw [show fX11_has (SX M nm s Y1) (nI st) 1 = M.1 (89, 0) (6 * st + 1) from SX_has _ _ _ _ (w := 1) (by omega) (by omega)] at e7
      rw [e7, e1, if_pos c]
    · rw [e1, if_neg (fun q => q c)]
  refine ⟨by omega, by omega, by omega, ghas_n _ _ 2 (by omega), fun c => k85 (fun q => q.1 c), fun c => ⟨by omega, fun c2 => k85 (fun q => c2 q.2), fun c2 => ?_⟩⟩
  simp (disch := omega) only [nI_add, nI_t, vpi, pk_un]
  refine ⟨by omega, by omega, nm, s, ?_⟩
  rw [if_pos ⟨c, c2⟩]
  rfl
/-- the line and the row of an array are in order, by n stations and N persons; the places that the persons go from are none below 0 -/
def yW (n N : Nat) (Y : Nat → Int32) : Prop := (vp_in (Y 1) 16 ∧ ∀ k, k < (Y 1).toNatClampNeg → vp_in (Y (2 + k)) N) ∧ (∀ p, p < n → vp_in (Y (360 + p)) n) ∧ ∀ k, k < (Y 1).toNatClampNeg → vp_in (nxS Y (Y (2 + k)).toNatClampNeg) 6
theorem yW.q {n N : Nat} {Y : Nat → Int32} (h : yW n N Y) (hN : N < 16) : qW Y := ⟨h.1.1, fun k hk => by
  obtain ⟨e, hlt⟩ := nI_of' (h.1.2 k hk) (by omega)
  rw [e]
  exact nI_in' (by omega) (by omega)⟩
theorem sX11_goes {κ : eg_K} {d : Nat} (hd : 6 ≤ d) {M : eg_H} (hW : mW M) (nm : Nat → Int64) (s : (Nat → Int64) × Int32) (Y : Nat → Int32) {i : Nat} (hY : yW (nM M) (NM M) Y) (hi : i < (Y 1).toNatClampNeg) : eg_S κ gM mtX11_goes d [vR (60, 0), vI (nI i)] (SX M nm s Y) (eQI κ gM (fun r M1 => r = (if (goF (mE M) i Y).1 then 1 else 0) ∧ ∃ nm1 s1, M1 = SX M nm1 s1 (goF (mE M) i Y).2)) := by
  obtain ⟨en, hn⟩ := nM_le hW
  have hN := (NM_le hW).2
  have hq2 := vp_lt hY.1.1
  have hgi := hY.1.2 i hi
  obtain ⟨eg, hlt⟩ := nI_of' hgi (by omega)
  have hQ := hY.q hN
  refine eg_S.of rfl (Nat.le_of_ble_eq_true rfl) (vX11_goes_0 (by omega) _ _ ?_)
  unfold goF
  dsimp only
  generalize hgg : (Y (2 + i)).toNatClampNeg = g at eg hlt ⊢
  have enx : fX11_nextOf (SX M nm s Y) (nI g) = nxF Y (eN (mE M)) g := by
    unfold fX11_nextOf
    rw [SX_Y, nI_t (by omega), SX_f _ _ _ _ (by decide)]
    rfl
  have gnx : gX11_nextOf (SX M nm s Y) (nI g) := by
    unfold gX11_nextOf
    rw [SX_Y, nI_t (by omega), SX_f _ _ _ _ (by decide)]
    refine ⟨nI_in' (by omega) (by omega), hW.1, hgg ▸ hY.2.2 i hi, fun p hp => ?_⟩
    obtain ⟨e1, h1⟩ := nI_of' (hY.2.1 p hp) (by omega)
    rw [e1]
    exact nI_in' (by omega) (by omega)
  have hpx : ¬ nxF Y (eN (mE M)) g < 0 → ∃ p, nxF Y (eN (mE M)) g = nI p ∧ p < nM M := by
    intro hc
    unfold nxF at hc ⊢
    by_cases c0 : Y (22 + 20 * g) = 0
    · rw [if_pos c0] at hc
      exact absurd (by decide) hc
    · rw [if_neg c0] at hc ⊢
      have key : ∀ (q : Nat → Bool) n k, (¬ fst1 q k n < 0) → ∃ p, fst1 q k n = nI p ∧ p < k + n := by
        intro q n
        induction n with
        | zero => intro k hk; exact absurd (show (-1 : Int32) < 0 by decide) hk
        | succ n ih =>
          intro k hk
          show ∃ p, (if q k then nI k else fst1 q (k + 1) n) = nI p ∧ p < k + (n + 1)
          by_cases hq : q k = true
          · rw [if_pos hq]; exact ⟨k, rfl, by omega⟩
          · rw [if_neg hq]
            have hk2 : ¬ fst1 q (k + 1) n < 0 := by
              have : fst1 q k (n + 1) = fst1 q (k + 1) n := by show (if q k then nI k else fst1 q (k + 1) n) = _; rw [if_neg hq]
              rw [← this]; exact hk
            obtain ⟨p, h1, h2⟩ := ih (k + 1) hk2
            exact ⟨p, h1, by omega⟩
      obtain ⟨p, h1, h2⟩ := key _ _ _ hc
      refine ⟨p, h1, ?_⟩
      have h3 : eN (mE M) = nM M := rfl
      rw [h3] at h2
      by_cases hh : (nxS Y g).toNatClampNeg ≤ nM M
      · omega
      · exfalso
        rw [h3, show nM M - (nxS Y g).toNatClampNeg = 0 by omega] at hc
        exact absurd (show (-1 : Int32) < 0 by decide) hc
  simp (disch := omega) only [forall_eq, nAr, nI_t, vpi, SX_Y, eg, at_n, enx]
  have e60 : (SX M nm s Y).1 (60, 0) 60 = eO (mE M) 0 := SX_f _ _ _ _ (by decide)
  have k120 : ∀ (p : Int32), (¬ p < 0 → ∃ p1, p = nI p1 ∧ p1 < nM M) → ∀ (A : Int32), ¬ (eO (mE M) 0 = 0 ∧ 0 < i ∧ (p < 0 ∨ ¬ p ≤ A)) → ∀ (R : Bool × (Nat → Int32)), R = (if p < 0 then (true, sitF (mE M) i Y) else (false, goToF (mE M) g p.toNatClampNeg Y)) → eg_W κ gM mtX11_goes d (eQI κ gM (fun r M1 => r = (if R.1 then 1 else 0) ∧ ∃ nm1 s1, M1 = SX M nm1 s1 R.2)) 120 [(0, vR (60, 0)), (1, vI (nI i)), (2, vI (nI g)), (4, vI p)] [] (SX M nm s Y) := by
    intro p hpx A _ R eR
    refine vX11_goes_120 (by omega) _ _ _ _ ⟨fun c => ?_, fun c => ?_⟩
    · have c2 : ¬ p < 0 := Int32.not_lt.mpr c
      rw [if_neg c2] at eR
      subst eR
      obtain ⟨p1, e1, h1⟩ := hpx c2
      subst e1
      rw [nI_t (by omega)]
      exact ⟨_, sX11_goesTo (by omega) hW nm s Y hlt h1 (hY.2.1 p1 h1) hQ, fun N hN => ⟨rfl, hN⟩⟩
    · rw [if_pos (Int32.not_le.mp c)] at eR
      subst eR
      exact ⟨_, sX11_sits (by omega) hW nm s Y hY.1.1 hi hgi, fun N hN => ⟨rfl, hN⟩⟩
  have k47 : ∀ (p : Int32), (¬ p < 0 → ∃ p1, p = nI p1 ∧ p1 < nM M) → ∀ (A s0 : Int32), (0 < i → s0 = A) → ∀ (R : Bool × (Nat → Int32)), R = (if eO (mE M) 0 = 0 ∧ 0 < i ∧ (p < 0 ∨ ¬ p ≤ A) then (false, upd (upd Y (20 + 20 * g + 1) (if A ≤ Y (20 + 20 * g + 1) then Y (20 + 20 * g + 1) else A)) (20 + 20 * g + 4) (Y (20 + 20 * g + 4) + 1)) else if p < 0 then (true, sitF (mE M) i Y) else (false, goToF (mE M) g p.toNatClampNeg Y)) → eg_W κ gM mtX11_goes d (eQI κ gM (fun r M1 => r = (if R.1 then 1 else 0) ∧ ∃ nm1 s1, M1 = SX M nm1 s1 R.2)) 47 [(0, vR (60, 0)), (1, vI (nI i)), (2, vI (nI g)), (3, vI (nI (20 + 20 * g))), (4, vI p)] [vI s0] (SX M nm s Y) := by
    intro p hpx A s0 hs0 R eR
    have k72 : (eO (mE M) 0 = 0 ∧ 0 < i ∧ (p < 0 ∨ ¬ p ≤ A)) → eg_W κ gM mtX11_goes d (eQI κ gM (fun r M1 => r = (if R.1 then 1 else 0) ∧ ∃ nm1 s1, M1 = SX M nm1 s1 R.2)) 72 [(0, vR (60, 0)), (3, vI (nI (20 + 20 * g))), (5, vI s0)] [] (SX M nm s Y) := by
      intro hc
      rw [if_pos hc] at eR
      subst eR
      rw [hs0 hc.2.1]
      refine vX11_goes_72 _ _ _ ?_
      simp (disch := omega) only [forall_eq, nAl, nI_t, vpi, SX_Y, SX_i, pk_un, pk_us]
      exact ⟨by omega, by omega, by trivial, nm, s, rfl⟩
    have kk : ¬ (eO (mE M) 0 = 0 ∧ 0 < i ∧ (p < 0 ∨ ¬ p ≤ A)) → eg_W κ gM mtX11_goes d (eQI κ gM (fun r M1 => r = (if R.1 then 1 else 0) ∧ ∃ nm1 s1, M1 = SX M nm1 s1 R.2)) 120 [(0, vR (60, 0)), (1, vI (nI i)), (2, vI (nI g)), (4, vI p)] [] (SX M nm s Y) := by
      intro hc
      rw [if_neg hc] at eR
      exact k120 p hpx A hc R eR
    refine vX11_goes_47 _ _ _ _ _ _ ?_
    rw [e60]
    refine ⟨fun c => kk (fun q => c q.1), fun c => ⟨fun c2 => kk (fun q => ?_), fun c2 => ?_⟩⟩
    · rw [nI_0', nI_leI (by omega) (by omega)] at c2
      omega
    · have hi0 : 0 < i := by
        rw [nI_0', nI_leI (by omega) (by omega)] at c2
        omega
      refine ⟨fun c3 => k72 ⟨c, hi0, Or.inl c3⟩, fun c3 => ⟨fun c4 => kk (fun q => ?_), fun c4 => k72 ⟨c, hi0, Or.inr (by rw [← hs0 hi0]; exact c4)⟩⟩⟩
      rcases q.2.2 with q | q
      · exact c3 q
      · rw [← hs0 hi0] at q; exact q c4
  refine ⟨by omega, gnx, fun c => k47 _ hpx _ _ (fun h => ?_) _ rfl, fun c => ?_⟩
  · rw [nI_0', nI_leI (by omega) (by omega)] at c
    omega
  · have hi0 : 0 < i := by
      rw [nI_0', nI_leI (by omega) (by omega)] at c
      omega
    obtain ⟨e1, h1⟩ := nI_of' (hY.1.2 (i - 1) (by omega)) (by omega)
    rw [show 2 + (i - 1) = 1 + i by omega] at e1 h1
    generalize (Y (1 + i)).toNatClampNeg = b at e1 h1 ⊢
    simp (disch := omega) only [e1, at_n, nAl, nI_t, vpi]
    exact ⟨by omega, by omega, k47 _ hpx _ _ (fun _ => rfl) _ rfl⟩
