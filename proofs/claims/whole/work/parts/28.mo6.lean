/-! THE MODEL'S SECOND -/
theorem yI.W {E : eg_E} {C : Nat} {Y : Nat → Int32} (hE : wE E) (h : yI E C Y) : yW (eN E) (eP E) Y := by
  have hn := hE.1
  have hN := hE.2.1
  refine ⟨⟨?_, fun k hk => (h.1.2.1 k hk).1⟩, h.2.1.1, fun k hk => ?_⟩
  · rw [(nI_of' h.1.1 (by omega)).1]
    exact nI_in' (by have := vp_lt h.1.1; omega) (by omega)
  · have h1 := h.1.2.1 k hk
    have h2 := vp_lt h1.1
    have h3 := h.2.2.1 _ h2
    have h4 := h1.2
    generalize (Y (2 + k)).toNatClampNeg = g at h2 h3 h4 ⊢
    unfold nxS
    rw [show 30 + 20 * g = 20 + 20 * g + 10 by omega, show 21 + 20 * g = 20 + 20 * g + 1 by omega]
    have hp := h3.1
    by_cases c : Y (20 + 20 * g + 10) = 1
    · rw [if_pos c, t_in]
      rcases h3.2.1 h4 with q | q
      · rw [q] at c; exact absurd c (by decide)
      · have := q.2
        omega
    · rw [if_neg c, t_in, t_add (by rw [t_1]; omega) (by rw [t_1]; omega), t_1]
      omega
theorem SX_pan (M : eg_H) (s : Nat) : fX11_pan M (nI s) = nI (320 + 8 * s) := pan_n M s
theorem sX11_pansGo {κ : eg_K} {d : Nat} (hd : 3 ≤ d) {M : eg_H} (hW : mW M) (nm : Nat → Int64) (s : (Nat → Int64) × Int32) (Y : Nat → Int32) : eg_S κ gM mtX11_pansGo d [vR (60, 0)] (SX M nm s Y) (eQV κ gM (fun M1 => M1 = SX M nm s (itr (pansF (mE M)) (nM M) Y))) := by
  obtain ⟨en, hn⟩ := nM_le hW
  refine eg_S.of rfl (Nat.le_of_ble_eq_true rfl) (vX11_pansGo_0 _ ?_)
  refine eg_down (P := fun i => eg_W κ gM mtX11_pansGo d (eQV κ gM (fun M1 => M1 = SX M nm s (itr (pansF (mE M)) (nM M) Y))) 2 [(0, vR (60, 0)), (1, vI (nI i))] [] (SX M nm s (itr (pansF (mE M)) i Y))) (nM M) (fun i hi k => ?_) ?_
  · have estep : itr (pansF (mE M)) (i + 1) Y = pansF (mE M) i (itr (pansF (mE M)) i Y) := rfl
    rw [estep] at k
    generalize itr (pansF (mE M)) i Y = Z at k ⊢
    refine vX11_pansGo_2 (by omega) _ _ ?_
    rw [SX_f _ _ _ _ (by decide), en]
    refine ⟨fun c => absurd c (nI_ge hi (by omega)), fun _ => ?_⟩
    simp only [forall_eq, pan_n, SX_hp hW _ _ _ hi]
    have k100 : ∀ Z1, pansF (mE M) i Z = upd (upd Z1 (320 + 8 * i + 1) (Z1 (320 + 8 * i + 1) + 1)) (320 + 8 * i + 5) (Z1 (320 + 8 * i + 5) + (if Z1 (320 + 8 * i) = 0 then 1 else 0)) → eg_W κ gM mtX11_pansGo d (eQV κ gM (fun M1 => M1 = SX M nm s (itr (pansF (mE M)) (nM M) Y))) 100 [(0, vR (60, 0)), (1, vI (nI i)), (2, vI (nI (320 + 8 * i)))] [] (SX M nm s Z1) := by
      intro Z1 eZ
      refine vX11_pansGo_100 _ _ _ ?_
      simp (disch := omega) only [forall_eq, nAl, nI_t, vpi, SX_Y, SX_i, pk_un, pk_us]
      refine ⟨by omega, by omega, by omega, ?_⟩
      have e0 : (if ¬ Z1 (320 + 8 * i) = 0 then (0 : Int32) else 1) = (if Z1 (320 + 8 * i) = 0 then 1 else 0) := by
        by_cases c : Z1 (320 + 8 * i) = 0 <;> simp [c]
      rw [e0, ← eZ]
      exact k
    refine ⟨ghas_n _ _ 2 (by omega), fun c => ?_, fun c => ?_⟩
    · have : pansF (mE M) i Z = Z := by unfold pansF; rw [if_pos c]
      rw [this] at k
      rw [nI_1]; exact k
    · have k44 : ∀ s0, s0 = eD (mE M) i 4 → eg_W κ gM mtX11_pansGo d (eQV κ gM (fun M1 => M1 = SX M nm s (itr (pansF (mE M)) (nM M) Y))) 44 [(0, vR (60, 0)), (1, vI (nI i)), (2, vI (nI (320 + 8 * i)))] [vI s0] (SX M nm s Z) := by
        intro s0 es0
        subst es0
        have kn : ¬ (¬ eD (mE M) i 4 < Z (320 + 8 * i) ∧ ¬ 0 ≤ Z (320 + 8 * i + 2) ∧ ¬ eO (mE M) 2 ≤ Z 0) → eg_W κ gM mtX11_pansGo d (eQV κ gM (fun M1 => M1 = SX M nm s (itr (pansF (mE M)) (nM M) Y))) 100 [(0, vR (60, 0)), (1, vI (nI i)), (2, vI (nI (320 + 8 * i)))] [] (SX M nm s Z) := by
          intro hc
          refine k100 Z ?_
          unfold pansF
          rw [if_neg c]
          dsimp only
          rw [if_neg hc]
        refine vX11_pansGo_44 (by omega) _ _ _ _ ?_
        rw [SX_f _ _ _ _ (by decide)]
        simp (disch := omega) only [nAl, nI_t, vpi, SX_Y, litT, vpL]
        have e18 : eO (mE M) 2 = M.1 (60, 0) 18 := rfl
        refine ⟨by omega, fun c1 => kn (fun q => q.1 c1), fun c1 => ⟨by omega, fun c2 => kn (fun q => q.2.1 c2), fun c2 => ⟨by omega, fun c3 => kn (fun q => q.2.2 c3), fun c3 => ⟨ghas_n _ _ 3 (by omega), fun x9 e9 M10 e10 => ?_⟩⟩⟩⟩
        rw [show fX11_has (SX M nm s Z) (nI i) 3 = M.1 (89, 0) (6 * i + 3) from SX_has _ _ _ _ (w := 3) (by omega) (by omega)] at e9
        rw [SX_i] at e10
        subst e9; subst e10
        refine k100 _ ?_
        unfold pansF
        rw [if_neg c]
        dsimp only
        rw [if_pos ⟨c1, c2, c3⟩, show eD (mE M) i 3 = M.1 (89, 0) (6 * i + 3) from eD_m hi 3]
      have e4 : eD (mE M) i 4 = if ¬ nI i = M.1 (60, 0) 55 then M.1 (89, 0) (6 * i + 4) else M.1 (60, 0) 56 := eD_m hi 4
      rw [SX_f _ _ _ _ (by decide), SX_f _ _ _ _ (by decide)]
      refine ⟨fun c2 => ⟨ghas_n _ _ 4 (by omega), k44 _ ?_⟩, fun c2 => k44 _ ?_⟩
      · rw [show fX11_has (SX M nm s Z) (nI i) 4 = M.1 (89, 0) (6 * i + 4) from SX_has _ _ _ _ (w := 4) (by omega) (by omega), e4, if_pos c2]
      · rw [e4, if_neg (fun q => q c2)]
  · refine vX11_pansGo_2 (by omega) _ _ ?_
    rw [SX_f _ _ _ _ (by decide), en]
    exact ⟨fun _ => rfl, fun c => absurd (nI_le (Nat.le_refl _) (by omega)) c⟩
theorem itr_s {α : Type} (f : Nat → α → α) (n : Nat) (x : α) : itr f (n + 1) x = f n (itr f n x) := rfl
theorem SX_ev {M : eg_H} (nm : Nat → Int64) (s : (Nat → Int64) × Int32) (Y : Nat → Int32) : fX11_everybody (SX M nm s Y) = fX11_everybody M := by
  unfold fX11_everybody
  rw [SX_f _ _ _ _ (by decide), SX_f _ _ _ _ (by decide)]
theorem sX11_second {κ : eg_K} {d : Nat} (hd : 7 ≤ d) {M : eg_H} (hW : mW M) (hE : wE (mE M)) {C : Nat} (hC : C < 1000000) (hC2 : 119 ≤ C) (nm : Nat → Int64) (s : (Nat → Int64) × Int32) (Y : Nat → Int32) (hY : yI (mE M) C Y) : eg_S κ gM mtX11_second d [vR (60, 0)] (SX M nm s Y) (eQV κ gM (fun M1 => ∃ nm1 s1, M1 = SX M nm1 s1 (secF (mE M) Y))) := by
  obtain ⟨en, hn⟩ := nM_le hW
  obtain ⟨eN2, hN⟩ := NM_le hW
  have hPN : eP (mE M) = NM M := rfl
  have hNn : eN (mE M) = nM M := rfl
  generalize hQ : (fun M1 => ∃ nm1 s1, M1 = SX M nm1 s1 (secF (mE M) Y)) = Q
  -- the end
  have k219 : ∀ nm s Z, yI (mE M) C Z → upd (itr (pansF (mE M)) (nM M) (itr tkoF (Z 1).toNatClampNeg Z)) 0 (itr (pansF (mE M)) (nM M) (itr tkoF (Z 1).toNatClampNeg Z) 0 + 1) = secF (mE M) Y → eg_W κ gM mtX11_second d (eQV κ gM Q) 219 [(0, vR (60, 0)), (3, vI (0 : Int32))] [] (SX M nm s Z) := by
    intro nm s Z hZ eZ
    have hq := vp_lt hZ.1.1
    have eq := (nI_of' hZ.1.1 (by omega)).1
    refine eg_down (P := fun i => eg_W κ gM mtX11_second d (eQV κ gM Q) 219 [(0, vR (60, 0)), (3, vI (nI i))] [] (SX M nm s (itr tkoF i Z))) (Z 1).toNatClampNeg (fun i hi k => ?_) ?_
    · obtain ⟨hI, e1⟩ := tkoA_I hE hZ i (by omega)
      rw [itr_s] at k
      generalize itr tkoF i Z = Z1 at hI e1 k ⊢
      have hg := vp_lt (hI.1.2.1 i (by rw [e1]; exact hi)).1
      have eg := (nI_of' (hI.1.2.1 i (by rw [e1]; exact hi)).1 (by omega)).1
      refine vX11_second_219 (by omega) _ _ ?_
      simp (disch := omega) only [litT, vpL, SX_Y]
      rw [e1, eq]
      refine ⟨by omega, fun c => absurd c (nI_ge hi (by omega)), fun _ => ?_⟩
      unfold tkoF at k
      generalize (Z1 (2 + i)).toNatClampNeg = g at hg eg k
      simp (disch := omega) only [forall_eq, nAr, nAl, nI_t, vpi, eg, at_n, SX_i]
      refine ⟨by omega, by omega, ?_⟩
      exact k
    · obtain ⟨hI, e1⟩ := tkoA_I hE hZ _ (Nat.le_refl _)
      generalize itr tkoF (Z 1).toNatClampNeg Z = Z1 at hI e1 eZ ⊢
      refine vX11_second_219 (by omega) _ _ ?_
      simp (disch := omega) only [litT, vpL, SX_Y]
      rw [e1, eq]
      refine ⟨by omega, fun _ => ⟨_, sX11_pansGo (by omega) hW nm s Z1, fun M3 e3 => ?_⟩, fun c => absurd (by rw [nI_t (by omega)]; exact nI_le (Nat.le_refl _) (by omega)) c⟩
      subst e3
      simp (disch := omega) only [forall_eq, SX_Y, SX_i]
      refine ⟨by omega, ?_⟩
      rw [eZ, ← hQ]
      exact ⟨nm, s, rfl⟩
  -- along the line
  have k157 : ∀ n i nm s Z, yI (mE M) C Z → i ≤ (Z 1).toNatClampNeg → n = (Z 1).toNatClampNeg - i → (∀ W1, W1 = walkF (mE M) n i Z → upd (itr (pansF (mE M)) (nM M) (itr tkoF (W1 1).toNatClampNeg W1)) 0 (itr (pansF (mE M)) (nM M) (itr tkoF (W1 1).toNatClampNeg W1) 0 + 1) = secF (mE M) Y) → eg_W κ gM mtX11_second d (eQV κ gM Q) 157 [(0, vR (60, 0)), (2, vI (nI i))] [] (SX M nm s Z) := by
    intro n
    induction n with
    | zero =>
      intro i nm s Z hZ hi hn0 eW
      have hq := vp_lt hZ.1.1
      have eq := (nI_of' hZ.1.1 (by omega)).1
      refine vX11_second_157 (by omega) _ _ ?_
      simp (disch := omega) only [litT, vpL, SX_Y]
      rw [eq, nI_leI (by omega) (by omega)]
      exact ⟨by omega, fun _ => k219 nm s Z hZ (eW Z rfl), fun c => by omega⟩
    | succ n ih =>
      intro i nm s Z hZ hi hn0 eW
      have hq := vp_lt hZ.1.1
      have eq := (nI_of' hZ.1.1 (by omega)).1
      have hil : i < (Z 1).toNatClampNeg := by omega
      have hg := vp_lt (hZ.1.2.1 i hil).1
      have eg := (nI_of' (hZ.1.2.1 i hil).1 (by omega)).1
      refine vX11_second_157 (by omega) _ _ ?_
      simp (disch := omega) only [litT, vpL, SX_Y]
      rw [eq, nI_leI (by omega) (by omega)]
      refine ⟨by omega, fun c => by omega, fun _ => ?_⟩
      have eW0 : walkF (mE M) (n + 1) i Z = (if Z (20 + 20 * (Z (2 + i)).toNatClampNeg + 3) = 0 then (if (goF (mE M) i Z).1 then walkF (mE M) n i (goF (mE M) i Z).2 else walkF (mE M) n (i + 1) (goF (mE M) i Z).2) else walkF (mE M) n (i + 1) Z) := by
        rw [walkF, if_pos hil]
      rw [eW0] at eW
      generalize hgd : (Z (2 + i)).toNatClampNeg = g at hg eg eW
      simp (disch := omega) only [nAr, nI_t, vpi, eg, at_n, forall_eq, nAl]
      refine ⟨by omega, by omega, fun c => ?_, fun c => ?_⟩
      · simp only [if_true, nAl]
        rw [if_neg c] at eW
        exact ih (i + 1) nm s Z hZ (by omega) (by omega) eW
      · rw [if_pos c] at eW
        refine ⟨_, sX11_goes (by omega) hW nm s Z (hZ.W hE) hil, fun r N ⟨er, nm1, s1, eN⟩ => ?_⟩
        obtain ⟨g1, g2, -⟩ := goF_I hE hC hZ hil
        subst eN
        by_cases c3 : (goF (mE M) i Z).1 = true
        · rw [if_pos c3] at er g2 eW
          subst er
          rw [show (if (if (1 : Int32) = 0 then (0 : Int32) else 1) = 0 then (1 : Int32) else 0) = 0 by decide]
          simp only [nAl]
          exact ih i nm1 s1 _ g1 (by omega) (by omega) eW
        · rw [if_neg c3] at er g2 eW
          subst er
          rw [show (if (if (0 : Int32) = 0 then (0 : Int32) else 1) = 0 then (1 : Int32) else 0) = 1 by decide]
          simp only [nAl]
          exact ih (i + 1) nm1 s1 _ g1 (by rw [g2]; omega) (by rw [g2]; omega) eW
  -- who comes
  have k101 : eg_W κ gM mtX11_second d (eQV κ gM Q) 101 [(0, vR (60, 0)), (1, vI (Y 0)), (2, vI (0 : Int32))] [] (SX M nm s (itr (fillF (mE M)) (nM M) Y)) := by
    have hF := fillA_I hE hC hY (nM M) (Nat.le_refl _)
    have e0 : itr (fillF (mE M)) (nM M) Y 0 = Y 0 := itr_fix (fillF_0 _) _
    have eS : secF (mE M) Y = (let Y1 := itr (admF (mE M)) (NM M) (itr (fillF (mE M)) (nM M) Y); let Y2 := walkF (mE M) (Y1 1).toNatClampNeg 0 Y1; let Y3 := itr tkoF (Y2 1).toNatClampNeg Y2; let Y4 := itr (pansF (mE M)) (nM M) Y3; upd Y4 0 (Y4 0 + 1)) := rfl
    rw [eS] at k157
    generalize itr (fillF (mE M)) (nM M) Y = Z at hF e0 k157 ⊢
    refine eg_down (P := fun i => eg_W κ gM mtX11_second d (eQV κ gM Q) 101 [(0, vR (60, 0)), (1, vI (Y 0)), (2, vI (nI i))] [] (SX M nm s (itr (admF (mE M)) i Z))) (NM M) (fun i hi k => ?_) ?_
    · have hI := admA_I hE hF i (by rw [hPN]; omega)
      have e1 : itr (admF (mE M)) i Z 0 = Y 0 := (itr_fix (admF_0 _) _).trans e0
      rw [itr_s] at k
      generalize itr (admF (mE M)) i Z = Z1 at hI e1 k ⊢
      refine vX11_second_101 (by omega) _ _ _ (fun x2 e2 => ?_)
      rw [SX_ev, eN2] at e2
      subst e2
      refine ⟨fun c => absurd c (nI_ge hi (by omega)), fun _ => ?_⟩
      simp (disch := omega) only [forall_eq, at_n, nI_t, vpi, SX_Y, nAl]
      have kno : ¬ ((Z1 (20 + 20 * i) = 0 ∨ Z1 (20 + 20 * i) = 2) ∧ Z1 (20 + 20 * i + 11) = Y 0) → eg_W κ gM mtX11_second d (eQV κ gM Q) 101 [(0, vR (60, 0)), (1, vI (Y 0)), (2, vI (nI (i + 1)))] [] (SX M nm s Z1) := by
        intro hc
        have : admF (mE M) i Z1 = Z1 := by unfold admF; rw [if_neg (by rw [e1]; exact hc)]
        rw [this] at k
        exact k
      have k128 : (Z1 (20 + 20 * i) = 0 ∨ Z1 (20 + 20 * i) = 2) → eg_W κ gM mtX11_second d (eQV κ gM Q) 128 [(0, vR (60, 0)), (1, vI (Y 0)), (2, vI (nI i))] [] (SX M nm s Z1) := by
        intro hc
        refine vX11_second_128 (by omega) _ _ _ ?_
        simp (disch := omega) only [forall_eq, at_n, nI_t, vpi, SX_Y, nAl]
        refine ⟨by omega, fun c => kno (fun q => c q.2), fun c => ?_⟩
        have hA := admF_I hE hI (g := i) (by rw [hPN]; exact hi)
        have eA : admF (mE M) i Z1 = comeF (eC (mE M) i 1) Z1 i := by unfold admF; rw [if_pos ⟨hc, by rw [e1]; exact c⟩]
        rw [eA] at hA k
        have hq := vp_lt hA.1.1
        have hq0 := vp_lt hI.1.1
        have eq0 := (nI_of' hI.1.1 (by omega)).1
        have eq1 : comeF (eC (mE M) i 1) Z1 i 1 = nI ((Z1 1).toNatClampNeg + 1) := by
          unfold comeF
          rw [pk_us, ← nI_1, ← eq0]
        rw [eq1, nI_t (by omega)] at hq
        have ec : fX11_comesNow (SX M nm s Z1) (nI i) = SX M nm s (comeF (eC (mE M) i 1) Z1 i) := by
          unfold fX11_comesNow
          rw [SX_Y, SX_sz, nI_t (by omega), SX_W, show eC (mE M) i 1 = fX11_sizeOf M (nI i) from eC_m hi 1]
        rw [ec]
        refine ⟨⟨nI_in' (by omega) (by omega), ?_⟩, k⟩
        rw [SX_Y, eq0]
        exact nI_in' (by omega) (by omega)
      refine ⟨by omega, fun c => k128 (Or.inl c), fun c => ⟨fun c2 => kno (fun q => q.1.elim c c2), fun c2 => k128 (Or.inr c2)⟩⟩
    · have hI := admA_I hE hF (NM M) (Nat.le_refl _)
      generalize itr (admF (mE M)) (NM M) Z = Z1 at hI k157 ⊢
      refine vX11_second_101 (by omega) _ _ _ (fun x2 e2 => ?_)
      rw [SX_ev, eN2] at e2
      subst e2
      refine ⟨fun _ => ?_, fun c => absurd (nI_le (Nat.le_refl _) (by omega)) c⟩
      exact k157 (Z1 1).toNatClampNeg 0 nm s Z1 hI (by omega) (by omega) (fun W1 e => by rw [e])
  -- the pans
  refine eg_S.of rfl (Nat.le_of_ble_eq_true rfl) (vX11_second_0 _ ?_)
  simp (disch := omega) only [forall_eq, litT, vpL, SX_Y]
  refine ⟨by omega, ?_⟩
  refine eg_down (P := fun i => eg_W κ gM mtX11_second d (eQV κ gM Q) 9 [(0, vR (60, 0)), (1, vI (Y 0)), (2, vI (nI i))] [] (SX M nm s (itr (fillF (mE M)) i Y))) (nM M) (fun i hi k => ?_) ?_
  · have e1 : itr (fillF (mE M)) i Y 0 = Y 0 := itr_fix (fillF_0 _) _
    have hI := fillA_I hE hC hY i (by rw [hNn]; omega)
    rw [itr_s] at k
    generalize itr (fillF (mE M)) i Y = Z at e1 k hI ⊢
    refine vX11_second_9 (by omega) _ _ _ ?_
    rw [SX_f _ _ _ _ (by decide), en]
    refine ⟨fun c => absurd c (nI_ge hi (by omega)), fun _ => ?_⟩
    have kno : (Z (320 + 8 * i + 2) < 0 ∨ ¬ Z (320 + 8 * i + 2) ≤ Y 0) → eg_W κ gM mtX11_second d (eQV κ gM Q) 9 [(0, vR (60, 0)), (1, vI (Y 0)), (2, vI (nI (i + 1)))] [] (SX M nm s Z) := by
      intro hc
      have : fillF (mE M) i Z = Z := by unfold fillF; rw [if_pos (by rw [e1]; exact hc)]
      rw [this] at k
      exact k
    simp (disch := omega) only [forall_eq, pan_n, nI_t, vpi, SX_Y, nAl, SX_i, pk_un, pk_us]
    refine ⟨by omega, fun c => kno (Or.inl c), fun c => ⟨fun c2 => ?_, fun c2 => kno (Or.inr c2)⟩⟩
    have hpan : ¬ eD (mE M) i 2 = 0 := by
      rcases (hI.2.2.2.1 i hi).2 with q | q
      · rw [q] at c; exact absurd (by decide) c
      · exact q.2
    have h89 : ¬ M.1 (89, 0) (6 * i + 2) < 0 := fun q => hpan ((pan0 hW hi).mp q)
    have epo : fX11_portionsOf (SX M nm s Z) (nI i) = eD (mE M) i 2 := by
      unfold fX11_portionsOf
      rw [SX_f _ _ _ _ (by decide), SX_f _ _ _ _ (by decide), show fX11_has (SX M nm s Z) (nI i) 2 = M.1 (89, 0) (6 * i + 2) from SX_has _ _ _ _ (w := 2) (by omega) (by omega)]
      have : eD (mE M) i 2 = if M.1 (89, 0) (6 * i + 2) < 0 then 0 else if ¬ nI i = M.1 (60, 0) 57 then M.1 (89, 0) (6 * i + 2) else M.1 (60, 0) 58 := eD_m hi 2
      rw [this, if_neg h89]
    rw [epo]
    refine ⟨by omega, fun _ => ghas_n _ _ 2 (by omega), by omega, by omega, ?_⟩
    have eF : fillF (mE M) i Z = upd (upd (upd (upd Z (320 + 8 * i) (Z (320 + 8 * i) + eD (mE M) i 2)) (320 + 8 * i + 1) 0) (320 + 8 * i + 2) (-1)) (320 + 8 * i + 6) (Z (320 + 8 * i + 6) + 1) := by
      unfold fillF
      rw [if_neg]
      rw [e1]
      exact fun q => q.elim c (fun q => q c2)
    rw [eF] at k
    exact k
  · refine vX11_second_9 (by omega) _ _ _ ?_
    rw [SX_f _ _ _ _ (by decide), en]
    exact ⟨fun _ => k101, fun c => absurd (nI_le (Nat.le_refl _) (by omega)) c⟩
