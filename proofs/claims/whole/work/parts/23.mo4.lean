/-! HEAPS, SITS, GOES: the model's -/
theorem eD_m {M : eg_H} {s : Nat} (hs : s < nM M) (f : Nat) : eD (mE M) s f = dM M s f := if_pos hs
theorem eC_m {M : eg_H} {g : Nat} (hg : g < NM M) (f : Nat) : eC (mE M) g f = pM M g f := if_pos hg
theorem nM_le {M : eg_H} (h : mW M) : M.1 (60, 0) 12 = nI (nM M) ∧ nM M < 6 := nI_of' h.1 (by omega)
theorem NM_le {M : eg_H} (h : mW M) : fX11_everybody M = nI (NM M) ∧ NM M < 16 := nI_of' h.2.1 (by omega)
theorem pan0 {M : eg_H} (h : mW M) {s : Nat} (hs : s < nM M) : M.1 (89, 0) (6 * s + 2) < 0 ↔ eD (mE M) s 2 = 0 := by
  rw [eD_m hs]
  refine ⟨fun q => if_pos q, fun q => ?_⟩
  by_cases c : M.1 (89, 0) (6 * s + 2) < 0
  · exact c
  · exact absurd q (h.2.2.1 s hs c)
theorem nmC_8 (o o1 : Nat → Int64) (a0 a1 a2 a3 a4 a5 a6 a7 : Int64) (j : Nat) (hj : j < 8) : nmC o a0 a1 a2 a3 a4 a5 a6 a7 j = nmC o1 a0 a1 a2 a3 a4 a5 a6 a7 j := by
  rcases (by omega : j = 0 ∨ j = 1 ∨ j = 2 ∨ j = 3 ∨ j = 4 ∨ j = 5 ∨ j = 6 ∨ j = 7) with rfl | rfl | rfl | rfl | rfl | rfl | rfl | rfl <;> rfl
theorem SX_sz (M : eg_H) (nm : Nat → Int64) (s : (Nat → Int64) × Int32) (Y : Nat → Int32) (g : Int32) : fX11_sizeOf (SX M nm s Y) g = fX11_sizeOf M g := by
  unfold fX11_sizeOf
  rw [SX_f _ _ _ _ (by decide), SX_o _ _ _ _ (by decide) (by decide)]
theorem law_m {M : eg_H} (h : mW M) {l : Nat} (hl : l < 3) (nm nm1 nm2 : Nat → Int64) (s : (Nat → Int64) × Int32) (Y : Nat → Int32) (hn : ∀ j, j < 8 → nm1 j = nm2 j) : lwM (SX M nm s Y) l nm1 = eL (mE M) l nm2 := by
  have e1 : eL (mE (SX M nm s Y)) l nm1 = lwM (SX M nm s Y) l nm1 := by
    show (if l < 3 then lwM (SX M nm s Y) l else fun _ => none) nm1 = _
    rw [if_pos hl]
  rw [← e1, mE_SX]
  show (if l < 3 then lwM M l else fun _ => none) nm1 = (if l < 3 then lwM M l else fun _ => none) nm2
  rw [if_pos hl]
  exact lwM_cong (h.2.2.2 l hl) hn
theorem SX_lna (M : eg_H) (nm : Nat → Int64) (s : (Nat → Int64) × Int32) (Y : Nat → Int32) {g st : Nat} (hg : g < 100) (hs : st < 100) : fX11_layNamesAt (SX M nm s Y) (nI g) (nI st) = SX M (nmY nm Y (fX11_sizeOf M (nI g)) g (Y (20 + 20 * g + 14 + st)).toInt64 (if M.1 (89, 0) (6 * st + 2) < 0 then 999 else (Y (320 + 8 * st)).toInt64) (if M.1 (89, 0) (6 * st + 2) < 0 then 0 else (Y (320 + 8 * st + 1)).toInt64)) s Y := by
  unfold fX11_layNamesAt
  rw [SX_N, SX_nm, SX_Y, SX_sz, SX_o _ _ _ _ (by decide) (by decide), nI_t (by omega), nI_t (by omega)]
theorem SX_hp {M : eg_H} (h : mW M) (nm : Nat → Int64) (s : (Nat → Int64) × Int32) (Y : Nat → Int32) {st : Nat} (hs : st < nM M) : fX11_hasPan (SX M nm s Y) (nI st) = 0 ↔ eD (mE M) st 2 = 0 := by
  have hn := (nM_le h).2
  rw [hasPan_n _ _ (by omega), SX_o _ _ _ _ (by decide) (by decide)]
  exact pan0 h hs
theorem SX_has (M : eg_H) (nm : Nat → Int64) (s : (Nat → Int64) × Int32) (Y : Nat → Int32) {st w : Nat} (hs : st < 100) (hw : w < 100) : fX11_has (SX M nm s Y) (nI st) (nI w) = M.1 (89, 0) (6 * st + w) := by
  rw [has_n _ _ _ hs hw, SX_o _ _ _ _ (by decide) (by decide)]
theorem nmA_m {M : eg_H} (h : mW M) (nm : Nat → Int64) (Y : Nat → Int32) {g st : Nat} (hg : g < NM M) (hs : st < nM M) (j : Nat) (hj : j < 8) : nmY nm Y (fX11_sizeOf M (nI g)) g (Y (20 + 20 * g + 14 + st)).toInt64 (if M.1 (89, 0) (6 * st + 2) < 0 then 999 else (Y (320 + 8 * st)).toInt64) (if M.1 (89, 0) (6 * st + 2) < 0 then 0 else (Y (320 + 8 * st + 1)).toInt64) j = nmA (mE M) Y g st j := by
  unfold nmA
  have e1 : eC (mE M) g 1 = fX11_sizeOf M (nI g) := eC_m hg 1
  rw [e1]
  simp only [pan0 h hs]
  exact nmC_8 _ _ _ _ _ _ _ _ _ _ j hj
theorem sX11_heaps {κ : eg_K} {d : Nat} (hd : 4 ≤ d) {M : eg_H} (hW : mW M) (nm : Nat → Int64) (s : (Nat → Int64) × Int32) (Y : Nat → Int32) {g st : Nat} (hg : g < NM M) (hs : st < nM M) : eg_S κ gM mtX11_heaps d [vR (60, 0), vI (nI g), vI (nI st)] (SX M nm s Y) (eQV κ gM (fun M1 => ∃ nm1 s1, M1 = SX M nm1 s1 (heapF (mE M) g st Y))) := by
  have hn := (nM_le hW).2
  have hN := (NM_le hW).2
  refine eg_S.of rfl (Nat.le_of_ble_eq_true rfl) (vX11_heaps_0 (by omega) _ _ _ ?_)
  simp (disch := omega) only [forall_eq, at_n, nAl, nI_add, nI_t, vpi, SX_Y]
  refine ⟨by omega, ⟨nI_in' (by omega) (by omega), nI_in' (by omega) (by omega)⟩, ?_⟩
  rw [SX_lna _ _ _ _ (by omega) (by omega)]
  refine ⟨_, sX11_lawOf (by omega) _ 0 _ (lwW_SX (hW.2.2.2 0 (by omega)) _ _ _), fun v N ⟨ev, s1, eN⟩ => ?_⟩
  rw [SX_E] at eN
  rw [SX_nm, law_m hW (by omega) _ _ _ _ _ (nmA_m hW nm Y hg hs)] at ev
  have ev1 : v = lawD (mE M) 0 (nmA (mE M) Y g st) (Y (20 + 20 * g + 14 + st)).toInt64 := ev
  clear ev
  subst eN
  simp (disch := omega) only [SX_Y]
  refine ⟨by omega, ghas_n _ _ 2 (by omega), ?_⟩
  have tail : ∀ most : Int64, most = (if eD (mE M) st 2 = 0 then (Y (20 + 20 * g + 2)).toInt64 else if 0 ≤ lg_cmp (Y (320 + 8 * st)).toInt64 (Y (20 + 20 * g + 2)).toInt64 then (Y (20 + 20 * g + 2)).toInt64 else (Y (320 + 8 * st)).toInt64) → ∀ nm1, eg_W κ gM mtX11_heaps d (eQV κ gM (fun M1 => ∃ nm1 s1, M1 = SX M nm1 s1 (heapF (mE M) g st Y))) 81 [(0, vR (60, 0)), (2, vI (nI st)), (3, vI (nI (20 + 20 * g))), (4, vI (Y (20 + 20 * g + 14 + st))), (5, vL v), (7, vL most)] [] (SX M nm1 s1 Y) := by
    intro most em nm1
    have eh : ∀ x2 : Int32, x2 = (if 0 ≤ lg_cmp v 0 then (if lg_cmp v most ≤ 0 then v else most) else 0).toInt32 → x2 = heapH (mE M) Y g st := by
      intro x2 e2
      rw [e2, ev1, em]
      rfl
    refine vX11_heaps_81 (by omega) _ _ _ _ _ _ (fun x1 e1 x2 e2 => ?_)
    have e2' := eh x2 (by rw [e2, e1])
    clear e2 e1 eh
    subst e2'
    simp (disch := omega) only [forall_eq, nAl, nI_add, nI_t, vpi, SX_Y, SX_i, pan_n, pk_un, pk_us]
    have e5 : fX11_has (SX M nm1 s1 (upd (upd (upd (upd Y (20 + 20 * g + 2) (Y (20 + 20 * g + 2) - heapH (mE M) Y g st)) (20 + 20 * g + 5) (Y (20 + 20 * g + 5) + heapH (mE M) Y g st)) (20 + 20 * g + 14 + st) (if Y (20 + 20 * g + 14 + st) ≤ heapH (mE M) Y g st then 0 else Y (20 + 20 * g + 14 + st) - heapH (mE M) Y g st)) (320 + 8 * st + 3) (Y (320 + 8 * st + 3) + heapH (mE M) Y g st))) (nI st) 5 = M.1 (89, 0) (6 * st + 5) := SX_has _ _ _ _ (w := 5) (by omega) (by omega)
    have e6 : eD (mE M) st 5 = if M.1 (89, 0) (6 * st + 5) ≤ 0 then 0 else M.1 (89, 0) (6 * st + 5) := eD_m hs 5
    have fin : ∀ s0 : Int32, s0 = (if eD (mE M) st 5 = 0 then 0 else if Y (320 + 8 * st + 1) < eD (mE M) st 5 then 0 else heapH (mE M) Y g st) → eg_W κ gM mtX11_heaps d (eQV κ gM (fun M1 => ∃ nm1 s1, M1 = SX M nm1 s1 (heapF (mE M) g st Y))) 226 [(0, vR (60, 0)), (2, vI (nI st)), (9, vI (heapH (mE M) Y g st))] [vI s0, vI (Y (320 + 8 * st + 4)), vI (nI (320 + 8 * st + 4)), vR (110, 0)] (SX M nm1 s1 (upd (upd (upd (upd Y (20 + 20 * g + 2) (Y (20 + 20 * g + 2) - heapH (mE M) Y g st)) (20 + 20 * g + 5) (Y (20 + 20 * g + 5) + heapH (mE M) Y g st)) (20 + 20 * g + 14 + st) (if Y (20 + 20 * g + 14 + st) ≤ heapH (mE M) Y g st then 0 else Y (20 + 20 * g + 14 + st) - heapH (mE M) Y g st)) (320 + 8 * st + 3) (Y (320 + 8 * st + 3) + heapH (mE M) Y g st))) := by
      intro s0 es0
      refine vX11_heaps_226 (by omega) _ _ _ _ _ _ ?_
      simp (disch := omega) only [forall_eq, nAl, nI_add, nI_t, vpi, SX_Y, SX_i, pan_n, pk_un, pk_us, SX_hp hW _ _ _ hs]
      refine ⟨by omega, by omega, ghas_n _ _ 2 (by omega), nm1, s1, ?_⟩
      rw [es0]
      rfl
    rw [e5]
    refine ⟨by omega, by omega, by omega, by omega, by omega, ghas_n _ _ 5 (by omega), fun c => fin _ ?_, fun c => ⟨by omega, fin _ ?_⟩⟩
    · rw [e6, if_pos c, if_pos rfl]
    · have c2 : ¬ M.1 (89, 0) (6 * st + 5) = 0 := fun q => c (by rw [q]; decide)
      rw [e6, if_neg c, if_neg c2]
  simp only [SX_hp hW _ _ _ hs]
  refine ⟨fun c => tail _ (by rw [if_pos c]) _, fun c => ?_⟩
  simp (disch := omega) only [forall_eq, pan_n, vpi, nI_t, SX_Y]
  refine ⟨by omega, fun c2 => tail _ (by rw [if_neg c, if_pos c2]) _, fun c2 => ⟨by omega, tail _ (by rw [if_neg c, if_neg c2]) _⟩⟩
