/-! WHAT THE CLASS'S TABLE DOES IN A SECOND -/
theorem hasPan_c {M : eg_H} {p : Nat} (h : cW M p) {s : Nat} (hs : s < cN M p) : fX5_hasPan M p (nI s) = 0 ↔ eD (cE M p) s 2 = 0 := by
  obtain ⟨e, hn⟩ := cN_e h
  have hw := (h.2.2.2.2.1.2.2.1 s hs).2.1
  have ed : eD (cE M p) s 2 = M.1 (1, 5 * p + s) 3 := eD_c hs 2
  rw [ed] at hw ⊢
  unfold fX5_hasPan
  have e1 : ¬ nI (cN M p) ≤ nI s := fun q => absurd ((nI_le' (by omega) (by omega)).mp q) (by omega)
  rw [if_neg (nI_pos (by omega)), e, if_neg e1, nI_t (by omega)]
  by_cases c : M.1 (1, 5 * p + s) 3 ≤ 0
  · rw [if_pos c]
    refine ⟨fun _ => ?_, fun _ => rfl⟩
    rw [t_eq, t_0]
    rw [t_le, t_0] at c
    omega
  · rw [if_neg c]
    refine ⟨fun q => absurd q (by decide), fun q => ?_⟩
    rw [q] at c
    exact absurd (Int32.le_refl _) c
theorem hasPan_z (M : eg_H) (p : Nat) : fX5_hasPan M p (-1) = 0 := if_pos (by decide)
theorem ghasPan_c {M : eg_H} {p : Nat} (h : cW M p) {s : Nat} (hs : s < 5) : gX5_hasPan M p (nI s) := by
  unfold gX5_hasPan
  intros
  exact nI_in' hs (by omega)
theorem ghasPan_z (M : eg_H) (p : Nat) : gX5_hasPan M p (-1) := by
  unfold gX5_hasPan
  intro q
  exact absurd (by decide) q
theorem hasPan_TX (M : eg_H) (t p : Nat) (nm st : Nat → Int64) (Z : Nat → Int32) (q : Nat) (s : Int32) : fX5_hasPan (TX M t p nm st Z) q s = fX5_hasPan M q s := rfl
theorem sN_TX (M : eg_H) (t p : Nat) (nm st : Nat → Int64) (Z : Nat → Int32) (x : Int64) (k : Nat) (hk : k < 8) : fX3_setName (TX M t p nm st Z) p (nI (16 + k)) x = TX M t p (vp_updL nm k x) st Z := by
  unfold fX3_setName
  have e : nI (16 + k) - (16 : Int32) = nI k := by
    have : nI (16 + k) = nI k + 16 := by rw [(nAl k).2.2.2.2.2.2.2.2.2.2.2.2.2.2.2.2.1]; congr 1; omega
    rw [this]
    exact Int32.add_sub_cancel _ _
  have e1 : ¬ nI (16 + k) < (16 : Int32) := fun q => absurd ((nI_lt' (b := 16) (by omega) (by omega)).mp q) (by omega)
  have e2 : ¬ (23 : Int32) < nI (16 + k) := fun q => absurd ((nI_lt' (a := 23) (by omega) (by omega)).mp q) (by omega)
  rw [if_neg e1, if_neg e2, e, nI_t (by omega), TX_nw]
theorem gN_TX (M : eg_H) (p : Nat) (x : Int64) (k : Nat) (hk : k < 8) : gX3_setName M p (nI (16 + k)) x := by
  unfold gX3_setName
  have e : nI (16 + k) - (16 : Int32) = nI k := by
    have : nI (16 + k) = nI k + 16 := by rw [(nAl k).2.2.2.2.2.2.2.2.2.2.2.2.2.2.2.2.1]; congr 1; omega
    rw [this]
    exact Int32.add_sub_cancel _ _
  rw [e]
  intros
  exact nI_in' hk (by omega)
/-- the eight names as the class lays them -/
def nmZ (E : eg_E) (o : Nat → Int64) (Z : Nat → Int32) (g : Nat) (w h a : Int64) : Nat → Int64 := nmC o w (Z (20 + 20 * g + 2)).toInt64 h a (Z 1).toInt64 (Z 0 - eC E g 0).toInt64 (eC E g 1).toInt64 (eC E g 1 - Z (20 + 20 * g + 2)).toInt64
section
variable {κ : eg_K} {d : Nat} {M : eg_H} {t p : Nat} {nm st : Nat → Int64} {Z : Nat → Int32}
theorem describe_86 (hd : 1 ≤ d) (ht : t < 4) (hW : cW M p) (hT : M.2.2 (7, t) 0 = (5, p)) {g : Nat} (hg : g < cP M p) (l2 x6 x8 : Int32) (s0 : Int64) (h5 : ¬ x6 = 0 → ∃ s, s < 5 ∧ l2 = nI s) {post : eg_H → Prop} (hp : post (TX M t p (nmZ (cE M p) nm Z g s0 (if ¬ l2 = -1 then x8.toInt64 else 0) (if x6 = 0 then 0 else (Z (320 + 8 * l2.toNatClampNeg + 1)).toInt64)) st Z)) : eg_W κ gC mtX7_describe d (eQV κ gC post) 86 [(0, vR (7, t)), (1, vI (nI g)), (2, vI l2), (3, vR (2, 15 * t + g)), (4, vR (3, p)), (5, vI (M.1 (0, 15 * p + g) 2)), (6, vI x6), (7, vI x8)] [vL s0, vI (16 : Int32), vR (3, p)] (TX M t p nm st Z) := by
  have hN := (cP_e hW).2
  have hp2 := hW.1
  have e0 : eC (cE M p) g 0 = M.1 (0, 15 * p + g) 1 := eC_c hg 0
  have e1 : eC (cE M p) g 1 = M.1 (0, 15 * p + g) 2 := eC_c hg 1
  have c16 : (16 : Int32) = nI (16 + 0) := rfl
  have c17 : (17 : Int32) = nI (16 + 1) := rfl
  have c18 : (18 : Int32) = nI (16 + 2) := rfl
  have c19 : (19 : Int32) = nI (16 + 3) := rfl
  have c20 : (20 : Int32) = nI (16 + 4) := rfl
  have c21 : (21 : Int32) = nI (16 + 5) := rfl
  have c22 : (22 : Int32) = nI (16 + 6) := rfl
  have c23 : (23 : Int32) = nI (16 + 7) := rfl
  have hv : (¬ x6 = 0) → vp_in l2 5 := fun q => by
    obtain ⟨s, hs, e⟩ := h5 q
    rw [e]
    exact nI_in' hs (by omega)
  refine vX7_describe_86 hd _ ht _ _ (by omega) hp2 _ _ _ _ _ hp2 ?_
  refine ⟨c16 ▸ gN_TX _ _ _ 0 (by omega), fun M2 e2 => ?_⟩
  rw [c16, sN_TX _ _ _ _ _ _ _ 0 (by omega)] at e2
  subst e2
  refine ⟨c17 ▸ gN_TX _ _ _ 1 (by omega), fun M5 e5 => ?_⟩
  rw [c17, sN_TX _ _ _ _ _ _ _ 1 (by omega), T2_2 _ _ _ _ _ _ (by omega)] at e5
  subst e5
  intro x7 e7
  refine ⟨c18 ▸ gN_TX _ _ _ 2 (by omega), fun M9 e9 => ?_⟩
  rw [c18, sN_TX _ _ _ _ _ _ _ 2 (by omega), e7] at e9
  subst e9
  refine ⟨hv, fun x12 e12 => ?_⟩
  refine ⟨c19 ▸ gN_TX _ _ _ 3 (by omega), fun M14 e14 => ?_⟩
  have e12' : x12 = if x6 = 0 then 0 else (Z (320 + 8 * l2.toNatClampNeg + 1)).toInt64 := by
    rw [e12]
    by_cases c : x6 = 0
    · rw [if_pos c, if_pos c]
    · obtain ⟨s, hs, e⟩ := h5 c
      rw [if_neg c, if_neg c, e, nI_t (by omega), T4_1 _ _ _ _ _ _ hs]
  rw [c19, sN_TX _ _ _ _ _ _ _ 3 (by omega), e12'] at e14
  subst e14
  refine ⟨c20 ▸ gN_TX _ _ _ 4 (by omega), fun M17 e17 => ?_⟩
  rw [c20, sN_TX _ _ _ _ _ _ _ 4 (by omega), T7_6] at e17
  subst e17
  refine ⟨p, hp2, hT, nI_in' (by omega) (by omega), c21 ▸ gN_TX _ _ _ 5 (by omega), fun M22 e22 => ?_⟩
  rw [c21, sN_TX _ _ _ _ _ _ _ 5 (by omega), T7_1, T0, nI_t (by omega)] at e22
  subst e22
  refine ⟨c22 ▸ gN_TX _ _ _ 6 (by omega), fun M25 e25 => ?_⟩
  rw [c22, sN_TX _ _ _ _ _ _ _ 6 (by omega)] at e25
  subst e25
  refine ⟨c23 ▸ gN_TX _ _ _ 7 (by omega), fun M28 e28 => ?_⟩
  rw [c23, sN_TX _ _ _ _ _ _ _ 7 (by omega), T2_2 _ _ _ _ _ _ (by omega)] at e28
  rw [e28]
  unfold nmZ nmC at hp
  rw [e0, e1] at hp
  exact hp
/-- at a station -/
theorem sX7_describe (hd : 2 ≤ d) (ht : t < 4) (hW : cW M p) (hT : M.2.2 (7, t) 0 = (5, p)) {g s : Nat} (hg : g < cP M p) (hs : s < cN M p) : eg_S κ gC mtX7_describe d [vR (7, t), vI (nI g), vI (nI s)] (TX M t p nm st Z) (eQV κ gC (fun M1 => M1 = TX M t p (nmZ (cE M p) nm Z g (Z (20 + 20 * g + 14 + s)).toInt64 (if eD (cE M p) s 2 = 0 then 999 else (Z (320 + 8 * s)).toInt64) (if eD (cE M p) s 2 = 0 then 0 else (Z (320 + 8 * s + 1)).toInt64)) st Z)) := by
  have hN := (cP_e hW).2
  have hn := (cN_e hW).2
  have hp2 := hW.1
  refine eg_S.of rfl (Nat.le_of_ble_eq_true rfl) (vX7_describe_0 (by omega) _ ht _ _ ?_)
  rw [nI_t (by omega), nI_t (by omega)]
  refine ⟨nI_in' (by omega) (by omega), p, hp2, hT, fun x3 e3 => ⟨ghasPan_c (cW_TX hW) (by omega), fun x6 e6 => ⟨fun _ => nI_in' (by omega) (by omega), fun x8 e8 => ⟨fun _ => ⟨nI_in' (by omega) (by omega), ?_⟩, fun c => absurd c (nI_ne_m1 (by omega))⟩⟩⟩⟩
  rw [T0] at e3
  rw [T22 _ _ _ _ _ _ (by omega) (by omega), e3]
  rw [T4_0 _ _ _ _ _ _ (by omega)] at e8
  rw [hasPan_TX] at e6
  have hx := hasPan_c hW hs
  rw [← e6] at hx
  refine describe_86 (by omega) ht hW hT hg _ _ _ _ (fun _ => ⟨s, by omega, rfl⟩) ?_
  rw [if_pos (nI_ne_m1 (by omega)), nI_t (by omega), e8]
  simp only [hx]
  by_cases c : eD (cE M p) s 2 = 0
  · rw [if_pos c, if_pos c, if_pos c]
    rfl
  · rw [if_neg c, if_neg c, if_neg c]
/-- at none -/
theorem sX7_describe0 (hd : 2 ≤ d) (ht : t < 4) (hW : cW M p) (hT : M.2.2 (7, t) 0 = (5, p)) {g : Nat} (hg : g < cP M p) : eg_S κ gC mtX7_describe d [vR (7, t), vI (nI g), vI (-1)] (TX M t p nm st Z) (eQV κ gC (fun M1 => M1 = TX M t p (nmZ (cE M p) nm Z g (sm (fun k => Z (20 + 20 * g + 14 + k)) 5).toInt64 0 0) st Z)) := by
  have hN := (cP_e hW).2
  have hn := (cN_e hW).2
  have hp2 := hW.1
  refine eg_S.of rfl (Nat.le_of_ble_eq_true rfl) (vX7_describe_0 (by omega) _ ht _ _ ?_)
  rw [nI_t (by omega)]
  refine ⟨nI_in' (by omega) (by omega), p, hp2, hT, fun x3 e3 => ⟨ghasPan_z _ _, fun x6 e6 => ?_⟩⟩
  rw [hasPan_z] at e6
  refine ⟨fun q => absurd e6 q, fun x8 e8 => ⟨fun c => absurd rfl c, fun _ x12 e12 => ?_⟩⟩
  rw [T0] at e3
  rw [e3]
  refine describe_86 (by omega) ht hW hT hg _ _ _ _ (fun q => absurd e6 q) ?_
  have e13 : x12 = sm (fun k => Z (20 + 20 * g + 14 + k)) 5 := by
    rw [e12]
    exact sm_cong (fun k hk => T22 _ _ _ _ _ _ (by omega) hk)
  rw [if_neg (fun q => q rfl), if_pos e6, e13]
end
