/-! THE MODEL'S SECONDS -/
theorem vpi {a N : Nat} (h : a < 2147483648) : vp_in (nI a) N ↔ a < N := by
  refine ⟨fun q => ?_, fun q => nI_in2 q h⟩
  have := vp_lt q
  rwa [nI_t h] at this
theorem litT : ((0 : Int32).toNatClampNeg = 0) ∧ ((1 : Int32).toNatClampNeg = 1) ∧ ((2 : Int32).toNatClampNeg = 2) ∧ ((3 : Int32).toNatClampNeg = 3) ∧ ((4 : Int32).toNatClampNeg = 4) ∧ ((5 : Int32).toNatClampNeg = 5) ∧ ((6 : Int32).toNatClampNeg = 6) ∧ ((7 : Int32).toNatClampNeg = 7) := by decide
theorem vpL (N : Nat) : (vp_in (0 : Int32) N ↔ 0 < N) ∧ (vp_in (1 : Int32) N ↔ 1 < N) ∧ (vp_in (2 : Int32) N ↔ 2 < N) ∧ (vp_in (3 : Int32) N ↔ 3 < N) ∧ (vp_in (4 : Int32) N ↔ 4 < N) ∧ (vp_in (5 : Int32) N ↔ 5 < N) ∧ (vp_in (6 : Int32) N ↔ 6 < N) ∧ (vp_in (7 : Int32) N ↔ 7 < N) :=
  ⟨vpi (a := 0) (by omega), vpi (a := 1) (by omega), vpi (a := 2) (by omega), vpi (a := 3) (by omega), vpi (a := 4) (by omega), vpi (a := 5) (by omega), vpi (a := 6) (by omega), vpi (a := 7) (by omega)⟩
/-- what the line's array doesn't touch -/
theorem sYo (M : eg_H) (f : Nat → Int32) : ((sW M (110, 0) f).1 (60, 0) = M.1 (60, 0)) ∧ ((sW M (110, 0) f).1 (89, 0) = M.1 (89, 0)) ∧ ((sW M (110, 0) f).1 (91, 0) = M.1 (91, 0)) ∧ ((sW M (110, 0) f).1 (92, 0) = M.1 (92, 0)) ∧ ((sW M (110, 0) f).1 (93, 0) = M.1 (93, 0)) ∧ ((sW M (110, 0) f).1 (111, 0) = M.1 (111, 0)) ∧ ((sW M (110, 0) f).1 (112, 0) = M.1 (112, 0)) ∧ ((sW M (110, 0) f).1 (125, 0) = M.1 (125, 0)) ∧ ((sW M (110, 0) f).1 (126, 0) = M.1 (126, 0)) :=
  ⟨sW_ne M f (by decide), sW_ne M f (by decide), sW_ne M f (by decide), sW_ne M f (by decide), sW_ne M f (by decide), sW_ne M f (by decide), sW_ne M f (by decide), sW_ne M f (by decide), sW_ne M f (by decide)⟩
theorem sz_Y (M : eg_H) (f : Nat → Int32) (g : Int32) : fX11_sizeOf (sW M (110, 0) f) g = fX11_sizeOf M g := by
  unfold fX11_sizeOf
  simp only [sYo]
theorem gsz_Y (M : eg_H) (f : Nat → Int32) (g : Int32) : gX11_sizeOf (sW M (110, 0) f) g = gX11_sizeOf M g := by
  unfold gX11_sizeOf
  simp only [sYo]
/-- a guest comes -/
def comeF (z : Int32) (Y : Nat → Int32) (g : Nat) : Nat → Int32 :=
  upd (upd (upd (upd (upd (upd (upd (upd Y (20 + 20 * g) 1) (20 + 20 * g + 1) (-1)) (20 + 20 * g + 2) z) (20 + 20 * g + 3) 0) (20 + 20 * g + 9) (Y (20 + 20 * g + 9) + 1)) (20 + 20 * g + 10) 0) (2 + (Y 1).toNatClampNeg) (nI g)) 1 (Y 1 + 1)
def fX11_comesNow (M : eg_H) (g : Int32) : eg_H := sW M (110, 0) (comeF (fX11_sizeOf M g) (M.1 (110, 0)) g.toNatClampNeg)
def gX11_comesNow (M : eg_H) (g : Int32) : Prop := vp_in g 15 ∧ vp_in (M.1 (110, 0) 1) 15
theorem sX11_comesNow {κ : eg_K} {d : Nat} (hd : 1 ≤ d) (M : eg_H) (l1 : Int32) (hg : gX11_comesNow M l1) : eg_S κ gM mtX11_comesNow d [vR (60, 0), vI l1] M (eQV κ gM (fun M1 => M1 = fX11_comesNow M l1)) := by
  obtain ⟨h1, h2⟩ := hg
  obtain ⟨e, hlt⟩ := nI_of' h1 (by omega)
  obtain ⟨e2, hlt2⟩ := nI_of' h2 (by omega)
  have hsz : gX11_sizeOf M l1 := fun _ => by rw [e]; exact nI_in' (by omega) (by omega)
  unfold fX11_comesNow comeF
  generalize l1.toNatClampNeg = g at e hlt ⊢
  generalize (M.1 (110, 0) 1).toNatClampNeg = q at e2 hlt2 ⊢
  subst e
  refine eg_S.of rfl (Nat.le_of_ble_eq_true rfl) (vX11_comesNow_0 hd M _ ?_)
  simp (disch := omega) only [forall_eq, at_n, nAl, sI_eq, sW_at, sW_sW, litT, vpL, vpi, nI_t, pk_un, pk_us, e2, nAr, sz_Y, gsz_Y, hsz, true_and, and_true]
  omega
/-! long rows -/
def sU (M : eg_H) (r : eg_R) (f : Nat → Int64) : eg_H := (M.1, fun z => if z = r then f else M.2.1 z, M.2.2)
theorem sU_at (M : eg_H) (r : eg_R) (f : Nat → Int64) : (sU M r f).2.1 r = f := if_pos rfl
theorem sU_ne (M : eg_H) {r z : eg_R} (f : Nat → Int64) (h : z ≠ r) : (sU M r f).2.1 z = M.2.1 z := if_neg h
theorem sU_i (M : eg_H) (r : eg_R) (f : Nat → Int64) : (sU M r f).1 = M.1 := rfl
theorem sU_r (M : eg_H) (r : eg_R) (f : Nat → Int64) : (sU M r f).2.2 = M.2.2 := rfl
theorem sW_L (M : eg_H) (r : eg_R) (f : Nat → Int32) : (sW M r f).2.1 = M.2.1 := rfl
theorem sU_sW (M : eg_H) (a b : eg_R) (f : Nat → Int32) (g : Nat → Int64) : sU (sW M a f) b g = sW (sU M b g) a f := rfl
theorem sU_sU (M : eg_H) (r : eg_R) (f g : Nat → Int64) : sU (sU M r f) r g = sU M r g := by
  unfold sU
  congr 2
  funext z
  by_cases h : z = r
  · rw [if_pos h, if_pos h]
  · rw [if_neg h, if_neg h]; exact if_neg h
theorem sU_self (M : eg_H) (r : eg_R) : sU M r (M.2.1 r) = M := by
  obtain ⟨a, b, c⟩ := M
  show (a, (fun z => if z = r then b r else b z), c) = (a, b, c)
  congr 2
  funext z
  by_cases h : z = r
  · rw [if_pos h, h]
  · rw [if_neg h]
theorem sL_eq (M : eg_H) (r : eg_R) (k : Nat) (x : Int64) : sL M r k x = sU M r (vp_updL (M.2.1 r) k x) := by
  unfold sL sU
  congr 2
  funext z j
  by_cases h : z = r
  · simp only [h, true_and, if_true]; rfl
  · simp only [h, false_and, if_false]
/-! the names -/
def nmC (o : Nat → Int64) (a0 a1 a2 a3 a4 a5 a6 a7 : Int64) : Nat → Int64 := vp_updL (vp_updL (vp_updL (vp_updL (vp_updL (vp_updL (vp_updL (vp_updL o 0 a0) 1 a1) 2 a2) 3 a3) 4 a4) 5 a5) 6 a6) 7 a7
def nmY (o : Nat → Int64) (Y : Nat → Int32) (z : Int32) (g : Nat) (w h a : Int64) : Nat → Int64 := nmC o w (Y (20 + 20 * g + 2)).toInt64 h a (Y 1).toInt64 (Y 0 - Y (20 + 20 * g + 12)).toInt64 z.toInt64 (z - Y (20 + 20 * g + 2)).toInt64
def fX11_layNames (M : eg_H) (g : Int32) (w h a : Int64) : eg_H := sU M (127, 0) (nmY (M.2.1 (127, 0)) (M.1 (110, 0)) (fX11_sizeOf M g) g.toNatClampNeg w h a)
def gX11_layNames (M : eg_H) (g : Int32) (w h a : Int64) : Prop := vp_in g 15
theorem sz_U (M : eg_H) (f : Nat → Int64) (g : Int32) : fX11_sizeOf (sU M (127, 0) f) g = fX11_sizeOf M g := rfl
theorem gsz_U (M : eg_H) (f : Nat → Int64) (g : Int32) : gX11_sizeOf (sU M (127, 0) f) g = gX11_sizeOf M g := rfl
theorem sX11_layNames {κ : eg_K} {d : Nat} (hd : 2 ≤ d) (M : eg_H) (l1 : Int32) (l2 l4 l6 : Int64) (hg : gX11_layNames M l1 l2 l4 l6) : eg_S κ gM mtX11_layNames d [vR (60, 0), vI l1, vL l2, vL l4, vL l6] M (eQV κ gM (fun M1 => M1 = fX11_layNames M l1 l2 l4 l6)) := by
  obtain ⟨e, hlt⟩ := nI_of' hg (by omega)
  have hsz : gX11_sizeOf M l1 := fun _ => by rw [e]; exact nI_in' (by omega) (by omega)
  unfold fX11_layNames nmY nmC
  generalize l1.toNatClampNeg = g at e hlt ⊢
  subst e
  refine eg_S.of rfl (Nat.le_of_ble_eq_true rfl) (vX11_layNames_0 hd M _ _ _ _ ?_)
  simp (disch := omega) only [forall_eq, at_n, nAl, sL_eq, sU_at, sU_sU, sU_i, litT, vpL, vpi, nI_t, nAr, sz_U, gsz_U, hsz, true_and, and_true, gX11_plateOf, fX11_plateOf]
  omega
/-- has a pan, the model's way -/
def hpM (M : eg_H) (s : Nat) : Prop := ¬ M.1 (89, 0) (6 * s + 2) < 0
theorem has_n (M : eg_H) (s w : Nat) (hs : s < 100) (hw : w < 100) : fX11_has M (nI s) (nI w) = M.1 (89, 0) (6 * s + w) := by
  unfold fX11_has
  simp only [nMl, nI_add]
  rw [nI_t (by omega)]
theorem ghas_n (M : eg_H) (s w : Nat) (h : 6 * s + w < 60) : gX11_has M (nI s) (nI w) := by
  unfold gX11_has
  simp only [nMl, nI_add]
  exact nI_in' h (by omega)
theorem hasPan_n (M : eg_H) (s : Nat) (hs : s < 100) : fX11_hasPan M (nI s) = 0 ↔ M.1 (89, 0) (6 * s + 2) < 0 := by
  unfold fX11_hasPan
  rw [show fX11_has M (nI s) 2 = M.1 (89, 0) (6 * s + 2) from has_n M s 2 hs (by omega)]
  by_cases h : M.1 (89, 0) (6 * s + 2) < 0
  · rw [if_pos h]; exact ⟨fun _ => h, fun _ => rfl⟩
  · rw [if_neg h]; exact ⟨fun e => absurd e (by decide), fun q => absurd q h⟩
def fX11_layNamesAt (M : eg_H) (g s : Int32) : eg_H := sU M (127, 0) (nmY (M.2.1 (127, 0)) (M.1 (110, 0)) (fX11_sizeOf M g) g.toNatClampNeg (M.1 (110, 0) (20 + 20 * g.toNatClampNeg + 14 + s.toNatClampNeg)).toInt64 (if M.1 (89, 0) (6 * s.toNatClampNeg + 2) < 0 then 999 else (M.1 (110, 0) (320 + 8 * s.toNatClampNeg)).toInt64) (if M.1 (89, 0) (6 * s.toNatClampNeg + 2) < 0 then 0 else (M.1 (110, 0) (320 + 8 * s.toNatClampNeg + 1)).toInt64))
def gX11_layNamesAt (M : eg_H) (g s : Int32) : Prop := vp_in g 15 ∧ vp_in s 5
theorem sX11_layNamesAt {κ : eg_K} {d : Nat} (hd : 3 ≤ d) (M : eg_H) (l1 l2 : Int32) (hg : gX11_layNamesAt M l1 l2) : eg_S κ gM mtX11_layNamesAt d [vR (60, 0), vI l1, vI l2] M (eQV κ gM (fun M1 => M1 = fX11_layNamesAt M l1 l2)) := by
  obtain ⟨h1, h2⟩ := hg
  have hln : ∀ w h a, gX11_layNames M l1 w h a := fun _ _ _ => h1
  obtain ⟨e, hlt⟩ := nI_of' h1 (by omega)
  obtain ⟨e2, hlt2⟩ := nI_of' h2 (by omega)
  unfold fX11_layNamesAt
  generalize hgg : l1.toNatClampNeg = g at e hlt ⊢
  generalize l2.toNatClampNeg = s at e2 hlt2 ⊢
  subst e2
  have hp : gX11_hasPan M (nI s) := ghas_n M s 2 (by omega)
  refine eg_S.of rfl (Nat.le_of_ble_eq_true rfl) (vX11_layNamesAt_0 (by omega) M _ _ (fun x2 ex2 => ?_))
  rw [e, at_n] at ex2
  subst ex2
  simp (disch := omega) only [nAl, nI_add, nI_t, vpi]
  refine ⟨by omega, hp, fun x6 e6 => ⟨fun c => ?_, fun c x9 e9 => ?_⟩⟩
  · rw [e6, hasPan_n M s (by omega)] at c
    refine vX11_layNamesAt_41 (by omega) M _ _ _ _ ⟨hp, fun x3 e3 => ⟨fun c3 => ⟨_, sX11_layNames (by omega) M _ _ _ _ (hln _ _ _), fun M5 e5 => ?_⟩, fun c3 => ?_⟩⟩
    · subst e5
      show _ = _
      unfold fX11_layNames
      rw [if_pos c, if_pos c, hgg]
    · rw [e3, hasPan_n M s (by omega)] at c3
      exact absurd c c3
  · rw [e6, hasPan_n M s (by omega)] at c
    rw [pan_n] at e9
    subst e9
    refine ⟨nI_in' (by omega) (by omega), vX11_layNamesAt_41 (by omega) M _ _ _ _ ⟨hp, fun x3 e3 => ⟨fun c3 => ?_, fun c3 x8 e8 => ?_⟩⟩⟩
    · rw [e3, hasPan_n M s (by omega)] at c3
      exact absurd c3 c
    · rw [pan_n] at e8
      subst e8
      simp (disch := omega) only [nAl, nI_t, vpi]
      refine ⟨by omega, _, sX11_layNames (by omega) M _ _ _ _ (hln _ _ _), fun M5 e5 => ?_⟩
      subst e5
      show _ = _
      unfold fX11_layNames
      rw [if_neg c, if_neg c, hgg]
/-! values -/
def bndE (e : Int32) (n : Int64) : Int32 := if ¬ e = 0 then 1 else if 0 < lg_cmp n 1000000000000 then 1 else if 0 ≤ lg_cmp n (-1000000000000) then 0 else 1
def fX11_bounded (M : eg_H) (n : Int64) : Int64 × eg_H := (if bndE (M.1 (60, 0) 68) n = 0 then n else 0, sI M (60, 0) 68 (bndE (M.1 (60, 0) 68) n))
theorem sX11_bounded {κ : eg_K} {d : Nat} (hd : 0 ≤ d) (M : eg_H) (l1 : Int64) : eg_S κ gM mtX11_bounded d [vR (60, 0), vL l1] M (eQL κ gM (fun r M1 => (r, M1) = fX11_bounded M l1)) := by
  refine eg_S.of rfl (Nat.le_of_ble_eq_true rfl) (vX11_bounded_0 M _ (fun x1 e1 M2 e2 x3 e3 => ?_))
  have e4 : x1 = bndE (M.1 (60, 0) 68) l1 := e1
  subst e2; subst e3; subst e4
  rfl
def cmpE (k : Int32) (a b : Int64) : Int32 :=
  if k = 5 then (if 0 ≤ lg_cmp a b then 0 else 1) else if k = 6 then (if 0 < lg_cmp a b then 0 else 1) else if k = 7 then (if ¬ lg_cmp a b = 0 then 0 else 1) else if k = 8 then (if lg_cmp a b = 0 then 0 else 1) else if k = 9 then (if lg_cmp a b < 0 then 0 else 1) else if lg_cmp a b ≤ 0 then 0 else 1
def fX11_compares (M : eg_H) (k : Int32) (a b : Int64) : Int32 := cmpE k a b
theorem sX11_compares {κ : eg_K} {d : Nat} (hd : 0 ≤ d) (M : eg_H) (l0 : Int32) (l1 l3 : Int64) : eg_S κ gM mtX11_compares d [vI l0, vL l1, vL l3] M (eQI κ gM (fun r M1 => r = fX11_compares M l0 l1 l3 ∧ M1 = M)) := by
  refine eg_S.of rfl (Nat.le_of_ble_eq_true rfl) (vX11_compares_0 M _ _ _ ?_)
  unfold fX11_compares cmpE
  refine ⟨fun c5 c6 c7 c8 c9 x e => ⟨?_, rfl⟩, fun c x e => ⟨?_, rfl⟩, fun c x e => ⟨?_, rfl⟩, fun c x e => ⟨?_, rfl⟩, fun c x e => ⟨?_, rfl⟩, fun c x e => ⟨?_, rfl⟩⟩
  · rw [if_neg c5, if_neg c6, if_neg c7, if_neg c8, if_neg c9]; exact e
  · rw [if_pos c]; exact e
  · subst c; rw [if_neg (by decide), if_pos rfl]; exact e
  · subst c; rw [if_neg (by decide), if_neg (by decide), if_pos rfl]; exact e
  · subst c; rw [if_neg (by decide), if_neg (by decide), if_neg (by decide), if_pos rfl]; exact e
  · subst c; rw [if_neg (by decide), if_neg (by decide), if_neg (by decide), if_neg (by decide), if_pos rfl]; exact e
theorem zX11_compares (M : eg_H) (k : Int32) (a b : Int64) : fX11_compares M k a b = 0 ∨ fX11_compares M k a b = 1 := by
  unfold fX11_compares cmpE
  exact eg_zi (eg_zi (Or.inl rfl) (Or.inr rfl)) (eg_zi (eg_zi (Or.inl rfl) (Or.inr rfl)) (eg_zi (eg_zi (Or.inl rfl) (Or.inr rfl)) (eg_zi (eg_zi (Or.inl rfl) (Or.inr rfl)) (eg_zi (eg_zi (Or.inl rfl) (Or.inr rfl)) (eg_zi (Or.inl rfl) (Or.inr rfl))))))
/-- too much for a product -/
def mulB (a b : Int64) : Bool := !decide (lg_cmp a 0 = 0) && (!decide (lg_cmp b 0 = 0) && decide (0 < lg_cmp (if 0 ≤ lg_cmp b 0 then b else -b) (1000000000000 / (if 0 ≤ lg_cmp a 0 then a else -a))))
def mulE (e : Int32) (a b : Int64) : Int32 := if ¬ e = 0 then 1 else if mulB a b = true then 1 else 0
def fX11_times (M : eg_H) (a b : Int64) : Int64 × eg_H := (if mulE (M.1 (60, 0) 68) a b = 0 then a * b else 0, sI M (60, 0) 68 (mulE (M.1 (60, 0) 68) a b))
theorem lg0 (a : Int64) : lg_cmp a 0 = 0 ↔ a = 0 := by
  unfold lg_cmp
  by_cases h : a > 0
  · rw [if_pos h]
    refine ⟨fun e => absurd e (by decide), fun e => ?_⟩
    subst e
    exact absurd h (by decide)
  · rw [if_neg h]
    by_cases h2 : a = 0
    · rw [if_pos h2]; exact ⟨fun _ => h2, fun _ => rfl⟩
    · rw [if_neg h2]; exact ⟨fun e => absurd e (by decide), fun e => absurd e h2⟩
theorem neg0 {a : Int64} (h : ¬ a = 0) : ¬ -a = 0 := by
  intro e
  apply h
  have h2 : -(-a) = -(0 : Int64) := congrArg (fun z => -z) e
  rw [Int64.neg_neg] at h2
  rw [h2]; rfl
theorem sX11_times {κ : eg_K} {d : Nat} (hd : 0 ≤ d) (M : eg_H) (l1 l3 : Int64) : eg_S κ gM mtX11_times d [vR (60, 0), vL l1, vL l3] M (eQL κ gM (fun r M1 => (r, M1) = fX11_times M l1 l3)) := by
  have k0 : mulB l1 l3 = false → eg_W κ gM mtX11_times d (eQL κ gM (fun r M1 => (r, M1) = fX11_times M l1 l3)) 48 [(0, vR (60, 0)), (1, vL l1), (3, vL l3)] [] M := by
    intro hb
    refine vX11_times_48 M _ _ (fun x1 e1 M2 e2 x3 e3 => ?_)
    have e4 : x1 = mulE (M.1 (60, 0) 68) l1 l3 := by
      rw [e1]; unfold mulE; rw [hb]; rfl
    subst e2; subst e3; subst e4
    rfl
  refine eg_S.of rfl (Nat.le_of_ble_eq_true rfl) (vX11_times_0 M _ _ ⟨fun c => k0 ?_, fun c => ⟨fun c2 => k0 ?_, fun c2 x3 e3 x4 e4 => ⟨?_, fun x6 e6 x7 e7 M8 e8 x9 e9 => ?_⟩⟩⟩)
  · unfold mulB; simp [c]
  · unfold mulB; simp [c2]
  · rw [lg0] at c
    rw [e4]
    by_cases h : 0 ≤ lg_cmp l1 0
    · rw [if_pos h]; exact c
    · rw [if_neg h]; exact neg0 c
  · have e5 : x7 = mulE (M.1 (60, 0) 68) l1 l3 := by
      rw [e7]
      unfold mulE
      by_cases h : ¬ M.1 (60, 0) 68 = 0
      · rw [if_pos h, if_pos h]
      · rw [if_neg h, if_neg h]
        subst e3; subst e4; subst e6
        by_cases h2 : lg_cmp (if 0 ≤ lg_cmp l3 0 then l3 else -l3) (1000000000000 / (if 0 ≤ lg_cmp l1 0 then l1 else -l1)) ≤ 0
        · rw [if_pos h2, if_pos rfl, if_neg]
          unfold mulB
          simp only [Bool.and_eq_true, Bool.not_eq_true', decide_eq_true_eq]
          exact fun q => absurd q.2.2 (Int32.not_lt.mpr h2)
        · rw [if_neg h2, if_neg (by decide), if_pos]
          unfold mulB
          simp only [Bool.and_eq_true, Bool.not_eq_true', decide_eq_true_eq, decide_eq_false_iff_not]
          exact ⟨c, c2, Int32.not_le.mp h2⟩
    subst e8; subst e9; subst e5
    rfl
