/-! DEEDS IN THE CLASS -/
def azF (x z v : Int32) (g : Nat) (Z : Nat → Int32) : Nat → Int32 := upd (upd (upd (upd (upd (upd (upd Z (20 + 20 * g) 3) (20 + 20 * g + 11) (-1)) (20 + 20 * g + 7) x) (20 + 20 * g + 1) (-1)) (20 + 20 * g + 2) z) (20 + 20 * g + 3) 0) (20 + 20 * g + 10) v
theorem RY_aw {E : eg_E} {Z Y Z1 S : Nat → Int32} (hE : wE E) (hR : RY E Z Y) {x z v : Int32} {g : Nat} (hg : g < eP E) (hS : ∀ j, 18 ≤ j ∨ j = 0 → S j = awF x z g Y j) (hZ : ∀ j, 18 ≤ j ∨ j = 0 → Z1 j = azF x z v g Z j) (h1 : Z1 1 = S 1) (hk : ∀ k, k < (S 1).toNatClampNeg → Z1 (2 + k) = S (2 + k)) (h12 : Y (20 + 20 * g + 12) = eC E g 0) (hv : v = 0 ∨ v = 1) : RY E Z1 S := by
  have hn := hE.1
  have hN := hE.2.1
  refine ⟨?_, h1, hk, fun r hr => ?_, fun s f hs hf => ?_, fun b f hb hf => ?_, fun b hb => ⟨?_, ?_⟩⟩
  · rw [hS 0 (by omega), hZ 0 (by omega), aw_o (by omega)]
    unfold azF
    simp (disch := omega) only [pk_un]
    exact hR.s
  · rw [hS _ (by omega), hZ _ (by omega), aw_o (by omega)]
    unfold azF
    simp (disch := omega) only [pk_un]
    exact hR.r hr
  · rw [hS _ (by omega), hZ _ (by omega), aw_o (by omega)]
    unfold azF
    simp (disch := omega) only [pk_un]
    exact hR.p f hs hf
  · rw [hS _ (by omega), hZ _ (by omega)]
    by_cases e : b = g
    · subst e
      unfold azF awF
      by_cases f1 : f = 1
      · subst f1; simp (disch := omega) only [pk_un, pk_us]
      by_cases f2 : f = 2
      · subst f2; simp (disch := omega) only [pk_un, pk_us]
      by_cases f3 : f = 3
      · subst f3; simp (disch := omega) only [pk_un, pk_us]
      by_cases f7 : f = 7
      · subst f7; simp (disch := omega) only [pk_un, pk_us]
      simp (disch := omega) only [pk_un]
      exact hR.g f hb hf
    · unfold azF awF
      simp (disch := omega) only [pk_un]
      exact hR.g f hb hf
  · unfold RG
    rw [hS _ (by omega), hS _ (by omega), hS _ (by omega), hS _ (by omega), hZ _ (by omega), hZ _ (by omega), hZ _ (by omega)]
    by_cases e : b = g
    · subst e
      refine Or.inl ?_
      rw [aw_g.1]
      refine ⟨?_, ?_, fun c => absurd c (by decide), fun c => absurd c (by decide), fun c => absurd c (by decide)⟩
      · unfold azF
        simp (disch := omega) only [pk_un, pk_us]
      · rw [aw_o (by omega)]; exact h12
    · unfold azF awF
      simp (disch := omega) only [pk_un]
      exact hR.G hb
  · rw [hZ _ (by omega)]
    by_cases e : b = g
    · subst e
      unfold azF
      rw [pk_us]
      exact hv
    · unfold azF
      simp (disch := omega) only [pk_un]
      exact hR.b hb
section
variable {κ : eg_K} {d : Nat} {M : eg_H} {t p : Nat} {nm st : Nat → Int64} {Z : Nat → Int32}
theorem sX7_sendAway (hd : 2 ≤ d) (ht : t < 4) (hW : cW M p) (hT : M.2.2 (7, t) 0 = (5, p)) {C : Nat} {Y : Nat → Int32} (hY : TI (cE M p) C Y) (hR : RY (cE M p) Z Y) {g : Nat} (hg : g < cP M p) (h3 : ¬ Y (20 + 20 * g) = 3) : eg_S κ gC mtX7_sendAway d [vR (7, t), vI (nI g)] (TX M t p nm st Z) (eQV κ gC (fun M1 => ∃ Z1, M1 = TX M t p nm st Z1 ∧ RY (cE M p) Z1 (sndF (eC (cE M p) g 1) g Y))) := by
  have hE := hW.2.2.2.2.1
  have hn := hE.1
  have hN := hE.2.1
  have hq := hY.1.q16 hE
  have hg' : g < eP (cE M p) := hg
  obtain ⟨q1, q2, q3⟩ := hY.1.1
  obtain ⟨eq, _⟩ := nI_of' q1 (by omega)
  have h12 : Y (20 + 20 * g + 12) = eC (cE M p) g 0 := by
    rcases hR.G hg' with w | w
    · exact w.2.1
    · exact absurd w.2.1 h3
  have ez : M.1 (0, 15 * p + g) 2 = eC (cE M p) g 1 := (if_pos hg).symm
  refine eg_S.of rfl (Nat.le_of_ble_eq_true rfl) (vX7_sendAway_0 _ ht _ ⟨nI_in' (by omega) (by omega), fun M2 e2 M3 e3 => ?_⟩)
  rw [nI_t (by omega)] at e2 e3 ⊢
  rw [e2, W2_0 _ _ _ _ _ _ (by omega), W2_6 _ _ _ _ _ _ (by omega)] at e3
  rw [e3]
  refine ⟨p, hW.1, hT, fun M5 e5 => ?_⟩
  rw [W2_10 _ _ _ _ _ _ (by omega), T2_10 _ _ _ _ _ _ (by omega), T2_2 _ _ _ _ _ _ (by omega), T0, ez] at e5
  have ex : (upd (upd Z (20 + 20 * g) 3) (20 + 20 * g + 11) (-1)) (20 + 20 * g + 7) + (eC (cE M p) g 1 - (upd (upd Z (20 + 20 * g) 3) (20 + 20 * g + 11) (-1)) (20 + 20 * g + 2)) = Y (20 + 20 * g + 7) + (eC (cE M p) g 1 - Y (20 + 20 * g + 2)) := by
    rw [pk_un (by omega), pk_un (by omega), pk_un (by omega), pk_un (by omega), hR.g 7 hg' (by omega), hR.g 2 hg' (by omega)]
  rw [ex] at e5
  rw [e5]
  generalize hx : Y (20 + 20 * g + 7) + (eC (cE M p) g 1 - Y (20 + 20 * g + 2)) = x at *
  generalize hZ : upd (upd (upd Z (20 + 20 * g) 3) (20 + 20 * g + 11) (-1)) (20 + 20 * g + 7) x = Z'
  have zlo : ∀ j, j < 20 → Z' j = Z j := fun j hj => by rw [← hZ, pk_un (by omega), pk_un (by omega), pk_un (by omega)]
  have z1 : Z' 1 = Y 1 := by rw [zlo 1 (by omega)]; exact hR.q
  have zk : ∀ k, k < (Y 1).toNatClampNeg → Z' (2 + k) = Y (2 + k) := fun k hk => by rw [zlo _ (by omega)]; exact hR.k hk
  by_cases hs : Y (20 + 20 * g) = 1
  · obtain ⟨v1, vk, vj⟩ := snd_v (z := eC (cE M p) g 1) hq hs
    obtain ⟨i1, i2⟩ := ixQ_s hN hq hY.2.1.2 hg' hs
    rw [hx] at vj
    generalize ixQ Y g = i at vk i1 i2
    have uz1 : (Z' 1).toNatClampNeg < 16 := by rw [z1]; exact hq
    have res : RY (cE M p) (stZ Z' i g (M.1 (0, 15 * p + g) 2)) (sndF (eC (cE M p) g 1) g Y) := by
      rw [ez]
      have m1 : (Y 1 - 1).toNatClampNeg + 1 = (Y 1).toNatClampNeg := by
        obtain ⟨m, hm⟩ : ∃ m, (Y 1).toNatClampNeg = m + 1 := ⟨(Y 1).toNatClampNeg - 1, by omega⟩
        rw [hm] at eq hq
        rw [hm, eq, nI_p, nI_t (by omega)]
      refine RY_aw hE hR (v := 0) hg' vj (fun j hj => ?_) ?_ (fun k hk => ?_) h12 (Or.inl rfl)
      · have := ool_o (Y := Z') (i := i) (j := j) uz1 hj
        unfold stZ azF
        rw [hZ]
        generalize ool Z' i = W at *
        unfold upd
        rw [this]
      · rw [v1]
        unfold stZ
        rw [pk_un (by omega), pk_un (by omega), pk_un (by omega), pk_un (by omega), ool_1, z1]
      · rw [v1] at hk
        have hk2 : k + 1 < (Y 1).toNatClampNeg := by omega
        rw [vk k hk2]
        unfold stZ
        rw [pk_un (by omega), pk_un (by omega), pk_un (by omega), pk_un (by omega), ool_k (by rw [z1]; exact hk2), zk _ hk2, zk _ (by omega)]
    suffices key : ∀ m k, k + m = i → eg_W κ gC mtX7_sendAway d (eQV κ gC (fun M1 => ∃ Z1, M1 = TX M t p nm st Z1 ∧ RY (cE M p) Z1 (sndF (eC (cE M p) g 1) g Y))) 45 [(0, vR (7, t)), (1, vI (nI g)), (3, vI (nI k))] [] (TX M t p nm st Z') from key i 0 (by omega)
    intro m
    induction m with
    | zero =>
      intro k hk
      have hki : k = i := by omega
      rw [hki]
      refine vX7_sendAway_45 (by omega) _ ht _ _ ⟨fun c => ?_, fun _ => ⟨nI_in' (by omega) (by omega), fun c => ?_, fun _ => ?_⟩⟩
      · rw [T7_6, z1, eq] at c
        exact absurd ((nI_le' (by omega) (by omega)).mp c) (by omega)
      · rw [nI_t (by omega), T43 _ _ _ _ _ _ (by omega), zk i i1] at c
        exact absurd i2 c
      · exact ⟨_, sX7_stepOut (by omega) ht hW.1 hT hq (z1.trans eq) i1 (by omega) ((zk i i1).trans i2), fun M5 e => ⟨_, e, res⟩⟩
    | succ m ih =>
      intro k hk
      refine vX7_sendAway_45 (by omega) _ ht _ _ ⟨fun c => ?_, fun _ => ⟨nI_in' (by omega) (by omega), fun c x4 e4 => ?_, fun c => ?_⟩⟩
      · rw [T7_6, z1, eq] at c
        exact absurd ((nI_le' (by omega) (by omega)).mp c) (by omega)
      · rw [e4, nI_1]
        exact ih (k + 1) (by omega)
      · rw [nI_t (by omega), T43 _ _ _ _ _ _ (by omega), zk k (by omega), ← i2] at c
        exact absurd c (q3 k i (by omega) i1)
  · have o := hY.2.1.1 g hg' hs
    have e := snd_n hY.2.1.1 hg' hs
    have x7 : x = Y (20 + 20 * g + 7) := by
      rw [← hx, o.2.1]
      exact (congrArg _ (Int32.sub_self _)).trans (Int32.add_zero _)
    have res : RY (cE M p) Z' (sndF (eC (cE M p) g 1) g Y) := by
      have lo : ∀ j, j < 20 → sndF (eC (cE M p) g 1) g Y j = Y j := fun j hj => by rw [e, aw_o (by omega)]
      refine RY_aw hE hR (x := x) (z := eC (cE M p) g 1) (v := Z (20 + 20 * g + 10)) hg' (fun j _ => by rw [e, x7]) (fun j _ => ?_) (by rw [z1, lo 1 (by omega)]) (fun k hk => ?_) h12 (hR.b hg')
      · rw [← hZ]
        have y1 := (hR.g 1 hg' (by omega)).trans o.1
        have y2 := (hR.g 2 hg' (by omega)).trans o.2.1
        have y3 := (hR.g 3 hg' (by omega)).trans o.2.2
        unfold azF
        by_cases c1 : j = 20 + 20 * g + 1
        · rw [c1]; simp (disch := omega) only [pk_un, pk_us]; exact y1
        by_cases c2 : j = 20 + 20 * g + 2
        · rw [c2]; simp (disch := omega) only [pk_un, pk_us]; exact y2
        by_cases c3 : j = 20 + 20 * g + 3
        · rw [c3]; simp (disch := omega) only [pk_un, pk_us]; exact y3
        by_cases c4 : j = 20 + 20 * g + 10
        · rw [c4]; simp (disch := omega) only [pk_un, pk_us]
        rw [pk_un (j := j) (k := 20 + 20 * g + 10) c4, pk_un (j := j) (k := 20 + 20 * g + 3) c3, pk_un (j := j) (k := 20 + 20 * g + 2) c2, pk_un (j := j) (k := 20 + 20 * g + 1) c1]
      · rw [lo 1 (by omega)] at hk
        rw [lo _ (by omega), zk k hk]
    suffices key : ∀ m k, k + m = (Y 1).toNatClampNeg → eg_W κ gC mtX7_sendAway d (eQV κ gC (fun M1 => ∃ Z1, M1 = TX M t p nm st Z1 ∧ RY (cE M p) Z1 (sndF (eC (cE M p) g 1) g Y))) 45 [(0, vR (7, t)), (1, vI (nI g)), (3, vI (nI k))] [] (TX M t p nm st Z') from key (Y 1).toNatClampNeg 0 (by omega)
    intro m
    induction m with
    | zero =>
      intro k hk
      refine vX7_sendAway_45 (by omega) _ ht _ _ ⟨fun _ => ⟨Z', rfl, res⟩, fun c => ?_⟩
      rw [T7_6, z1, eq] at c
      exact absurd ((nI_le' (by omega) (by omega)).mpr (by omega)) c
    | succ m ih =>
      intro k hk
      refine vX7_sendAway_45 (by omega) _ ht _ _ ⟨fun c => ?_, fun _ => ⟨nI_in' (by omega) (by omega), fun c x4 e4 => ?_, fun c => ?_⟩⟩
      · rw [T7_6, z1, eq] at c
        exact absurd ((nI_le' (by omega) (by omega)).mp c) (by omega)
      · rw [e4, nI_1]
        exact ih (k + 1) (by omega)
      · rw [nI_t (by omega), T43 _ _ _ _ _ _ (by omega), zk k (by omega)] at c
        have := (q2 k (by omega)).2
        rw [c, nI_t (by omega)] at this
        exact absurd this hs
theorem sX7_perform (hd : 3 ≤ d) (ht : t < 4) (hW : cW M p) (hT : M.2.2 (7, t) 0 = (5, p)) {C : Nat} {Y : Nat → Int32} (hY : TI (cE M p) C Y) (hR : RY (cE M p) Z Y) {k a b : Int32} (dk : dOK (cE M p) k a b Y) : eg_S κ gC mtX7_perform d [vR (7, t), vI k, vI a, vI b] (TX M t p nm st Z) (eQV κ gC (fun M1 => ∃ Z1, M1 = TX M t p nm st Z1 ∧ RY (cE M p) Z1 (dF (cE M p) k a b Y))) := by
  have hE := hW.2.2.2.2.1
  have hn := hE.1
  have hN := hE.2.1
  have hq := hY.1.q16 hE
  have np : ∀ j, 320 ≤ j → ¬ spj j := fun j hj q => by unfold spj at q; omega
  unfold dF
  rcases dk with ⟨e, ha, hz⟩ | ⟨e, ha, hb, hab, _⟩ | ⟨e, ha, h3⟩
  · rw [if_pos e, e]
    obtain ⟨ea, hs⟩ := nI_of' ha (by omega)
    generalize a.toNatClampNeg = s at ea hs
    rw [ea]
    refine eg_S.of rfl (Nat.le_of_ble_eq_true rfl) (vX7_perform_0 (by omega) _ ht _ _ _ ⟨fun c => absurd rfl c, fun _ => ⟨nI_in' (by omega) (by omega), p, hW.1, hT, fun M13 e13 => ?_⟩⟩)
    rw [nI_t (by omega)] at e13
    have ed : M.1 (1, 5 * p + s) 3 = eD (cE M p) s 2 := (eD_c hs 2).symm
    refine ⟨upd (upd (upd Z (320 + 8 * s) (Z (320 + 8 * s) + eD (cE M p) s 2)) (320 + 8 * s + 1) 0) (320 + 8 * s + 6) (Z (320 + 8 * s + 6) + 1), ?_, ?_⟩
    · rw [e13]
      unfold fX4_addPan
      rw [T4_0 _ _ _ _ _ _ (by omega), T1, ed, W4_0 _ _ _ _ _ _ (by omega), W4_1 _ _ _ _ _ _ (by omega), T4_6 _ _ _ _ _ _ (by omega), W4_6 _ _ _ _ _ _ (by omega), pk_un (j := 320 + 8 * s + 6) (by omega), pk_un (j := 320 + 8 * s + 6) (by omega)]
    · unfold putF
      rw [hR.p0 hs, hR.p 6 hs (by omega)]
      have r1 := RY_u hR hE hq (np (320 + 8 * s) (by omega)) (Y (320 + 8 * s) + eD (cE M p) s 2)
      have r2 := RY_u r1 hE (by rw [pk_un (by omega)]; exact hq) (np (320 + 8 * s + 1) (by omega)) 0
      exact RY_u r2 hE (by rw [pk_un (by omega), pk_un (by omega)]; exact hq) (np (320 + 8 * s + 6) (by omega)) (Y (320 + 8 * s + 6) + 1)
  · rw [if_neg (by rw [e]; decide), if_pos e, e]
    obtain ⟨ea, hs⟩ := nI_of' ha (by omega)
    obtain ⟨eb, hr⟩ := nI_of' hb (by omega)
    generalize a.toNatClampNeg = s at ea hs
    generalize b.toNatClampNeg = r at eb hr
    rw [ea, eb]
    refine eg_S.of rfl (Nat.le_of_ble_eq_true rfl) (vX7_perform_0 (by omega) _ ht _ _ _ ⟨fun _ => ⟨fun c => absurd rfl c, fun _ => ⟨nI_in' (by omega) (by omega), fun x7 e7 => ⟨nI_in' (by omega) (by omega), fun M9 e9 M10 e10 => ?_⟩⟩⟩, fun c => absurd c (by decide)⟩)
    rw [nI_t (by omega), T40 _ _ _ _ _ _ (by omega), hR.r hs] at e7
    rw [nI_t (by omega), nI_t (by omega), T40 _ _ _ _ _ _ (by omega), W40 _ _ _ _ _ _ (by omega), hR.r hr] at e9
    rw [nI_t (by omega), e9, W40 _ _ _ _ _ _ (by omega), e7] at e10
    refine ⟨_, e10, ?_⟩
    unfold chgF
    have r1 := RY_u hR hE hq (np (360 + s) (by omega)) (Y (360 + r))
    exact RY_u r1 hE (by rw [pk_un (by omega)]; exact hq) (np (360 + r) (by omega)) (Y (360 + s))
  · rw [if_neg (by rw [e]; decide), if_neg (by rw [e]; decide), e]
    obtain ⟨ea, hs⟩ := nI_of' ha (by omega)
    generalize a.toNatClampNeg = g at ea hs h3
    rw [ea]
    exact eg_S.of rfl (Nat.le_of_ble_eq_true rfl) (vX7_perform_0 (by omega) _ ht _ _ _ ⟨fun _ => ⟨fun _ => ⟨fun c => absurd rfl c, fun _ => ⟨_, sX7_sendAway (by omega) ht hW hT hY hR hs h3, fun M4 q => q⟩⟩, fun c => absurd c (by decide)⟩, fun c => absurd c (by decide)⟩)
end
