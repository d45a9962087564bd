theorem upd_comm (f : Nat → Int32) {a b : Nat} (x y : Int32) (h : a ≠ b) : upd (upd f a x) b y = upd (upd f b y) a x := by
  funext j
  unfold upd
  by_cases c : j = b
  · have : ¬ j = a := fun q => h (q.symm.trans c)
    rw [if_pos c, if_neg this, if_pos c]
  · rw [if_neg c, if_neg c]
/-- one has come: class and model -/
theorem come_R {E : eg_E} {Z Y : Nat → Int32} (hE : wE E) (hR : RY E Z Y) {g : Nat} (hq : (Y 1).toNatClampNeg < 15) (q1 : Y 1 = nI (Y 1).toNatClampNeg) (hg : g < eP E) (h12 : Y (20 + 20 * g + 12) = eC E g 0) (z : Int32) :
    RY E (upd (upd (upd (upd (upd (upd (upd (upd Z (20 + 20 * g) 1) (20 + 20 * g + 9) (Z (20 + 20 * g + 9) + 1)) (20 + 20 * g + 1) (-1)) (20 + 20 * g + 2) z) (20 + 20 * g + 3) 0) (20 + 20 * g + 10) 0) (2 + (Y 1).toNatClampNeg) (nI g)) 1 (Y 1 + 1)) (comeF z Y g) := by
  have hn := hE.1
  have hN := hE.2.1
  have m1 : (Y 1 + 1).toNatClampNeg = (Y 1).toNatClampNeg + 1 := by
    have : Y 1 + 1 = nI ((Y 1).toNatClampNeg + 1) := by
      rw [← (nAl _).2.1, ← q1]
    rw [this, nI_t (by omega)]
  have b9 := hR.g 9 hg (by omega)
  unfold comeF
  generalize (Y 1).toNatClampNeg = q at *
  refine ⟨?_, ?_, fun k hk => ?_, fun r hr => ?_, fun s f hs2 hf => ?_, fun b f hb hf => ?_, fun b hb => ?_⟩
  · simp (disch := omega) only [pk_un]
    exact hR.s
  · rw [pk_us, pk_us]
  · rw [pk_us, m1] at hk
    by_cases e : k = q
    · subst e
      simp (disch := omega) only [pk_un, pk_us]
    · simp (disch := omega) only [pk_un]
      have : k < (Y 1).toNatClampNeg := by rw [q1, nI_t (by omega)]; omega
      exact hR.k this
  · simp (disch := omega) only [pk_un]
    exact hR.r hr
  · simp (disch := omega) only [pk_un]
    exact hR.p f hs2 hf
  · by_cases e : b = g
    · subst e
      by_cases f1 : f = 9
      · subst f1; simp (disch := omega) only [pk_un, pk_us]; rw [b9]
      by_cases f3 : f = 1
      · subst f3; simp (disch := omega) only [pk_un, pk_us]
      by_cases f4 : f = 2
      · subst f4; simp (disch := omega) only [pk_un, pk_us]
      by_cases f5 : f = 3
      · subst f5; simp (disch := omega) only [pk_un, pk_us]
      simp (disch := omega) only [pk_un]
      exact hR.g f hb hf
    · simp (disch := omega) only [pk_un]
      exact hR.g f hb hf
  · unfold RG
    by_cases e : b = g
    · subst e
      simp (disch := omega) only [pk_un, pk_us]
      exact ⟨Or.inl ⟨trivial, h12, fun _ => trivial, fun c => absurd c (by decide), fun c => absurd c (by decide)⟩, Or.inl trivial⟩
    · simp (disch := omega) only [pk_un]
      exact ⟨hR.G hb, hR.b hb⟩
theorem qI_room {E : eg_E} {Y : Nat → Int32} (hE : wE E) (h : qI E Y) {g : Nat} (hg : g < eP E) (hnot : ¬ Y (20 + 20 * g) = 1) : (Y 1).toNatClampNeg < eP E := by
  have hN := hE.2.1
  obtain ⟨q1, q2, q3⟩ := h
  have hne : ∀ k, k < (Y 1).toNatClampNeg → (Y (2 + k)).toNatClampNeg ≠ g := fun k hk e => by
    have := (q2 k hk).2
    rw [e] at this
    exact hnot this
  have := fb_holes (eP E) ((Y 1).toNatClampNeg + 1) (fun i => if i < (Y 1).toNatClampNeg then (Y (2 + i)).toNatClampNeg else g) (fun i hi => by
    by_cases hi2 : i < (Y 1).toNatClampNeg
    · simp only [if_pos hi2]; exact vp_lt (q2 i hi2).1
    · simp only [if_neg hi2]; exact hg) (fun i j hij hj => by
    by_cases hj2 : j < (Y 1).toNatClampNeg
    · simp only [if_pos hj2, if_pos (show i < (Y 1).toNatClampNeg by omega)]
      intro e
      apply q3 i j hij hj2
      rw [(nI_of' (q2 i (by omega)).1 (by omega)).1, (nI_of' (q2 j hj2).1 (by omega)).1, e]
    · simp only [if_neg hj2, if_pos (show i < (Y 1).toNatClampNeg by omega)]
      exact hne i (by omega))
  omega
section
variable {κ : eg_K} {d : Nat} {M : eg_H} {t p : Nat} {nm st : Nat → Int64} {Z : Nat → Int32}
theorem aP_TX (M : eg_H) (t p : Nat) (nm st : Nat → Int64) (Z : Nat → Int32) {s : Nat} (hs : s < 5) (c : Nat) : fX4_addPan (TX M t p nm st Z) (5 * t + s) c = TX M t p nm st (upd (upd (upd Z (320 + 8 * s) (Z (320 + 8 * s) + M.1 (1, c) 3)) (320 + 8 * s + 1) 0) (320 + 8 * s + 6) (Z (320 + 8 * s + 6) + 1)) := by
  unfold fX4_addPan
  rw [T4_0 _ _ _ _ _ _ hs, T1, W4_0 _ _ _ _ _ _ hs, W4_1 _ _ _ _ _ _ hs, T4_6 _ _ _ _ _ _ hs, W4_6 _ _ _ _ _ _ hs, pk_un (by omega), pk_un (by omega)]
theorem sX7_fillPans (hd : 1 ≤ d) (ht : t < 4) (hW : cW M p) (hT : M.2.2 (7, t) 0 = (5, p)) {C : Nat} (hC : C < 1000000) {Y : Nat → Int32} (hY : yI (cE M p) C Y) (hR : RY (cE M p) Z Y) : eg_S κ gC mtX7_fillPans d [vR (7, t)] (TX M t p nm st Z) (eQV κ gC (fun M1 => ∃ Z1, M1 = TX M t p nm st Z1 ∧ RY (cE M p) Z1 (itr (fillF (cE M p)) (cN M p) Y) ∧ Z1 18 = Z 18)) := by
  have hE := hW.2.2.2.2.1
  obtain ⟨en, hn⟩ := cN_e hW
  have hp2 := hW.1
  refine eg_S.of rfl (Nat.le_of_ble_eq_true rfl) (vX7_fillPans_0 _ ht ?_)
  refine eg_down (P := fun i => ∀ Z1, RY (cE M p) Z1 (itr (fillF (cE M p)) i Y) → Z1 18 = Z 18 → eg_W κ gC mtX7_fillPans d (eQV κ gC (fun M1 => ∃ Z1, M1 = TX M t p nm st Z1 ∧ RY (cE M p) Z1 (itr (fillF (cE M p)) (cN M p) Y) ∧ Z1 18 = Z 18)) 2 [(0, vR (7, t)), (1, vI (nI i))] [] (TX M t p nm st Z1)) (cN M p) (fun i hi k Z1 r1 c1 => ?_) (fun Z1 r1 c1 => ?_) Z hR rfl
  · have hYi := fillA_I hE hC hY i (show i ≤ eN (cE M p) by show i ≤ cN M p; omega)
    have hes : itr (fillF (cE M p)) (i + 1) Y = fillF (cE M p) i (itr (fillF (cE M p)) i Y) := rfl
    rw [hes] at k
    have hi' : i < eN (cE M p) := hi
    have hpI := (hYi.2.2.2.1 i hi').2
    have hq := hYi.q16 hE
    generalize itr (fillF (cE M p)) i Y = Yi at *
    have a2 := r1.p 2 hi' (by omega)
    have a0 := r1.p0 hi'
    have a6 := r1.p 6 hi' (by omega)
    have f0 : (Yi (320 + 8 * i + 2) < 0 ∨ ¬ Yi (320 + 8 * i + 2) ≤ Yi 0) → fillF (cE M p) i Yi = Yi := fun q => if_pos q
    have f1 : ¬ (Yi (320 + 8 * i + 2) < 0 ∨ ¬ Yi (320 + 8 * i + 2) ≤ Yi 0) → fillF (cE M p) i Yi = upd (upd (upd (upd Yi (320 + 8 * i) (Yi (320 + 8 * i) + eD (cE M p) i 2)) (320 + 8 * i + 1) 0) (320 + 8 * i + 2) (-1)) (320 + 8 * i + 6) (Yi (320 + 8 * i + 6) + 1) := fun q => if_neg q
    have ed2 : eD (cE M p) i 2 = M.1 (1, 5 * p + i) 3 := eD_c hi 2
    refine vX7_fillPans_2 hd _ ht _ ⟨p, hp2, hT, fun c => ?_, fun c => ?_⟩
    · rw [T5, en] at c
      exact absurd c (nI_ge hi (by omega))
    · rw [nI_t (by omega), T4_2 _ _ _ _ _ _ (by omega), a2, T7_1, r1.s, aP_TX _ _ _ _ _ _ (by omega), a0, a6, ← ed2, (nAl i).2.1]
      refine ⟨nI_in' (by omega) (by omega), fun c2 x5 e5 => ?_, fun c2 => ⟨fun c3 x7 e7 => ?_, fun c3 M8 e8 M10 e10 x11 e11 => ?_⟩⟩
      · rw [e5]
        rw [f0 (Or.inl (by rw [c2]; decide))] at k
        exact k Z1 r1 c1
      · rw [e7]
        rw [f0 (Or.inr (Int32.not_le.mpr c3))] at k
        exact k Z1 r1 c1
      · have hnn : ¬ Yi (320 + 8 * i + 2) < 0 := by
          rcases hpI with q | q
          · exact absurd q c2
          · rw [t_lt, t_0]; omega
        rw [f1 (fun q => q.elim hnn (fun q => q (Int32.not_lt.mp c3)))] at k
        rw [e8, W4_2 _ _ _ _ _ _ (by omega)] at e10
        rw [e10, e11, upd_comm _ _ _ (show 320 + 8 * i + 6 ≠ 320 + 8 * i + 2 by omega)]
        refine k _ ?_ ?_
        · refine RY_u (RY_u (RY_u (RY_u r1 hE hq (by unfold spj; omega) _) hE ?_ (by unfold spj; omega) _) hE ?_ (by unfold spj; omega) _) hE ?_ (by unfold spj; omega) _ <;> (simp (disch := omega) only [pk_un]; exact hq)
        · simp (disch := omega) only [pk_un]
          exact c1
  · refine vX7_fillPans_2 hd _ ht _ ⟨p, hp2, hT, fun _ => ⟨Z1, rfl, r1, c1⟩, fun c => ?_⟩
    rw [T5, en] at c
    exact absurd (Int32.le_refl _) c
theorem sX7_orderPans (ht : t < 4) (hW : cW M p) (hT : M.2.2 (7, t) 0 = (5, p)) {C : Nat} (hC : 119 ≤ C) {Y : Nat → Int32} (hY : yI (cE M p) C Y) (hR : RY (cE M p) Z Y) : eg_S κ gC mtX7_orderPans d [vR (7, t)] (TX M t p nm st Z) (eQV κ gC (fun M1 => ∃ Z1, M1 = TX M t p nm st Z1 ∧ RY (cE M p) Z1 (itr (pansF (cE M p)) (cN M p) Y) ∧ Z1 18 = Z 18)) := by
  have hE := hW.2.2.2.2.1
  obtain ⟨en, hn⟩ := cN_e hW
  have hp2 := hW.1
  refine eg_S.of rfl (Nat.le_of_ble_eq_true rfl) (vX7_orderPans_0 _ ht ?_)
  refine eg_down (P := fun i => ∀ Z1, RY (cE M p) Z1 (itr (pansF (cE M p)) i Y) → Z1 18 = Z 18 → eg_W κ gC mtX7_orderPans d (eQV κ gC (fun M1 => ∃ Z1, M1 = TX M t p nm st Z1 ∧ RY (cE M p) Z1 (itr (pansF (cE M p)) (cN M p) Y) ∧ Z1 18 = Z 18)) 2 [(0, vR (7, t)), (1, vI (nI i))] [] (TX M t p nm st Z1)) (cN M p) (fun i hi k Z1 r1 c1 => ?_) (fun Z1 r1 c1 => ?_) Z hR rfl
  · have hYi := pansA_I hE hC hY i (show i ≤ eN (cE M p) by show i ≤ cN M p; omega)
    have hes : itr (pansF (cE M p)) (i + 1) Y = pansF (cE M p) i (itr (pansF (cE M p)) i Y) := rfl
    rw [hes] at k
    have hi' : i < eN (cE M p) := hi
    have hpI := (hYi.2.2.2.1 i hi').2
    have hq := hYi.q16 hE
    generalize itr (pansF (cE M p)) i Y = Yi at *
    have a0 := r1.p0 hi'
    have a2 := r1.p 2 hi' (by omega)
    have ed2 : eD (cE M p) i 2 = M.1 (1, 5 * p + i) 3 := eD_c hi 2
    have ed3 : eD (cE M p) i 3 = M.1 (1, 5 * p + i) 4 := eD_c hi 3
    have ed4 : eD (cE M p) i 4 = M.1 (1, 5 * p + i) 5 := eD_c hi 4
    have eo2 : eO (cE M p) 2 = M.1 (5, p) 6 := rfl
    have hd2 := (hE.2.2.1 i hi').2.1
    have f0 : eD (cE M p) i 2 = 0 → pansF (cE M p) i Yi = Yi := fun q => if_pos q
    have f1 : ¬ eD (cE M p) i 2 = 0 → ∀ Ya, Ya = (if ¬ eD (cE M p) i 4 < Yi (320 + 8 * i) ∧ ¬ 0 ≤ Yi (320 + 8 * i + 2) ∧ ¬ eO (cE M p) 2 ≤ Yi 0 then upd Yi (320 + 8 * i + 2) (Yi 0 + eD (cE M p) i 3) else Yi) → pansF (cE M p) i Yi = upd (upd Ya (320 + 8 * i + 1) (Ya (320 + 8 * i + 1) + 1)) (320 + 8 * i + 5) (Ya (320 + 8 * i + 5) + (if Ya (320 + 8 * i) = 0 then 1 else 0)) := fun q Ya ey => by
      rw [ey]
      exact if_neg q
    have tail : ∀ Za Ya, ¬ eD (cE M p) i 2 = 0 → RY (cE M p) Za Ya → (Ya 1).toNatClampNeg < 16 → Za 18 = Z 18 → Ya = (if ¬ eD (cE M p) i 4 < Yi (320 + 8 * i) ∧ ¬ 0 ≤ Yi (320 + 8 * i + 2) ∧ ¬ eO (cE M p) 2 ≤ Yi 0 then upd Yi (320 + 8 * i + 2) (Yi 0 + eD (cE M p) i 3) else Yi) → eg_W κ gC mtX7_orderPans d (eQV κ gC (fun M1 => ∃ Z1, M1 = TX M t p nm st Z1 ∧ RY (cE M p) Z1 (itr (pansF (cE M p)) (cN M p) Y) ∧ Z1 18 = Z 18)) 83 [(0, vR (7, t)), (1, vI (nI i)), (3, vR (4, 5 * t + i))] [] (TX M t p nm st Za) := by
      intro Za Ya hz ra hqa ca ey
      rw [f1 hz Ya ey] at k
      refine vX7_orderPans_83 _ ht _ (by omega) (fun M1 e1 x2 e2 M3 e3 x4 e4 => ?_)
      rw [T4_1 _ _ _ _ _ _ (by omega), W4_1 _ _ _ _ _ _ (by omega), ra.p 1 hi' (by omega)] at e1
      subst e1
      rw [T4_0 _ _ _ _ _ _ (by omega), pk_un (by omega), ra.p0 hi'] at e2
      rw [T4_5 _ _ _ _ _ _ (by omega), W4_5 _ _ _ _ _ _ (by omega), pk_un (by omega), ra.p 5 hi' (by omega)] at e3
      rw [e3, e4, (nAl i).2.1]
      refine k _ ?_ ?_
      · have e5 : x2 = if Ya (320 + 8 * i) = 0 then 1 else 0 := by
          rw [e2]
          by_cases q : Ya (320 + 8 * i) = 0
          · rw [if_pos q, if_neg (fun r => r q)]
          · rw [if_neg q, if_pos q]
        rw [e5]
        exact RY_u (RY_u ra hE hqa (by unfold spj; omega) _) hE (by rw [pk_un (by omega)]; exact hqa) (by unfold spj; omega) _
      · simp (disch := omega) only [pk_un]
        exact ca
    refine vX7_orderPans_2 _ ht _ ⟨p, hp2, hT, fun c => ?_, fun c => ?_⟩
    · rw [T5, en] at c
      exact absurd c (nI_ge hi (by omega))
    · rw [nI_t (by omega), T1, T1, T1, T4_0 _ _ _ _ _ _ (by omega), T4_2 _ _ _ _ _ _ (by omega), a0, a2, T7_1, r1.s, T5, ← ed2, ← ed3, ← ed4, ← eo2, (nAl i).2.1, W4_2 _ _ _ _ _ _ (by omega)]
      refine ⟨nI_in' (by omega) (by omega), fun c2 x5 e5 => ?_, fun c2 => ?_⟩
      · rw [e5]
        rw [f0 (by rw [t_eq, t_0]; rw [t_le, t_0] at c2; omega)] at k
        exact k Z1 r1 c1
      · have hz : ¬ eD (cE M p) i 2 = 0 := fun q => c2 (by rw [q]; exact Int32.le_refl _)
        refine ⟨fun c3 => tail Z1 Yi hz r1 hq c1 (if_neg (fun q => q.1 c3)).symm, fun c3 => ⟨fun c4 => tail Z1 Yi hz r1 hq c1 (if_neg (fun q => ?_)).symm, fun c4 => ⟨fun c5 => tail Z1 Yi hz r1 hq c1 (if_neg (fun q => q.2.2 c5)).symm, fun c5 M9 e9 => ?_⟩⟩⟩
        · rcases hpI with r | r
          · exact c4 r
          · exact q.2.1 (by rw [t_le, t_0]; omega)
        · rw [e9]
          refine tail _ _ hz (RY_u r1 hE hq (by unfold spj; omega) _) (by rw [pk_un (by omega)]; exact hq) (by rw [pk_un (by omega)]; exact c1) (if_pos ⟨c3, ?_, c5⟩).symm
          rw [c4]
          decide
  · refine vX7_orderPans_2 _ ht _ ⟨p, hp2, hT, fun _ => ⟨Z1, rfl, r1, c1⟩, fun c => ?_⟩
    rw [T5, en] at c
    exact absurd (Int32.le_refl _) c
end
