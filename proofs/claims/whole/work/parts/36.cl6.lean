theorem upd_id (f : Nat → Int32) (k : Nat) : upd f k (f k) = f := by
  funext j
  by_cases c : j = k
  · rw [c]; exact pk_us
  · exact pk_un c
section
variable {κ : eg_K} {d : Nat} {M : eg_H} {t p : Nat} {nm st : Nat → Int64} {Z : Nat → Int32}
/-- the array when the heap h is taken -/
def tkZ (E : eg_E) (g s : Nat) (h : Int32) (Z : Nat → Int32) : Nat → Int32 :=
  upd (upd (upd (upd (upd (upd (upd Z (320 + 8 * s) (Z (320 + 8 * s) - (if eD E s 2 = 0 then 0 else h))) (320 + 8 * s + 3) (Z (320 + 8 * s + 3) + h)) (320 + 8 * s + 4) (Z (320 + 8 * s + 4) + (if eD E s 5 = 0 then 0 else if Z (320 + 8 * s + 1) < eD E s 5 then 0 else h))) (20 + 20 * g + 2) (Z (20 + 20 * g + 2) - h)) (20 + 20 * g + 5) (Z (20 + 20 * g + 5) + h)) (20 + 20 * g + 14 + s) (if Z (20 + 20 * g + 14 + s) ≤ h then 0 else Z (20 + 20 * g + 14 + s) - h)) (20 + 20 * g + 3) (eD E s 0)
theorem tkZ_R {E : eg_E} {Z Y : Nat → Int32} (hE : wE E) (hR : RY E Z Y) (hq : (Y 1).toNatClampNeg < 16) {g s : Nat} (hg : g < eP E) (hs : s < eN E) : RY E (tkZ E g s (heapH E Y g s) Z) (upd (heapF E g s Y) (20 + 20 * g + 3) (eD E s 0)) := by
  have hn := hE.1
  have hN := hE.2.1
  have a0 := hR.p0 hs
  have a1 := hR.p 1 hs (by omega)
  have a3 := hR.p 3 hs (by omega)
  have a4 := hR.p 4 hs (by omega)
  have b2 := hR.g 2 hg (by omega)
  have b5 := hR.g 5 hg (by omega)
  have bw := hR.w hg (show s < 5 by omega)
  refine RY_of hR hE hq (fun j hj hs2 => ?_) (fun j hj hs2 => ?_)
  · unfold tkZ heapF
    rw [a0, a1, a3, a4, b2, b5, bw]
    generalize heapH E Y g s = h
    by_cases j0 : j = 20 + 20 * g + 3
    · subst j0; left; simp only [pk_us]
    by_cases j1 : j = 20 + 20 * g + 14 + s
    · subst j1; left; simp (disch := omega) only [pk_us, pk_un]
    by_cases j2 : j = 20 + 20 * g + 5
    · subst j2; left; simp (disch := omega) only [pk_us, pk_un]
    by_cases j3 : j = 20 + 20 * g + 2
    · subst j3; left; simp (disch := omega) only [pk_us, pk_un]
    by_cases j4 : j = 320 + 8 * s + 4
    · subst j4; left; simp (disch := omega) only [pk_us, pk_un]
    by_cases j5 : j = 320 + 8 * s + 3
    · subst j5; left; simp (disch := omega) only [pk_us, pk_un]
    by_cases j6 : j = 320 + 8 * s
    · subst j6; left; simp (disch := omega) only [pk_us, pk_un]
    right
    simp (disch := omega) only [pk_un]
    exact ⟨trivial, trivial⟩
  · unfold tkZ heapF
    unfold spj at hs2
    simp (disch := omega) only [pk_un]
    exact ⟨trivial, trivial⟩
theorem tkZ_18 (E : eg_E) (g s : Nat) (h : Int32) (Z : Nat → Int32) : tkZ E g s h Z 18 = Z 18 := by
  unfold tkZ
  simp (disch := omega) only [pk_un]
theorem sX7_take (hd : 3 ≤ d) (ht : t < 4) (hW : cW M p) (hT : M.2.2 (7, t) 0 = (5, p)) {C : Nat} {Y : Nat → Int32} (hY : yI (cE M p) C Y) (hR : RY (cE M p) Z Y) {g s : Nat} (hg : g < cP M p) (hs : s < cN M p) (h1 : Y (20 + 20 * g) = 1) : eg_S κ gC mtX7_take d [vR (7, t), vI (nI g), vI (nI s)] (TX M t p nm st Z) (eQV κ gC (fun M1 => ∃ n1 s1 Z1, M1 = TX M t p n1 s1 Z1 ∧ Z1 18 = Z 18 ∧ RY (cE M p) Z1 (upd (heapF (cE M p) g s Y) (20 + 20 * g + 3) (eD (cE M p) s 0)))) := by
  have hn := (cN_e hW).2
  have hN := (cP_e hW).2
  have hp2 := hW.1
  have hE := hW.2.2.2.2.1
  have h5 := hW.2.2.2.2.2 s hs
  have hg' : g < eP (cE M p) := hg
  have hs' : s < eN (cE M p) := hs
  have hq : (Y 1).toNatClampNeg < 16 := by
    have := vp_lt hY.1.1
    have : eP (cE M p) = cP M p := rfl
    omega
  have ed0 : eD (cE M p) s 0 = M.1 (1, 5 * p + s) 1 := eD_c hs 0
  have ed5 : eD (cE M p) s 5 = M.1 (1, 5 * p + s) 6 := eD_c hs 5
  have fin := tkZ_R hE hR hq hg' hs'
  -- the last writes
  have k218 : ∀ n1 s1 (h : Int32), h = heapH (cE M p) Y g s → ∀ Zc, Zc = upd (upd (upd Z (320 + 8 * s) (Z (320 + 8 * s) - (if eD (cE M p) s 2 = 0 then 0 else h))) (320 + 8 * s + 3) (Z (320 + 8 * s + 3) + h)) (320 + 8 * s + 4) (Z (320 + 8 * s + 4) + (if eD (cE M p) s 5 = 0 then 0 else if Z (320 + 8 * s + 1) < eD (cE M p) s 5 then 0 else h)) →
      eg_W κ gC mtX7_take d (eQV κ gC (fun M1 => ∃ n1 s1 Z1, M1 = TX M t p n1 s1 Z1 ∧ Z1 18 = Z 18 ∧ RY (cE M p) Z1 (upd (heapF (cE M p) g s Y) (20 + 20 * g + 3) (eD (cE M p) s 0)))) 218 [(2, vI (nI s)), (3, vR (2, 15 * t + g)), (5, vR (1, 5 * p + s)), (8, vI h)] [] (TX M t p n1 s1 Zc) := by
    intro n1 s1 h eh Zc eZ
    refine vX7_take_218 _ _ (by omega) (by omega) _ ?_
    simp (disch := omega) only [forall_eq, T2_2, W2_2, T2_8, W2_8, T22, W22, nI_t, T1, W2_4]
    refine ⟨nI_in' (by omega) (by omega), n1, s1, _, rfl, ?_, ?_⟩
    · rw [eZ]
      simp (disch := omega) only [pk_un]
    · rw [← eh] at fin
      have e : tkZ (cE M p) g s h Z = _ := rfl
      unfold tkZ at fin
      rw [eZ]
      simp (disch := omega) only [pk_un]
      rw [← ed0]
      exact fin
  have k173 : ∀ n1 s1 (h : Int32), h = heapH (cE M p) Y g s → ∀ Za, Za = upd Z (320 + 8 * s) (Z (320 + 8 * s) - (if eD (cE M p) s 2 = 0 then 0 else h)) →
      eg_W κ gC mtX7_take d (eQV κ gC (fun M1 => ∃ n1 s1 Z1, M1 = TX M t p n1 s1 Z1 ∧ Z1 18 = Z 18 ∧ RY (cE M p) Z1 (upd (heapF (cE M p) g s Y) (20 + 20 * g + 3) (eD (cE M p) s 0)))) 173 [(2, vI (nI s)), (3, vR (2, 15 * t + g)), (4, vR (4, 5 * t + s)), (5, vR (1, 5 * p + s)), (8, vI h)] [] (TX M t p n1 s1 Za) := by
    intro n1 s1 h eh Za eZ
    refine vX7_take_173 _ _ (by omega) (by omega) (by omega) _ ?_
    simp (disch := omega) only [forall_eq, T4_3, W4_3, T1, T4_1, T4_4, W4_4]
    rw [← ed5]
    have z3 : Za (320 + 8 * s + 3) = Z (320 + 8 * s + 3) := by rw [eZ]; exact pk_un (by omega)
    have z4 : Za (320 + 8 * s + 4) = Z (320 + 8 * s + 4) := by rw [eZ]; exact pk_un (by omega)
    have z1 : Za (320 + 8 * s + 1) = Z (320 + 8 * s + 1) := by rw [eZ]; exact pk_un (by omega)
    simp (disch := omega) only [pk_un]
    rw [z3, z4, z1]
    have none : (if eD (cE M p) s 5 = 0 then (0 : Int32) else if Z (320 + 8 * s + 1) < eD (cE M p) s 5 then 0 else h) = 0 → eg_W κ gC mtX7_take d (eQV κ gC (fun M1 => ∃ n1 s1 Z1, M1 = TX M t p n1 s1 Z1 ∧ Z1 18 = Z 18 ∧ RY (cE M p) Z1 (upd (heapF (cE M p) g s Y) (20 + 20 * g + 3) (eD (cE M p) s 0)))) 218 [(2, vI (nI s)), (3, vR (2, 15 * t + g)), (5, vR (1, 5 * p + s)), (8, vI h)] [] (TX M t p n1 s1 (upd Za (320 + 8 * s + 3) (Z (320 + 8 * s + 3) + h))) := by
      intro c
      refine k218 n1 s1 h eh _ ?_
      rw [c, Int32.add_zero, eZ]
      have : ∀ f : Nat → Int32, f (320 + 8 * s + 4) = Z (320 + 8 * s + 4) → f = upd f (320 + 8 * s + 4) (Z (320 + 8 * s + 4)) := fun f hf => by rw [← hf, upd_id]
      exact this _ (by simp (disch := omega) only [pk_un])
    refine ⟨fun c => none ?_, fun c => ⟨fun c2 => none ?_, fun c2 => k218 n1 s1 h eh _ ?_⟩⟩
    · rw [if_pos]
      rw [t_eq, t_0]
      rw [t_le, t_0] at c
      omega
    · rw [if_pos c2]
      by_cases q : eD (cE M p) s 5 = 0
      · rw [if_pos q]
      · rw [if_neg q]
    · rw [if_neg c2, if_neg (show ¬ eD (cE M p) s 5 = 0 from fun q => c (by rw [q]; exact Int32.le_refl _)), eZ]
  have k145 : ∀ n1 s1 (v : Int64), v.toInt32 = heapH (cE M p) Y g s →
      eg_W κ gC mtX7_take d (eQV κ gC (fun M1 => ∃ n1 s1 Z1, M1 = TX M t p n1 s1 Z1 ∧ Z1 18 = Z 18 ∧ RY (cE M p) Z1 (upd (heapF (cE M p) g s Y) (20 + 20 * g + 3) (eD (cE M p) s 0)))) 145 [(0, vR (7, t)), (2, vI (nI s)), (3, vR (2, 15 * t + g)), (4, vR (4, 5 * t + s)), (5, vR (1, 5 * p + s)), (6, vL v)] [] (TX M t p n1 s1 Z) := by
    intro n1 s1 v ev
    refine vX7_take_145 (by omega) _ ht _ (by omega) (by omega) (by omega) _ ?_
    intro x1 e1
    refine ⟨p, hp2, hT, ghasPan_c (cW_TX hW) (by omega), fun x5 e5 => ?_⟩
    rw [hasPan_TX] at e5
    have hx := hasPan_c hW hs
    rw [← e5] at hx
    refine ⟨fun c => k173 n1 s1 x1 (e1.trans ev) _ ?_, fun c M7 e7 => ?_⟩
    · rw [if_pos (hx.mp c), Int32.sub_zero, upd_id]
    · rw [T4_0 _ _ _ _ _ _ (by omega), W4_0 _ _ _ _ _ _ (by omega)] at e7
      rw [e7]
      refine k173 n1 s1 x1 (e1.trans ev) _ ?_
      rw [if_neg (fun q => c (hx.mpr q))]
  refine eg_S.of rfl (Nat.le_of_ble_eq_true rfl) (vX7_take_0 (by omega) _ ht _ _ ?_)
  refine ⟨nI_in' (by omega) (by omega), nI_in' (by omega) (by omega), p, hp2, hT, _, sX7_describe (by omega) ht hW hT hg hs, fun M1 e1 => ?_⟩
  subst e1
  refine ⟨p, hp2, hT, nI_in' (n := 0) (by omega) (by omega), ?_⟩
  have c0 : (0 : Int32).toNatClampNeg = 0 := by decide
  rw [T35, c0]
  refine ⟨_, sX3_vTX (by omega) hW (by omega), fun x8 M9 ⟨e8, s1, e9⟩ x11 e11 x12 e12 x13 e13 => ?_⟩
  subst e9
  rw [nI_t (by omega), nI_t (by omega), T22 _ _ _ _ _ _ (by omega) (by omega)] at e11
  rw [nI_t (by omega), T2_2 _ _ _ _ _ _ (by omega)] at e13
  refine ⟨p, hp2, hT, ghasPan_c (cW_TX hW) (by omega), fun x17 e17 => ?_⟩
  rw [hasPan_TX] at e17
  have hx := hasPan_c hW hs
  rw [← e17] at hx
  rw [nI_t (by omega), nI_t (by omega), T4_0 _ _ _ _ _ _ (by omega)]
  have b2 := hR.g 2 hg' (by omega)
  have bw := hR.w hg' (show s < 5 by omega)
  have a0 := hR.p0 hs'
  rw [bw] at e11
  rw [b2] at e13
  rw [a0]
  have ev : lawD (cE M p) 0 (nmA (cE M p) Y g s) (Y (20 + 20 * g + 14 + s)).toInt64 = x11 := by
    unfold lawD
    rw [eL_c M p (by omega), ← lC_cong (nmZ_A hE hR hg' hs' h1 nm), lC_d, e11, e8]
    simp only [lgE]
    by_cases c : valC M p (nmZ (cE M p) nm Z g (Z (20 + 20 * g + 14 + s)).toInt64 (if eD (cE M p) s 2 = 0 then 999 else (Z (320 + 8 * s)).toInt64) (if eD (cE M p) s 2 = 0 then 0 else (Z (320 + 8 * s + 1)).toInt64)) (M.1 (35, p) 0) = mnL
    · rw [if_pos c, if_neg (fun q => q c)]
    · rw [if_neg c, if_pos c]
  have r0 : 0 ≤ (Y (20 + 20 * g + 2)).toInt := (hY.2.2.1 g hg').2.2.1.1
  have p0 : 0 ≤ (Y (320 + 8 * s)).toInt := (hY.2.2.2.1 s hs').1.1
  have e14 : x13 = hpC x11 (Y (20 + 20 * g + 2)) := by rw [e13, e12]; rfl
  refine ⟨fun c => k145 _ _ _ ?_, fun c => ⟨fun c2 => k145 _ _ _ ?_, fun c2 x20 e20 => k145 _ _ _ ?_⟩⟩
  · unfold heapH
    rw [ev, if_pos (hx.mp c), e14, hpC_1 _ _ r0]
  · unfold heapH
    rw [ev, if_neg (fun q => c (hx.mpr q)), ← hpC_2 _ _ _ r0 p0, ← e14, if_pos c2]
  · unfold heapH
    rw [ev, if_neg (fun q => c (hx.mpr q)), ← hpC_2 _ _ _ r0 p0, ← e14, if_neg c2, e20]
end
