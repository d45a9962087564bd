/-! the law's value in a second -/
theorem eL_c (M : eg_H) (p : Nat) {l : Nat} (hl : l < 3) (n : Nat → Int64) : eL (cE M p) l n = lC M p l n := by
  show (if l < 3 then lC M p l else fun _ => none) n = _
  rw [if_pos hl]
theorem lC_d (M : eg_H) (p l : Nat) (n : Nat → Int64) (w : Int64) : (lC M p l n).getD w = if valC M p n (M.1 (35, p) l) = mnL then w else valC M p n (M.1 (35, p) l) := by
  unfold lC
  by_cases c : valC M p n (M.1 (35, p) l) = mnL
  · rw [if_pos c, if_pos c]; rfl
  · rw [if_neg c, if_neg c]; rfl
theorem nmZ_A {E : eg_E} {Z Y : Nat → Int32} (hE : wE E) (hR : RY E Z Y) {g s : Nat} (hg : g < eP E) (hs : s < eN E) (h1 : Y (20 + 20 * g) = 1) (o : Nat → Int64) (j : Nat) (hj : j < 8) : nmZ E o Z g (Z (20 + 20 * g + 14 + s)).toInt64 (if eD E s 2 = 0 then 999 else (Z (320 + 8 * s)).toInt64) (if eD E s 2 = 0 then 0 else (Z (320 + 8 * s + 1)).toInt64) j = nmA E Y g s j := by
  have hn := hE.1
  unfold nmZ nmA nmY
  rw [hR.w hg (by omega), hR.p0 hs, hR.p 1 hs (by omega), hR.g 2 hg (by omega), hR.q, hR.s, (hR.l hg h1).2.1]
  exact nmC_8 _ _ _ _ _ _ _ _ _ _ j hj
section
variable {κ : eg_K} {d : Nat} {M : eg_H} {t p : Nat} {nm st : Nat → Int64} {Z : Nat → Int32}
theorem sX3_vTX (hd : 1 ≤ d) (hW : cW M p) {l : Nat} (hl : l < 3) : eg_S κ gC mtX3_value d [vR (3, p), vI (M.1 (35, p) l)] (TX M t p nm st Z) (eQL κ gC (fun r M1 => r = valC M p nm (M.1 (35, p) l) ∧ ∃ s1, M1 = TX M t p nm s1 Z)) := by
  have h := sX3_value (κ := κ) (d := d) hd (TX M t p nm st Z) (p := p) hW.1 (M.1 (35, p) l) (hW.2.2.2.1 l hl)
  simp only [TX_nm, valC_TX, sU_TX] at h
  exact h
theorem sX7_leavesOut (hd : 3 ≤ d) (ht : t < 4) (hW : cW M p) (hT : M.2.2 (7, t) 0 = (5, p)) {Y : Nat → Int32} (hR : RY (cE M p) Z Y) {g s : Nat} (hg : g < cP M p) (hs : s < cN M p) (h1 : Y (20 + 20 * g) = 1) : eg_S κ gC mtX7_leavesOut d [vR (7, t), vI (nI g), vI (nI s)] (TX M t p nm st Z) (eQI κ gC (fun r M1 => r = (if lg_cmp (lawD (cE M p) 1 (nmA (cE M p) Y g s) 0) 0 = 0 then 0 else 1) ∧ ∃ n1 s1, M1 = TX M t p n1 s1 Z)) := by
  refine eg_S.of rfl (Nat.le_of_ble_eq_true rfl) (vX7_leavesOut_0 (by omega) _ ht _ _ ?_)
  refine ⟨_, sX7_describe (by omega) ht hW hT hg hs, fun M1 e1 => ?_⟩
  subst e1
  refine ⟨p, hW.1, hT, nI_in' (n := 1) (by omega) (by omega), ?_⟩
  have c1 : (1 : Int32).toNatClampNeg = 1 := by decide
  rw [T35, c1]
  refine ⟨_, sX3_vTX (by omega) hW (by omega), fun x5 M6 ⟨e5, s1, e6⟩ x8 e8 => ⟨?_, _, s1, e6⟩⟩
  rw [e8]
  have ev : lawD (cE M p) 1 (nmA (cE M p) Y g s) 0 = if x5 = mnL then 0 else x5 := by
    unfold lawD
    rw [eL_c M p (by omega), ← lC_cong (nmZ_A hW.2.2.2.2.1 hR (show g < eP (cE M p) from hg) (show s < eN (cE M p) from hs) h1 nm), lC_d, e5]
  rw [ev]
  by_cases c : x5 = mnL
  · rw [if_pos ((lgE _ _).mpr c), if_pos c, if_pos (by decide)]
  · rw [if_neg (fun q => c ((lgE _ _).mp q)), if_neg c]
/-- so much the class heaps -/
def hpC (v : Int64) (room : Int32) : Int64 := if lg_cmp (if 0 ≤ lg_cmp v 0 then v else 0) room.toInt64 ≤ 0 then (if 0 ≤ lg_cmp v 0 then v else 0) else room.toInt64
theorem hpC_1 (v : Int64) (room : Int32) (h0 : 0 ≤ room.toInt) : hpC v room = clamp v room.toInt64 := by
  unfold hpC clamp
  by_cases c : 0 ≤ lg_cmp v 0
  · rw [if_pos c, if_pos c]
  · rw [if_neg c, if_neg c, if_pos]
    rw [lg_cmp_le, Int64.le_iff_toInt_le, y_i2l, i64_0]
    exact h0
theorem hpC_2 (v : Int64) (room por : Int32) (h0 : 0 ≤ room.toInt) (h1 : 0 ≤ por.toInt) : (if lg_cmp (hpC v room) por.toInt64 ≤ 0 then hpC v room else por.toInt64) = clamp v (if 0 ≤ lg_cmp por.toInt64 room.toInt64 then room.toInt64 else por.toInt64) := by
  rw [hpC_1 _ _ h0]
  unfold clamp
  by_cases c : 0 ≤ lg_cmp v 0
  · simp only [if_pos c]
    by_cases c3 : 0 ≤ lg_cmp por.toInt64 room.toInt64
    · rw [if_pos c3]
      rw [lg_cmp_ge, Int64.le_iff_toInt_le, y_i2l, y_i2l] at c3
      by_cases c2 : lg_cmp v room.toInt64 ≤ 0
      · rw [if_pos c2, if_pos]
        rw [lg_cmp_le, Int64.le_iff_toInt_le, y_i2l] at c2 ⊢
        omega
      · rw [if_neg c2]
        by_cases c4 : lg_cmp room.toInt64 por.toInt64 ≤ 0
        · rw [if_pos c4]
        · rw [lg_cmp_le, Int64.le_iff_toInt_le, y_i2l, y_i2l] at c4
          exact absurd c3 c4
    · rw [if_neg c3]
      rw [lg_cmp_ge, Int64.le_iff_toInt_le, y_i2l, y_i2l] at c3
      by_cases c2 : lg_cmp v room.toInt64 ≤ 0
      · rw [if_pos c2]
      · rw [if_neg c2, if_neg, if_neg]
        · rw [lg_cmp_le, Int64.le_iff_toInt_le, y_i2l] at c2 ⊢
          omega
        · rw [lg_cmp_le, Int64.le_iff_toInt_le, y_i2l, y_i2l]
          omega
  · simp only [if_neg c]
    rw [if_pos]
    rw [lg_cmp_le, Int64.le_iff_toInt_le, y_i2l, i64_0]
    exact h1
end
