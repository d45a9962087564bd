/-! A RUN'S BEGINNING -/
def rwZ (Z f : Nat → Int32) (b n : Nat) : Nat → Int32 := fun j => if b ≤ j ∧ j < b + n then f (j - b) else Z j
theorem rwZ_in {Z f : Nat → Int32} {b n k : Nat} (h : k < n) : rwZ Z f b n (b + k) = f k := by
  unfold rwZ
  rw [if_pos (by omega), show b + k - b = k by omega]
theorem rwZ_out {Z f : Nat → Int32} {b n j : Nat} (h : j < b ∨ b + n ≤ j) : rwZ Z f b n j = Z j := if_neg (by omega)
theorem TX_cp {M : eg_H} {t p : Nat} {nm st : Nat → Int64} {Z : Nat → Int32} {a r : eg_R} {b n : Nat} (h1 : ∀ k, k < n → cX t r k = b + k + 1) (h2 : ∀ k, n ≤ k → cX t r k = 0) : sC (TX M t p nm st Z) a r 0 0 n = TX M t p nm st (rwZ Z ((TX M t p nm st Z).1 a) b n) := by
  refine eg_ext (fun z j => ?_) (fun _ _ => rfl) (fun _ _ => rfl)
  show (if z = r then va_cpy ((TX M t p nm st Z).1 a) ((TX M t p nm st Z).1 r) 0 0 n else (TX M t p nm st Z).1 z) j = (if cX t z j = 0 then M.1 z j else rwZ Z ((TX M t p nm st Z).1 a) b n (cX t z j - 1))
  by_cases c : z = r
  · rw [if_pos c, c]
    by_cases cj : j < n
    · rw [h1 j cj, if_neg (by omega), pk_cpy_in (by omega) (by omega), show b + j + 1 - 1 = b + j by omega, rwZ_in cj, show 0 + (j - 0) = j by omega]
    · rw [h2 j (by omega), if_pos rfl, pk_cpy_out (by omega), TX_o (h2 j (by omega))]
  · rw [if_neg c]
    show (if cX t z j = 0 then M.1 z j else Z (cX t z j - 1)) = _
    by_cases c0 : cX t z j = 0
    · rw [if_pos c0, if_pos c0]
    · rw [if_neg c0, if_neg c0, rwZ_out]
      refine Classical.byContradiction (fun q => c ?_)
      obtain ⟨k, hk, ek⟩ : ∃ k, k < n ∧ cX t z j - 1 = b + k := ⟨cX t z j - 1 - b, by omega, by omega⟩
      exact (cX_inj (i := b + k) (z := z) (j := j) (h1 k hk) (by omega)).1
theorem TX_sR (M : eg_H) (t p : Nat) (nm st : Nat → Int64) (Z : Nat → Int32) (a : eg_R) (k : Nat) (r : eg_R) : sR (TX M t p nm st Z) a k r = TX (sR M a k r) t p nm st Z := rfl
theorem cp_40 (M : eg_H) (t p : Nat) (nm st : Nat → Int64) (Z : Nat → Int32) (a : eg_R) : sC (TX M t p nm st Z) a (40, t) 0 0 5 = TX M t p nm st (rwZ Z ((TX M t p nm st Z).1 a) 360 5) :=
  TX_cp (fun k hk => cX_40 t hk) (fun k hk => by simp [cX]; omega)
theorem cp_43 (M : eg_H) (t p : Nat) (nm st : Nat → Int64) (Z : Nat → Int32) (a : eg_R) : sC (TX M t p nm st Z) a (43, t) 0 0 15 = TX M t p nm st (rwZ Z ((TX M t p nm st Z).1 a) 2 15) :=
  TX_cp (fun k hk => cX_43 t hk) (fun k hk => by simp [cX]; omega)
theorem cp_22 (M : eg_H) (t p : Nat) (nm st : Nat → Int64) (Z : Nat → Int32) (a : eg_R) {g : Nat} (hg : g < 15) : sC (TX M t p nm st Z) a (22, 15 * t + g) 0 0 5 = TX M t p nm st (rwZ Z ((TX M t p nm st Z).1 a) (20 + 20 * g + 14) 5) :=
  TX_cp (fun k hk => cX_22 t hg hk) (fun k hk => by simp [cX]; omega)
/-- a table at its beginning: the class's array -/
def bgP (E : eg_E) (Z : Nat → Int32) (s : Nat) : Prop := Z (320 + 8 * s) = eD E s 2 ∧ Z (320 + 8 * s + 1) = 0 ∧ Z (320 + 8 * s + 2) = -1 ∧ Z (320 + 8 * s + 3) = 0 ∧ Z (320 + 8 * s + 4) = 0 ∧ Z (320 + 8 * s + 5) = 0 ∧ Z (320 + 8 * s + 6) = 0
def bgG (E : eg_E) (Z : Nat → Int32) (g : Nat) : Prop := Z (20 + 20 * g + 1) = -1 ∧ Z (20 + 20 * g + 2) = eC E g 1 ∧ Z (20 + 20 * g + 3) = 0 ∧ Z (20 + 20 * g + 4) = 0 ∧ Z (20 + 20 * g + 5) = 0 ∧ Z (20 + 20 * g + 6) = 0 ∧ Z (20 + 20 * g + 7) = 0 ∧ Z (20 + 20 * g + 8) = 0 ∧ Z (20 + 20 * g + 9) = 0 ∧ ∀ k, k < 5 → Z (20 + 20 * g + 14 + k) = eC E g (2 + k)
def bgZ (E : eg_E) (R : Nat → Int32) (Z : Nat → Int32) : Prop := Z 0 = 0 ∧ Z 1 = 0 ∧ (∀ k, k < eN E → Z (360 + k) = R k) ∧ (∀ s, s < eN E → bgP E Z s) ∧ ∀ g, g < eP E → bgG E Z g ∧ Z (20 + 20 * g) = 0 ∧ Z (20 + 20 * g + 10) = 0
/-- the model's -/
def bgY (E : eg_E) (R : Nat → Int32) (Y : Nat → Int32) : Prop := Y 0 = 0 ∧ Y 1 = 0 ∧ (∀ k, k < eN E → Y (360 + k) = R k) ∧ (∀ s, s < eN E → bgP E Y s) ∧ ∀ g, g < eP E → bgG E Y g ∧ ((¬ eC E g 0 = -1 ∧ Y (20 + 20 * g) = 0 ∧ Y (20 + 20 * g + 11) = eC E g 0 ∧ Y (20 + 20 * g + 12) = eC E g 0) ∨ (eC E g 0 = -1 ∧ Y (20 + 20 * g) = 3)) ∧ Y (20 + 20 * g + 10) = 0
theorem bg_R {E : eg_E} {R Z Y : Nat → Int32} (hE : wE E) (hZ : bgZ E R Z) (hY : bgY E R Y) : RY E Z Y := by
  have hn := hE.1
  obtain ⟨a0, a1, a2, a3, a4⟩ := hZ
  obtain ⟨b0, b1, b2, b3, b4⟩ := hY
  refine ⟨by rw [a0, b0], by rw [a1, b1], fun k hk => ?_, fun q hq => by rw [a2 q hq, b2 q hq], fun s f hs hf => ?_, fun g f hg hf => ?_, fun g hg => ?_⟩
  · rw [b1, show (0 : Int32).toNatClampNeg = 0 by decide] at hk
    exact absurd hk (Nat.not_lt_zero _)
  · obtain ⟨c0, c1, c2, c3, c4, c5, c6⟩ := a3 s hs
    obtain ⟨d0, d1, d2, d3, d4, d5, d6⟩ := b3 s hs
    rcases (by omega : f = 0 ∨ f = 1 ∨ f = 2 ∨ f = 3 ∨ f = 4 ∨ f = 5 ∨ f = 6) with rfl | rfl | rfl | rfl | rfl | rfl | rfl
    · exact c0.trans d0.symm
    · exact c1.trans d1.symm
    · exact c2.trans d2.symm
    · exact c3.trans d3.symm
    · exact c4.trans d4.symm
    · exact c5.trans d5.symm
    · exact c6.trans d6.symm
  · obtain ⟨c1, c2, c3, c4, c5, c6, c7, c8, c9, c10⟩ := (a4 g hg).1
    obtain ⟨d1, d2, d3, d4, d5, d6, d7, d8, d9, d10⟩ := (b4 g hg).1
    rcases hf with hf | hf
    · rcases (by omega : f = 1 ∨ f = 2 ∨ f = 3 ∨ f = 4 ∨ f = 5 ∨ f = 6 ∨ f = 7 ∨ f = 8 ∨ f = 9) with rfl | rfl | rfl | rfl | rfl | rfl | rfl | rfl | rfl
      · exact c1.trans d1.symm
      · exact c2.trans d2.symm
      · exact c3.trans d3.symm
      · exact c4.trans d4.symm
      · exact c5.trans d5.symm
      · exact c6.trans d6.symm
      · exact c7.trans d7.symm
      · exact c8.trans d8.symm
      · exact c9.trans d9.symm
    · obtain ⟨k, hk, rfl⟩ : ∃ k, k < 5 ∧ f = 14 + k := ⟨f - 14, by omega, by omega⟩
      rw [← Nat.add_assoc, c10 k hk, d10 k hk]
  · have c := (a4 g hg).2.1
    refine ⟨?_, Or.inl (a4 g hg).2.2⟩
    rcases (b4 g hg).2.1 with q | q
    · refine Or.inl ⟨by rw [c, q.2.1], q.2.2.2, fun r => ?_, fun r => ?_, fun _ => q.2.2.1⟩
      · rw [q.2.1] at r; exact absurd r (by decide)
      · rw [q.2.1] at r; exact absurd r (by decide)
    · exact Or.inr ⟨c, q.2, q.1⟩
/-- plans and rows from which a run begins -/
def oR (E : eg_E) (R : Nat → Int32) : Prop := (∀ q, q < eN E → vp_in (R q) (eN E)) ∧ ∀ q r, q < r → r < eN E → R q ≠ R r
def wE2 (E : eg_E) : Prop := ∀ g, g < eP E → ∀ k, k < 5 → 0 ≤ (eC E g (2 + k)).toInt ∧ (eC E g (2 + k)).toInt ≤ 9
theorem bg_I {E : eg_E} {R Y : Nat → Int32} {C : Nat} (hE : wE E) (hE2 : wE2 E) (hR : oR E R) (hC : 60 ≤ C) (hY : bgY E R Y) : yI E C Y := by
  have hn := hE.1
  obtain ⟨b0, b1, b2, b3, b4⟩ := hY
  have t1 : (Y 1).toNatClampNeg = 0 := by rw [b1]; decide
  refine ⟨⟨?_, ?_, ?_⟩, ⟨fun q hq => ?_, fun q r hq hr => ?_⟩, fun g hg => ?_, fun s hs => ?_, ?_⟩
  · rw [b1]; exact nI_in' (n := 0) (by omega) (by have := hE.2.1; omega)
  · intro k hk; rw [t1] at hk; exact absurd hk (Nat.not_lt_zero _)
  · intro j k hj hk; rw [t1] at hk; exact absurd hk (Nat.not_lt_zero _)
  · rw [b2 q hq]; exact hR.1 q hq
  · rw [b2 q (by omega), b2 r hr]; exact hR.2 q r hq hr
  · obtain ⟨d1, d2, d3, d4, d5, d6, d7, d8, d9, d10⟩ := (b4 g hg).1
    have hz := hE.2.2.2.1 g hg
    unfold gI
    rw [d1, d2, d3]
    refine ⟨⟨by rw [t_m1]; omega, by rw [t_m1]; omega⟩, fun q => ?_, ⟨by omega, by omega⟩, ⟨by rw [t_0]; omega, by rw [t_0]; omega⟩, fun k hk => ?_⟩
    · exact Or.inl (b4 g hg).2.2
    · show 0 ≤ (Y (20 + 20 * g + 14 + k)).toInt ∧ (Y (20 + 20 * g + 14 + k)).toInt ≤ 9
      rw [d10 k hk]
      exact hE2 g hg k hk
  · obtain ⟨d0, d1, d2, d3, d4, d5, d6⟩ := b3 s hs
    have hd := (hE.2.2.1 s hs).2.1
    unfold pI
    rw [d0, d2]
    exact ⟨⟨by omega, by omega⟩, Or.inl rfl⟩
  · rw [b0, t_0]; omega
section
variable {κ : eg_K} {d : Nat} {M : eg_H} {t p : Nat}
theorem pB_TX (M : eg_H) (t p : Nat) (nm st : Nat → Int64) (Z : Nat → Int32) {s : Nat} (hs : s < 5) (c : Nat) : fX4_begin (TX M t p nm st Z) (5 * t + s) c = TX M t p nm st (upd (upd (upd (upd (upd (upd (upd Z (320 + 8 * s) (M.1 (1, c) 3)) (320 + 8 * s + 1) 0) (320 + 8 * s + 2) (-1)) (320 + 8 * s + 3) 0) (320 + 8 * s + 4) 0) (320 + 8 * s + 5) 0) (320 + 8 * s + 6) 0) := by
  unfold fX4_begin
  rw [T1, W4_0 _ _ _ _ _ _ hs, W4_1 _ _ _ _ _ _ hs, W4_2 _ _ _ _ _ _ hs, W4_3 _ _ _ _ _ _ hs, W4_4 _ _ _ _ _ _ hs, W4_5 _ _ _ _ _ _ hs, W4_6 _ _ _ _ _ _ hs]
theorem gB_TX (M : eg_H) (t p : Nat) (nm st : Nat → Int64) (Z : Nat → Int32) {g : Nat} (hg : g < 15) (c : Nat) : fX2_begin (TX M t p nm st Z) (15 * t + g) c = TX M t p nm st (upd (upd (upd (upd (upd (upd (upd (upd (upd (upd (upd (rwZ (upd Z (20 + 20 * g) 0) (M.1 (20, c)) (20 + 20 * g + 14) 5) (20 + 20 * g + 11) (-1)) (20 + 20 * g + 4) 0) (20 + 20 * g + 5) 0) (20 + 20 * g + 6) 0) (20 + 20 * g + 7) 0) (20 + 20 * g + 8) 0) (20 + 20 * g + 9) 0) (20 + 20 * g + 1) (-1)) (20 + 20 * g + 2) (M.1 (0, c) 2)) (20 + 20 * g + 3) 0) (20 + 20 * g + 10) 0) := by
  unfold fX2_begin
  have c0 : (0 : Int32).toNatClampNeg = 0 := by decide
  have c5 : (5 : Int32).toNatClampNeg = 5 := by decide
  have e20 : ∀ Z1, (TX M t p nm st Z1).1 (20, c) = M.1 (20, c) := fun Z1 => funext (fun k => T20 _ _ _ _ _ _ _ _)
  rw [c0, c5, W2_0 _ _ _ _ _ _ hg, cp_22 _ _ _ _ _ _ _ hg, W2_6 _ _ _ _ _ _ hg, W2_7 _ _ _ _ _ _ hg, W2_8 _ _ _ _ _ _ hg, W2_9 _ _ _ _ _ _ hg, W2_10 _ _ _ _ _ _ hg, W2_11 _ _ _ _ _ _ hg, W2_12 _ _ _ _ _ _ hg, cP_TX _ _ _ _ _ _ hg, e20]
theorem sX7_begin (hd : 2 ≤ d) (ht : t < 4) (hW : cW M p) {r : eg_R} {nr : Nat} (hr : r ∈ gC.1 ∧ gC.2.1 r = (1, nr)) (hnr : 5 ≤ nr) (hrt : ∀ k, k < 5 → cX t r k = 0) : eg_S κ gC mtX7_begin d [vR (7, t), vR (5, p), vR r] M (eQV κ gC (fun M1 => ∃ Z1, M1 = TX (sR M (7, t) 0 (5, p)) t p (M.2.1 (26, p)) (M.2.1 (27, p)) Z1 ∧ bgZ (cE M p) (M.1 r) Z1)) := by
  obtain ⟨en, hn⟩ := cN_e hW
  obtain ⟨eP', hP⟩ := cP_e hW
  have hp2 := hW.1
  have c0 : (0 : Int32).toNatClampNeg = 0 := by decide
  have c5 : (5 : Int32).toNatClampNeg = 5 := by decide
  have hT : (sR M (7, t) 0 (5, p)).2.2 (7, t) 0 = (5, p) := by
    show (if ((7, t) : eg_R) = (7, t) ∧ (0 : Nat) = 0 then ((5, p) : eg_R) else _) = _
    rw [if_pos ⟨rfl, rfl⟩]
  have eM := TX_self M t p
  refine eg_S.of rfl (Nat.le_of_ble_eq_true rfl) (vX7_begin_0 (by omega) _ ht hp2 hr (fun M1 e1 M2 e2 M3 e3 => ⟨⟨by decide, by decide, by decide, by rw [c0, c5]; omega, by rw [c0, c5]; omega⟩, fun M5 e5 => ?_⟩))
  rw [← eM, TX_sR] at e1
  rw [e1, W7_1] at e2
  rw [e2, W7_6] at e3
  rw [e3, c0, c5, cp_40] at e5
  have er : ∀ k, k < 5 → (TX (sR M (7, t) 0 (5, p)) t p (M.2.1 (26, p)) (M.2.1 (27, p)) (upd (upd (aT M t) 0 0) 1 0)).1 r k = M.1 r k := fun k hk => TX_o (hrt k hk)
  generalize M.2.1 (26, p) = nm at *
  generalize M.2.1 (27, p) = st at *
  have z0 : rwZ (upd (upd (aT M t) 0 0) 1 0) ((TX (sR M (7, t) 0 (5, p)) t p nm st (upd (upd (aT M t) 0 0) 1 0)).1 r) 360 5 0 = 0 := by rw [rwZ_out (by omega), pk_un (by omega), pk_us]
  have z1 : rwZ (upd (upd (aT M t) 0 0) 1 0) ((TX (sR M (7, t) 0 (5, p)) t p nm st (upd (upd (aT M t) 0 0) 1 0)).1 r) 360 5 1 = 0 := by rw [rwZ_out (by omega), pk_us]
  have zr : ∀ k, k < 5 → rwZ (upd (upd (aT M t) 0 0) 1 0) ((TX (sR M (7, t) 0 (5, p)) t p nm st (upd (upd (aT M t) 0 0) 1 0)).1 r) 360 5 (360 + k) = M.1 r k := fun k hk => by rw [rwZ_in hk, er k hk]
  generalize rwZ (upd (upd (aT M t) 0 0) 1 0) ((TX (sR M (7, t) 0 (5, p)) t p nm st (upd (upd (aT M t) 0 0) 1 0)).1 r) 360 5 = Z0 at *
  rw [e5]
  have hcell : ∀ (a : eg_R) (k : Nat), (sR M (7, t) 0 (5, p)).1 a k = M.1 a k := fun _ _ => rfl
  -- the guests
  have k65 : ∀ Z1, Z1 0 = 0 → Z1 1 = 0 → (∀ k, k < 5 → Z1 (360 + k) = M.1 r k) → (∀ s, s < cN M p → bgP (cE M p) Z1 s) → eg_W κ gC mtX7_begin d (eQV κ gC (fun M1 => ∃ Z1, M1 = TX (sR M (7, t) 0 (5, p)) t p nm st Z1 ∧ bgZ (cE M p) (M.1 r) Z1)) 65 [(0, vR (7, t)), (3, vI (0 : Int32))] [] (TX (sR M (7, t) 0 (5, p)) t p nm st Z1) := by
    intro Z1 h0 h1 h2 h3
    refine eg_down (P := fun i => ∀ Z1 : Nat → Int32, Z1 0 = 0 → Z1 1 = 0 → (∀ k, k < 5 → Z1 (360 + k) = M.1 r k) → (∀ s, s < cN M p → bgP (cE M p) Z1 s) → (∀ g, g < i → bgG (cE M p) Z1 g ∧ Z1 (20 + 20 * g) = 0 ∧ Z1 (20 + 20 * g + 10) = 0) → eg_W κ gC mtX7_begin d (eQV κ gC (fun M1 => ∃ Z1, M1 = TX (sR M (7, t) 0 (5, p)) t p nm st Z1 ∧ bgZ (cE M p) (M.1 r) Z1)) 65 [(0, vR (7, t)), (3, vI (nI i))] [] (TX (sR M (7, t) 0 (5, p)) t p nm st Z1)) (cP M p) (fun i hi k Z1 h0 h1 h2 h3 h4 => ?_) (fun Z1 h0 h1 h2 h3 h4 => ?_) Z1 h0 h1 h2 h3 (fun g hg => absurd hg (Nat.not_lt_zero _))
    · refine vX7_begin_65 hd _ ht _ ⟨p, hp2, hT, fun c => ?_, fun c => ?_⟩
      · rw [T5, hcell, eP'] at c
        exact absurd c (nI_ge hi (by omega))
      · rw [nI_t (by omega), gB_TX _ _ _ _ _ _ (by omega), (nAl i).2.1]
        refine ⟨nI_in' (by omega) (by omega), fun M4 e4 x6 e6 => ?_⟩
        rw [e4, e6]
        have out : ∀ j, (j < 20 + 20 * i ∨ 40 + 20 * i ≤ j) → (upd (upd (upd (upd (upd (upd (upd (upd (upd (upd (upd (rwZ (upd Z1 (20 + 20 * i) 0) ((sR M (7, t) 0 (5, p)).1 (20, 15 * p + i)) (20 + 20 * i + 14) 5) (20 + 20 * i + 11) (-1)) (20 + 20 * i + 4) 0) (20 + 20 * i + 5) 0) (20 + 20 * i + 6) 0) (20 + 20 * i + 7) 0) (20 + 20 * i + 8) 0) (20 + 20 * i + 9) 0) (20 + 20 * i + 1) (-1)) (20 + 20 * i + 2) ((sR M (7, t) 0 (5, p)).1 (0, 15 * p + i) 2)) (20 + 20 * i + 3) 0) (20 + 20 * i + 10) 0) j = Z1 j := fun j hj => by
          simp (disch := omega) only [pk_un, rwZ_out]
        refine k _ (by rw [out _ (by omega)]; exact h0) (by rw [out _ (by omega)]; exact h1) (fun k hk => by rw [out _ (by omega)]; exact h2 k hk) (fun s hs => ?_) (fun g hg => ?_)
        · have := h3 s hs
          unfold bgP at this ⊢
          rw [out _ (by omega), out _ (by omega), out _ (by omega), out _ (by omega), out _ (by omega), out _ (by omega), out _ (by omega)]
          exact this
        · by_cases e : g = i
          · subst e
            have ec1 : eC (cE M p) g 1 = M.1 (0, 15 * p + g) 2 := eC_c hi 1
            unfold bgG
            simp (disch := omega) only [pk_un, pk_us, rwZ_out]
            refine ⟨⟨trivial, ec1.symm, trivial, trivial, trivial, trivial, trivial, trivial, trivial, fun k hk => ?_⟩, trivial, trivial⟩
            have eck : eC (cE M p) g (2 + k) = M.1 (20, 15 * p + g) k := by
              rw [eC_c hi, Nat.add_comm]
              exact if_pos hk
            simp (disch := omega) only [pk_un, rwZ_in]
            exact eck.symm
          · have := h4 g (by omega)
            unfold bgG at this ⊢
            have hs' : ∀ k, k < 5 → _ := fun k hk => this.1.2.2.2.2.2.2.2.2.2 k hk
            rw [out _ (by omega), out _ (by omega), out _ (by omega), out _ (by omega), out _ (by omega), out _ (by omega), out _ (by omega), out _ (by omega), out _ (by omega), out _ (by omega), out _ (by omega)]
            refine ⟨⟨this.1.1, this.1.2.1, this.1.2.2.1, this.1.2.2.2.1, this.1.2.2.2.2.1, this.1.2.2.2.2.2.1, this.1.2.2.2.2.2.2.1, this.1.2.2.2.2.2.2.2.1, this.1.2.2.2.2.2.2.2.2.1, fun k hk => ?_⟩, this.2⟩
            rw [out _ (by omega)]
            exact hs' k hk
    · refine vX7_begin_65 hd _ ht _ ⟨p, hp2, hT, fun _ => ⟨Z1, rfl, h0, h1, fun k hk => h2 k (by have hk' : k < cN M p := hk; omega), h3, h4⟩, fun c => ?_⟩
      rw [T5, hcell, eP'] at c
      exact absurd (Int32.le_refl _) c
  refine eg_down (P := fun i => ∀ Z1 : Nat → Int32, Z1 0 = 0 → Z1 1 = 0 → (∀ k, k < 5 → Z1 (360 + k) = M.1 r k) → (∀ s, s < i → bgP (cE M p) Z1 s) → eg_W κ gC mtX7_begin d (eQV κ gC (fun M1 => ∃ Z1, M1 = TX (sR M (7, t) 0 (5, p)) t p nm st Z1 ∧ bgZ (cE M p) (M.1 r) Z1)) 28 [(0, vR (7, t)), (3, vI (nI i))] [] (TX (sR M (7, t) 0 (5, p)) t p nm st Z1)) (cN M p) (fun i hi k Z1 h0 h1 h2 h3 => ?_) (fun Z1 h0 h1 h2 h3 => ?_) Z0 z0 z1 zr (fun s hs => absurd hs (Nat.not_lt_zero _))
  · refine vX7_begin_28 (by omega) _ ht _ ⟨p, hp2, hT, fun c => ?_, fun c => ?_⟩
    · rw [T5, hcell, en] at c
      exact absurd c (nI_ge hi (by omega))
    · rw [nI_t (by omega), pB_TX _ _ _ _ _ _ (by omega), (nAl i).2.1]
      refine ⟨nI_in' (by omega) (by omega), fun M4 e4 x6 e6 => ?_⟩
      rw [e4, e6]
      have ed2 : eD (cE M p) i 2 = M.1 (1, 5 * p + i) 3 := eD_c hi 2
      refine k _ ?_ ?_ (fun k hk => ?_) (fun s hs => ?_)
      · simp (disch := omega) only [pk_un]; exact h0
      · simp (disch := omega) only [pk_un]; exact h1
      · simp (disch := omega) only [pk_un]; exact h2 k hk
      · by_cases e : s = i
        · subst e
          unfold bgP
          simp (disch := omega) only [pk_un, pk_us]
          exact ⟨ed2.symm, trivial, trivial, trivial, trivial, trivial, trivial⟩
        · have := h3 s (by omega)
          unfold bgP at this ⊢
          simp (disch := omega) only [pk_un]
          exact this
  · refine vX7_begin_28 (by omega) _ ht _ ⟨p, hp2, hT, fun _ => k65 Z1 h0 h1 h2 h3, fun c => ?_⟩
    rw [T5, hcell, en] at c
    exact absurd (Int32.le_refl _) c
end
